/-! .. text buffers: append, setLength -/
theorem getD_l {l ds : List Nat} {i : Nat} (h : i < l.length) : (l ++ ds).getD i 0 = l.getD i 0 := by
  simp [List.getD_eq_getElem?_getD, List.getElem?_append_left h]
theorem getD_r {l ds : List Nat} {j : Nat} : (l ++ ds).getD (l.length + j) 0 = ds.getD j 0 := by
  simp [List.getD_eq_getElem?_getD, List.getElem?_append_right]
theorem fit_i3 {k : Nat} (h : k < 128) : fits .byte (.int (i3 k)) = true := by
  have : ∀ k : Fin 128, fits .byte (.int (i3 k.1)) = true := by decide +kernel
  exact this ⟨k, h⟩
theorem nar_i3 {k : Nat} (h : k < 128) : vp_nar .byte (i3 k) = i3 k := by
  have : ∀ k : Fin 128, vp_nar .byte (i3 k.1) = i3 k.1 := by decide +kernel
  exact this ⟨k, h⟩
theorem t8_i3 {k : Nat} (h : k < 128) : (i3 k).toInt8.toInt32 = i3 k := by
  have : ∀ k : Fin 128, (i3 k.1).toInt8.toInt32 = i3 k.1 := by decide +kernel
  exact this ⟨k, h⟩
theorem getD_lt {ds : List Nat} (hd : ∀ x, x ∈ ds → x < 128) {j : Nat} (hj : j < ds.length) : ds.getD j 0 < 128 := by
  rw [List.getD_eq_getElem?_getD, List.getElem?_eq_getElem hj]
  exact hd _ (List.getElem_mem hj)
theorem sT_ext {M : am_Hp} {s b m : Nat} {l : List Nat} (h : sT M s b m l) {ds : List Nat} {f : md_R} (hl : l.length + ds.length ≤ m) (hd : ∀ x, x ∈ ds → x < 128) (f0 : ∀ i, i < l.length → f i = hp_E M b i) (f1 : ∀ j, j < ds.length → f (l.length + j) = i3 (ds.getD j 0)) (f2 : ∀ i, l.length + ds.length ≤ i → f i = hp_E M b i) : sT (hp_sI (hp_sA M b f) 163 s (i3 (l.length + ds.length))) s b m (l ++ ds) := by
  have hsb := sT_sb h
  obtain ⟨⟨t, r, z0, tb, nb, c0, c3, hnm, hm, hc⟩, hk, hf⟩ := h
  refine ⟨⟨t, r, z0, tb, nb, ?_, ?_, by rw [List.length_append]; exact hl, hm, fun i hi => ?_⟩, hk, fun i hi => ?_⟩
  · rw [hp_I_sIu _ _ _ _ (by decide), hp_I_sA]; exact c0
  · rw [hp_I_sI, List.length_append]
  · rw [List.length_append] at hi
    show (l ++ ds).getD i 0 < 128 ∧ hp_E (hp_sA M b f) b i = i3 ((l ++ ds).getD i 0)
    rw [hp_E_sA]
    by_cases h1 : i < l.length
    · rw [getD_l h1, f0 i h1]
      exact hc i h1
    · obtain ⟨j, rfl⟩ : ∃ j, i = l.length + j := ⟨i - l.length, by omega⟩
      rw [getD_r, f1 j (by omega)]
      exact ⟨getD_lt hd (by omega), rfl⟩
  · rw [hp_E_sI, hp_E_sA]
    by_cases h1 : i < l.length
    · rw [f0 i h1]; exact hf i hi
    · by_cases h2 : i < l.length + ds.length
      · obtain ⟨j, rfl⟩ : ∃ j, i = l.length + j := ⟨i - l.length, by omega⟩
        rw [f1 j (by omega)]
        exact fit_i3 (getD_lt hd (by omega))
      · rw [f2 i (by omega)]; exact hf i hi
/-- after an append: the text is now l; only the builder and its array changed, or the array is new -/
def sN (M M' : am_Hp) (s b : Nat) (l : List Nat) : Prop := ∃ b' m', sT M' s b' m' l ∧ (b' = b ∨ hp_T M b' = 0) ∧ fr (fun x => x = s ∨ x = b) M M'
theorem sN_tr {M M1 M2 : am_Hp} {s b b1 : Nat} {l : List Nat} (hb : b1 = b ∨ hp_T M b1 = 0) (f : fr (fun x => x = s ∨ x = b) M M1) (k : sN M1 M2 s b1 l) : sN M M2 s b l := by
  obtain ⟨b2, m2, h2, hb2, f2⟩ := k
  refine ⟨b2, m2, h2, ?_, f.tr f2 (fun x x1 x2 z => ?_)⟩
  · by_cases c : b2 = b
    · exact .inl c
    · refine .inr ?_
      rcases hb2 with e | e
      · rcases hb with e' | e'
        · exact absurd (e.trans e') c
        · rw [e]; exact e'
      · by_cases d : hp_T M b2 = 0
        · exact d
        · by_cases ds : b2 = s
          · exfalso
            have := h2.1.1
            have h3 := h2.1.2.2.2.1
            rw [ds] at h3
            rw [this] at h3
            exact absurd h3 (by decide)
          · have := (f b2 d (fun z => z.elim ds c)).1
            rw [e] at this
            exact absurd this.symm d
  · rcases z with z | z
    · exact x2 (.inl z)
    · rcases hb with e | e
      · exact x2 (.inr (z.trans e))
      · exact x1 (z ▸ e)
theorem sG_sN {M M1 : am_Hp} {s b w : Nat} {l ds : List Nat} {f : md_R} {b1 m1 : Nat} (h1 : sT M1 s b1 m1 l) (hb : b1 = b ∨ hp_T M b1 = 0) (fr1 : fr (fun x => x = s) M M1) (hl : l.length + ds.length ≤ m1) (hd : ∀ x, x ∈ ds → x < 128) (f0 : ∀ i, i < l.length → f i = hp_E M1 b1 i) (f1 : ∀ j, j < ds.length → f (l.length + j) = i3 (ds.getD j 0)) (f2 : ∀ i, l.length + ds.length ≤ i → f i = hp_E M1 b1 i) : sN M (hp_sI (hp_sA M1 b1 f) 163 s (i3 (l.length + ds.length))) s b (l ++ ds) := by
  refine ⟨b1, m1, sT_ext h1 hl hd f0 f1 f2, hb, fun x x1 x2 => ((fr1 x x1 (fun z => x2 (.inl z))).tr (sm_sA (fun z => ?_))).tr (sm_sI (fun z => x2 (.inl z)))⟩
  rcases hb with e | e
  · exact x2 (.inr (z.trans e))
  · exact x1 (z ▸ e)
abbrev cz (G : am_Gx) : Prop := ("java/lang/String", "COMPACT_STRINGS", "Z", Value.int 1) ∈ gx_z G
theorem k_app5c {G : am_Gx} {d s b m c : Nat} {l : List Nat} {M : am_Hp} (hz : cz G) (h : sT M s b m l) (hc : c < 128) (hl : l.length < 70) : am_CT G (d + 4) rJ5_append_3fe6f [.ref s, .int (i3 c)] M 1 100 (fun o M' => o = .inl (some (.ref s)) ∧ sN M M' s b (l ++ [c])) := by
  have h0 := h
  obtain ⟨⟨t, r, z0, tb, nb, c0, c3, hnm, hm, hc'⟩, hk, hf⟩ := h
  refine am_intro mkJ5_append_3fe6f rfl (Nat.le_of_ble_eq_true rfl) rfl (fun X hX hM => ?_)
  refine vJ5_append_3fe6f_0 hX hM ?_
  rw [c3, i3_one]
  refine ⟨t, by omega, by omega, am_CT.mono ?_ (k_ens h0 (by omega) (by omega))⟩
  rintro o M2 ⟨e, b', m', hT', hw, hb, f⟩
  obtain ⟨⟨t2, r2, y0, tb2, nb2, d0, d3, -, -, -⟩, -, -⟩ := hT'.1 |> fun x => (⟨x, hT'.2⟩ : sT M2 s b' m' l)
  refine ⟨e, t2, ct_i (k_isLatin1 hz hT'.1) ⟨fun z => absurd z (by decide), fun _ => ct_i (k_canEncode hc) ⟨fun z => absurd z (by decide), fun _ => ?_⟩⟩⟩
  simp only [forall_eq]
  rw [r2, d3, i3_one, t8_i3 hc, i3_toNat (by omega), hp_sE_sA]
  refine ⟨t2, y0, tb2, ?_, nar_i3 hc, trivial, ?_⟩
  · show vp_in (i3 l.length) (hp_N M2 b')
    rw [nb2]
    exact vp_in_i3 (by omega) (by omega)
  · have := sG_sN (w := 0) (ds := [c]) (f := va_up (hp_E M2 b') l.length (i3 c)) hT' hb f hw (fun x hx => by rw [List.mem_singleton.mp hx]; exact hc) (fun i hi => up_n _ _ (by omega)) (fun j hj => ?_) (fun i hi => up_n _ _ (by simp at hi; omega))
    · exact this
    · obtain rfl : j = 0 := by simpa using hj
      exact up_e _ _ _
theorem k_app4c {G : am_Gx} {d s b m c : Nat} {l : List Nat} {M : am_Hp} (hz : cz G) (h : sT M s b m l) (hc : c < 128) (hl : l.length < 70) : am_CT G (d + 5) rJ4_append_cf468 [.ref s, .int (i3 c)] M 1 100 (fun o M' => o = .inl (some (.ref s)) ∧ sN M M' s b (l ++ [c])) := by
  refine am_intro mkJ4_append_cf468 rfl (Nat.le_of_ble_eq_true rfl) rfl (fun X hX hM => ?_)
  refine vJ4_append_cf468_0 hX hM ⟨h.1.1, by omega, by omega, am_CT.mono ?_ (k_app5c hz h hc hl)⟩
  rintro o M' ⟨e, k⟩
  exact ⟨s, e, rfl, k⟩
/-! numbers -/
def dg (k : Nat) : List Nat := if k < 10 then [48 + k] else if k < 100 then [48 + k / 10, 48 + k % 10] else [48 + k / 100, 48 + k / 10 % 10, 48 + k % 10]
theorem dg_lt {k : Nat} (h : k < 1000) : ∀ x, x ∈ dg k → x < 128 := by
  intro x hx
  unfold dg at hx
  split at hx
  · simp at hx; omega
  · split at hx
    · simp at hx; omega
    · simp at hx; omega
theorem dg_len (k : Nat) : (dg k).length = if k < 10 then 1 else if k < 100 then 2 else 3 := by
  unfold dg
  split
  · rfl
  · split <;> rfl
theorem ng_le {k : Nat} (h : k < 1000) : (-(i3 k) ≤ -10 ↔ 10 ≤ k) ∧ (-(i3 k) ≤ -100 ↔ 100 ≤ k) ∧ (-(i3 k) ≤ -1000 ↔ 1000 ≤ k) ∧ (-100 < -(i3 k) ↔ k < 100) ∧ (-9 ≤ -(i3 k) ↔ k < 10) := by
  have : ∀ k : Fin 1000, (-(i3 k.1) ≤ -10 ↔ 10 ≤ k.1) ∧ (-(i3 k.1) ≤ -100 ↔ 100 ≤ k.1) ∧ (-(i3 k.1) ≤ -1000 ↔ 1000 ≤ k.1) ∧ (-100 < -(i3 k.1) ↔ k.1 < 100) ∧ (-9 ≤ -(i3 k.1) ↔ k.1 < 10) := by decide +kernel
  exact this ⟨k, h⟩
theorem ng_dv {k : Nat} (h : k < 1000) : -(i3 k) / 100 = -(i3 (k / 100)) ∧ -(i3 (k / 100)) * 100 - -(i3 k) = i3 (k % 100) := by
  have : ∀ k : Fin 1000, -(i3 k.1) / 100 = -(i3 (k.1 / 100)) ∧ -(i3 (k.1 / 100)) * 100 - -(i3 k.1) = i3 (k.1 % 100) := by decide +kernel
  exact this ⟨k, h⟩
/-- the two tables of digits -/
def dgt (G : am_Gx) (M : am_Hp) (p q : Nat) : Prop := ("java/lang/Integer", "DigitOnes", "[B", Value.ref p) ∈ gx_z G ∧ ("java/lang/Integer", "DigitTens", "[B", Value.ref q) ∈ gx_z G ∧ hp_T M p = 41 ∧ hp_T M q = 41 ∧ hp_N M p = 100 ∧ hp_N M q = 100 ∧ (∀ k, k < 100 → hp_E M p k = i3 (48 + k % 10)) ∧ ∀ k, k < 100 → hp_E M q k = i3 (48 + k / 10)
theorem dgt_sm {G : am_Gx} {M M' : am_Hp} {p q : Nat} (hp : sm M M' p) (hq : sm M M' q) (h : dgt G M p q) : dgt G M' p q := by
  obtain ⟨d1, d2, d3, d4, d5, d6, d7, d8⟩ := h
  exact ⟨d1, d2, hp.1.trans d3, hq.1.trans d4, hp.2.1.trans d5, hq.2.1.trans d6, fun k hk => by rw [hp.2.2.2.2.1]; exact d7 k hk, fun k hk => by rw [hq.2.2.2.2.1]; exact d8 k hk⟩
theorem i3_dnk {n : Nat} (h : 0 < n) : i3 n + (-1) = i3 (n - 1) := i3_dn h
theorem if_congr_100 {k : Nat} (h : k < 100) : (if k < 10 then 1 else if k < 100 then 2 else 3) = if k < 10 then 1 else 2 := by rw [if_pos h]
/-! setLength(0): nothing is made -/
theorem k_ens0 {G : am_Gx} {d s b m : Nat} {l : List Nat} {M : am_Hp} (h : sT M s b m l) : am_CT G (d + 3) rJ5_ensureCapacityInternal_d00df [.ref s, .int (0 : Int32)] M 0 0 (qv M) := by
  obtain ⟨⟨t, r, z0, tb, nb, c0, c3, hnm, hm, hc⟩, hk, hf⟩ := h
  refine am_intro mkJ5_ensureCapacityInternal_d00df rfl (Nat.le_of_ble_eq_true rfl) rfl (fun X hX hM => ?_)
  refine vJ5_ensureCapacityInternal_d00df_0 hX hM ?_
  simp only [forall_eq]
  rw [r, nb, c0, i3_sh0, show Int32.ofNat m = i3 m from rfl]
  exact ⟨t, z0, tb, fun _ => ⟨rfl, rfl⟩, fun z => absurd ((sb_sub (a := 0) (by omega) hk).mpr (Nat.zero_le _)) z⟩
theorem sT_nil {M : am_Hp} {s b m : Nat} {l : List Nat} (h : sT M s b m l) : sT (hp_sI M 163 s 0) s b m [] := by
  obtain ⟨⟨t, r, z0, tb, nb, c0, c3, hnm, hm, hc⟩, hk, hf⟩ := h
  exact ⟨⟨t, r, z0, tb, nb, by rw [hp_I_sIu _ _ _ _ (by decide)]; exact c0, hp_I_sI _ _ _ _, Nat.zero_le _, hm, fun i hi => absurd hi (Nat.not_lt_zero _)⟩, hk, hf⟩
theorem sT_162 {M : am_Hp} {s b m : Nat} {l : List Nat} {v : Int32} (h : sT M s b m l) : sT (hp_sI M 162 s v) s b m l := by
  obtain ⟨⟨t, r, z0, tb, nb, c0, c3, hnm, hm, hc⟩, hk, hf⟩ := h
  exact ⟨⟨t, r, z0, tb, nb, by rw [hp_I_sIu _ _ _ _ (by decide)]; exact c0, by rw [hp_I_sIu _ _ _ _ (by decide)]; exact c3, hnm, hm, hc⟩, hk, hf⟩
theorem k_setLen5 {G : am_Gx} {d s b m : Nat} {l : List Nat} {M : am_Hp} (h : sT M s b m l) : am_CT G (d + 4) rJ5_setLength_d00df [.ref s, .int (0 : Int32)] M 0 0 (fun o M' => o = .inl none ∧ sT M' s b m [] ∧ fr (fun x => x = s) M M') := by
  have h0 := h
  have t7 : hp_T M s = 9 := h.1.1
  have c3 : hp_I M 163 s = i3 l.length := h.1.2.2.2.2.2.2.1
  have hl : l.length < 100000 := Nat.lt_of_le_of_lt h.1.2.2.2.2.2.2.2.1 h.1.2.2.2.2.2.2.2.2.1
  refine am_intro mkJ5_setLength_d00df rfl (Nat.le_of_ble_eq_true rfl) rfl (fun X hX hM => ?_)
  refine j_iload_n hX eJ5_setLength_d00df_0 1 rfl ?_
  refine j_if_ge hX 13 eJ5_setLength_d00df_1 (by decide) (fun c1 => ?_) (fun c1 => absurd (by decide) c1)
  refine j_aload_n hX eJ5_setLength_d00df_13 0 rfl ?_
  refine j_iload_n hX eJ5_setLength_d00df_14 1 rfl ?_
  refine j_callU (a := s) (q := (RJ4, TJ4, 4)) (r' := rJ5_ensureCapacityInternal_d00df) (As := [.int (0 : Int32)]) (rest := []) (d1 := d + 3) hX eJ5_setLength_d00df_15 mm_java_lang_AbstractStringBuilder_100 rfl t7 (by decide) rfl (k_ens0 h0) rfl (Nat.le_refl _) (Nat.zero_le _) (Nat.zero_le _) (Nat.le_of_ble_eq_true rfl) (fun vz9 Mz9 qz9 => ?_) (fun Ez9 Mz9 qz9 => ?_)
  · obtain ⟨hxz9, rfl⟩ := qz9
    cases hxz9
    refine j_aload_n hX eJ5_setLength_d00df_18 0 rfl ?_
    refine j_getI hX eJ5_setLength_d00df_19 ff_java_lang_AbstractStringBuilder_79 rfl t7 (by decide) ?_
    refine j_iload_n hX eJ5_setLength_d00df_22 1 rfl ?_
    refine j_icmp_ge hX 63 eJ5_setLength_d00df_23 (by decide) (fun c8 => ?_) (fun c8 => ?_)
    · refine j_aload_n hX eJ5_setLength_d00df_63 0 rfl ?_
      refine j_getI hX eJ5_setLength_d00df_64 ff_java_lang_AbstractStringBuilder_79 rfl t7 (by decide) ?_
      refine j_iload_n hX eJ5_setLength_d00df_67 1 rfl ?_
      refine j_icmp_le hX 76 eJ5_setLength_d00df_68 (by decide) (fun c9 => ?_) (fun c9 => ?_)
      · refine j_aload_n hX eJ5_setLength_d00df_76 0 rfl ?_
        refine j_iload_n hX eJ5_setLength_d00df_77 1 rfl ?_
        refine j_putI (ty := .int) hX eJ5_setLength_d00df_78 ff_java_lang_AbstractStringBuilder_79 rfl t7 (by decide) pp_8_3 rfl rfl ?_
        exact j_vret hX hM eJ5_setLength_d00df_81 rfl ⟨rfl, sT_nil h0, fun x x1 x2 => sm_sI x2⟩
      · refine j_aload_n hX eJ5_setLength_d00df_71 0 rfl ?_
        refine j_iconst (v := (1 : Int32)) hX eJ5_setLength_d00df_72 (by decide) ?_
        refine j_putI (ty := .boolean) hX eJ5_setLength_d00df_73 ff_java_lang_AbstractStringBuilder_73 rfl t7 (by decide) pp_8_2 (am_bo_n (Or.inr rfl)) (am_bo_f (Or.inr rfl)) ?_
        refine j_aload_n hX eJ5_setLength_d00df_76 0 rfl ?_
        refine j_iload_n hX eJ5_setLength_d00df_77 1 rfl ?_
        refine j_putI (ty := .int) hX eJ5_setLength_d00df_78 ff_java_lang_AbstractStringBuilder_79 rfl t7 (by decide) pp_8_3 rfl rfl ?_
        exact j_vret hX hM eJ5_setLength_d00df_81 rfl ⟨rfl, sT_nil (sT_162 h0), fun x x1 x2 => (sm_sI x2).tr (sm_sI x2)⟩
    · exfalso
      rw [c3] at c8
      exact c8 ((i3_le (a := 0) (by omega) (by omega)).mpr (Nat.zero_le _))
  · obtain ⟨hxz9, -⟩ := qz9
    cases hxz9
theorem k_setLen4 {G : am_Gx} {d s b m : Nat} {l : List Nat} {M : am_Hp} (h : sT M s b m l) : am_CT G (d + 5) rJ4_setLength_d00df [.ref s, .int (0 : Int32)] M 0 0 (fun o M' => o = .inl none ∧ sT M' s b m [] ∧ fr (fun x => x = s) M M') := by
  refine am_intro mkJ4_setLength_d00df rfl (Nat.le_of_ble_eq_true rfl) rfl (fun X hX hM => ?_)
  refine vJ4_setLength_d00df_0 hX hM ⟨h.1.1, am_CT.mono ?_ (k_setLen5 h)⟩
  rintro o M' ⟨e, k⟩
  exact ⟨e, rfl, k⟩
