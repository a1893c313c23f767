/-! .. text buffers that grow: frames that let fresh cells come -/
def sm (M M' : am_Hp) (x : Nat) : Prop := hp_T M' x = hp_T M x ∧ hp_N M' x = hp_N M x ∧ (∀ u, hp_I M' u x = hp_I M u x) ∧ (∀ u, hp_R M' u x = hp_R M u x) ∧ hp_E M' x = hp_E M x ∧ hp_Q M' x = hp_Q M x ∧ hp_L M' x = hp_L M x ∧ hp_D M' x = hp_D M x
theorem sm.rf (M : am_Hp) (x : Nat) : sm M M x := ⟨rfl, rfl, fun _ => rfl, fun _ => rfl, rfl, rfl, rfl, rfl⟩
theorem sm.tr {M M1 M2 : am_Hp} {x : Nat} (h : sm M M1 x) (k : sm M1 M2 x) : sm M M2 x := by
  obtain ⟨a1, a2, a3, a4, a5, a6, a7, a8⟩ := h
  obtain ⟨b1, b2, b3, b4, b5, b6, b7, b8⟩ := k
  exact ⟨b1.trans a1, b2.trans a2, fun u => (b3 u).trans (a3 u), fun u => (b4 u).trans (a4 u), b5.trans a5, b6.trans a6, b7.trans a7, b8.trans a8⟩
theorem sm_sk {M M' : am_Hp} {x : Nat} (h : sk M M') (k : ag M M' x) : sm M M' x := ⟨by rw [h.1], by rw [h.2.1], k.1, fun u => by rw [h.2.2.1], k.2.1, k.2.2, by rw [h.2.2.2.1], by rw [h.2.2.2.2]⟩
theorem sm_sI {M : am_Hp} {u a x : Nat} {v : Int32} (h : x ≠ a) : sm M (hp_sI M u a v) x := ⟨rfl, rfl, fun w => hp_I_sIa M u w v h, fun _ => rfl, rfl, rfl, rfl, rfl⟩
theorem sm_sR {M : am_Hp} {u a x : Nat} {v : Nat} (h : x ≠ a) : sm M (hp_sR M u a v) x := ⟨rfl, rfl, fun _ => rfl, fun w => by simp [hp_sR, hp_R, hp_u, h], rfl, rfl, rfl, rfl⟩
theorem sm_sA {M : am_Hp} {a x : Nat} {f : md_R} (h : x ≠ a) : sm M (hp_sA M a f) x := ⟨rfl, rfl, fun _ => rfl, fun _ => rfl, hp_E_sA' M f h, rfl, rfl, rfl⟩
theorem sm_a {M : am_Hp} {a x t n : Nat} (h : x ≠ a) : sm M (hp_a M a t n) x := ⟨by simp [hp_a, hp_T, va_up, h], by simp [hp_a, hp_N, va_up, h], fun _ => rfl, fun _ => rfl, by funext k; simp [hp_a, hp_E, h], by funext k; simp [hp_a, hp_Q, h], by funext k; simp [hp_a, hp_L, h], by funext k; simp [hp_a, hp_D, h]⟩
/-- all that was there, P aside, is as it was -/
def fr (P : Nat → Prop) (M M' : am_Hp) : Prop := ∀ x, hp_T M x ≠ 0 → ¬ P x → sm M M' x
theorem fr.rf (P : Nat → Prop) (M : am_Hp) : fr P M M := fun x _ _ => sm.rf M x
theorem fr.tr {P R : Nat → Prop} {M M1 M2 : am_Hp} (h : fr P M M1) (k : fr R M1 M2) (c : ∀ x, hp_T M x ≠ 0 → ¬ P x → ¬ R x) : fr P M M2 := fun x x1 x2 => (h x x1 x2).tr (k x (by rw [(h x x1 x2).1]; exact x1) (c x x1 x2))
theorem fr.wk {P R : Nat → Prop} {M M1 : am_Hp} (h : fr P M M1) (c : ∀ x, P x → R x) : fr R M M1 := fun x x1 x2 => h x x1 (fun z => x2 (c x z))
theorem bL_sm {M M' : am_Hp} {C : Nat → Nat} (hC : ∀ i, i < 22 → sm M M' (C i)) (h : bL M C) : bL M' C := by
  obtain ⟨⟨a0, a1, a2, a3, a4, a5, a6, a7, a8, a9, a10, a11, a12, a13, a14, a15, a16, a17⟩, ht, hk, hz, hJ⟩ := h
  have c0 := hC 0 (by omega)
  have c1 := hC 1 (by omega)
  have c2 := hC 2 (by omega)
  have c3 := hC 3 (by omega)
  have c4 := hC 4 (by omega)
  have c5 := hC 5 (by omega)
  have c6 := hC 6 (by omega)
  exact ⟨⟨c0.1.trans a0, (c0.2.2.2.1 _).trans a1, (c0.2.2.2.1 _).trans a2, (c0.2.2.2.1 _).trans a3, c1.1.trans a4, c1.2.1.trans a5, c2.1.trans a6, c2.2.1.trans a7, c3.1.trans a8, (c3.2.2.2.1 _).trans a9, (c3.2.2.2.1 _).trans a10, (c3.2.2.2.1 _).trans a11, c4.1.trans a12, c5.1.trans a13, c6.1.trans a14, c4.2.1.trans a15, c5.2.1.trans a16, c6.2.1.trans a17⟩, fun c hc => (hC _ (by omega)).1.trans (ht c hc), fun k hk' => (hC _ (by omega)).1.trans (hk k hk'), hz, hJ⟩
theorem bL_T {M : am_Hp} {C : Nat → Nat} (h : bL M C) {i : Nat} (hi : i < 22) : hp_T M (C i) ≠ 0 := by
  obtain ⟨⟨a0, a1, a2, a3, a4, a5, a6, a7, a8, a9, a10, a11, a12, a13, a14, a15, a16, a17⟩, ht, hk, hz, hJ⟩ := h
  by_cases h7 : i < 7
  · match i, h7 with
    | 0, _ => rw [a0]; decide
    | 1, _ => rw [a4]; decide
    | 2, _ => rw [a6]; decide
    | 3, _ => rw [a8]; decide
    | 4, _ => rw [a12]; decide
    | 5, _ => rw [a13]; decide
    | 6, _ => rw [a14]; decide
  · by_cases h10 : i < 10
    · have := ht (i - 7) (by omega)
      rw [show 7 + (i - 7) = i by omega] at this
      rw [this]; decide
    · have := hk (i - 10) (by omega)
      rw [show 10 + (i - 10) = i by omega] at this
      rw [this]; decide
theorem bL_T9 {M : am_Hp} {C : Nat → Nat} (h : bL M C) {i : Nat} (hi : i < 22) : hp_T M (C i) ≠ 9 ∧ hp_T M (C i) ≠ 20 := by
  obtain ⟨⟨a0, a1, a2, a3, a4, a5, a6, a7, a8, a9, a10, a11, a12, a13, a14, a15, a16, a17⟩, ht, hk, hz, hJ⟩ := h
  by_cases h7 : i < 7
  · match i, h7 with
    | 0, _ => rw [a0]; decide
    | 1, _ => rw [a4]; decide
    | 2, _ => rw [a6]; decide
    | 3, _ => rw [a8]; decide
    | 4, _ => rw [a12]; decide
    | 5, _ => rw [a13]; decide
    | 6, _ => rw [a14]; decide
  · by_cases h10 : i < 10
    · have := ht (i - 7) (by omega)
      rw [show 7 + (i - 7) = i by omega] at this
      rw [this]; decide
    · have := hk (i - 10) (by omega)
      rw [show 10 + (i - 10) = i by omega] at this
      rw [this]; decide
theorem bQ_sm {M M' : am_Hp} {C : Nat → Nat} (hC : ∀ i, i < 22 → sm M M' (C i)) (h : bQ M C) : bQ M' C := bQ_fr (hC 1 (by omega)).2.2.2.2.2.1 (hC 2 (by omega)).2.2.2.2.2.1 h
theorem bR_sm {M M' : am_Hp} {C : Nat → Nat} {g : md_R} (hC : ∀ i, i < 22 → sm M M' (C i)) (ok : md_ok g) (hR : bR M C g) : bR M' C g := by
  have h12 := ok.2
  obtain ⟨r1, r2, r3, r4, r5, r6⟩ := hR
  refine ⟨bL_sm hC r1, bQ_sm hC r2, iR_cg (fun u _ _ => (hC 0 (by omega)).2.2.1 u) (fun _ _ => rfl) r3, fun c hc3 => cR_cg hc3 (fun u _ _ => (hC _ (by omega)).2.2.1 u) (fun _ _ => rfl) rfl rfl (r4 c hc3), fun p hp => ?_, ?_⟩
  · rw [(hC 2 (by omega)).2.2.2.2.2.1]
    obtain ⟨k, hk, e⟩ := r2.2.1 p (by omega)
    have := r5 p hp
    rw [e] at this ⊢
    exact pR_cg (fun u _ _ => (hC _ (by omega)).2.2.1 u) (fun _ _ => rfl) this
  · unfold tR at r6 ⊢
    rw [(hC 3 (by omega)).2.2.1, (hC 3 (by omega)).2.2.1, (hC 4 (by omega)).2.2.2.2.1, (hC 5 (by omega)).2.2.2.2.1, (hC 6 (by omega)).2.2.2.2.1]
    exact r6
theorem yR_sm {T : Nat} {M M' : am_Hp} {h E n c : Nat} {H : Nat → Nat → Nat} {hist : Nat → md_R} (ah : sm M M' h) (aE : sm M M' E) (aH : ∀ i j, i < 8 → j < 22 → sm M M' (H i j)) (hy : yR T M h E H n c hist) : yR T M' h E H n c hist := by
  obtain ⟨⟨t0, r0, tE, nE, zE, i41, i42, hn, hc⟩, hH, hJ, hO, hhE, hX0⟩ := hy
  refine ⟨⟨ah.1.trans t0, (ah.2.2.2.1 _).trans r0, aE.1.trans tE, aE.2.1.trans nE, zE, (ah.2.2.1 _).trans i41, (ah.2.2.1 _).trans i42, hn, hc⟩, fun i hi => ?_, hJ, hO, hhE, fun j hj => ?_⟩
  · obtain ⟨x1, x2, x3⟩ := hH i hi
    exact ⟨by rw [aE.2.2.2.2.2.1]; exact x1, bL_sm (fun j hj => aH i j hi hj) x2, bQ_sm (fun j hj => aH i j hi hj) x3⟩
  · obtain ⟨x1, x2⟩ := hX0 j hj
    exact ⟨bR_sm (fun i hi => aH _ i (by omega) hi) (md_wf_ok x2) x1, x2⟩
theorem gL_sm {T : Nat} {M M' : am_Hp} {a h E n c : Nat} {L : Nat → Nat → Nat} {g sn : md_R} {hist : Nat → md_R} (aa : sm M M' a) (ah : sm M M' h) (aE : sm M M' E) (aL : ∀ i j, i < 11 → j < 22 → sm M M' (L i j)) (hg : gL T M a h E n c L g sn hist) : gL T M' a h E n c L g sn hist := by
  obtain ⟨ta, ⟨r0, r1, r2, r3⟩, ⟨n1, n2⟩, ⟨t1, t2⟩, ⟨s1, s2⟩, hy, hsn⟩ := hg
  refine ⟨aa.1.trans ta, ⟨(aa.2.2.2.1 _).trans r0, (aa.2.2.2.1 _).trans r1, (aa.2.2.2.1 _).trans r2, (aa.2.2.2.1 _).trans r3⟩, ⟨bR_sm (fun j hj => aL 8 j (by omega) hj) (md_wf_ok n2) n1, n2⟩, ⟨bL_sm (fun j hj => aL 9 j (by omega) hj) t1, bQ_sm (fun j hj => aL 9 j (by omega) hj) t2⟩, ⟨bL_sm (fun j hj => aL 10 j (by omega) hj) s1, bQ_sm (fun j hj => aL 10 j (by omega) hj) s2⟩, yR_sm ah aE (fun i j hi hj => aL i j (by omega) hj) hy, ?_⟩
  rw [aa.2.2.1]
  rcases hsn with z | ⟨z1, z2, z3⟩
  · exact .inl z
  · exact .inr ⟨z1, bR_sm (fun j hj => aL 10 j (by omega) hj) (md_wf_ok z3) z2, z3⟩
/-! the buffer: its capacity is 16, 34 or 70 -/
def mk3 (m : Nat) : Prop := m = 16 ∨ m = 34 ∨ m = 70
def sT (M : am_Hp) (s b m : Nat) (l : List Nat) : Prop := sR M s b m l.length (fun i => l.getD i 0) ∧ mk3 m ∧ ∀ i, i < m → fits .byte (.int (hp_E M b i)) = true
theorem sT_sb {M : am_Hp} {s b m : Nat} {l : List Nat} (h : sT M s b m l) : s ≠ b := fun z => by
  have h1 := h.1.1
  rw [z, h.1.2.2.2.1] at h1
  exact absurd h1 (by decide)
theorem sT_sm {M M' : am_Hp} {s b m : Nat} {l : List Nat} (ss : sm M M' s) (bb : sm M M' b) (h : sT M s b m l) : sT M' s b m l := by
  obtain ⟨⟨t, r, z0, tb, nb, c0, c3, hnm, hm, hc⟩, hk, hf⟩ := h
  exact ⟨⟨ss.1.trans t, (ss.2.2.2.1 _).trans r, z0, bb.1.trans tb, bb.2.1.trans nb, (ss.2.2.1 _).trans c0, (ss.2.2.1 _).trans c3, hnm, hm, fun i hi => by rw [bb.2.2.2.2.1]; exact hc i hi⟩, hk, fun i hi => by rw [bb.2.2.2.2.1]; exact hf i hi⟩
theorem mk3_le {m : Nat} (h : mk3 m) : 16 ≤ m ∧ m ≤ 70 := by
  rcases h with h | h | h <;> omega
theorem sb_sub {a m : Nat} (ha : a < 100) (hm : mk3 m) : (i3 a - i3 m ≤ 0) ↔ a ≤ m := by
  have h1 : ∀ a : Fin 100, (i3 a.1 - i3 16 ≤ 0) ↔ a.1 ≤ 16 := by decide +kernel
  have h2 : ∀ a : Fin 100, (i3 a.1 - i3 34 ≤ 0) ↔ a.1 ≤ 34 := by decide +kernel
  have h3 : ∀ a : Fin 100, (i3 a.1 - i3 70 ≤ 0) ↔ a.1 ≤ 70 := by decide +kernel
  rcases hm with rfl | rfl | rfl
  · exact h1 ⟨a, ha⟩
  · exact h2 ⟨a, ha⟩
  · exact h3 ⟨a, ha⟩
theorem i3_shl0 (x : Int32) : x <<< ((0 : Int32) &&& 31) = x := by
  rw [show (0 : Int32) &&& 31 = 0 from rfl]
  simp
theorem k_newLength {G : am_Gx} {d m j : Nat} {M : am_Hp} (hj : j < 16) (hm : mk3 m) : am_CT G (d + 1) rJ8_newLength_cabcc [.int (i3 m), .int (i3 j), .int (i3 m + 2)] M 0 0 (qi (i3 (2 * m + 2)) M) := by
  have hm2 := mk3_le hm
  refine am_intro mkJ8_newLength_cabcc rfl (Nat.le_of_ble_eq_true rfl) rfl (fun X hX hM => ?_)
  refine vJ8_newLength_cabcc_0 hX hM ?_
  simp only [forall_eq]
  have e : (if i3 j < i3 m + 2 then i3 m + 2 else i3 j) = i3 (m + 2) := by
    rw [show i3 m + 2 = i3 (m + 2) from i3_add m 2]
    exact if_pos ((i3_lt (by omega) (by omega)).mpr (by omega))
  rw [e, i3_add, show m + (m + 2) = 2 * m + 2 by omega]
  refine ⟨fun z => absurd ((i3_le (b := 0) (by omega) (by omega)).mp z) (by omega), fun _ => ⟨fun z => absurd ((i3_lt (a := 2147483639) (by omega) (by omega)).mp z) (by omega), fun _ => ⟨rfl, rfl⟩⟩⟩
theorem k_newCapacity {G : am_Gx} {d s b m a : Nat} {l : List Nat} {M : am_Hp} (h : sT M s b m l) (ha : m < a) (ha2 : a < m + 16) : am_CT G (d + 2) rJ5_newCapacity_0f7a4 [.ref s, .int (i3 a)] M 0 0 (qi (i3 (2 * m + 2)) M) := by
  obtain ⟨⟨t, r, z0, tb, nb, c0, c3, hnm, hm, hc⟩, hk, hf⟩ := h
  have hm2 := mk3_le hk
  refine am_intro mkJ5_newCapacity_0f7a4 rfl (Nat.le_of_ble_eq_true rfl) rfl (fun X hX hM => ?_)
  refine vJ5_newCapacity_0f7a4_0 hX hM ?_
  simp only [forall_eq]
  rw [r, nb, c0, i3_shl0, i3_shl0, show Int32.ofNat m = i3 m from rfl, i3_sub' (by omega)]
  refine ⟨t, z0, tb, ct_i (k_newLength (j := a - m) (by omega) hk) ⟨fun z => ?_, fun _ => ?_⟩⟩
  · exact absurd ((i3_eq (b := 2147483647) (by omega) (by omega)).mp z) (by omega)
  · rw [c0, i3_sh0]
    exact ⟨t, rfl, rfl⟩
/-- a longer array with the old one's elements -/
theorem k_copyOf {G : am_Gx} {d b m w : Nat} {M : am_Hp} (tb : hp_T M b = 20) (nb : hp_N M b = m) (hm : m < w) (hw : w ≤ 100) (hf : ∀ i, i < m → fits .byte (.int (hp_E M b i)) = true) : am_CT G (d + 1) rJ7_copyOf_9075b [.ref b, .int (i3 w)] M 1 100 (fun o M' => ∃ p : Nat, o = .inl (some (.ref p)) ∧ hp_T M p = 0 ∧ p ≠ 0 ∧ hp_T M' p = 20 ∧ hp_N M' p = w ∧ (∀ i, i < m → hp_E M' p i = hp_E M b i) ∧ (∀ i, m ≤ i → hp_E M' p i = 0) ∧ fr (fun _ => False) M M') := by
  refine am_intro mkJ7_copyOf_9075b rfl (Nat.le_of_ble_eq_true rfl) rfl (fun X hX hM => ?_)
  refine vJ7_copyOf_9075b_0 hX hM ?_
  refine ⟨tb, fun z => ?_, fun _ => ⟨fun z => absurd ((i3_lt (b := 0) (by omega) (by omega)).mp z) (by omega), ?_, Nat.le_refl _, by rw [i3_toNat (by omega)]; exact hw, fun p hp zp => ?_⟩⟩
  · rw [nb] at z
    exact absurd ((i3_eq (b := m) (by omega) (by omega)).mp z) (by omega)
  · rw [i3_toNat (by omega)]
    show w * 1 ≤ _
    omega
  · have npb : b ≠ p := fun z => by rw [z, hp] at tb; exact absurd tb (by decide)
    have sb := sm_a (M := M) (a := p) (x := b) (t := 20) (n := w) npb
    simp only [forall_eq]
    rw [i3_toNat (by omega), sb.2.1, nb]
    have e : (if i3 w < Int32.ofNat m then i3 w else Int32.ofNat m) = i3 m := if_neg (fun z => absurd ((i3_lt (b := m) (by omega) (by omega)).mp z) (by omega))
    rw [e, i3_toNat (by omega), sb.2.2.2.2.1]
    refine ⟨by decide, by decide, fun z => absurd ((i3_lt (b := 0) (by omega) (by omega)).mp z) (by omega), ?_, ?_, ?_, ?_⟩
    · show 0 + m ≤ m
      omega
    · rw [show hp_N (hp_a M p 20 w) p = w by simp [hp_a, hp_N, va_up]]
      show 0 + m ≤ w
      omega
    · intro i hi
      rw [show ((0 : Int32)).toNatClampNeg = 0 from rfl, Nat.zero_add]
      exact hf i hi
    · refine ⟨p, rfl, hp, zp, by simp [hp_sA, hp_a, hp_T, va_up], by simp [hp_sA, hp_a, hp_N, va_up], fun i hi => ?_, fun i hi => ?_, ?_⟩
      · rw [hp_E_sA]
        exact (pk_cpy_in (Nat.zero_le _) (by show i < 0 + m; omega)).trans (by simp)
      · rw [hp_E_sA]
        refine (pk_cpy_out (Or.inr (by show 0 + m ≤ i; omega))).trans ?_
        simp [hp_a, hp_E]
      · intro x x1 _
        have nx : x ≠ p := fun z => x1 (by rw [z]; exact hp)
        exact (sm_a nx).tr (sm_sA nx)
/-- the buffer s, of text l, grew to hold w, or held it before -/
def sG (M M' : am_Hp) (s b w : Nat) (l : List Nat) : Prop := ∃ b' m', sT M' s b' m' l ∧ w ≤ m' ∧ (b' = b ∨ hp_T M b' = 0) ∧ fr (fun x => x = s) M M'
theorem k_ens {G : am_Gx} {d s b m w : Nat} {l : List Nat} {M : am_Hp} (h : sT M s b m l) (hw : w ≤ l.length + 3) (hw2 : w ≤ 70) : am_CT G (d + 3) rJ5_ensureCapacityInternal_d00df [.ref s, .int (i3 w)] M 1 100 (fun o M' => o = .inl none ∧ sG M M' s b w l) := by
  have h0 := h
  have hsb := sT_sb h
  obtain ⟨⟨t, r, z0, tb, nb, c0, c3, hnm, hm, hc⟩, hk, hf⟩ := h
  have hm2 := mk3_le hk
  refine am_intro mkJ5_ensureCapacityInternal_d00df rfl (Nat.le_of_ble_eq_true rfl) rfl (fun X hX hM => ?_)
  refine vJ5_ensureCapacityInternal_d00df_0 hX hM ?_
  simp only [forall_eq]
  rw [r, nb, c0, i3_sh0, show Int32.ofNat m = i3 m from rfl]
  refine ⟨t, z0, tb, fun z => ?_, fun z => ?_⟩
  · exact ⟨trivial, b, m, h0, (sb_sub (by omega) hk).mp z, .inl rfl, fr.rf _ _⟩
  · have z1 : m < w := Nat.lt_of_not_le (fun y => z ((sb_sub (by omega) hk).mpr y))
    have hk2 : mk3 (2 * m + 2) := by
      rcases hk with rfl | rfl | rfl
      · exact .inr (.inl rfl)
      · exact .inr (.inr rfl)
      · omega
    have hm3 := mk3_le hk2
    refine ⟨z0, ct_i (k_newCapacity h0 z1 (by omega)) ⟨t, by omega, by omega, ?_⟩⟩
    rw [c0, i3_shl0]
    refine am_CT.mono ?_ (k_copyOf tb nb (by omega) (by omega) hf)
    rintro o M' ⟨p, e, hp, zp, tp, np, e1, e2, f⟩
    have ss := f s (by rw [t]; decide) (fun z => z)
    have ps : s ≠ p := fun z => by rw [z, hp] at t; exact absurd t (by decide)
    refine ⟨p, e, ss.1.trans t, zp, trivial, p, 2 * m + 2, ⟨⟨ss.1.trans t, by simp [hp_sR, hp_R, hp_u], zp, tp, np, (ss.2.2.1 _).trans c0, (ss.2.2.1 _).trans c3, by omega, by omega, fun i hi => ⟨(hc i hi).1, ?_⟩⟩, hk2, fun i hi => ?_⟩, by omega, .inr hp, fun x x1 x2 => (f x x1 (fun z => z)).tr (sm_sR x2)⟩
    · exact (e1 i (by omega)).trans (hc i hi).2
    · by_cases hi2 : i < m
      · exact (congrArg (fun q => fits .byte (.int q)) (e1 i hi2)).trans (hf i hi2)
      · exact (congrArg (fun q => fits .byte (.int q)) (e2 i (by omega))).trans (by decide)
