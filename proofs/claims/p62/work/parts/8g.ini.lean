/-! .. the constructors -/
theorem sm_o {M : am_Hp} {a x t : Nat} (h : x ≠ a) : sm M (hp_o M a t) x := ⟨by simp [hp_o, hp_T, va_up, h], rfl, fun u => by simp [hp_o, hp_I, h], fun u => by simp [hp_o, hp_R, h], rfl, rfl, rfl, rfl⟩
theorem o_at (M : am_Hp) (a t : Nat) : hp_T (hp_o M a t) a = t ∧ (∀ u, hp_I (hp_o M a t) u a = 0) ∧ ∀ u, hp_R (hp_o M a t) u a = 0 := ⟨by simp [hp_o, hp_T, va_up], fun u => by simp [hp_o, hp_I], fun u => by simp [hp_o, hp_R]⟩
theorem a_at (M : am_Hp) (a t n : Nat) : hp_T (hp_a M a t n) a = t ∧ hp_N (hp_a M a t n) a = n ∧ hp_E (hp_a M a t n) a = (fun _ => 0) ∧ hp_Q (hp_a M a t n) a = (fun _ => 0) := ⟨by simp [hp_a, hp_T, va_up], by simp [hp_a, hp_N, va_up], by funext k; simp [hp_a, hp_E], by funext k; simp [hp_a, hp_Q]⟩
theorem sm_sQ {M : am_Hp} {a k v x : Nat} (h : x ≠ a) : sm M (hp_sQ M a k v) x := ⟨rfl, rfl, fun _ => rfl, fun _ => rfl, rfl, hp_Q_sQ' M v h, rfl, rfl⟩
theorem R_at (M : am_Hp) (u a v : Nat) : hp_R (hp_sR M u a v) u a = v := by simp [hp_sR, hp_R, hp_u]
theorem R_ne {M : am_Hp} {u u' a v x : Nat} (h : u' ≠ u) : hp_R (hp_sR M u a v) u' x = hp_R M u' x := by simp [hp_sR, hp_R, hp_u, h]
theorem fr0 {M M' : am_Hp} {x : Nat} {P : Nat → Prop} (f : fr P M M') (h : hp_T M x ≠ 0) (hp : ¬ P x) : hp_T M' x ≠ 0 := by rw [(f x h hp).1]; exact h
/-- a fresh place is none that stands -/
theorem ne_fresh {M : am_Hp} {x p t : Nat} (h : hp_T M x = t + 1) (hp : hp_T M p = 0) : x ≠ p := fun z => by rw [z, hp] at h; exact absurd h.symm (Nat.succ_ne_zero t)
theorem ne_fr {M : am_Hp} {x p : Nat} (h : hp_T M x ≠ 0) (hp : hp_T M p = 0) : x ≠ p := fun z => h (by rw [z]; exact hp)
theorem i_J5 {G : am_Gx} {d s : Nat} {M : am_Hp} (hz : cz G) (t : hp_T M s = 9) (i0 : hp_I M 163 s = 0) : am_CT G (d + 1) rJ5_init_d00df [.ref s, .int (16 : Int32)] M 1 16 (fun o M' => o = .inl none ∧ ∃ b, hp_T M b = 0 ∧ sT M' s b 16 [] ∧ fr (fun x => x = s) M M') := by
  refine am_intro mkJ5_init_d00df rfl (Nat.le_of_ble_eq_true rfl) rfl (fun X hX hM => ?_)
  refine vJ5_init_d00df_0 hX hM ⟨hz, fun z => absurd z (by decide), fun _ => ⟨by decide, by decide, Nat.le_refl _, by decide, fun p hp zp => ?_⟩⟩
  simp only [forall_eq]
  rw [show ((16 : Int32)).toNatClampNeg = 16 by decide]
  have sp := ne_fresh t hp
  have s1 := sm_a (M := M) (a := p) (x := s) (t := 20) (n := 16) sp
  obtain ⟨a1, a2, a3, -⟩ := a_at M p 20 16
  refine ⟨s1.1.trans t, zp, by trivial, p, hp, ⟨⟨s1.1.trans t, R_at _ _ _ _, zp, a1, a2, hp_I_sI _ _ _ _, ?_, Nat.zero_le _, by omega, fun i hi => absurd hi (Nat.not_lt_zero _)⟩, .inl rfl, fun i hi => ?_⟩, fun x x1 x2 => ?_⟩
  · rw [hp_I_sIu _ _ _ _ (by decide)]
    exact (s1.2.2.1 163).trans i0
  · show fits .byte (.int (hp_E (hp_a M p 20 16) p i)) = true
    rw [a3]
    show fits .byte (.int 0) = true
    decide
  · exact ((sm_a (ne_fr x1 hp)).tr (sm_sR x2)).tr (sm_sI x2)
theorem i_J4 {G : am_Gx} {d s : Nat} {M : am_Hp} (hz : cz G) (t : hp_T M s = 9) (i0 : hp_I M 163 s = 0) : am_CT G (d + 2) rJ4_init_da8c8 [.ref s] M 1 16 (fun o M' => o = .inl none ∧ ∃ b, hp_T M b = 0 ∧ sT M' s b 16 [] ∧ fr (fun x => x = s) M M') := by
  refine am_intro mkJ4_init_da8c8 rfl (Nat.le_of_ble_eq_true rfl) rfl (fun X hX hM => ?_)
  refine vJ4_init_da8c8_0 hX hM ⟨Nat.le_refl _, Nat.le_refl _, am_CT.mono ?_ (i_J5 hz t i0)⟩
  rintro o M' ⟨e, k⟩
  exact ⟨e, rfl, k⟩
theorem tw_230x : (Jvm.Cond.methodLink "LiftGroup$Script" (3 : Nat) ({ cls := "java/lang/Object", name := "<init>", desc := "()V" } : Jvm.MethodName)) ∈ am_gt := am_in (List.mem_append_right _ (List.mem_of_getElem? (l := tables_1) (i := 233) (by decide +kernel))) (by decide +kernel)
theorem tw_231x : (Jvm.Cond.classLink "LiftGroup$Script" (9 : Nat) "java/lang/StringBuilder") ∈ am_gt := am_in (List.mem_append_right _ (List.mem_of_getElem? (l := tables_1) (i := 234) (by decide +kernel))) (by decide +kernel)
/-- the script object's places: its builder, the kinds, the row of rows, and the rows behind it -/
def scR (M : am_Hp) (a st ks rs : Nat) : Prop := hp_T M a = 5 ∧ hp_R M 80 a = st ∧ hp_R M 81 a = ks ∧ hp_R M 82 a = rs ∧ st ≠ 0 ∧ ks ≠ 0 ∧ rs ≠ 0 ∧ hp_T M ks = 22 ∧ hp_N M ks = 13 ∧ hp_T M rs = 28 ∧ hp_N M rs = 13 ∧ ∀ j, j < 13 → hp_Q M rs j = rs + 1 + j ∧ hp_T M (rs + 1 + j) = 22 ∧ hp_N M (rs + 1 + j) = 3
theorem scR_sm {M M' : am_Hp} {a st ks rs : Nat} (sa : sm M M' a) (sk : sm M M' ks) (sr : sm M M' rs) (sj : ∀ j, j < 13 → sm M M' (rs + 1 + j)) (h : scR M a st ks rs) : scR M' a st ks rs := by
  obtain ⟨h1, h2, h3, h4, h5, h6, h7, h8, h9, h10, h11, h12⟩ := h
  exact ⟨sa.1.trans h1, (sa.2.2.2.1 _).trans h2, (sa.2.2.2.1 _).trans h3, (sa.2.2.2.1 _).trans h4, h5, h6, h7, sk.1.trans h8, sk.2.1.trans h9, sr.1.trans h10, sr.2.1.trans h11, fun j hj => ⟨by rw [sr.2.2.2.2.2.1]; exact (h12 j hj).1, (sj j hj).1.trans (h12 j hj).2.1, (sj j hj).2.1.trans (h12 j hj).2.2⟩⟩
theorem i_X4 {G : am_Gx} {d a : Nat} {M : am_Hp} (hz : cz G) (ta : hp_T M a = 5) : am_CT G (d + 3) rX4_init [.ref a] M 17 85 (fun o M' => o = .inl none ∧ ∃ st b ks rs, hp_T M st = 0 ∧ hp_T M b = 0 ∧ hp_T M ks = 0 ∧ (∀ j, j ≤ 13 → hp_T M (rs + j) = 0) ∧ (∀ j, j ≤ 13 → ks ≠ rs + j) ∧ scR M' a st ks rs ∧ sT M' st b 16 [] ∧ fr (fun x => x = a) M M') := by
  refine am_intro mkX4_init rfl (Nat.le_of_ble_eq_true rfl) rfl (fun X hX hM => ?_)
  refine j_aload_n hX eX4_init_0 0 rfl ?_
  refine j_objInit hX eX4_init_1 tw_230x tw_41 tw_42 (Nat.le_of_ble_eq_true rfl) ?_
  refine j_aload_n hX eX4_init_4 0 rfl ?_
  refine j_new (q := (RJ4, TJ4, 4)) hX eX4_init_5 rfl (by decide) tw_231x tw_235 tw_9 dv_8 (by omega) (Nat.le_of_ble_eq_true rfl) (fun s hs zs => ?_)
  refine j_dup hX eX4_init_8 rfl ?_
  obtain ⟨o1, o2, -⟩ := o_at M s 9
  have as0 := ne_fresh ta hs
  refine j_callI (a := s) (r' := rJ4_init_da8c8) (As := []) (rest := [.ref s, .ref a]) (d1 := d + 2) hX eX4_init_9 mm_LiftGroup_Script_11 rfl (i_J4 hz o1 (o2 163)) rfl (Nat.le_refl _) (Nat.le_of_ble_eq_true rfl) (Nat.le_of_ble_eq_true rfl) (Nat.le_of_ble_eq_true rfl) (fun vz9 M1 qz9 => ?_) (fun Ez9 Mz9 qz9 => ?_)
  · obtain ⟨hxz9, b, hb, hT, f⟩ := qz9
    cases hxz9
    have ob : ∀ x, hp_T M x ≠ 0 → hp_T (hp_o M s 9) x ≠ 0 := fun x x1 => by rw [(sm_o (ne_fr x1 hs)).1]; exact x1
    have hb0 : hp_T M b = 0 := Classical.byContradiction (fun z => ob b z hb)
    have f0 : fr (fun _ => False) M M1 := fun x x1 _ => (sm_o (ne_fr x1 hs)).tr (f x (ob x x1) (ne_fr x1 hs))
    have ta1 := (f0 a (by rw [ta]; decide) (fun z => z)).1.trans ta
    refine j_putF (ty := .object "java/lang/StringBuilder") hX eX4_init_12 ff_LiftGroup_Script_12 rfl ta1 (by decide) zs hM rfl pp_4_0 rfl rfl ?_
    have as1 := as0
    have ts1 := hT.1.1
    have tb1 := hT.1.2.2.2.1
    have bs : s ≠ b := sT_sb hT
    have ab : a ≠ b := ne_fr (by rw [ta]; decide) hb0
    have hT2 : sT (hp_sR M1 80 a s) s b 16 [] := sT_sm (sm_sR as0.symm) (sm_sR ab.symm) hT
    refine j_aload_n hX eX4_init_15 0 rfl ?_
    refine j_bipush (v := (13 : Int32)) hX eX4_init_16 (by decide) ?_
    refine j_newa_i hX eX4_init_18 tw_81 (by decide) (by decide) (by omega) (Nat.le_of_ble_eq_true rfl) (fun ks hks zks => ?_)
    have hks1 : hp_T M1 ks = 0 := hks
    rw [show ((13 : Int32)).toNatClampNeg = 13 by decide]
    generalize hM2 : hp_a (hp_sR M1 80 a s) ks 22 13 = M2
    have ak : a ≠ ks := ne_fresh ta1 hks1
    have g2 : ∀ x, hp_T M1 x ≠ 0 → x ≠ a → sm M1 M2 x := fun x x1 x2 => by
      rw [← hM2]
      exact (sm_sR x2).tr (sm_a (ne_fr x1 hks1))
    have sa2 : sm (hp_sR M1 80 a s) M2 a := by rw [← hM2]; exact sm_a ak
    have hT3 : sT M2 s b 16 [] := sT_sm (g2 s (by rw [ts1]; decide) as0.symm) (g2 b (by rw [tb1]; decide) ab.symm) hT
    obtain ⟨k1, k2, -, -⟩ : hp_T M2 ks = 22 ∧ hp_N M2 ks = 13 ∧ hp_E M2 ks = (fun _ => 0) ∧ hp_Q M2 ks = (fun _ => 0) := by rw [← hM2]; exact a_at _ _ _ _
    have ta2 : hp_T M2 a = 5 := sa2.1.trans ta1
    have r2 : hp_R M2 80 a = s := (sa2.2.2.2.1 80).trans (R_at _ _ _ _)
    refine j_putF (ty := .array .int) hX eX4_init_20 ff_LiftGroup_Script_18 rfl ta2 (by decide) zks hM rfl pp_4_1 rfl rfl ?_
    refine j_aload_n hX eX4_init_23 0 rfl ?_
    refine j_bipush (v := (13 : Int32)) hX eX4_init_24 (by decide) ?_
    refine j_iconst (v := (3 : Int32)) hX eX4_init_26 (by decide) ?_
    refine j_mna hX eX4_init_27 tw_264x (Nat.le_of_ble_eq_true rfl) (Nat.le_of_ble_eq_true rfl) (fun rs M3 hrs zrs t28 n28 hin f3 => ?_)
    have hrs2 : ∀ j, j ≤ 13 → hp_T M2 (rs + j) = 0 := hrs
    have g3 : ∀ x, hp_T M2 x ≠ 0 → x ≠ a → sm M2 M3 x := fun x x1 x2 => (sm_sR x2).tr (f3 x x1 (fun z => z))
    have sa3 := f3 a (by show hp_T M2 a ≠ 0; rw [ta2]; decide) (fun z => z)
    have ta3 : hp_T M3 a = 5 := sa3.1.trans ta2
    refine j_putF (ty := .array (.array .int)) hX eX4_init_31 ff_LiftGroup_Script_24 rfl ta3 (by decide) zrs hM rfl pp_4_2 rfl rfl ?_
    refine j_aload_n hX eX4_init_34 0 rfl ?_
    refine j_iconst (v := (0 : Int32)) hX eX4_init_35 (by decide) ?_
    refine j_putI (ty := .int) hX eX4_init_36 ff_LiftGroup_Script_27 rfl ta3 (by decide) pp_4_3 rfl rfl ?_
    refine j_aload_n hX eX4_init_39 0 rfl ?_
    refine j_iconst (v := (0 : Int32)) hX eX4_init_40 (by decide) ?_
    refine j_putI (ty := .int) hX eX4_init_41 ff_LiftGroup_Script_31 rfl ta3 (by decide) pp_4_4 rfl rfl ?_
    have g4 : ∀ x, x ≠ a → sm M3 (hp_sI (hp_sI (hp_sR M3 (20 * 4 + 2) a rs) (20 * 4 + 3) a 0) (20 * 4 + 4) a 0) x := fun x x2 => ((sm_sR x2).tr (sm_sI x2)).tr (sm_sI x2)
    have T0 : ∀ x, hp_T M x ≠ 0 → hp_T M1 x ≠ 0 := fun x x1 => fr0 f0 x1 (fun z => z)
    have T1 : ∀ x, hp_T M x ≠ 0 → x ≠ a → hp_T M2 x ≠ 0 := fun x x1 x2 => by rw [(g2 x (T0 x x1) x2).1]; exact T0 x x1
    have kr : ∀ j, j ≤ 13 → ks ≠ rs + j := fun j hj => ne_fr (by rw [k1]; decide) (hrs2 j hj)
    refine j_vret hX hM eX4_init_44 rfl ⟨rfl, s, b, ks, rs, hs, hb0, Classical.byContradiction (fun z => T0 ks z hks1), fun j hj => Classical.byContradiction (fun z => ?_), kr, ⟨ta3, ?_, ?_, ?_, zs, zks, zrs, ?_, ?_, ?_, ?_, fun j hj => ?_⟩, ?_, fun x x1 x2 => ?_⟩
    · by_cases e : rs + j = a
      · have := hrs2 j hj
        rw [e, ta2] at this
        exact absurd this (by decide)
      · exact T1 _ z e (hrs2 j hj)
    · exact (R_ne (by decide)).trans ((sa3.2.2.2.1 80).trans ((R_ne (by decide)).trans r2))
    · exact (R_ne (by decide)).trans ((sa3.2.2.2.1 81).trans (R_at _ _ _ _))
    · exact R_at _ _ _ _
    · exact (g4 ks ak.symm).1.trans ((g3 ks (by rw [k1]; decide) ak.symm).1.trans k1)
    · exact (g4 ks ak.symm).2.1.trans ((g3 ks (by rw [k1]; decide) ak.symm).2.1.trans k2)
    · exact t28
    · exact n28
    · exact hin j hj
    · have e1 := g2 s (by rw [ts1]; decide) as0.symm
      have e2 := g2 b (by rw [tb1]; decide) ab.symm
      exact sT_sm ((g3 s (by rw [e1.1, ts1]; decide) as0.symm).tr (g4 s as0.symm)) ((g3 b (by rw [e2.1, tb1]; decide) ab.symm).tr (g4 b ab.symm)) hT3
    · exact (((f0 x x1 (fun z => z)).tr (g2 x (T0 x x1) x2)).tr (g3 x (T1 x x1 x2) x2)).tr (g4 x x2)
  · obtain ⟨hxz9, -⟩ := qz9
    cases hxz9
