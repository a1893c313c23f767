/-! .. the law's wrappers of undo, restore, tripsWithin and share (made by gen/mk/mk89.py) -/
theorem nnf {a b : Int32} (hb : b ≠ 0) : vf_n64 (FP.f2d (FP.fdiv (FP.i2f a) (FP.i2f b))) := by
  have h1 : FP.Core.fIsNaN (FP.Core.i2f a) = false := by
    rw [Bool.eq_false_iff]
    intro z
    have z1 := (FP.Core.isNaN_bits32 _).mp z
    have := FP.Core.i2f_mag a
    omega
  have h2 := FP.Core.fdiv_out h1 (FP.Core.i2f_fin b) (fun z => FP.Core.i2f_ne_zero hb ((FP.Core.zero_bits232 _).mp z))
  have h5 := FP.Core.f2d_out h2
  have h3 : ¬ 9218868437227405312 < (FP.Core.f2d (FP.Core.fdiv (FP.Core.i2f a) (FP.Core.i2f b))).toNat % 2 ^ 63 := fun z => by
    rw [(FP.Core.isNaN_bits _).mpr z] at h5
    cases h5
  have e0 : FP.f2d (FP.Core.fdiv (FP.Core.i2f a) (FP.Core.i2f b)) = FP.Core.f2d (FP.Core.fdiv (FP.Core.i2f a) (FP.Core.i2f b)) := by
    unfold FP.f2d
    rw [h2]
    rfl
  show vf_n64 (FP.f2d (FP.Core.fdiv (FP.Core.i2f a) (FP.Core.i2f b)))
  rw [e0]
  show FP.Core.f2d (FP.Core.fdiv (FP.Core.i2f a) (FP.Core.i2f b)) &&& 0x7fffffffffffffff ≤ 0x7ff0000000000000
  rw [UInt64.le_iff_toNat_le, UInt64.toNat_and]
  have e : (FP.Core.f2d (FP.Core.fdiv (FP.Core.i2f a) (FP.Core.i2f b))).toNat &&& (0x7fffffffffffffff : UInt64).toNat = (FP.Core.f2d (FP.Core.fdiv (FP.Core.i2f a) (FP.Core.i2f b))).toNat % 2 ^ 63 := Nat.and_two_pow_sub_one_eq_mod _ 63
  rw [e]
  exact Nat.le_of_not_lt h3
theorem w_loadShare {G : am_Gx} {d a o T : Nat} {M : am_Hp} {B : Nat → Nat} {g : md_R} {v : Int32} (h : gN M a B g) (hw : md_wf T g) (t : hp_T M o = 24) (n : hp_N M o = 1) : am_CT G (d + 4) rL_loadShare [.ref a, .int v, .ref o] M 1 6 (fun z M' => z = .inl (some (.int (i3 (sq_share g v).1))) ∧ M' = (if (sq_share g v).1 = 0 then hp_sD M o 0 (FP.f2d (sq_share g v).2) else M)) := by
  refine am_introH mkL_loadShare (by decide) (Nat.le_of_ble_eq_true rfl) rfl (fun X hX hM => ?_)
  have hs : (sq_share g v).1 ≤ 1 := by
    unfold sq_share
    split <;> simp
  refine vL_loadShare_0 hX hM ⟨h.1, by omega, by omega, am_CT.mono (fun z M' hq => ?_) (g_loadShare h hw)⟩
  obtain ⟨e1, rfl⟩ := hq
  by_cases y : (sq_share g v).1 = 0
  · rw [if_pos y] at e1
    have hf : vf_n64 (FP.f2d (sq_share g v).2) := by
      unfold sq_share at y ⊢
      by_cases c1 : md_ic v = true
      · obtain ⟨c, hc, rfl⟩ := md_ic_iff.mp c1
        obtain ⟨k, k1, k2, k3, -⟩ := (hw.2.1 c hc).2.2.1
        have hz : g (15 + c) ≠ 0 := fun z => by
          rw [k3] at z
          exact absurd ((i3_eq (b := 0) (by omega) (by omega)).mp z) (by omega)
        rw [if_pos c1, i3_toNat (by omega)]
        exact nnf hz
      · rw [if_neg c1] at y
        exact absurd y (by decide)
    refine .inl ⟨_, e1, hf, t, by rw [n]; exact vp_in_i3 (k := 0) (by omega) (by omega), ?_⟩
    rintro _ rfl
    rw [y]
    exact ⟨rfl, rfl⟩
  · have y1 : (sq_share g v).1 = 1 := by omega
    rw [if_neg y, y1] at e1
    refine .inr ⟨e1, fun _ => ?_⟩
    rw [y1]
    exact ⟨rfl, rfl⟩
theorem w_undo0 {G : am_Gx} {d T a h E n o : Nat} {M : am_Hp} {L : Nat → Nat → Nat} {g sn : md_R} {hist : Nat → md_R} (hj : gJ a h E L) (hg : gL T M a h E n 0 L g sn hist) : am_CT G (d + 5) rL_undo [.ref a, .ref o] M 1 6 (qi (i3 1) M) := by
  refine am_introH mkL_undo (by decide) (Nat.le_of_ble_eq_true rfl) rfl (fun X hX hM => ?_)
  refine vL_undo_0 hX hM ⟨hg.1, by omega, by omega, am_CT.mono (fun z M' hq => ?_) (g_undo0 hj hg)⟩
  obtain ⟨e1, rfl⟩ := hq
  exact .inr ⟨e1, fun _ => ⟨rfl, rfl⟩⟩
theorem w_undo1 {G : am_Gx} {d T a h E n c o : Nat} {M : am_Hp} {L : Nat → Nat → Nat} {g sn : md_R} {hist : Nat → md_R} (hj : gJ a h E L) (hg : gL T M a h E n (c + 1) L g sn hist) (t : hp_T M o = 23) (nn : hp_N M o = 1) : am_CT G (d + 5) rL_undo [.ref a, .ref o] M 1 6 (fun z M' => z = .inl (some (.int 0)) ∧ ∃ M1, (∃ n1, gL T M1 a h E n1 c L (hist c) sn hist) ∧ zF h L M M1 ∧ M' = hp_sL M1 o 0 (i3 c).toInt64) := by
  refine am_introH mkL_undo (by decide) (Nat.le_of_ble_eq_true rfl) rfl (fun X hX hM => ?_)
  refine vL_undo_0 hX hM ⟨hg.1, by omega, by omega, am_CT.mono (fun z M' hq => ?_) (g_undo1 hj hg)⟩
  obtain ⟨e1, x1, x2⟩ := hq
  refine .inl ⟨_, e1, by rw [x2.1.1]; exact t, by rw [x2.1.2.1, nn]; exact vp_in_i3 (k := 0) (by omega) (by omega), ?_⟩
  rintro _ rfl
  exact ⟨rfl, M', x1, x2, rfl⟩
theorem w_restore0 {G : am_Gx} {d T a h E n c o : Nat} {M : am_Hp} {L : Nat → Nat → Nat} {g sn : md_R} {hist : Nat → md_R} (hg : gL T M a h E n c L g sn hist) (h0 : hp_I M 126 a = i3 0) : am_CT G (d + 4) rL_restore [.ref a, .ref o] M 1 6 (qi (i3 1) M) := by
  refine am_introH mkL_restore (by decide) (Nat.le_of_ble_eq_true rfl) rfl (fun X hX hM => ?_)
  refine vL_restore_0 hX hM ⟨hg.1, by omega, by omega, am_CT.mono (fun z M' hq => ?_) (g_restore0 hg h0)⟩
  obtain ⟨e1, rfl⟩ := hq
  exact .inr ⟨e1, fun _ => ⟨rfl, rfl⟩⟩
theorem w_restore1 {G : am_Gx} {d T a h E n c o : Nat} {M : am_Hp} {L : Nat → Nat → Nat} {g sn : md_R} {hist : Nat → md_R} (hj : gJ a h E L) (hg : gL T M a h E n c L g sn hist) (h1 : hp_I M 126 a = i3 1) (t : hp_T M o = 23) (nn : hp_N M o = 1) : am_CT G (d + 4) rL_restore [.ref a, .ref o] M 1 6 (fun z M' => z = .inl (some (.int 0)) ∧ ∃ M1, gL T M1 a h E n 0 L sn sn hist ∧ zF h L M M1 ∧ M' = hp_sL M1 o 0 (sn 1).toInt64) := by
  refine am_introH mkL_restore (by decide) (Nat.le_of_ble_eq_true rfl) rfl (fun X hX hM => ?_)
  refine vL_restore_0 hX hM ⟨hg.1, by omega, by omega, am_CT.mono (fun z M' hq => ?_) (g_restore1 hj hg h1)⟩
  obtain ⟨e1, x1, x2⟩ := hq
  refine .inl ⟨_, e1, by rw [x2.1.1]; exact t, by rw [x2.1.2.1, nn]; exact vp_in_i3 (k := 0) (by omega) (by omega), ?_⟩
  rintro _ rfl
  exact ⟨rfl, M', x1, x2, rfl⟩
theorem sq_trips_le1 {g : md_R} {v : Int32} : (sq_trips g v).1 ≤ 1 := by
  unfold sq_trips
  split <;> simp
theorem w_tripsWithin {G : am_Gx} {d T a h E n c o : Nat} {M : am_Hp} {L : Nat → Nat → Nat} {g sn : md_R} {hist : Nat → md_R} {v : Int32} (hj : gJ a h E L) (hg : gL T M a h E n c L g sn hist) (hT : T < 90000000) (t : hp_T M o = 23) (nn : hp_N M o = 1) : am_CT G (d + 8) rL_tripsWithin [.ref a, .int v, .ref o] M 1 6 (qv1 (sq_trips g v) o T M a h E n c L g sn hist) := by
  refine am_introH mkL_tripsWithin (by decide) (Nat.le_of_ble_eq_true rfl) rfl (fun X hX hM => ?_)
  refine vL_tripsWithin_0 hX hM ⟨hg.1, by omega, by omega, am_CT.mono (fun z M' hq => ?_) (g_tripsWithin hj hg hT)⟩
  obtain ⟨e1, x1, x2⟩ := hq
  by_cases y : (sq_trips g v).1 = 0
  · rw [if_pos y] at e1
    refine .inl ⟨_, e1, by rw [x2.1.1]; exact t, by rw [x2.1.2.1, nn]; exact vp_in_i3 (k := 0) (by omega) (by omega), ?_⟩
    rintro _ rfl
    exact qv1k y rfl x1 x2 rfl
  · have y1 : (sq_trips g v).1 = 1 := by have := sq_trips_le1 (g := g) (v := v); omega
    rw [if_neg y] at e1
    exact .inr ⟨e1, fun _ => qv1k y1 rfl x1 x2 rfl⟩
