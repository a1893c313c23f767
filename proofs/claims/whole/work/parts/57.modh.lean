/-! .. ranks, the log, totals, shares. (FP.Core's laws of division stand in the library's JvmDerived.FloatLaws2, which the short library lacks) -/
theorem nn64 {a b : Int32} (hb : b ≠ 0) : vf_n64 (FP.ddiv (FP.i2d a) (FP.i2d b)) := by
  have h1 : FP.Core.dIsNaN (FP.Core.i2d a) = false := by
    rw [Bool.eq_false_iff]
    intro z
    have z1 := (FP.Core.isNaN_bits _).mp z
    have := FP.Core.i2d_mag a
    omega
  have h2 := FP.Core.ddiv_out h1 (FP.Core.i2d_fin b) (fun z => FP.Core.i2d_ne_zero hb ((FP.Core.zero_bits2 _).mp z))
  have h3 : ¬ 9218868437227405312 < (FP.Core.ddiv (FP.Core.i2d a) (FP.Core.i2d b)).toNat % 2 ^ 63 := fun z => by
    rw [(FP.Core.isNaN_bits _).mpr z] at h2
    cases h2
  show FP.Core.ddiv (FP.Core.i2d a) (FP.Core.i2d b) &&& 0x7fffffffffffffff ≤ 0x7ff0000000000000
  rw [UInt64.le_iff_toNat_le, UInt64.toNat_and]
  have e : (FP.Core.ddiv (FP.Core.i2d a) (FP.Core.i2d b)).toNat &&& (0x7fffffffffffffff : UInt64).toNat = (FP.Core.ddiv (FP.Core.i2d a) (FP.Core.i2d b)).toNat % 2 ^ 63 := Nat.and_two_pow_sub_one_eq_mod _ 63
  rw [e]
  exact Nat.le_of_not_lt h3
theorem nn32 {a b : Int32} (hb : b ≠ 0) : vf_n32 (FP.fdiv (FP.i2f a) (FP.i2f b)) := by
  have h1 : FP.Core.fIsNaN (FP.Core.i2f a) = false := by
    rw [Bool.eq_false_iff]
    intro z
    have z1 := (FP.Core.isNaN_bits32 _).mp z
    have := FP.Core.i2f_mag a
    omega
  have h2 := FP.Core.fdiv_out h1 (FP.Core.i2f_fin b) (fun z => FP.Core.i2f_ne_zero hb ((FP.Core.zero_bits232 _).mp z))
  have h3 : ¬ 2139095040 < (FP.Core.fdiv (FP.Core.i2f a) (FP.Core.i2f b)).toNat % 2 ^ 31 := fun z => by
    rw [(FP.Core.isNaN_bits32 _).mpr z] at h2
    cases h2
  show FP.Core.fdiv (FP.Core.i2f a) (FP.Core.i2f b) &&& 0x7fffffff ≤ 0x7f800000
  rw [UInt32.le_iff_toNat_le, UInt32.toNat_and]
  have e : (FP.Core.fdiv (FP.Core.i2f a) (FP.Core.i2f b)).toNat &&& (0x7fffffff : UInt32).toNat = (FP.Core.fdiv (FP.Core.i2f a) (FP.Core.i2f b)).toNat % 2 ^ 31 := Nat.and_two_pow_sub_one_eq_mod _ 31
  rw [e]
  exact Nat.le_of_not_lt h3
abbrev qd (v : UInt64) (M1 : am_Hp) : am_Q := fun o M' => o = .inl (some (.double v)) ∧ M' = M1
abbrev qf (v : UInt32) (M1 : am_Hp) : am_Q := fun o M' => o = .inl (some (.float v)) ∧ M' = M1
def sq_mean (g : md_R) : Nat × UInt64 := if g 3 = i3 0 then (1, FP.dconst0) else (0, FP.ddiv (FP.i2d (g 4)) (FP.i2d (g 3)))
def sq_share (g : md_R) (v : Int32) : Nat × UInt32 := if md_ic v = true then (0, FP.fdiv (FP.i2f (md_ld g v.toNatClampNeg)) (FP.i2f (g (15 + v.toNatClampNeg)))) else (1, FP.fconst0)
theorem c_meanWaiting {G : am_Gx} {d : Nat} {M : am_Hp} {A : Nat → Nat} {g : md_R} (h : mL M A) (hg : hp_E M (A 1) = g) : am_CT G (d + 2) rX7_meanWaiting [.ref (A 0)] M 0 0 (qd (sq_mean g).2 (hp_sI M 153 (A 0) (i3 (sq_mean g).1))) := by
  have h0 := h
  obtain ⟨t0, r1, r2, r3, r4, r5, r6, r7, r8, t1, t2, t3, t4, t5, t6, t7, t8, n1, n2, n3, n4, n5, n6, n7, n8, z1, z2, z3, z4, z5, z6, z7, z8, hJ⟩ := h
  refine am_intro mkX7_meanWaiting rfl (Nat.le_of_ble_eq_true rfl) rfl (fun X hX hM => ?_)
  refine vX7_meanWaiting_0 hX hM ?_
  simp (disch := omega) only [t0, r1, r2, r3, r4, r5, r6, r7, r8, t1, t2, t3, t4, t5, t6, t7, t8, n1, n2, n3, n4, n5, n6, n7, n8, z1, z2, z3, z4, z5, z6, z7, z8, forall_eq, Nat.reduceAdd, Nat.reduceMul, Nat.reduceEqDiff, Nat.reduceLeDiff, Nat.reduceSub, ne_eq, not_false_eq_true, not_true_eq_false, false_implies, true_implies, implies_true, true_and, and_true, eq_self, li0, li1, li2, li3, li4, li5, li6, li7, li8, li9, li10, li11, li12, li15, li18, li21, li22, li23, li24, li27, li30, li32, li39, li50, li51, li59, li60, li63, li75, li87, li90, li99, li100, li111, li121, li126, li131, li141, li150, li400, li900, li987, li1128, li240, i3_add, i3_toNat, vpt, bI_0, bI_1, bI_bo, Bool.not_eq_false, Bool.true_eq_false, Bool.false_eq_true, Bool.not_eq_true, i3_le', i3_lt', i3_eq', hp_sE_sA, hp_sA_sA, hp_E_sA, hp_T_sA, hp_N_sA, hp_R_sA, hp_I_sA, hp_T_sI, hp_N_sI, hp_R_sI, hp_E_sI, hp_I_sI, hp_sA_sI, hp_sI_sI, hg]
  refine ⟨fun a1 => ?_, fun a1 => ⟨nn64 a1, ?_⟩⟩
  · have e : sq_mean g = (1, FP.dconst0) := by unfold sq_mean; rw [if_pos a1]
    rw [e]
    exact ⟨rfl, rfl⟩
  · have e : sq_mean g = (0, FP.ddiv (FP.i2d (g 4)) (FP.i2d (g 3))) := by unfold sq_mean; rw [if_neg a1]
    rw [e]
    exact ⟨rfl, rfl⟩
theorem c_loadShare {G : am_Gx} {d : Nat} {M : am_Hp} {A : Nat → Nat} {g : md_R} {T : Nat} {v : Int32} (h : mL M A) (hg : hp_E M (A 1) = g) (hw : md_wf T g) : am_CT G (d + 3) rX7_loadShare [.ref (A 0), .int v] M 0 0 (qf (sq_share g v).2 (hp_sI M 153 (A 0) (i3 (sq_share g v).1))) := by
  have h0 := h
  have ok := md_wf_ok hw
  obtain ⟨t0, r1, r2, r3, r4, r5, r6, r7, r8, t1, t2, t3, t4, t5, t6, t7, t8, n1, n2, n3, n4, n5, n6, n7, n8, z1, z2, z3, z4, z5, z6, z7, z8, hJ⟩ := h
  refine am_intro mkX7_loadShare rfl (Nat.le_of_ble_eq_true rfl) rfl (fun X hX hM => ?_)
  refine vX7_loadShare_0 hX hM ?_
  refine ct_i c_isCar ?_
  simp (disch := omega) only [t0, r1, r2, r3, r4, r5, r6, r7, r8, t1, t2, t3, t4, t5, t6, t7, t8, n1, n2, n3, n4, n5, n6, n7, n8, z1, z2, z3, z4, z5, z6, z7, z8, forall_eq, Nat.reduceAdd, Nat.reduceMul, Nat.reduceEqDiff, Nat.reduceLeDiff, Nat.reduceSub, ne_eq, not_false_eq_true, not_true_eq_false, false_implies, true_implies, implies_true, true_and, and_true, eq_self, li0, li1, li2, li3, li4, li5, li6, li7, li8, li9, li10, li11, li12, li15, li18, li21, li22, li23, li24, li27, li30, li32, li39, li50, li51, li59, li60, li63, li75, li87, li90, li99, li100, li111, li121, li126, li131, li141, li150, li400, li900, li987, li1128, li240, i3_add, i3_toNat, vpt, bI_0, bI_1, bI_bo, Bool.not_eq_false, Bool.true_eq_false, Bool.false_eq_true, Bool.not_eq_true, i3_le', i3_lt', i3_eq', hp_sE_sA, hp_sA_sA, hp_E_sA, hp_T_sA, hp_N_sA, hp_R_sA, hp_I_sA, hp_T_sI, hp_N_sI, hp_R_sI, hp_E_sI, hp_I_sI, hp_sA_sI, hp_sI_sI, hg]
  refine ⟨fun a1 => ?_, fun a1 => ?_⟩
  · have e : sq_share g v = (1, FP.fconst0) := by unfold sq_share; rw [if_neg (by rw [a1]; decide)]
    rw [e]
    exact ⟨rfl, rfl⟩
  · obtain ⟨c, hc, rfl⟩ := md_ic_iff.mp a1
    refine ct_i (c_loadOf (M := hp_sI M 153 (A 0) (i3 0)) h0 hg ok) ?_
    simp (disch := omega) only [t0, r1, r2, r3, r4, r5, r6, r7, r8, t1, t2, t3, t4, t5, t6, t7, t8, n1, n2, n3, n4, n5, n6, n7, n8, z1, z2, z3, z4, z5, z6, z7, z8, forall_eq, Nat.reduceAdd, Nat.reduceMul, Nat.reduceEqDiff, Nat.reduceLeDiff, Nat.reduceSub, ne_eq, not_false_eq_true, not_true_eq_false, false_implies, true_implies, implies_true, true_and, and_true, eq_self, li0, li1, li2, li3, li4, li5, li6, li7, li8, li9, li10, li11, li12, li15, li18, li21, li22, li23, li24, li27, li30, li32, li39, li50, li51, li59, li60, li63, li75, li87, li90, li99, li100, li111, li121, li126, li131, li141, li150, li400, li900, li987, li1128, li240, i3_add, i3_toNat, vpt, bI_0, bI_1, bI_bo, Bool.not_eq_false, Bool.true_eq_false, Bool.false_eq_true, Bool.not_eq_true, i3_le', i3_lt', i3_eq', hp_sE_sA, hp_sA_sA, hp_E_sA, hp_T_sA, hp_N_sA, hp_R_sA, hp_I_sA, hp_T_sI, hp_N_sI, hp_R_sI, hp_E_sI, hp_I_sI, hp_sA_sI, hp_sI_sI, hg]
    obtain ⟨-, -, ⟨k, k1, k2, k3, k4⟩, -⟩ := hw.2.1 c hc
    have hz : ¬ g (15 + c) = 0 := by
      rw [k3, show (0 : Int32) = i3 0 from rfl, i3_eq (by omega) (by omega)]
      omega
    have e : sq_share g (i3 c) = (0, FP.fdiv (FP.i2f (md_ld g c)) (FP.i2f (g (15 + c)))) := by unfold sq_share; rw [if_pos a1, i3_toNat (by omega)]
    refine ⟨nn32 hz, ?_⟩
    rw [e]
    exact ⟨rfl, rfl⟩
theorem c_isConsistent {G : am_Gx} {d : Nat} {M : am_Hp} {A : Nat → Nat} (h : mL M A) : am_CT G (d + 2) rX7_isConsistent [.ref (A 0)] M 0 0 (qa (0, i3 1) M A) := by
  refine am_intro mkX7_isConsistent rfl (Nat.le_of_ble_eq_true rfl) rfl (fun X hX hM => ?_)
  exact vX7_isConsistent_0 hX hM ⟨h.1, fun _ e => ⟨rfl, e⟩⟩
theorem li25 : (25 : Int32) = i3 25 := rfl
theorem li26 : (26 : Int32) = i3 26 := rfl
def md_te (g : md_R) : Int64 := (g 24).toInt64 + (g 25).toInt64 + (g 26).toInt64
def md_tm (g : md_R) : Int64 := 2 * (g 5).toInt64 + (g 8).toInt64 + (g 6).toInt64 + (g 7).toInt64
theorem c_totalEnergy {G : am_Gx} {d : Nat} {M : am_Hp} {A : Nat → Nat} {g : md_R} (h : mL M A) (hg : hp_E M (A 1) = g) : am_CT G (d + 2) rX7_totalEnergy [.ref (A 0)] M 0 0 (ql (md_te g) (hp_sI M 153 (A 0) (i3 0))) := by
  have h0 := h
  obtain ⟨t0, r1, r2, r3, r4, r5, r6, r7, r8, t1, t2, t3, t4, t5, t6, t7, t8, n1, n2, n3, n4, n5, n6, n7, n8, z1, z2, z3, z4, z5, z6, z7, z8, hJ⟩ := h
  refine am_intro mkX7_totalEnergy rfl (Nat.le_of_ble_eq_true rfl) rfl (fun X hX hM => ?_)
  refine vX7_totalEnergy_0 hX hM ?_
  simp (disch := omega) only [t0, r1, r2, r3, r4, r5, r6, r7, r8, t1, t2, t3, t4, t5, t6, t7, t8, n1, n2, n3, n4, n5, n6, n7, n8, z1, z2, z3, z4, z5, z6, z7, z8, forall_eq, Nat.reduceAdd, Nat.reduceMul, Nat.reduceEqDiff, Nat.reduceLeDiff, Nat.reduceSub, ne_eq, not_false_eq_true, not_true_eq_false, false_implies, true_implies, implies_true, true_and, and_true, eq_self, li0, li1, li2, li3, li4, li5, li6, li7, li8, li9, li10, li11, li12, li15, li18, li21, li22, li23, li24, li27, li30, li32, li39, li50, li51, li59, li60, li63, li75, li87, li90, li99, li100, li111, li121, li126, li131, li141, li150, li400, li900, li987, li1128, li240, i3_add, i3_toNat, vpt, bI_0, bI_1, bI_bo, Bool.not_eq_false, Bool.true_eq_false, Bool.false_eq_true, Bool.not_eq_true, i3_le', i3_lt', i3_eq', hp_sE_sA, hp_sA_sA, hp_E_sA, hp_T_sA, hp_N_sA, hp_R_sA, hp_I_sA, hp_T_sI, hp_N_sI, hp_R_sI, hp_E_sI, hp_I_sI, hp_sA_sI, hp_sI_sI, hg, li25, li26]
  exact ⟨rfl, rfl⟩
theorem c_totalEnergyByMoves {G : am_Gx} {d : Nat} {M : am_Hp} {A : Nat → Nat} {g : md_R} (h : mL M A) (hg : hp_E M (A 1) = g) : am_CT G (d + 2) rX7_totalEnergyByMoves [.ref (A 0)] M 0 0 (ql (md_tm g) (hp_sI M 153 (A 0) (i3 0))) := by
  have h0 := h
  obtain ⟨t0, r1, r2, r3, r4, r5, r6, r7, r8, t1, t2, t3, t4, t5, t6, t7, t8, n1, n2, n3, n4, n5, n6, n7, n8, z1, z2, z3, z4, z5, z6, z7, z8, hJ⟩ := h
  refine am_intro mkX7_totalEnergyByMoves rfl (Nat.le_of_ble_eq_true rfl) rfl (fun X hX hM => ?_)
  refine vX7_totalEnergyByMoves_0 hX hM ?_
  simp (disch := omega) only [t0, r1, r2, r3, r4, r5, r6, r7, r8, t1, t2, t3, t4, t5, t6, t7, t8, n1, n2, n3, n4, n5, n6, n7, n8, z1, z2, z3, z4, z5, z6, z7, z8, forall_eq, Nat.reduceAdd, Nat.reduceMul, Nat.reduceEqDiff, Nat.reduceLeDiff, Nat.reduceSub, ne_eq, not_false_eq_true, not_true_eq_false, false_implies, true_implies, implies_true, true_and, and_true, eq_self, li0, li1, li2, li3, li4, li5, li6, li7, li8, li9, li10, li11, li12, li15, li18, li21, li22, li23, li24, li27, li30, li32, li39, li50, li51, li59, li60, li63, li75, li87, li90, li99, li100, li111, li121, li126, li131, li141, li150, li400, li900, li987, li1128, li240, i3_add, i3_toNat, vpt, bI_0, bI_1, bI_bo, Bool.not_eq_false, Bool.true_eq_false, Bool.false_eq_true, Bool.not_eq_true, i3_le', i3_lt', i3_eq', hp_sE_sA, hp_sA_sA, hp_E_sA, hp_T_sA, hp_N_sA, hp_R_sA, hp_I_sA, hp_T_sI, hp_N_sI, hp_R_sI, hp_E_sI, hp_I_sI, hp_sA_sI, hp_sI_sI, hg]
  exact ⟨rfl, rfl⟩
/-- the log -/
def sq_trip (k : Nat) (g : md_R) (v : Int32) : md_Sq := if md_bt (i3 0) v (i3 9) = true ∧ v < g 3 then (0, g (k + ((g 3).toNatClampNeg - 1 - v.toNatClampNeg) % 10)) else (1, i3 0)
theorem md_bt_9 {v : Int32} (h : md_bt (i3 0) v (i3 9) = true) : ∃ k, k < 10 ∧ v = i3 k := by
  unfold md_bt at h
  rw [Bool.and_eq_true, decide_eq_true_eq, decide_eq_true_eq] at h
  exact i3_of (v := v) (n := 10) h.1 (by have := h.2; rw [Int32.lt_iff_toInt_lt]; rw [Int32.le_iff_toInt_le] at this; have e1 : (i3 9).toInt = 9 := rfl; have e2 : (i3 10).toInt = 10 := rfl; omega) (by omega)
theorem c_logNumber {G : am_Gx} {d : Nat} {M : am_Hp} {A : Nat → Nat} {g : md_R} {k t : Nat} {v : Int32} (h : mL M A) (hg : hp_E M (A 1) = g) (h3 : g 3 = i3 t) (ht : t < 2147483648) (hk : k + 10 ≤ 141) : am_CT G (d + 2) rX7_logNumber [.ref (A 0), .int (i3 k), .int v] M 0 0 (qa (sq_trip k g v) M A) := by
  have h0 := h
  obtain ⟨t0, r1, r2, r3, r4, r5, r6, r7, r8, t1, t2, t3, t4, t5, t6, t7, t8, n1, n2, n3, n4, n5, n6, n7, n8, z1, z2, z3, z4, z5, z6, z7, z8, hJ⟩ := h
  refine am_intro mkX7_logNumber rfl (Nat.le_of_ble_eq_true rfl) rfl (fun X hX hM => ?_)
  refine vX7_logNumber_0 hX hM ?_
  refine ct_i c_in' ?_
  simp (disch := omega) only [t0, r1, r2, r3, r4, r5, r6, r7, r8, t1, t2, t3, t4, t5, t6, t7, t8, n1, n2, n3, n4, n5, n6, n7, n8, z1, z2, z3, z4, z5, z6, z7, z8, forall_eq, Nat.reduceAdd, Nat.reduceMul, Nat.reduceEqDiff, Nat.reduceLeDiff, Nat.reduceSub, ne_eq, not_false_eq_true, not_true_eq_false, false_implies, true_implies, implies_true, true_and, and_true, eq_self, li0, li1, li2, li3, li4, li5, li6, li7, li8, li9, li10, li11, li12, li15, li18, li21, li22, li23, li24, li27, li30, li32, li39, li50, li51, li59, li60, li63, li75, li87, li90, li99, li100, li111, li121, li126, li131, li141, li150, li400, li900, li987, li1128, li240, i3_add, i3_toNat, vpt, bI_0, bI_1, bI_bo, Bool.not_eq_false, Bool.true_eq_false, Bool.false_eq_true, Bool.not_eq_true, i3_le', i3_lt', i3_eq', hp_sE_sA, hp_sA_sA, hp_E_sA, hp_T_sA, hp_N_sA, hp_R_sA, hp_I_sA, hp_T_sI, hp_N_sI, hp_R_sI, hp_E_sI, hp_I_sI, hp_sA_sI, hp_sI_sI, hg, h3]
  refine ⟨fun a1 => ct_i (c_fails h0) (qa_e (by unfold sq_trip; rw [if_neg (by rw [a1]; simp)])), fun a1 => ⟨fun a2 => ct_i (c_fails h0) (qa_e (by unfold sq_trip; rw [h3, if_neg (fun z => absurd z.2 (Int32.not_lt.mpr a2))])), fun a2 => ?_⟩⟩
  obtain ⟨r, hr, rfl⟩ := md_bt_9 a1
  have hrt : r < t := by
    rw [i3_le (by omega) (by omega)] at a2
    omega
  have hm : (t - 1 - r) % 10 < 10 := Nat.mod_lt _ (by omega)
  have e1 : i3 t - i3 1 - i3 r = i3 (t - 1 - r) := by rw [i3_sub' (by omega), i3_sub' (by omega)]
  rw [e1]
  simp (disch := omega) only [t0, r1, r2, r3, r4, r5, r6, r7, r8, t1, t2, t3, t4, t5, t6, t7, t8, n1, n2, n3, n4, n5, n6, n7, n8, z1, z2, z3, z4, z5, z6, z7, z8, forall_eq, Nat.reduceAdd, Nat.reduceMul, Nat.reduceEqDiff, Nat.reduceLeDiff, Nat.reduceSub, ne_eq, not_false_eq_true, not_true_eq_false, false_implies, true_implies, implies_true, true_and, and_true, eq_self, li0, li1, li2, li3, li4, li5, li6, li7, li8, li9, li10, li11, li12, li15, li18, li21, li22, li23, li24, li27, li30, li32, li39, li50, li51, li59, li60, li63, li75, li87, li90, li99, li100, li111, li121, li126, li131, li141, li150, li400, li900, li987, li1128, li240, i3_add, i3_toNat, vpt, bI_0, bI_1, bI_bo, Bool.not_eq_false, Bool.true_eq_false, Bool.false_eq_true, Bool.not_eq_true, i3_le', i3_lt', i3_eq', hp_sE_sA, hp_sA_sA, hp_E_sA, hp_T_sA, hp_N_sA, hp_R_sA, hp_I_sA, hp_T_sI, hp_N_sI, hp_R_sI, hp_E_sI, hp_I_sI, hp_sA_sI, hp_sI_sI, i3_mod (a := t - 1 - r) (b := 10) (by omega) (by omega), hg]
  refine ct_i (c_done h0) (qa_e ?_)
  unfold sq_trip
  rw [h3, if_pos ⟨a1, Int32.not_le.mp a2⟩, i3_toNat ht, i3_toNat (by omega)]
theorem c_tripNumber {G : am_Gx} {d : Nat} {M : am_Hp} {A : Nat → Nat} {g : md_R} {t : Nat} {v : Int32} (h : mL M A) (hg : hp_E M (A 1) = g) (h3 : g 3 = i3 t) (ht : t < 2147483648) : am_CT G (d + 3) rX7_tripNumber [.ref (A 0), .int v] M 0 0 (qa (sq_trip 111 g v) M A) := by
  refine am_intro mkX7_tripNumber rfl (Nat.le_of_ble_eq_true rfl) rfl (fun X hX hM => ?_)
  exact vX7_tripNumber_0 hX hM ⟨h.1, ct_i (c_logNumber (k := 111) h hg h3 ht (by omega)) ⟨rfl, rfl⟩⟩
theorem c_tripCar {G : am_Gx} {d : Nat} {M : am_Hp} {A : Nat → Nat} {g : md_R} {t : Nat} {v : Int32} (h : mL M A) (hg : hp_E M (A 1) = g) (h3 : g 3 = i3 t) (ht : t < 2147483648) : am_CT G (d + 3) rX7_tripCar [.ref (A 0), .int v] M 0 0 (qa (sq_trip 121 g v) M A) := by
  refine am_intro mkX7_tripCar rfl (Nat.le_of_ble_eq_true rfl) rfl (fun X hX hM => ?_)
  exact vX7_tripCar_0 hX hM ⟨h.1, ct_i (c_logNumber (k := 121) h hg h3 ht (by omega)) ⟨rfl, rfl⟩⟩
theorem c_tripWaiting {G : am_Gx} {d : Nat} {M : am_Hp} {A : Nat → Nat} {g : md_R} {t : Nat} {v : Int32} (h : mL M A) (hg : hp_E M (A 1) = g) (h3 : g 3 = i3 t) (ht : t < 2147483648) : am_CT G (d + 3) rX7_tripWaiting [.ref (A 0), .int v] M 0 0 (qa (sq_trip 131 g v) M A) := by
  refine am_intro mkX7_tripWaiting rfl (Nat.le_of_ble_eq_true rfl) rfl (fun X hX hM => ?_)
  exact vX7_tripWaiting_0 hX hM ⟨h.1, ct_i (c_logNumber (k := 131) h hg h3 ht (by omega)) ⟨rfl, rfl⟩⟩
/-- ranks -/
def md_ff (P : Nat → Bool) : Nat → Nat → md_Sq
  | 0, _ => (1, i3 0)
  | k + 1, j => if P j = true then (0, i3 j) else md_ff P k (j + 1)
def md_ah (g : md_R) (o p : Nat) : Bool := decide (i3 0 < g (75 + o) - g (75 + p)) || (decide (g (75 + o) - g (75 + p) = i3 0) && (decide (i3 0 < g (99 + p) - g (99 + o)) || (decide (g (99 + p) - g (99 + o) = i3 0) && decide (o < p))))
def md_cw (g : md_R) (p : Nat) : Int32 := md_sum (fun o => bI (md_ah g o p)) (md_n g)
def sq_pw (g : md_R) (v : Int32) : md_Sq := md_ff (fun p => decide (md_cw g p = v)) (md_n g) 0
theorem c_isAhead {G : am_Gx} {d : Nat} {M : am_Hp} {A : Nat → Nat} {g : md_R} {o p : Nat} (h : mL M A) (hg : hp_E M (A 1) = g) (ho : o < 12) (hp : p < 12) : am_CT G (d + 1) rX7_isAhead [.ref (A 0), .int (i3 o), .int (i3 p)] M 0 0 (qi (bI (md_ah g o p)) M) := by
  obtain ⟨t0, r1, r2, r3, r4, r5, r6, r7, r8, t1, t2, t3, t4, t5, t6, t7, t8, n1, n2, n3, n4, n5, n6, n7, n8, z1, z2, z3, z4, z5, z6, z7, z8, hJ⟩ := h
  refine am_intro mkX7_isAhead rfl (Nat.le_of_ble_eq_true rfl) rfl (fun X hX hM => ?_)
  refine vX7_isAhead_0 hX hM ?_
  simp (disch := omega) only [t0, r1, r2, r3, r4, r5, r6, r7, r8, t1, t2, t3, t4, t5, t6, t7, t8, n1, n2, n3, n4, n5, n6, n7, n8, z1, z2, z3, z4, z5, z6, z7, z8, forall_eq, Nat.reduceAdd, Nat.reduceMul, Nat.reduceEqDiff, Nat.reduceLeDiff, Nat.reduceSub, ne_eq, not_false_eq_true, not_true_eq_false, false_implies, true_implies, implies_true, true_and, and_true, eq_self, li0, li1, li2, li3, li4, li5, li6, li7, li8, li9, li10, li11, li12, li15, li18, li21, li22, li23, li24, li27, li30, li32, li39, li50, li51, li59, li60, li63, li75, li87, li90, li99, li100, li111, li121, li126, li131, li141, li150, li400, li900, li987, li1128, li240, i3_add, i3_toNat, vpt, bI_0, bI_1, bI_bo, Bool.not_eq_false, Bool.true_eq_false, Bool.false_eq_true, Bool.not_eq_true, i3_le', i3_lt', i3_eq', hp_sE_sA, hp_sA_sA, hp_E_sA, hp_T_sA, hp_N_sA, hp_R_sA, hp_I_sA, hp_T_sI, hp_N_sI, hp_R_sI, hp_E_sI, hp_I_sI, hp_sA_sI, hp_sI_sI, hg]
  unfold md_ah
  refine ⟨fun a1 => qT (by simp [a1]), fun a1 => ⟨fun a2 => ⟨fun a3 => qT (by simp [a2, a3]), fun a3 => ⟨fun a4 => ⟨fun a5 => qF (by simp [a1, a3, a5]), fun a5 => qT (by simp [a2, a4, Nat.lt_of_not_le a5])⟩, fun a4 => qF (by simp [a1, a3, a4])⟩⟩, fun a2 => qF (by simp [a1, a2])⟩⟩
theorem c_passengerByWaiting {G : am_Gx} {d : Nat} {M : am_Hp} {A : Nat → Nat} {g : md_R} {v : Int32} (h : mL M A) (hg : hp_E M (A 1) = g) (ok : md_ok g) : am_CT G (d + 3) rX7_passengerByWaiting [.ref (A 0), .int v] M 0 0 (qa (sq_pw g v) M A) := by
  have h0 := h
  obtain ⟨t0, r1, r2, r3, r4, r5, r6, r7, r8, t1, t2, t3, t4, t5, t6, t7, t8, n1, n2, n3, n4, n5, n6, n7, n8, z1, z2, z3, z4, z5, z6, z7, z8, hJ⟩ := h
  obtain ⟨e1, h12⟩ := ok
  refine am_intro mkX7_passengerByWaiting rfl (Nat.le_of_ble_eq_true rfl) rfl (fun X hX hM => ?_)
  have L : ∀ k j, j + k = md_n g → md_ff (fun p => decide (md_cw g p = v)) k j = sq_pw g v → am_J X 2 [(0, .ref (A 0)), (1, .int v), (2, .int (i3 j))] [] M 0 0 := by
    intro k
    induction k with
    | zero =>
      intro j hj he
      refine vX7_passengerByWaiting_2 hX hM (fun x0 x1 x2 x3 x4 M => am_J X 17 [(0, .ref x0), (1, .int x1), (2, .int x2), (3, .int x3), (4, .int x4)] [] M 0 0) (fun _ _ _ _ _ _ h => h) ?_
      simp (disch := omega) only [t0, r1, r2, r3, r4, r5, r6, r7, r8, t1, t2, t3, t4, t5, t6, t7, t8, n1, n2, n3, n4, n5, n6, n7, n8, z1, z2, z3, z4, z5, z6, z7, z8, forall_eq, Nat.reduceAdd, Nat.reduceMul, Nat.reduceEqDiff, Nat.reduceLeDiff, Nat.reduceSub, ne_eq, not_false_eq_true, not_true_eq_false, false_implies, true_implies, implies_true, true_and, and_true, eq_self, li0, li1, li2, li3, li4, li5, li6, li7, li8, li9, li10, li11, li12, li15, li18, li21, li22, li23, li24, li27, li30, li32, li39, li50, li51, li59, li60, li63, li75, li87, li90, li99, li100, li111, li121, li126, li131, li141, li150, li400, li900, li987, li1128, li240, i3_add, i3_toNat, vpt, bI_0, bI_1, bI_bo, Bool.not_eq_false, Bool.true_eq_false, Bool.false_eq_true, Bool.not_eq_true, i3_le', i3_lt', i3_eq', hp_sE_sA, hp_sA_sA, hp_E_sA, hp_T_sA, hp_N_sA, hp_R_sA, hp_I_sA, hp_T_sI, hp_N_sI, hp_R_sI, hp_E_sI, hp_I_sI, hp_sA_sI, hp_sI_sI, hg, e1]
      exact ⟨fun _ => ct_i (c_fails h0) (qa_e (by rw [← he]; rfl)), fun z => absurd (show md_n g ≤ j by omega) z⟩
    | succ k ih =>
      intro j hj he
      rw [md_ff] at he
      have L2 : ∀ q o, o + q = md_n g → am_J X 17 [(0, .ref (A 0)), (1, .int v), (2, .int (i3 j)), (3, .int (md_sum (fun o => bI (md_ah g o j)) o)), (4, .int (i3 o))] [] M 0 0 := by
        intro q
        induction q with
        | zero =>
          intro o hoq
          have e : o = md_n g := by omega
          refine vX7_passengerByWaiting_17 hX hM (fun x0 x1 x2 M => am_J X 2 [(0, .ref x0), (1, .int x1), (2, .int x2)] [] M 0 0) (fun _ _ _ _ h => h) (fun x0 x1 x2 x3 x4 M => am_J X 17 [(0, .ref x0), (1, .int x1), (2, .int x2), (3, .int x3), (4, .int x4)] [] M 0 0) (fun _ _ _ _ _ _ h => h) ?_
          simp (disch := omega) only [t0, r1, r2, r3, r4, r5, r6, r7, r8, t1, t2, t3, t4, t5, t6, t7, t8, n1, n2, n3, n4, n5, n6, n7, n8, z1, z2, z3, z4, z5, z6, z7, z8, forall_eq, Nat.reduceAdd, Nat.reduceMul, Nat.reduceEqDiff, Nat.reduceLeDiff, Nat.reduceSub, ne_eq, not_false_eq_true, not_true_eq_false, false_implies, true_implies, implies_true, true_and, and_true, eq_self, li0, li1, li2, li3, li4, li5, li6, li7, li8, li9, li10, li11, li12, li15, li18, li21, li22, li23, li24, li27, li30, li32, li39, li50, li51, li59, li60, li63, li75, li87, li90, li99, li100, li111, li121, li126, li131, li141, li150, li400, li900, li987, li1128, li240, i3_add, i3_toNat, vpt, bI_0, bI_1, bI_bo, Bool.not_eq_false, Bool.true_eq_false, Bool.false_eq_true, Bool.not_eq_true, i3_le', i3_lt', i3_eq', hp_sE_sA, hp_sA_sA, hp_E_sA, hp_T_sA, hp_N_sA, hp_R_sA, hp_I_sA, hp_T_sI, hp_N_sI, hp_R_sI, hp_E_sI, hp_I_sI, hp_sA_sI, hp_sI_sI, hg, e1]
          refine ⟨fun _ => ⟨fun a1 => ct_i (c_done h0) (qa_e ?_), fun a1 => ?_⟩, fun z => absurd (show md_n g ≤ o by omega) z⟩
          · rw [e] at a1
            rw [← he, if_pos (by rw [decide_eq_true_eq]; exact a1)]
          · rw [e] at a1
            rw [if_neg (by rw [decide_eq_true_eq]; exact a1)] at he
            exact ih (j + 1) (by omega) he
        | succ q ih2 =>
          intro o hoq
          have I := ih2 (o + 1) (by omega)
          rw [md_sum_s] at I
          refine vX7_passengerByWaiting_17 hX hM (fun x0 x1 x2 M => am_J X 2 [(0, .ref x0), (1, .int x1), (2, .int x2)] [] M 0 0) (fun _ _ _ _ h => h) (fun x0 x1 x2 x3 x4 M => am_J X 17 [(0, .ref x0), (1, .int x1), (2, .int x2), (3, .int x3), (4, .int x4)] [] M 0 0) (fun _ _ _ _ _ _ h => h) ?_
          simp (disch := omega) only [t0, r1, r2, r3, r4, r5, r6, r7, r8, t1, t2, t3, t4, t5, t6, t7, t8, n1, n2, n3, n4, n5, n6, n7, n8, z1, z2, z3, z4, z5, z6, z7, z8, forall_eq, Nat.reduceAdd, Nat.reduceMul, Nat.reduceEqDiff, Nat.reduceLeDiff, Nat.reduceSub, ne_eq, not_false_eq_true, not_true_eq_false, false_implies, true_implies, implies_true, true_and, and_true, eq_self, li0, li1, li2, li3, li4, li5, li6, li7, li8, li9, li10, li11, li12, li15, li18, li21, li22, li23, li24, li27, li30, li32, li39, li50, li51, li59, li60, li63, li75, li87, li90, li99, li100, li111, li121, li126, li131, li141, li150, li400, li900, li987, li1128, li240, i3_add, i3_toNat, vpt, bI_0, bI_1, bI_bo, Bool.not_eq_false, Bool.true_eq_false, Bool.false_eq_true, Bool.not_eq_true, i3_le', i3_lt', i3_eq', hp_sE_sA, hp_sA_sA, hp_E_sA, hp_T_sA, hp_N_sA, hp_R_sA, hp_I_sA, hp_T_sI, hp_N_sI, hp_R_sI, hp_E_sI, hp_I_sI, hp_sA_sI, hp_sI_sI, hg, e1]
          refine ⟨fun z => absurd z (by omega), fun _ => ct_i (c_isAhead h0 hg (by omega) (by omega)) ?_⟩
          simp (disch := omega) only [t0, r1, r2, r3, r4, r5, r6, r7, r8, t1, t2, t3, t4, t5, t6, t7, t8, n1, n2, n3, n4, n5, n6, n7, n8, z1, z2, z3, z4, z5, z6, z7, z8, forall_eq, Nat.reduceAdd, Nat.reduceMul, Nat.reduceEqDiff, Nat.reduceLeDiff, Nat.reduceSub, ne_eq, not_false_eq_true, not_true_eq_false, false_implies, true_implies, implies_true, true_and, and_true, eq_self, li0, li1, li2, li3, li4, li5, li6, li7, li8, li9, li10, li11, li12, li15, li18, li21, li22, li23, li24, li27, li30, li32, li39, li50, li51, li59, li60, li63, li75, li87, li90, li99, li100, li111, li121, li126, li131, li141, li150, li400, li900, li987, li1128, li240, i3_add, i3_toNat, vpt, bI_0, bI_1, bI_bo, Bool.not_eq_false, Bool.true_eq_false, Bool.false_eq_true, Bool.not_eq_true, i3_le', i3_lt', i3_eq', hp_sE_sA, hp_sA_sA, hp_E_sA, hp_T_sA, hp_N_sA, hp_R_sA, hp_I_sA, hp_T_sI, hp_N_sI, hp_R_sI, hp_E_sI, hp_I_sI, hp_sA_sI, hp_sI_sI]
          refine ⟨fun a1 => ?_, fun a1 => ?_⟩
          · rw [a1] at I
            exact I
          · rw [a1] at I
            exact I
      refine vX7_passengerByWaiting_2 hX hM (fun x0 x1 x2 x3 x4 M => am_J X 17 [(0, .ref x0), (1, .int x1), (2, .int x2), (3, .int x3), (4, .int x4)] [] M 0 0) (fun _ _ _ _ _ _ h => h) ?_
      simp (disch := omega) only [t0, r1, r2, r3, r4, r5, r6, r7, r8, t1, t2, t3, t4, t5, t6, t7, t8, n1, n2, n3, n4, n5, n6, n7, n8, z1, z2, z3, z4, z5, z6, z7, z8, forall_eq, Nat.reduceAdd, Nat.reduceMul, Nat.reduceEqDiff, Nat.reduceLeDiff, Nat.reduceSub, ne_eq, not_false_eq_true, not_true_eq_false, false_implies, true_implies, implies_true, true_and, and_true, eq_self, li0, li1, li2, li3, li4, li5, li6, li7, li8, li9, li10, li11, li12, li15, li18, li21, li22, li23, li24, li27, li30, li32, li39, li50, li51, li59, li60, li63, li75, li87, li90, li99, li100, li111, li121, li126, li131, li141, li150, li400, li900, li987, li1128, li240, i3_add, i3_toNat, vpt, bI_0, bI_1, bI_bo, Bool.not_eq_false, Bool.true_eq_false, Bool.false_eq_true, Bool.not_eq_true, i3_le', i3_lt', i3_eq', hp_sE_sA, hp_sA_sA, hp_E_sA, hp_T_sA, hp_N_sA, hp_R_sA, hp_I_sA, hp_T_sI, hp_N_sI, hp_R_sI, hp_E_sI, hp_I_sI, hp_sA_sI, hp_sI_sI, hg, e1]
      exact ⟨fun z => absurd z (by omega), fun _ => L2 (md_n g) 0 (by omega)⟩
  exact vX7_passengerByWaiting_0 hX hM (fun x0 x1 x2 M => am_J X 2 [(0, .ref x0), (1, .int x1), (2, .int x2)] [] M 0 0) (fun _ _ _ _ h => h) (L (md_n g) 0 (Nat.zero_add _) rfl)
def md_eh (g : md_R) (o c : Nat) : Bool := decide (i3 0 < g (24 + o) - g (24 + c)) || (decide (g (24 + o) - g (24 + c) = i3 0) && (decide (i3 0 < md_ld g o - md_ld g c) || (decide (md_ld g o - md_ld g c = i3 0) && decide (o < c))))
def md_ce (g : md_R) (c : Nat) : Int32 := md_sum (fun o => bI (md_eh g o c)) 3
def sq_ce (g : md_R) (v : Int32) : md_Sq := md_ff (fun c => decide (md_ce g c = v)) 3 0
theorem c_isCarAhead {G : am_Gx} {d : Nat} {M : am_Hp} {A : Nat → Nat} {g : md_R} {o p : Nat} (h : mL M A) (hg : hp_E M (A 1) = g) (ok : md_ok g) (ho : o < 3) (hp : p < 3) : am_CT G (d + 3) rX7_isCarAhead [.ref (A 0), .int (i3 o), .int (i3 p)] M 0 0 (qi (bI (md_eh g o p)) M) := by
  have h0 := h
  obtain ⟨t0, r1, r2, r3, r4, r5, r6, r7, r8, t1, t2, t3, t4, t5, t6, t7, t8, n1, n2, n3, n4, n5, n6, n7, n8, z1, z2, z3, z4, z5, z6, z7, z8, hJ⟩ := h
  refine am_intro mkX7_isCarAhead rfl (Nat.le_of_ble_eq_true rfl) rfl (fun X hX hM => ?_)
  refine vX7_isCarAhead_0 hX hM ?_
  simp (disch := omega) only [t0, r1, r2, r3, r4, r5, r6, r7, r8, t1, t2, t3, t4, t5, t6, t7, t8, n1, n2, n3, n4, n5, n6, n7, n8, z1, z2, z3, z4, z5, z6, z7, z8, forall_eq, Nat.reduceAdd, Nat.reduceMul, Nat.reduceEqDiff, Nat.reduceLeDiff, Nat.reduceSub, ne_eq, not_false_eq_true, not_true_eq_false, false_implies, true_implies, implies_true, true_and, and_true, eq_self, li0, li1, li2, li3, li4, li5, li6, li7, li8, li9, li10, li11, li12, li15, li18, li21, li22, li23, li24, li27, li30, li32, li39, li50, li51, li59, li60, li63, li75, li87, li90, li99, li100, li111, li121, li126, li131, li141, li150, li400, li900, li987, li1128, li240, i3_add, i3_toNat, vpt, bI_0, bI_1, bI_bo, Bool.not_eq_false, Bool.true_eq_false, Bool.false_eq_true, Bool.not_eq_true, i3_le', i3_lt', i3_eq', hp_sE_sA, hp_sA_sA, hp_E_sA, hp_T_sA, hp_N_sA, hp_R_sA, hp_I_sA, hp_T_sI, hp_N_sI, hp_R_sI, hp_E_sI, hp_I_sI, hp_sA_sI, hp_sI_sI, hg]
  refine ct_i (c_loadOf h0 hg ok) ⟨t0, ct_i (c_loadOf h0 hg ok) ?_⟩
  unfold md_eh
  refine ⟨fun a1 => qT (by simp [a1]), fun a1 => ⟨fun a2 => ⟨fun a3 => qT (by simp [a2, a3]), fun a3 => ⟨fun a4 => ⟨fun a5 => qF (by simp [a1, a3, a5]), fun a5 => qT (by simp [a2, a4, Nat.lt_of_not_le a5])⟩, fun a4 => qF (by simp [a1, a3, a4])⟩⟩, fun a2 => qF (by simp [a1, a2])⟩⟩
theorem c_carByEnergy {G : am_Gx} {d : Nat} {M : am_Hp} {A : Nat → Nat} {g : md_R} {v : Int32} (h : mL M A) (hg : hp_E M (A 1) = g) (ok : md_ok g) : am_CT G (d + 5) rX7_carByEnergy [.ref (A 0), .int v] M 0 0 (qa (sq_ce g v) M A) := by
  have h0 := h
  obtain ⟨t0, r1, r2, r3, r4, r5, r6, r7, r8, t1, t2, t3, t4, t5, t6, t7, t8, n1, n2, n3, n4, n5, n6, n7, n8, z1, z2, z3, z4, z5, z6, z7, z8, hJ⟩ := h
  refine am_intro mkX7_carByEnergy rfl (Nat.le_of_ble_eq_true rfl) rfl (fun X hX hM => ?_)
  have L : ∀ k j, j + k = 3 → md_ff (fun c => decide (md_ce g c = v)) k j = sq_ce g v → am_J X 2 [(0, .ref (A 0)), (1, .int v), (2, .int (i3 j))] [] M 0 0 := by
    intro k
    induction k with
    | zero =>
      intro j hj he
      have e : j = 3 := by omega
      subst e
      exact vX7_carByEnergy_2 hX hM (fun x0 x1 x2 x3 x4 M => am_J X 12 [(0, .ref x0), (1, .int x1), (2, .int x2), (3, .int x3), (4, .int x4)] [] M 0 0) (fun _ _ _ _ _ _ h => h) ⟨fun _ => ⟨t0, ct_i (c_fails h0) (qa_e (by rw [← he]; rfl))⟩, fun z => absurd (Int32.le_refl _) z⟩
    | succ k ih =>
      intro j hj he
      rw [md_ff] at he
      have L2 : ∀ q o, o + q = 3 → am_J X 12 [(0, .ref (A 0)), (1, .int v), (2, .int (i3 j)), (3, .int (md_sum (fun o => bI (md_eh g o j)) o)), (4, .int (i3 o))] [] M 0 0 := by
        intro q
        induction q with
        | zero =>
          intro o hoq
          have e : o = 3 := by omega
          subst e
          refine vX7_carByEnergy_12 hX hM (fun x0 x1 x2 M => am_J X 2 [(0, .ref x0), (1, .int x1), (2, .int x2)] [] M 0 0) (fun _ _ _ _ h => h) (fun x0 x1 x2 x3 x4 M => am_J X 12 [(0, .ref x0), (1, .int x1), (2, .int x2), (3, .int x3), (4, .int x4)] [] M 0 0) (fun _ _ _ _ _ _ h => h) ⟨fun _ => ⟨fun a1 => ⟨t0, ct_i (c_done h0) (qa_e ?_)⟩, fun a1 => ?_⟩, fun z => absurd (Int32.le_refl _) z⟩
          · rw [← he, if_pos (by rw [decide_eq_true_eq]; exact a1)]
          · rw [if_neg (by rw [decide_eq_true_eq]; exact a1)] at he
            rintro _ rfl
            rw [i3_one]
            exact ih (j + 1) (by omega) he
        | succ q ih2 =>
          intro o hoq
          have I := ih2 (o + 1) (by omega)
          rw [md_sum_s] at I
          refine vX7_carByEnergy_12 hX hM (fun x0 x1 x2 M => am_J X 2 [(0, .ref x0), (1, .int x1), (2, .int x2)] [] M 0 0) (fun _ _ _ _ h => h) (fun x0 x1 x2 x3 x4 M => am_J X 12 [(0, .ref x0), (1, .int x1), (2, .int x2), (3, .int x3), (4, .int x4)] [] M 0 0) (fun _ _ _ _ _ _ h => h) ?_
          simp (disch := omega) only [t0, r1, r2, r3, r4, r5, r6, r7, r8, t1, t2, t3, t4, t5, t6, t7, t8, n1, n2, n3, n4, n5, n6, n7, n8, z1, z2, z3, z4, z5, z6, z7, z8, forall_eq, Nat.reduceAdd, Nat.reduceMul, Nat.reduceEqDiff, Nat.reduceLeDiff, Nat.reduceSub, ne_eq, not_false_eq_true, not_true_eq_false, false_implies, true_implies, implies_true, true_and, and_true, eq_self, li0, li1, li2, li3, li4, li5, li6, li7, li8, li9, li10, li11, li12, li15, li18, li21, li22, li23, li24, li27, li30, li32, li39, li50, li51, li59, li60, li63, li75, li87, li90, li99, li100, li111, li121, li126, li131, li141, li150, li400, li900, li987, li1128, li240, i3_add, i3_toNat, vpt, bI_0, bI_1, bI_bo, Bool.not_eq_false, Bool.true_eq_false, Bool.false_eq_true, Bool.not_eq_true, i3_le', i3_lt', i3_eq', hp_sE_sA, hp_sA_sA, hp_E_sA, hp_T_sA, hp_N_sA, hp_R_sA, hp_I_sA, hp_T_sI, hp_N_sI, hp_R_sI, hp_E_sI, hp_I_sI, hp_sA_sI, hp_sI_sI]
          refine ⟨fun z => absurd z (by omega), fun _ => ct_i (c_isCarAhead h0 hg ok (by omega) (by omega)) ?_⟩
          simp (disch := omega) only [t0, r1, r2, r3, r4, r5, r6, r7, r8, t1, t2, t3, t4, t5, t6, t7, t8, n1, n2, n3, n4, n5, n6, n7, n8, z1, z2, z3, z4, z5, z6, z7, z8, forall_eq, Nat.reduceAdd, Nat.reduceMul, Nat.reduceEqDiff, Nat.reduceLeDiff, Nat.reduceSub, ne_eq, not_false_eq_true, not_true_eq_false, false_implies, true_implies, implies_true, true_and, and_true, eq_self, li0, li1, li2, li3, li4, li5, li6, li7, li8, li9, li10, li11, li12, li15, li18, li21, li22, li23, li24, li27, li30, li32, li39, li50, li51, li59, li60, li63, li75, li87, li90, li99, li100, li111, li121, li126, li131, li141, li150, li400, li900, li987, li1128, li240, i3_add, i3_toNat, vpt, bI_0, bI_1, bI_bo, Bool.not_eq_false, Bool.true_eq_false, Bool.false_eq_true, Bool.not_eq_true, i3_le', i3_lt', i3_eq', hp_sE_sA, hp_sA_sA, hp_E_sA, hp_T_sA, hp_N_sA, hp_R_sA, hp_I_sA, hp_T_sI, hp_N_sI, hp_R_sI, hp_E_sI, hp_I_sI, hp_sA_sI, hp_sI_sI]
          refine ⟨fun a1 => ?_, fun a1 => ?_⟩
          · rw [a1] at I
            exact I
          · rw [a1] at I
            exact I
      refine vX7_carByEnergy_2 hX hM (fun x0 x1 x2 x3 x4 M => am_J X 12 [(0, .ref x0), (1, .int x1), (2, .int x2), (3, .int x3), (4, .int x4)] [] M 0 0) (fun _ _ _ _ _ _ h => h) ⟨fun z => absurd ((i3_le (a := 3) (by omega) (by omega)).mp z) (by omega), fun _ => L2 3 0 (by omega)⟩
  exact vX7_carByEnergy_0 hX hM (fun x0 x1 x2 M => am_J X 2 [(0, .ref x0), (1, .int x1), (2, .int x2)] [] M 0 0) (fun _ _ _ _ h => h) (L 3 0 (by omega) rfl)
