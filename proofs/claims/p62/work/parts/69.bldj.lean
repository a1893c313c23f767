/-! .. what is refused; ranks and totals of the class; History */ -/
theorem md_bt_iff {b v c : Int32} : md_bt b v c = true ↔ b ≤ v ∧ v ≤ c := by
  unfold md_bt
  rw [Bool.and_eq_true, decide_eq_true_eq, decide_eq_true_eq]
/-- how a refusal is numbered: 1 no such index, 2 bad argument, 3 bad state, 4 not supported (0: allowed) -/
def rf_add (g : md_R) (s e w : Int32) : Nat := if md_fl s = true ∧ md_fl e = true ∧ s ≠ e ∧ md_iw w = true then (if md_n g = 12 then 3 else 0) else 2
def rf_rem (g : md_R) (v : Int32) : Nat := if md_ip g v = true then (if g (99 + v.toNatClampNeg) = i3 0 then 0 else 3) else 1
def rf_hold (g : md_R) (v s : Int32) : Nat := if md_ic v = true then (if md_bt (i3 1) s (i3 3) = true then (if g (18 + v.toNatClampNeg) ≤ i3 0 then 3 else 0) else 2) else 1
def rf_stop (g : md_R) (v : Int32) : Nat := if md_ic v = true then (if g (21 + v.toNatClampNeg) = i3 0 then 0 else 3) else 1
def rf_start (g : md_R) (v : Int32) : Nat := if md_ic v = true then (if g (21 + v.toNatClampNeg) = i3 0 then 3 else 0) else 1
def rf_limit (g : md_R) (v k : Int32) : Nat := if md_ic v = true then (if md_bt (i3 100) k (i3 900) = true then (if md_ld g v.toNatClampNeg ≤ k then 0 else 4) else 2) else 1
def rf_pass (v : Int32) : Nat := if md_bt (i3 1) v (i3 30) = true then 0 else 2
theorem qn {n k : Nat} {M : am_Hp} (h : n = k) : qi (i3 n) M (.inl (some (.int (i3 k)))) M := ⟨by rw [h], rfl⟩
theorem k_rfAdd {G : am_Gx} {d : Nat} {M : am_Hp} {B : Nat → Nat} {g : md_R} {s e w : Int32} (hR : bR M B g) (ok : md_ok g) : am_CT G (d + 2) rX0_refusalToAdd [.ref (B 0), .int s, .int e, .int w] M 0 0 (qi (i3 (rf_add g s e w)) M) := by
  have h12 := ok.2
  obtain ⟨b0, u0, u1, u2, s1, m1, s2, m2, s3, u4, u5, u6, s4, s5, s6, m4, m5, m6, y0, y1, y2, y3, y4, y5, y6, qc, tc, zc, tp, zp, i3_, i4_, i5_, i6_, i7_, i8_, i9_, f20, f21, f22, f23, f24, f25, f26, f27, e60, e61, e62, e63, e64, e65, e66, l3_, l4_, lx, ly, lz⟩ := bR_f hR ok
  refine am_intro mkX0_refusalToAdd rfl (Nat.le_of_ble_eq_true rfl) rfl (fun X hX hM => ?_)
  refine vX0_refusalToAdd_0 hX hM ?_
  refine ct_i k_isFloor ?_
  simp (disch := omega) only [forall_eq, Nat.reduceAdd, Nat.reduceMul, Nat.reduceEqDiff, Nat.reduceLeDiff, Nat.reduceSub, ne_eq, not_false_eq_true, not_true_eq_false, false_implies, true_implies, implies_true, true_and, and_true, eq_self, li0, li1, li2, li3, li4, li5, li6, li7, li8, li9, li10, li11, li12, li15, li18, li21, li22, li23, li24, li27, li30, li32, li39, li50, li51, li59, li60, li63, li75, li87, li90, li99, li100, li111, li121, li126, li131, li141, li150, li400, li900, li987, li1128, li240, i3_add, i3_toNat, vpt, bI_0, bI_1, bI_bo, Bool.not_eq_false, Bool.true_eq_false, Bool.false_eq_true, Bool.not_eq_true, i3_le', i3_lt', i3_eq']
  refine ⟨fun a1 => qn (by unfold rf_add; rw [if_neg (by rw [a1]; simp)]), fun a1 => ct_i k_isFloor ?_⟩
  simp (disch := omega) only [forall_eq, Nat.reduceAdd, Nat.reduceMul, Nat.reduceEqDiff, Nat.reduceLeDiff, Nat.reduceSub, ne_eq, not_false_eq_true, not_true_eq_false, false_implies, true_implies, implies_true, true_and, and_true, eq_self, li0, li1, li2, li3, li4, li5, li6, li7, li8, li9, li10, li11, li12, li15, li18, li21, li22, li23, li24, li27, li30, li32, li39, li50, li51, li59, li60, li63, li75, li87, li90, li99, li100, li111, li121, li126, li131, li141, li150, li400, li900, li987, li1128, li240, i3_add, i3_toNat, vpt, bI_0, bI_1, bI_bo, Bool.not_eq_false, Bool.true_eq_false, Bool.false_eq_true, Bool.not_eq_true, i3_le', i3_lt', i3_eq']
  refine ⟨fun a2 => qn (by unfold rf_add; rw [if_neg (by rw [a2]; simp)]), fun a2 => ⟨fun a3 => qn (by unfold rf_add; rw [if_neg (fun z => z.2.2.1 a3)]), fun a3 => ct_i k_isWeight ?_⟩⟩
  simp (disch := omega) only [forall_eq, Nat.reduceAdd, Nat.reduceMul, Nat.reduceEqDiff, Nat.reduceLeDiff, Nat.reduceSub, ne_eq, not_false_eq_true, not_true_eq_false, false_implies, true_implies, implies_true, true_and, and_true, eq_self, li0, li1, li2, li3, li4, li5, li6, li7, li8, li9, li10, li11, li12, li15, li18, li21, li22, li23, li24, li27, li30, li32, li39, li50, li51, li59, li60, li63, li75, li87, li90, li99, li100, li111, li121, li126, li131, li141, li150, li400, li900, li987, li1128, li240, i3_add, i3_toNat, vpt, bI_0, bI_1, bI_bo, Bool.not_eq_false, Bool.true_eq_false, Bool.false_eq_true, Bool.not_eq_true, i3_le', i3_lt', i3_eq', b0, i3_]
  refine ⟨fun a4 => qn (by unfold rf_add; rw [if_neg (by rw [a4]; simp)]), fun a4 => ⟨fun a5 => qn ?_, fun a5 => qn ?_⟩⟩
  · unfold rf_add
    rw [if_pos ⟨a1, a2, a3, a4⟩, if_pos (by omega)]
  · unfold rf_add
    rw [if_pos ⟨a1, a2, a3, a4⟩, if_neg (by omega)]
theorem k_rfRem {G : am_Gx} {d : Nat} {M : am_Hp} {B : Nat → Nat} {g : md_R} {v : Int32} (hR : bR M B g) (ok : md_ok g) : am_CT G (d + 2) rX0_refusalToRemove [.ref (B 0), .int v] M 0 0 (qi (i3 (rf_rem g v)) M) := by
  have h12 := ok.2
  have hR0 := hR
  have ok0 := ok
  obtain ⟨b0, u0, u1, u2, s1, m1, s2, m2, s3, u4, u5, u6, s4, s5, s6, m4, m5, m6, y0, y1, y2, y3, y4, y5, y6, qc, tc, zc, tp, zp, i3_, i4_, i5_, i6_, i7_, i8_, i9_, f20, f21, f22, f23, f24, f25, f26, f27, e60, e61, e62, e63, e64, e65, e66, l3_, l4_, lx, ly, lz⟩ := bR_f hR ok
  refine am_intro mkX0_refusalToRemove rfl (Nat.le_of_ble_eq_true rfl) rfl (fun X hX hM => ?_)
  refine vX0_refusalToRemove_0 hX hM ⟨b0, ct_i (k_isPassenger hR0 ok0) ?_⟩
  simp (disch := omega) only [forall_eq, Nat.reduceAdd, Nat.reduceMul, Nat.reduceEqDiff, Nat.reduceLeDiff, Nat.reduceSub, ne_eq, not_false_eq_true, not_true_eq_false, false_implies, true_implies, implies_true, true_and, and_true, eq_self, li0, li1, li2, li3, li4, li5, li6, li7, li8, li9, li10, li11, li12, li15, li18, li21, li22, li23, li24, li27, li30, li32, li39, li50, li51, li59, li60, li63, li75, li87, li90, li99, li100, li111, li121, li126, li131, li141, li150, li400, li900, li987, li1128, li240, i3_add, i3_toNat, vpt, bI_0, bI_1, bI_bo, Bool.not_eq_false, Bool.true_eq_false, Bool.false_eq_true, Bool.not_eq_true, i3_le', i3_lt', i3_eq']
  refine ⟨fun a1 => qn (by unfold rf_rem; rw [if_neg (by rw [a1]; decide)]), fun a1 => ?_⟩
  obtain ⟨p, hp, rfl⟩ := (md_ip_iff ok0).mp a1
  simp (disch := omega) only [b0, u0, u1, u2, s1, m1, s2, m2, s3, u4, u5, u6, s4, s5, s6, m4, m5, m6, y0, y1, y2, y3, y4, y5, y6, qc, tc, zc, tp, zp, i3_, i4_, i5_, i6_, i7_, i8_, i9_, f20, f21, f22, f23, f24, f25, f26, f27, e60, e61, e62, e63, e64, e65, e66, l3_, l4_, forall_eq, Nat.reduceAdd, Nat.reduceMul, Nat.reduceEqDiff, Nat.reduceLeDiff, Nat.reduceSub, ne_eq, not_false_eq_true, not_true_eq_false, false_implies, true_implies, implies_true, true_and, and_true, eq_self, li0, li1, li2, li3, li4, li5, li6, li7, li8, li9, li10, li11, li12, li15, li18, li21, li22, li23, li24, li27, li30, li32, li39, li50, li51, li59, li60, li63, li75, li87, li90, li99, li100, li111, li121, li126, li131, li141, li150, li400, li900, li987, li1128, li240, i3_add, i3_toNat, vpt, bI_0, bI_1, bI_bo, Bool.not_eq_false, Bool.true_eq_false, Bool.false_eq_true, Bool.not_eq_true, i3_le', i3_lt', i3_eq', hp_T_sI, hp_N_sI, hp_R_sI, hp_E_sI, hp_Q_sI, hp_I_sI, hp_I_sIu, hp_T_sQ, hp_N_sQ, hp_R_sQ, hp_E_sQ, hp_I_sQ, hp_T_sA, hp_N_sA, hp_R_sA, hp_I_sA, hp_Q_sA, hp_E_sA, hp_sE_sA]
  exact ⟨fun a2 => qn (by unfold rf_rem; rw [if_pos a1, i3_toNat (by omega), if_pos a2]), fun a2 => qn (by unfold rf_rem; rw [if_pos a1, i3_toNat (by omega), if_neg a2])⟩
theorem k_rfHold {G : am_Gx} {d : Nat} {M : am_Hp} {B : Nat → Nat} {g : md_R} {v s : Int32} (hR : bR M B g) (ok : md_ok g) : am_CT G (d + 2) rX0_refusalToHold [.ref (B 0), .int v, .int s] M 0 0 (qi (i3 (rf_hold g v s)) M) := by
  obtain ⟨b0, u0, u1, u2, s1, m1, s2, m2, s3, u4, u5, u6, s4, s5, s6, m4, m5, m6, y0, y1, y2, y3, y4, y5, y6, qc, tc, zc, tp, zp, i3_, i4_, i5_, i6_, i7_, i8_, i9_, f20, f21, f22, f23, f24, f25, f26, f27, e60, e61, e62, e63, e64, e65, e66, l3_, l4_, lx, ly, lz⟩ := bR_f hR ok
  refine am_intro mkX0_refusalToHold rfl (Nat.le_of_ble_eq_true rfl) rfl (fun X hX hM => ?_)
  refine vX0_refusalToHold_0 hX hM (ct_i k_isCar ?_)
  simp (disch := omega) only [forall_eq, Nat.reduceAdd, Nat.reduceMul, Nat.reduceEqDiff, Nat.reduceLeDiff, Nat.reduceSub, ne_eq, not_false_eq_true, not_true_eq_false, false_implies, true_implies, implies_true, true_and, and_true, eq_self, li0, li1, li2, li3, li4, li5, li6, li7, li8, li9, li10, li11, li12, li15, li18, li21, li22, li23, li24, li27, li30, li32, li39, li50, li51, li59, li60, li63, li75, li87, li90, li99, li100, li111, li121, li126, li131, li141, li150, li400, li900, li987, li1128, li240, i3_add, i3_toNat, vpt, bI_0, bI_1, bI_bo, Bool.not_eq_false, Bool.true_eq_false, Bool.false_eq_true, Bool.not_eq_true, i3_le', i3_lt', i3_eq']
  refine ⟨fun a1 => qn (by unfold rf_hold; rw [if_neg (by rw [a1]; decide)]), fun a1 => ⟨fun a2 => qn ?_, fun a2 => ⟨fun a3 => ?_, fun a3 => qn ?_⟩⟩⟩
  · unfold rf_hold
    rw [if_pos a1, if_neg (fun z => absurd (md_bt_iff.mp z).1 (Int32.not_le.mpr a2))]
  · obtain ⟨c, hc, rfl⟩ := md_ic_iff.mp a1
    have hb : md_bt (i3 1) s (i3 3) = true := md_bt_iff.mpr ⟨Int32.not_lt.mp a2, a3⟩
    simp (disch := omega) only [b0, u0, u1, u2, s1, m1, s2, m2, s3, u4, u5, u6, s4, s5, s6, m4, m5, m6, y0, y1, y2, y3, y4, y5, y6, qc, tc, zc, tp, zp, i3_, i4_, i5_, i6_, i7_, i8_, i9_, f20, f21, f22, f23, f24, f25, f26, f27, e60, e61, e62, e63, e64, e65, e66, l3_, l4_, forall_eq, Nat.reduceAdd, Nat.reduceMul, Nat.reduceEqDiff, Nat.reduceLeDiff, Nat.reduceSub, ne_eq, not_false_eq_true, not_true_eq_false, false_implies, true_implies, implies_true, true_and, and_true, eq_self, li0, li1, li2, li3, li4, li5, li6, li7, li8, li9, li10, li11, li12, li15, li18, li21, li22, li23, li24, li27, li30, li32, li39, li50, li51, li59, li60, li63, li75, li87, li90, li99, li100, li111, li121, li126, li131, li141, li150, li400, li900, li987, li1128, li240, i3_add, i3_toNat, vpt, bI_0, bI_1, bI_bo, Bool.not_eq_false, Bool.true_eq_false, Bool.false_eq_true, Bool.not_eq_true, i3_le', i3_lt', i3_eq', hp_T_sI, hp_N_sI, hp_R_sI, hp_E_sI, hp_Q_sI, hp_I_sI, hp_I_sIu, hp_T_sQ, hp_N_sQ, hp_R_sQ, hp_E_sQ, hp_I_sQ, hp_T_sA, hp_N_sA, hp_R_sA, hp_I_sA, hp_Q_sA, hp_E_sA, hp_sE_sA]
    exact ⟨fun a4 => qn (by unfold rf_hold; rw [if_pos a1, if_pos hb, i3_toNat (by omega), if_pos a4]), fun a4 => qn (by unfold rf_hold; rw [if_pos a1, if_pos hb, i3_toNat (by omega), if_neg a4])⟩
  · unfold rf_hold
    rw [if_pos a1, if_neg (fun z => a3 (md_bt_iff.mp z).2)]
theorem k_rfStop {G : am_Gx} {d : Nat} {M : am_Hp} {B : Nat → Nat} {g : md_R} {v : Int32} (hR : bR M B g) (ok : md_ok g) : am_CT G (d + 2) rX0_refusalToStop [.ref (B 0), .int v] M 0 0 (qi (i3 (rf_stop g v)) M) := by
  obtain ⟨b0, u0, u1, u2, s1, m1, s2, m2, s3, u4, u5, u6, s4, s5, s6, m4, m5, m6, y0, y1, y2, y3, y4, y5, y6, qc, tc, zc, tp, zp, i3_, i4_, i5_, i6_, i7_, i8_, i9_, f20, f21, f22, f23, f24, f25, f26, f27, e60, e61, e62, e63, e64, e65, e66, l3_, l4_, lx, ly, lz⟩ := bR_f hR ok
  refine am_intro mkX0_refusalToStop rfl (Nat.le_of_ble_eq_true rfl) rfl (fun X hX hM => ?_)
  refine vX0_refusalToStop_0 hX hM (ct_i k_isCar ?_)
  simp (disch := omega) only [forall_eq, Nat.reduceAdd, Nat.reduceMul, Nat.reduceEqDiff, Nat.reduceLeDiff, Nat.reduceSub, ne_eq, not_false_eq_true, not_true_eq_false, false_implies, true_implies, implies_true, true_and, and_true, eq_self, li0, li1, li2, li3, li4, li5, li6, li7, li8, li9, li10, li11, li12, li15, li18, li21, li22, li23, li24, li27, li30, li32, li39, li50, li51, li59, li60, li63, li75, li87, li90, li99, li100, li111, li121, li126, li131, li141, li150, li400, li900, li987, li1128, li240, i3_add, i3_toNat, vpt, bI_0, bI_1, bI_bo, Bool.not_eq_false, Bool.true_eq_false, Bool.false_eq_true, Bool.not_eq_true, i3_le', i3_lt', i3_eq']
  refine ⟨fun a1 => qn (by unfold rf_stop; rw [if_neg (by rw [a1]; decide)]), fun a1 => ?_⟩
  obtain ⟨c, hc, rfl⟩ := md_ic_iff.mp a1
  simp (disch := omega) only [b0, u0, u1, u2, s1, m1, s2, m2, s3, u4, u5, u6, s4, s5, s6, m4, m5, m6, y0, y1, y2, y3, y4, y5, y6, qc, tc, zc, tp, zp, i3_, i4_, i5_, i6_, i7_, i8_, i9_, f20, f21, f22, f23, f24, f25, f26, f27, e60, e61, e62, e63, e64, e65, e66, l3_, l4_, forall_eq, Nat.reduceAdd, Nat.reduceMul, Nat.reduceEqDiff, Nat.reduceLeDiff, Nat.reduceSub, ne_eq, not_false_eq_true, not_true_eq_false, false_implies, true_implies, implies_true, true_and, and_true, eq_self, li0, li1, li2, li3, li4, li5, li6, li7, li8, li9, li10, li11, li12, li15, li18, li21, li22, li23, li24, li27, li30, li32, li39, li50, li51, li59, li60, li63, li75, li87, li90, li99, li100, li111, li121, li126, li131, li141, li150, li400, li900, li987, li1128, li240, i3_add, i3_toNat, vpt, bI_0, bI_1, bI_bo, Bool.not_eq_false, Bool.true_eq_false, Bool.false_eq_true, Bool.not_eq_true, i3_le', i3_lt', i3_eq', hp_T_sI, hp_N_sI, hp_R_sI, hp_E_sI, hp_Q_sI, hp_I_sI, hp_I_sIu, hp_T_sQ, hp_N_sQ, hp_R_sQ, hp_E_sQ, hp_I_sQ, hp_T_sA, hp_N_sA, hp_R_sA, hp_I_sA, hp_Q_sA, hp_E_sA, hp_sE_sA]
  exact ⟨fun a2 => qn (by unfold rf_stop; rw [if_pos a1, i3_toNat (by omega), if_neg (by simpa using a2)]), fun a2 => qn (by unfold rf_stop; rw [if_pos a1, i3_toNat (by omega), if_pos (by simpa using a2)])⟩
theorem k_rfStart {G : am_Gx} {d : Nat} {M : am_Hp} {B : Nat → Nat} {g : md_R} {v : Int32} (hR : bR M B g) (ok : md_ok g) : am_CT G (d + 2) rX0_refusalToStart [.ref (B 0), .int v] M 0 0 (qi (i3 (rf_start g v)) M) := by
  obtain ⟨b0, u0, u1, u2, s1, m1, s2, m2, s3, u4, u5, u6, s4, s5, s6, m4, m5, m6, y0, y1, y2, y3, y4, y5, y6, qc, tc, zc, tp, zp, i3_, i4_, i5_, i6_, i7_, i8_, i9_, f20, f21, f22, f23, f24, f25, f26, f27, e60, e61, e62, e63, e64, e65, e66, l3_, l4_, lx, ly, lz⟩ := bR_f hR ok
  refine am_intro mkX0_refusalToStart rfl (Nat.le_of_ble_eq_true rfl) rfl (fun X hX hM => ?_)
  refine vX0_refusalToStart_0 hX hM (ct_i k_isCar ?_)
  simp (disch := omega) only [forall_eq, Nat.reduceAdd, Nat.reduceMul, Nat.reduceEqDiff, Nat.reduceLeDiff, Nat.reduceSub, ne_eq, not_false_eq_true, not_true_eq_false, false_implies, true_implies, implies_true, true_and, and_true, eq_self, li0, li1, li2, li3, li4, li5, li6, li7, li8, li9, li10, li11, li12, li15, li18, li21, li22, li23, li24, li27, li30, li32, li39, li50, li51, li59, li60, li63, li75, li87, li90, li99, li100, li111, li121, li126, li131, li141, li150, li400, li900, li987, li1128, li240, i3_add, i3_toNat, vpt, bI_0, bI_1, bI_bo, Bool.not_eq_false, Bool.true_eq_false, Bool.false_eq_true, Bool.not_eq_true, i3_le', i3_lt', i3_eq']
  refine ⟨fun a1 => qn (by unfold rf_start; rw [if_neg (by rw [a1]; decide)]), fun a1 => ?_⟩
  obtain ⟨c, hc, rfl⟩ := md_ic_iff.mp a1
  simp (disch := omega) only [b0, u0, u1, u2, s1, m1, s2, m2, s3, u4, u5, u6, s4, s5, s6, m4, m5, m6, y0, y1, y2, y3, y4, y5, y6, qc, tc, zc, tp, zp, i3_, i4_, i5_, i6_, i7_, i8_, i9_, f20, f21, f22, f23, f24, f25, f26, f27, e60, e61, e62, e63, e64, e65, e66, l3_, l4_, forall_eq, Nat.reduceAdd, Nat.reduceMul, Nat.reduceEqDiff, Nat.reduceLeDiff, Nat.reduceSub, ne_eq, not_false_eq_true, not_true_eq_false, false_implies, true_implies, implies_true, true_and, and_true, eq_self, li0, li1, li2, li3, li4, li5, li6, li7, li8, li9, li10, li11, li12, li15, li18, li21, li22, li23, li24, li27, li30, li32, li39, li50, li51, li59, li60, li63, li75, li87, li90, li99, li100, li111, li121, li126, li131, li141, li150, li400, li900, li987, li1128, li240, i3_add, i3_toNat, vpt, bI_0, bI_1, bI_bo, Bool.not_eq_false, Bool.true_eq_false, Bool.false_eq_true, Bool.not_eq_true, i3_le', i3_lt', i3_eq', hp_T_sI, hp_N_sI, hp_R_sI, hp_E_sI, hp_Q_sI, hp_I_sI, hp_I_sIu, hp_T_sQ, hp_N_sQ, hp_R_sQ, hp_E_sQ, hp_I_sQ, hp_T_sA, hp_N_sA, hp_R_sA, hp_I_sA, hp_Q_sA, hp_E_sA, hp_sE_sA]
  exact ⟨fun a2 => qn (by unfold rf_start; rw [if_pos a1, i3_toNat (by omega), if_neg (by simpa using a2)]), fun a2 => qn (by unfold rf_start; rw [if_pos a1, i3_toNat (by omega), if_pos (by simpa using a2)])⟩
theorem k_rfLimit {G : am_Gx} {d : Nat} {M : am_Hp} {B : Nat → Nat} {g : md_R} {v s : Int32} (hR : bR M B g) (ok : md_ok g) : am_CT G (d + 2) rX0_refusalToLimit [.ref (B 0), .int v, .int s] M 0 0 (qi (i3 (rf_limit g v s)) M) := by
  obtain ⟨b0, u0, u1, u2, s1, m1, s2, m2, s3, u4, u5, u6, s4, s5, s6, m4, m5, m6, y0, y1, y2, y3, y4, y5, y6, qc, tc, zc, tp, zp, i3_, i4_, i5_, i6_, i7_, i8_, i9_, f20, f21, f22, f23, f24, f25, f26, f27, e60, e61, e62, e63, e64, e65, e66, l3_, l4_, lx, ly, lz⟩ := bR_f hR ok
  refine am_intro mkX0_refusalToLimit rfl (Nat.le_of_ble_eq_true rfl) rfl (fun X hX hM => ?_)
  refine vX0_refusalToLimit_0 hX hM (ct_i k_isCar ?_)
  simp (disch := omega) only [forall_eq, Nat.reduceAdd, Nat.reduceMul, Nat.reduceEqDiff, Nat.reduceLeDiff, Nat.reduceSub, ne_eq, not_false_eq_true, not_true_eq_false, false_implies, true_implies, implies_true, true_and, and_true, eq_self, li0, li1, li2, li3, li4, li5, li6, li7, li8, li9, li10, li11, li12, li15, li18, li21, li22, li23, li24, li27, li30, li32, li39, li50, li51, li59, li60, li63, li75, li87, li90, li99, li100, li111, li121, li126, li131, li141, li150, li400, li900, li987, li1128, li240, i3_add, i3_toNat, vpt, bI_0, bI_1, bI_bo, Bool.not_eq_false, Bool.true_eq_false, Bool.false_eq_true, Bool.not_eq_true, i3_le', i3_lt', i3_eq']
  refine ⟨fun a1 => qn (by unfold rf_limit; rw [if_neg (by rw [a1]; decide)]), fun a1 => ⟨fun a2 => qn ?_, fun a2 => ⟨fun a3 => ?_, fun a3 => qn ?_⟩⟩⟩
  · unfold rf_limit
    rw [if_pos a1, if_neg (fun z => absurd (md_bt_iff.mp z).1 (Int32.not_le.mpr a2))]
  · obtain ⟨c, hc, rfl⟩ := md_ic_iff.mp a1
    have hb : md_bt (i3 100) s (i3 900) = true := md_bt_iff.mpr ⟨Int32.not_lt.mp a2, a3⟩
    simp (disch := omega) only [b0, u0, u1, u2, s1, m1, s2, m2, s3, u4, u5, u6, s4, s5, s6, m4, m5, m6, y0, y1, y2, y3, y4, y5, y6, qc, tc, zc, tp, zp, i3_, i4_, i5_, i6_, i7_, i8_, i9_, f20, f21, f22, f23, f24, f25, f26, f27, e60, e61, e62, e63, e64, e65, e66, l3_, l4_, forall_eq, Nat.reduceAdd, Nat.reduceMul, Nat.reduceEqDiff, Nat.reduceLeDiff, Nat.reduceSub, ne_eq, not_false_eq_true, not_true_eq_false, false_implies, true_implies, implies_true, true_and, and_true, eq_self, li0, li1, li2, li3, li4, li5, li6, li7, li8, li9, li10, li11, li12, li15, li18, li21, li22, li23, li24, li27, li30, li32, li39, li50, li51, li59, li60, li63, li75, li87, li90, li99, li100, li111, li121, li126, li131, li141, li150, li400, li900, li987, li1128, li240, i3_add, i3_toNat, vpt, bI_0, bI_1, bI_bo, Bool.not_eq_false, Bool.true_eq_false, Bool.false_eq_true, Bool.not_eq_true, i3_le', i3_lt', i3_eq', hp_T_sI, hp_N_sI, hp_R_sI, hp_E_sI, hp_Q_sI, hp_I_sI, hp_I_sIu, hp_T_sQ, hp_N_sQ, hp_R_sQ, hp_E_sQ, hp_I_sQ, hp_T_sA, hp_N_sA, hp_R_sA, hp_I_sA, hp_Q_sA, hp_E_sA, hp_sE_sA]
    exact ⟨fun a4 => qn (by unfold rf_limit; rw [if_pos a1, if_pos hb, i3_toNat (by omega), if_pos a4]), fun a4 => qn (by unfold rf_limit; rw [if_pos a1, if_pos hb, i3_toNat (by omega), if_neg a4])⟩
  · unfold rf_limit
    rw [if_pos a1, if_neg (fun z => a3 (md_bt_iff.mp z).2)]
theorem k_rfPass {G : am_Gx} {d : Nat} {M : am_Hp} {B : Nat → Nat} {v : Int32} : am_CT G (d + 1) rX0_refusalToPass [.ref (B 0), .int v] M 0 0 (qi (i3 (rf_pass v)) M) := by
  refine am_intro mkX0_refusalToPass rfl (Nat.le_of_ble_eq_true rfl) rfl (fun X hX hM => ?_)
  refine vX0_refusalToPass_0 hX hM ⟨fun a2 => qn ?_, fun a2 => ⟨fun a3 => qn ?_, fun a3 => qn ?_⟩⟩
  · unfold rf_pass
    rw [if_neg (show ¬ md_bt (i3 1) v (i3 30) = true from fun z => absurd (md_bt_iff.mp z).1 (Int32.not_le.mpr a2))]
  · unfold rf_pass
    rw [if_neg (show ¬ md_bt (i3 1) v (i3 30) = true from fun z => absurd (md_bt_iff.mp z).2 (Int32.not_le.mpr a3))]
  · unfold rf_pass
    rw [if_pos (show md_bt (i3 1) v (i3 30) = true from md_bt_iff.mpr ⟨Int32.not_lt.mp a2, Int32.not_lt.mp a3⟩)]
/-! totals -/
theorem k_sum {G : am_Gx} {d : Nat} {M : am_Hp} {B : Nat → Nat} {g : md_R} (hR : bR M B g) (ok : md_ok g) : am_CT G (d + 1) rX0_sumOfAccounts [.ref (B 0)] M 0 0 (ql (md_te g) M) := by
  obtain ⟨b0, u0, u1, u2, s1, m1, s2, m2, s3, u4, u5, u6, s4, s5, s6, m4, m5, m6, y0, y1, y2, y3, y4, y5, y6, qc, tc, zc, tp, zp, i3_, i4_, i5_, i6_, i7_, i8_, i9_, f20, f21, f22, f23, f24, f25, f26, f27, e60, e61, e62, e63, e64, e65, e66, l3_, l4_, lx, ly, lz⟩ := bR_f hR ok
  refine am_intro mkX0_sumOfAccounts rfl (Nat.le_of_ble_eq_true rfl) rfl (fun X hX hM => ?_)
  have step : ∀ j s, j < 3 → am_J X 4 [(0, .ref (B 0)), (1, .long (s + (g (24 + j)).toInt64)), (3, .int (i3 (j + 1)))] [] M 0 0 → am_J X 4 [(0, .ref (B 0)), (1, .long s), (3, .int (i3 j))] [] M 0 0 := fun j s hj I => by
    refine vX0_sumOfAccounts_4 hX hM (fun x0 x1 x3 M => am_J X 4 [(0, .ref x0), (1, .long x1), (3, .int x3)] [] M 0 0) (fun _ _ _ _ h => h) ?_
    simp (disch := omega) only [b0, u0, u1, u2, s1, m1, s2, m2, s3, u4, u5, u6, s4, s5, s6, m4, m5, m6, y0, y1, y2, y3, y4, y5, y6, qc, tc, zc, tp, zp, i3_, i4_, i5_, i6_, i7_, i8_, i9_, f20, f21, f22, f23, f24, f25, f26, f27, e60, e61, e62, e63, e64, e65, e66, l3_, l4_, forall_eq, Nat.reduceAdd, Nat.reduceMul, Nat.reduceEqDiff, Nat.reduceLeDiff, Nat.reduceSub, ne_eq, not_false_eq_true, not_true_eq_false, false_implies, true_implies, implies_true, true_and, and_true, eq_self, li0, li1, li2, li3, li4, li5, li6, li7, li8, li9, li10, li11, li12, li15, li18, li21, li22, li23, li24, li27, li30, li32, li39, li50, li51, li59, li60, li63, li75, li87, li90, li99, li100, li111, li121, li126, li131, li141, li150, li400, li900, li987, li1128, li240, i3_add, i3_toNat, vpt, bI_0, bI_1, bI_bo, Bool.not_eq_false, Bool.true_eq_false, Bool.false_eq_true, Bool.not_eq_true, i3_le', i3_lt', i3_eq', hp_T_sI, hp_N_sI, hp_R_sI, hp_E_sI, hp_Q_sI, hp_I_sI, hp_I_sIu, hp_T_sQ, hp_N_sQ, hp_R_sQ, hp_E_sQ, hp_I_sQ, hp_T_sA, hp_N_sA, hp_R_sA, hp_I_sA, hp_Q_sA, hp_E_sA, hp_sE_sA]
    exact ⟨fun z => absurd z (by omega), fun _ => I⟩
  refine vX0_sumOfAccounts_0 hX hM (fun x0 x1 x3 M => am_J X 4 [(0, .ref x0), (1, .long x1), (3, .int x3)] [] M 0 0) (fun _ _ _ _ h => h) (step 0 0 (by omega) (step 1 _ (by omega) (step 2 _ (by omega) ?_)))
  refine vX0_sumOfAccounts_4 hX hM (fun x0 x1 x3 M => am_J X 4 [(0, .ref x0), (1, .long x1), (3, .int x3)] [] M 0 0) (fun _ _ _ _ h => h) ⟨fun _ => ⟨?_, rfl⟩, fun z => absurd (Int32.le_refl _) z⟩
  rw [Int64.zero_add]
  rfl
theorem k_moves {G : am_Gx} {d : Nat} {M : am_Hp} {B : Nat → Nat} {g : md_R} (hR : bR M B g) (ok : md_ok g) : am_CT G (d + 1) rX0_energyOfMoves [.ref (B 0)] M 0 0 (ql (md_tm g) M) := by
  obtain ⟨b0, u0, u1, u2, s1, m1, s2, m2, s3, u4, u5, u6, s4, s5, s6, m4, m5, m6, y0, y1, y2, y3, y4, y5, y6, qc, tc, zc, tp, zp, i3_, i4_, i5_, i6_, i7_, i8_, i9_, f20, f21, f22, f23, f24, f25, f26, f27, e60, e61, e62, e63, e64, e65, e66, l3_, l4_, lx, ly, lz⟩ := bR_f hR ok
  refine am_intro mkX0_energyOfMoves rfl (Nat.le_of_ble_eq_true rfl) rfl (fun X hX hM => ?_)
  refine vX0_energyOfMoves_0 hX hM ⟨b0, ?_⟩
  rw [i6_, i7_, i8_, i9_]
  exact ⟨rfl, rfl⟩
/-! ranks -/
theorem md_dif {a b : Nat} (ha : a < 1073741824) (hb : b < 1073741824) : decide (i3 0 < i3 a - i3 b) = decide (b < a) ∧ decide (i3 a - i3 b = i3 0) = decide (a = b) ∧ (i3 a = i3 b ↔ a = b) ∧ decide (i3 b < i3 a) = decide (b < a) := by
  have hs : (i3 0 < i3 a - i3 b ↔ b < a) ∧ (i3 a - i3 b = i3 0 ↔ a = b) := by
    by_cases h : b ≤ a
    · rw [i3_sub' h, i3_lt (by omega) (by omega), i3_eq (by omega) (by omega)]
      omega
    · have e : (i3 a - i3 b).toInt = (a : Int) - b := by
        rw [Int32.toInt_sub, i3_toInt (by omega), i3_toInt (by omega)]
        exact Int.bmod_eq_of_le (by omega) (by omega)
      rw [Int32.lt_iff_toInt_lt, ← Int32.toInt_inj, e]
      have e0 : (i3 0).toInt = 0 := rfl
      rw [e0]
      omega
  exact ⟨decide_eq_decide.mpr hs.1, decide_eq_decide.mpr hs.2, i3_eq (by omega) (by omega), decide_eq_decide.mpr (i3_lt (by omega) (by omega))⟩
theorem md_ah_aux {a b : Nat} {x y : Int32} {L : Bool} (ha : a < 1073741824) (hb : b < 1073741824) (hx : x = 0 ∨ x = 1) (hy : y = 0 ∨ y = 1) : (decide (i3 0 < i3 a - i3 b) || (decide (i3 a - i3 b = i3 0) && (decide (i3 0 < y - x) || (decide (y - x = i3 0) && L)))) = if i3 a = i3 b then (if x = y then L else decide (y = i3 1)) else decide (i3 b < i3 a) := by
  obtain ⟨e1, e2, e3, e4⟩ := md_dif ha hb
  rw [e1, e2, e4]
  rcases Nat.lt_trichotomy a b with q | q | q
  · rw [if_neg (fun z => absurd (e3.mp z) (by omega))]
    simp [show ¬ b < a by omega, show ¬ a = b by omega]
  · rw [if_pos (e3.mpr q)]
    subst q
    rcases hx with rfl | rfl <;> rcases hy with rfl | rfl <;> cases L <;> simp <;> decide
  · rw [if_neg (fun z => absurd (e3.mp z) (by omega))]
    simp [q]
theorem md_eh_aux {a b c d : Nat} {L : Bool} (ha : a < 1073741824) (hb : b < 1073741824) (hc : c < 1073741824) (hd : d < 1073741824) : (decide (i3 0 < i3 a - i3 b) || (decide (i3 a - i3 b = i3 0) && (decide (i3 0 < i3 c - i3 d) || (decide (i3 c - i3 d = i3 0) && L)))) = if i3 a = i3 b then (if i3 c = i3 d then L else decide (i3 d < i3 c)) else decide (i3 b < i3 a) := by
  obtain ⟨e1, e2, e3, e4⟩ := md_dif ha hb
  obtain ⟨f1, f2, f3, f4⟩ := md_dif hc hd
  rw [e1, e2, e4, f1, f2, f4]
  rcases Nat.lt_trichotomy a b with q | q | q
  · rw [if_neg (fun z => absurd (e3.mp z) (by omega))]
    simp [show ¬ b < a by omega, show ¬ a = b by omega]
  · rw [if_pos (e3.mpr q)]
    rcases Nat.lt_trichotomy c d with r | r | r
    · rw [if_neg (fun z => absurd (f3.mp z) (by omega))]
      simp [q, show ¬ d < c by omega, show ¬ c = d by omega]
    · rw [if_pos (f3.mpr r)]
      simp [q, r]
    · rw [if_neg (fun z => absurd (f3.mp z) (by omega))]
      simp [q, r]
  · rw [if_neg (fun z => absurd (e3.mp z) (by omega))]
    simp [q]
theorem md_ah_cls {T : Nat} {g : md_R} {o p : Nat} (hw : md_wf T g) (hT : T < 1000000000) (ho : o < md_n g) (hp : p < md_n g) : md_ah g o p = if g (75 + o) = g (75 + p) then (if g (99 + o) = g (99 + p) then decide (o < p) else decide (g (99 + p) = i3 1)) else decide (g (75 + p) < g (75 + o)) := by
  obtain ⟨-, -, -, ⟨a, a1, a2⟩, -, a6, -⟩ := hw.2.2.1 o ho
  obtain ⟨-, -, -, ⟨b, b1, b2⟩, -, b6, -⟩ := hw.2.2.1 p hp
  unfold md_ah
  rw [a2, b2]
  exact md_ah_aux (by omega) (by omega) a6 b6
