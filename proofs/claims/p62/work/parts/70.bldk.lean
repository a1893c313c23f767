/-! .. ranks of the class, its checks, what it performs -/
theorem md_eh_cls {T : Nat} {g : md_R} {o p : Nat} (hw : md_wf T g) (hT : T < 1000000000) (ho : o < 3) (hp : p < 3) : md_eh g o p = if g (24 + o) = g (24 + p) then (if md_ld g o = md_ld g p then decide (o < p) else decide (md_ld g p < md_ld g o)) else decide (g (24 + p) < g (24 + o)) := by
  obtain ⟨-, -, -, -, -, ⟨a, a1, a2⟩⟩ := hw.2.1 o ho
  obtain ⟨-, -, -, -, -, ⟨b, b1, b2⟩⟩ := hw.2.1 p hp
  have n12 := (md_wf_ok hw).2
  have l1 := md_lN_le (c := o) hw.2.2.1
  have l2 := md_lN_le (c := p) hw.2.2.1
  unfold md_eh
  rw [a2, b2, md_ld_N hw.2.2.1, md_ld_N hw.2.2.1]
  exact md_eh_aux (by omega) (by omega) (by omega) (by omega)
theorem k_spends {G : am_Gx} {d T : Nat} {M : am_Hp} {B : Nat → Nat} {g : md_R} {o p : Nat} (hR : bR M B g) (hw : md_wf T g) (hT : T < 1000000000) (ho : o < 3) (hp : p < 3) : am_CT G (d + 1) rX0_spendsBefore [.ref (B 0), .int (i3 o), .int (i3 p)] M 0 0 (qi (bI (md_eh g o p)) M) := by
  have ok := md_wf_ok hw
  have h12 := ok.2
  have e := md_eh_cls hw hT ho hp
  obtain ⟨b0, u0, u1, u2, s1, m1, s2, m2, s3, u4, u5, u6, s4, s5, s6, m4, m5, m6, y0, y1, y2, y3, y4, y5, y6, qc, tc, zc, tp, zp, i3_, i4_, i5_, i6_, i7_, i8_, i9_, f20, f21, f22, f23, f24, f25, f26, f27, e60, e61, e62, e63, e64, e65, e66, l3_, l4_, lx, ly, lz⟩ := bR_f hR ok
  refine am_intro mkX0_spendsBefore rfl (Nat.le_of_ble_eq_true rfl) rfl (fun X hX hM => ?_)
  refine vX0_spendsBefore_0 hX hM ?_
  simp (disch := omega) only [b0, u0, u1, u2, s1, m1, s2, m2, s3, u4, u5, u6, s4, s5, s6, m4, m5, m6, y0, y1, y2, y3, y4, y5, y6, qc, tc, zc, tp, zp, i3_, i4_, i5_, i6_, i7_, i8_, i9_, f20, f21, f22, f23, f24, f25, f26, f27, e60, e61, e62, e63, e64, e65, e66, l3_, l4_, forall_eq, Nat.reduceAdd, Nat.reduceMul, Nat.reduceEqDiff, Nat.reduceLeDiff, Nat.reduceSub, ne_eq, not_false_eq_true, not_true_eq_false, false_implies, true_implies, implies_true, true_and, and_true, eq_self, li0, li1, li2, li3, li4, li5, li6, li7, li8, li9, li10, li11, li12, li15, li18, li21, li22, li23, li24, li27, li30, li32, li39, li50, li51, li59, li60, li63, li75, li87, li90, li99, li100, li111, li121, li126, li131, li141, li150, li400, li900, li987, li1128, li240, i3_add, i3_toNat, vpt, bI_0, bI_1, bI_bo, Bool.not_eq_false, Bool.true_eq_false, Bool.false_eq_true, Bool.not_eq_true, i3_le', i3_lt', i3_eq', hp_T_sI, hp_N_sI, hp_R_sI, hp_E_sI, hp_Q_sI, hp_I_sI, hp_I_sIu, hp_T_sQ, hp_N_sQ, hp_R_sQ, hp_E_sQ, hp_I_sQ, hp_T_sA, hp_N_sA, hp_R_sA, hp_I_sA, hp_Q_sA, hp_E_sA, hp_sE_sA]
  refine ⟨fun a1 => ⟨fun a2 => ⟨fun a3 => qF ?_, fun a3 => qT ?_⟩, fun a2 => ⟨fun a3 => qF ?_, fun a3 => qT ?_⟩⟩, fun a1 => ⟨fun a2 => qF ?_, fun a2 => qT ?_⟩⟩
  · rw [e, if_pos a1, if_pos a2, decide_eq_true_eq]
    omega
  · rw [e, if_pos a1, if_pos a2, decide_eq_true_eq]
    omega
  · rw [e, if_pos a1, if_neg a2, decide_eq_true_eq]
    exact Int32.not_lt.mpr a3
  · rw [e, if_pos a1, if_neg a2, decide_eq_true_eq]
    exact Int32.not_le.mp a3
  · rw [e, if_neg a1, decide_eq_true_eq]
    exact Int32.not_lt.mpr a2
  · rw [e, if_neg a1, decide_eq_true_eq]
    exact Int32.not_le.mp a2
theorem k_more {G : am_Gx} {d T : Nat} {M : am_Hp} {B : Nat → Nat} {g : md_R} {p : Nat} (hR : bR M B g) (hw : md_wf T g) (hT : T < 1000000000) (hp : p < 3) : am_CT G (d + 2) rX0_countMoreEnergetic [.ref (B 0), .int (i3 p)] M 0 0 (qi (md_ce g p) M) := by
  have hR0 := hR
  have ok := md_wf_ok hw
  obtain ⟨b0, u0, u1, u2, s1, m1, s2, m2, s3, u4, u5, u6, s4, s5, s6, m4, m5, m6, y0, y1, y2, y3, y4, y5, y6, qc, tc, zc, tp, zp, i3_, i4_, i5_, i6_, i7_, i8_, i9_, f20, f21, f22, f23, f24, f25, f26, f27, e60, e61, e62, e63, e64, e65, e66, l3_, l4_, lx, ly, lz⟩ := bR_f hR ok
  refine am_intro mkX0_countMoreEnergetic rfl (Nat.le_of_ble_eq_true rfl) rfl (fun X hX hM => ?_)
  have L : ∀ k j, j + k = 3 → am_J X 4 [(0, .ref (B 0)), (1, .int (i3 p)), (2, .int (md_sum (fun o => bI (md_eh g o p)) j)), (3, .int (i3 j))] [] M 0 0 := by
    intro k
    induction k with
    | zero =>
      intro j hj
      have j3 : j = 3 := hj
      subst j3
      exact vX0_countMoreEnergetic_4 hX hM (fun x0 x1 x2 x3 M => am_J X 4 [(0, .ref x0), (1, .int x1), (2, .int x2), (3, .int x3)] [] M 0 0) (fun _ _ _ _ _ h => h) ⟨fun _ => ⟨rfl, rfl⟩, fun z => absurd (Int32.le_refl _) z⟩
    | succ k ih =>
      intro j hj
      have I := ih (j + 1) (by omega)
      rw [md_sum_s] at I
      refine vX0_countMoreEnergetic_4 hX hM (fun x0 x1 x2 x3 M => am_J X 4 [(0, .ref x0), (1, .int x1), (2, .int x2), (3, .int x3)] [] M 0 0) (fun _ _ _ _ _ h => h) ?_
      simp (disch := omega) only [b0, u0, u1, u2, s1, m1, s2, m2, s3, u4, u5, u6, s4, s5, s6, m4, m5, m6, y0, y1, y2, y3, y4, y5, y6, qc, tc, zc, tp, zp, i3_, i4_, i5_, i6_, i7_, i8_, i9_, f20, f21, f22, f23, f24, f25, f26, f27, e60, e61, e62, e63, e64, e65, e66, l3_, l4_, forall_eq, Nat.reduceAdd, Nat.reduceMul, Nat.reduceEqDiff, Nat.reduceLeDiff, Nat.reduceSub, ne_eq, not_false_eq_true, not_true_eq_false, false_implies, true_implies, implies_true, true_and, and_true, eq_self, li0, li1, li2, li3, li4, li5, li6, li7, li8, li9, li10, li11, li12, li15, li18, li21, li22, li23, li24, li27, li30, li32, li39, li50, li51, li59, li60, li63, li75, li87, li90, li99, li100, li111, li121, li126, li131, li141, li150, li400, li900, li987, li1128, li240, i3_add, i3_toNat, vpt, bI_0, bI_1, bI_bo, Bool.not_eq_false, Bool.true_eq_false, Bool.false_eq_true, Bool.not_eq_true, i3_le', i3_lt', i3_eq', hp_T_sI, hp_N_sI, hp_R_sI, hp_E_sI, hp_Q_sI, hp_I_sI, hp_I_sIu, hp_T_sQ, hp_N_sQ, hp_R_sQ, hp_E_sQ, hp_I_sQ, hp_T_sA, hp_N_sA, hp_R_sA, hp_I_sA, hp_Q_sA, hp_E_sA, hp_sE_sA]
      refine ⟨fun z => absurd z (by omega), fun _ => ct_i (k_spends hR0 hw hT (show j < 3 by omega) hp) ?_⟩
      simp (disch := omega) only [forall_eq, Nat.reduceAdd, Nat.reduceMul, Nat.reduceEqDiff, Nat.reduceLeDiff, Nat.reduceSub, ne_eq, not_false_eq_true, not_true_eq_false, false_implies, true_implies, implies_true, true_and, and_true, eq_self, li0, li1, li2, li3, li4, li5, li6, li7, li8, li9, li10, li11, li12, li15, li18, li21, li22, li23, li24, li27, li30, li32, li39, li50, li51, li59, li60, li63, li75, li87, li90, li99, li100, li111, li121, li126, li131, li141, li150, li400, li900, li987, li1128, li240, i3_add, i3_toNat, vpt, bI_0, bI_1, bI_bo, Bool.not_eq_false, Bool.true_eq_false, Bool.false_eq_true, Bool.not_eq_true, i3_le', i3_lt', i3_eq']
      refine ⟨fun a1 => ?_, fun a1 => ?_⟩
      · rw [a1] at I
        exact (Int32.add_zero _ ▸ I : _)
      · rw [a1] at I
        exact I
  exact vX0_countMoreEnergetic_0 hX hM (fun x0 x1 x2 x3 M => am_J X 4 [(0, .ref x0), (1, .int x1), (2, .int x2), (3, .int x3)] [] M 0 0) (fun _ _ _ _ _ h => h) (L 3 0 (Nat.zero_add _))
theorem k_fit {G : am_Gx} {d T : Nat} {M : am_Hp} {B : Nat → Nat} {g : md_R} (hR : bR M B g) (hw : md_wf T g) : am_CT G (d + 1) rX0_loadsFit [.ref (B 0)] M 0 0 (qi (i3 1) M) := by
  have ok := md_wf_ok hw
  obtain ⟨b0, u0, u1, u2, s1, m1, s2, m2, s3, u4, u5, u6, s4, s5, s6, m4, m5, m6, y0, y1, y2, y3, y4, y5, y6, qc, tc, zc, tp, zp, i3_, i4_, i5_, i6_, i7_, i8_, i9_, f20, f21, f22, f23, f24, f25, f26, f27, e60, e61, e62, e63, e64, e65, e66, l3_, l4_, lx, ly, lz⟩ := bR_f hR ok
  refine am_intro mkX0_loadsFit rfl (Nat.le_of_ble_eq_true rfl) rfl (fun X hX hM => ?_)
  have L : ∀ k j, j + k = 3 → am_J X 2 [(0, .ref (B 0)), (1, .int (i3 j))] [] M 0 0 := by
    intro k
    induction k with
    | zero =>
      intro j hj
      have j3 : j = 3 := hj
      subst j3
      exact vX0_loadsFit_2 hX hM (fun x0 x1 M => am_J X 2 [(0, .ref x0), (1, .int x1)] [] M 0 0) (fun _ _ _ h => h) ⟨fun _ => ⟨rfl, rfl⟩, fun z => absurd (Int32.le_refl _) z⟩
    | succ k ih =>
      intro j hj
      have I := ih (j + 1) (by omega)
      obtain ⟨-, -, ⟨q, q1, q2, q3, q4⟩, -⟩ := hw.2.1 j (by omega)
      have hl : md_ld g j ≤ g (15 + j) := by
        rw [md_ld_N hw.2.2.1, q3, i3_le (by omega) (by omega)]
        exact q4
      refine vX0_loadsFit_2 hX hM (fun x0 x1 M => am_J X 2 [(0, .ref x0), (1, .int x1)] [] M 0 0) (fun _ _ _ h => h) ?_
      simp (disch := omega) only [b0, u0, u1, u2, s1, m1, s2, m2, s3, u4, u5, u6, s4, s5, s6, m4, m5, m6, y0, y1, y2, y3, y4, y5, y6, qc, tc, zc, tp, zp, i3_, i4_, i5_, i6_, i7_, i8_, i9_, f20, f21, f22, f23, f24, f25, f26, f27, e60, e61, e62, e63, e64, e65, e66, l3_, l4_, forall_eq, Nat.reduceAdd, Nat.reduceMul, Nat.reduceEqDiff, Nat.reduceLeDiff, Nat.reduceSub, ne_eq, not_false_eq_true, not_true_eq_false, false_implies, true_implies, implies_true, true_and, and_true, eq_self, li0, li1, li2, li3, li4, li5, li6, li7, li8, li9, li10, li11, li12, li15, li18, li21, li22, li23, li24, li27, li30, li32, li39, li50, li51, li59, li60, li63, li75, li87, li90, li99, li100, li111, li121, li126, li131, li141, li150, li400, li900, li987, li1128, li240, i3_add, i3_toNat, vpt, bI_0, bI_1, bI_bo, Bool.not_eq_false, Bool.true_eq_false, Bool.false_eq_true, Bool.not_eq_true, i3_le', i3_lt', i3_eq', hp_T_sI, hp_N_sI, hp_R_sI, hp_E_sI, hp_Q_sI, hp_I_sI, hp_I_sIu, hp_T_sQ, hp_N_sQ, hp_R_sQ, hp_E_sQ, hp_I_sQ, hp_T_sA, hp_N_sA, hp_R_sA, hp_I_sA, hp_Q_sA, hp_E_sA, hp_sE_sA]
      exact ⟨fun z => absurd z (by omega), fun _ => ⟨fun _ => I, fun z => absurd hl z⟩⟩
  exact vX0_loadsFit_0 hX hM (fun x0 x1 M => am_J X 2 [(0, .ref x0), (1, .int x1)] [] M 0 0) (fun _ _ _ h => h) (L 3 0 (Nat.zero_add _))
theorem md_ca_out {T : Nat} {g : md_R} {c : Nat} (hw : md_wf T g) (hc : c < 3) (h : g (21 + c) ≠ 0) : md_ca g c = 0 := by
  unfold md_ca
  rw [md_sum_congr (f' := fun _ => (0 : Int32)) _ (fun p hp => by
    rw [if_neg]
    intro z
    obtain ⟨z1, z2⟩ := md_aw_iff.mp z
    exact h ((hw.2.2.1 p hp).2.2.2.2.2.2.2 c hc z1 (by rw [z2, i3_one])))]
  induction md_n g with
  | zero => rfl
  | succ n ih => rw [md_sum, ih]; rfl
theorem k_serve {G : am_Gx} {d T : Nat} {M : am_Hp} {B : Nat → Nat} {g : md_R} (hR : bR M B g) (hw : md_wf T g) : am_CT G (d + 2) rX0_assignmentsServe [.ref (B 0)] M 0 0 (qi (i3 1) M) := by
  have ok := md_wf_ok hw
  have hR0 := hR
  have ok0 := ok
  obtain ⟨b0, u0, u1, u2, s1, m1, s2, m2, s3, u4, u5, u6, s4, s5, s6, m4, m5, m6, y0, y1, y2, y3, y4, y5, y6, qc, tc, zc, tp, zp, i3_, i4_, i5_, i6_, i7_, i8_, i9_, f20, f21, f22, f23, f24, f25, f26, f27, e60, e61, e62, e63, e64, e65, e66, l3_, l4_, lx, ly, lz⟩ := bR_f hR ok
  refine am_intro mkX0_assignmentsServe rfl (Nat.le_of_ble_eq_true rfl) rfl (fun X hX hM => ?_)
  have L : ∀ k j, j + k = 3 → am_J X 2 [(0, .ref (B 0)), (1, .int (i3 j))] [] M 0 0 := by
    intro k
    induction k with
    | zero =>
      intro j hj
      have j3 : j = 3 := hj
      subst j3
      exact vX0_assignmentsServe_2 hX hM (fun x0 x1 M => am_J X 2 [(0, .ref x0), (1, .int x1)] [] M 0 0) (fun _ _ _ h => h) ⟨fun _ => ⟨rfl, rfl⟩, fun z => absurd (Int32.le_refl _) z⟩
    | succ k ih =>
      intro j hj
      have I := ih (j + 1) (by omega)
      refine vX0_assignmentsServe_2 hX hM (fun x0 x1 M => am_J X 2 [(0, .ref x0), (1, .int x1)] [] M 0 0) (fun _ _ _ h => h) ?_
      simp (disch := omega) only [b0, u0, u1, u2, s1, m1, s2, m2, s3, u4, u5, u6, s4, s5, s6, m4, m5, m6, y0, y1, y2, y3, y4, y5, y6, qc, tc, zc, tp, zp, i3_, i4_, i5_, i6_, i7_, i8_, i9_, f20, f21, f22, f23, f24, f25, f26, f27, e60, e61, e62, e63, e64, e65, e66, l3_, l4_, forall_eq, Nat.reduceAdd, Nat.reduceMul, Nat.reduceEqDiff, Nat.reduceLeDiff, Nat.reduceSub, ne_eq, not_false_eq_true, not_true_eq_false, false_implies, true_implies, implies_true, true_and, and_true, eq_self, li0, li1, li2, li3, li4, li5, li6, li7, li8, li9, li10, li11, li12, li15, li18, li21, li22, li23, li24, li27, li30, li32, li39, li50, li51, li59, li60, li63, li75, li87, li90, li99, li100, li111, li121, li126, li131, li141, li150, li400, li900, li987, li1128, li240, i3_add, i3_toNat, vpt, bI_0, bI_1, bI_bo, Bool.not_eq_false, Bool.true_eq_false, Bool.false_eq_true, Bool.not_eq_true, i3_le', i3_lt', i3_eq', hp_T_sI, hp_N_sI, hp_R_sI, hp_E_sI, hp_Q_sI, hp_I_sI, hp_I_sIu, hp_T_sQ, hp_N_sQ, hp_R_sQ, hp_E_sQ, hp_I_sQ, hp_T_sA, hp_N_sA, hp_R_sA, hp_I_sA, hp_Q_sA, hp_E_sA, hp_sE_sA]
      refine ⟨fun z => absurd z (by omega), fun _ => ⟨fun a1 => ct_i (k_countAssigned hR0 ok0 (show j < 3 by omega)) ?_, fun a1 => ?_⟩⟩
      · rw [md_ca_out hw (show j < 3 by omega) (of_decide_eq_false a1)]
        simp (disch := omega) only [forall_eq, Nat.reduceAdd, Nat.reduceMul, Nat.reduceEqDiff, Nat.reduceLeDiff, Nat.reduceSub, ne_eq, not_false_eq_true, not_true_eq_false, false_implies, true_implies, implies_true, true_and, and_true, eq_self, li0, li1, li2, li3, li4, li5, li6, li7, li8, li9, li10, li11, li12, li15, li18, li21, li22, li23, li24, li27, li30, li32, li39, li50, li51, li59, li60, li63, li75, li87, li90, li99, li100, li111, li121, li126, li131, li141, li150, li400, li900, li987, li1128, li240, i3_add, i3_toNat, vpt, bI_0, bI_1, bI_bo, Bool.not_eq_false, Bool.true_eq_false, Bool.false_eq_true, Bool.not_eq_true, i3_le', i3_lt', i3_eq']
        exact I
      · exact I
  exact vX0_assignmentsServe_0 hX hM (fun x0 x1 M => am_J X 2 [(0, .ref x0), (1, .int x1)] [] M 0 0) (fun _ _ _ h => h) (L 3 0 (Nat.zero_add _))
