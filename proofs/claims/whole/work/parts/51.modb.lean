/-! .. stops, estimates, the car that is chosen -/
theorem md_any_s (f : Nat → Bool) (n : Nat) : md_any f (n + 1) = (md_any f n || f n) := rfl
theorem c_stopsAt {G : am_Gx} {d : Nat} {M : am_Hp} {A : Nat → Nat} {g : md_R} {c : Nat} {f : Int32} (h : mL M A) (hg : hp_E M (A 1) = g) (ok : md_ok g) : am_CT G (d + 2) rX7_stopsAt [.ref (A 0), .int (i3 c), .int f] M 0 0 (qi (bI (md_st g c f)) M) := by
  have h0 := h
  obtain ⟨t0, r1, r2, r3, r4, r5, r6, r7, r8, t1, t2, t3, t4, t5, t6, t7, t8, n1, n2, n3, n4, n5, n6, n7, n8, z1, z2, z3, z4, z5, z6, z7, z8, hJ⟩ := h
  obtain ⟨e1, h12⟩ := ok
  refine am_intro mkX7_stopsAt rfl (Nat.le_of_ble_eq_true rfl) rfl (fun X hX hM => ?_)
  have L : ∀ k j, j + k = md_n g → am_J X 5 [(0, .ref (A 0)), (1, .int (i3 c)), (2, .int f), (3, .int (bI (md_any (md_stf g c f) j))), (4, .int (i3 j))] [] M 0 0 := by
    intro k
    induction k with
    | zero =>
      intro j hj
      refine vX7_stopsAt_5 hX hM (fun x0 x1 x2 x3 x4 M => am_J X 5 [(0, .ref x0), (1, .int x1), (2, .int x2), (3, .int x3), (4, .int x4)] [] M 0 0) (fun _ _ _ _ _ _ h => h) ?_
      simp (disch := omega) only [t0, r1, r2, r3, r4, r5, r6, r7, r8, t1, t2, t3, t4, t5, t6, t7, t8, n1, n2, n3, n4, n5, n6, n7, n8, z1, z2, z3, z4, z5, z6, z7, z8, forall_eq, Nat.reduceAdd, Nat.reduceMul, Nat.reduceEqDiff, Nat.reduceLeDiff, Nat.reduceSub, ne_eq, not_false_eq_true, not_true_eq_false, false_implies, true_implies, implies_true, true_and, and_true, eq_self, li0, li1, li2, li3, li4, li5, li6, li7, li8, li9, li10, li11, li12, li15, li18, li21, li22, li23, li24, li27, li30, li32, li39, li50, li51, li59, li60, li63, li75, li87, li90, li99, li100, li111, li121, li126, li131, li141, li150, li400, li900, li987, li1128, li240, i3_add, i3_toNat, vpt, bI_0, bI_1, bI_bo, Bool.not_eq_false, Bool.true_eq_false, Bool.false_eq_true, Bool.not_eq_true, i3_le', i3_lt', i3_eq', hp_sE_sA, hp_sA_sA, hp_E_sA, hp_T_sA, hp_N_sA, hp_R_sA, hp_I_sA, hp_T_sI, hp_N_sI, hp_R_sI, hp_E_sI, hp_I_sI, hp_sA_sI, hp_sI_sI, hg, e1]
      exact ⟨fun _ => ⟨by rw [show j = md_n g by omega]; rfl, rfl⟩, fun z => absurd (show md_n g ≤ j by omega) z⟩
    | succ k ih =>
      intro j hj
      have T : md_any (md_stf g c f) (j + 1) = true → am_J X 5 [(0, .ref (A 0)), (1, .int (i3 c)), (2, .int f), (3, .int (i3 1)), (4, .int (i3 (j + 1)))] [] M 0 0 := fun z => by
        have := ih (j + 1) (by omega)
        rw [z] at this
        exact this
      have F : md_any (md_stf g c f) (j + 1) = false → am_J X 5 [(0, .ref (A 0)), (1, .int (i3 c)), (2, .int f), (3, .int (i3 0)), (4, .int (i3 (j + 1)))] [] M 0 0 := fun z => by
        have := ih (j + 1) (by omega)
        rw [z] at this
        exact this
      refine vX7_stopsAt_5 hX hM (fun x0 x1 x2 x3 x4 M => am_J X 5 [(0, .ref x0), (1, .int x1), (2, .int x2), (3, .int x3), (4, .int x4)] [] M 0 0) (fun _ _ _ _ _ _ h => h) ?_
      simp (disch := omega) only [t0, r1, r2, r3, r4, r5, r6, r7, r8, t1, t2, t3, t4, t5, t6, t7, t8, n1, n2, n3, n4, n5, n6, n7, n8, z1, z2, z3, z4, z5, z6, z7, z8, forall_eq, Nat.reduceAdd, Nat.reduceMul, Nat.reduceEqDiff, Nat.reduceLeDiff, Nat.reduceSub, ne_eq, not_false_eq_true, not_true_eq_false, false_implies, true_implies, implies_true, true_and, and_true, eq_self, li0, li1, li2, li3, li4, li5, li6, li7, li8, li9, li10, li11, li12, li15, li18, li21, li22, li23, li24, li27, li30, li32, li39, li50, li51, li59, li60, li63, li75, li87, li90, li99, li100, li111, li121, li126, li131, li141, li150, li400, li900, li987, li1128, li240, i3_add, i3_toNat, vpt, bI_0, bI_1, bI_bo, Bool.not_eq_false, Bool.true_eq_false, Bool.false_eq_true, Bool.not_eq_true, i3_le', i3_lt', i3_eq', hp_sE_sA, hp_sA_sA, hp_E_sA, hp_T_sA, hp_N_sA, hp_R_sA, hp_I_sA, hp_T_sI, hp_N_sI, hp_R_sI, hp_E_sI, hp_I_sI, hp_sA_sI, hp_sI_sI, hg, e1]
      refine ⟨fun z => absurd z (by omega), fun _ => ⟨fun a0 => ct_i (c_isIn h0 hg (by omega)) ?_, fun a0 => T (by simp [md_any_s, a0])⟩⟩
      simp (disch := omega) only [t0, r1, r2, r3, r4, r5, r6, r7, r8, t1, t2, t3, t4, t5, t6, t7, t8, n1, n2, n3, n4, n5, n6, n7, n8, z1, z2, z3, z4, z5, z6, z7, z8, forall_eq, Nat.reduceAdd, Nat.reduceMul, Nat.reduceEqDiff, Nat.reduceLeDiff, Nat.reduceSub, ne_eq, not_false_eq_true, not_true_eq_false, false_implies, true_implies, implies_true, true_and, and_true, eq_self, li0, li1, li2, li3, li4, li5, li6, li7, li8, li9, li10, li11, li12, li15, li18, li21, li22, li23, li24, li27, li30, li32, li39, li50, li51, li59, li60, li63, li75, li87, li90, li99, li100, li111, li121, li126, li131, li141, li150, li400, li900, li987, li1128, li240, i3_add, i3_toNat, vpt, bI_0, bI_1, bI_bo, Bool.not_eq_false, Bool.true_eq_false, Bool.false_eq_true, Bool.not_eq_true, i3_le', i3_lt', i3_eq', hp_sE_sA, hp_sA_sA, hp_E_sA, hp_T_sA, hp_N_sA, hp_R_sA, hp_I_sA, hp_T_sI, hp_N_sI, hp_R_sI, hp_E_sI, hp_I_sI, hp_sA_sI, hp_sI_sI, hg]
      refine ⟨fun a1 => ct_i (c_awaits h0 hg (by omega)) ?_, fun a1 => ⟨fun a2 => T (by simp [md_any_s, md_stf, a1, a2]), fun a2 => ct_i (c_awaits h0 hg (by omega)) ?_⟩⟩
      · simp (disch := omega) only [t0, r1, r2, r3, r4, r5, r6, r7, r8, t1, t2, t3, t4, t5, t6, t7, t8, n1, n2, n3, n4, n5, n6, n7, n8, z1, z2, z3, z4, z5, z6, z7, z8, forall_eq, Nat.reduceAdd, Nat.reduceMul, Nat.reduceEqDiff, Nat.reduceLeDiff, Nat.reduceSub, ne_eq, not_false_eq_true, not_true_eq_false, false_implies, true_implies, implies_true, true_and, and_true, eq_self, li0, li1, li2, li3, li4, li5, li6, li7, li8, li9, li10, li11, li12, li15, li18, li21, li22, li23, li24, li27, li30, li32, li39, li50, li51, li59, li60, li63, li75, li87, li90, li99, li100, li111, li121, li126, li131, li141, li150, li400, li900, li987, li1128, li240, i3_add, i3_toNat, vpt, bI_0, bI_1, bI_bo, Bool.not_eq_false, Bool.true_eq_false, Bool.false_eq_true, Bool.not_eq_true, i3_le', i3_lt', i3_eq', hp_sE_sA, hp_sA_sA, hp_E_sA, hp_T_sA, hp_N_sA, hp_R_sA, hp_I_sA, hp_T_sI, hp_N_sI, hp_R_sI, hp_E_sI, hp_I_sI, hp_sA_sI, hp_sI_sI, hg]
        exact ⟨fun a2 => F (by simp [md_any_s, md_stf, a0, a1, a2]), fun a2 => ⟨fun a3 => T (by simp [md_any_s, md_stf, a2, a3]), fun a3 => F (by simp [md_any_s, md_stf, a0, a1, a2, a3])⟩⟩
      · simp (disch := omega) only [t0, r1, r2, r3, r4, r5, r6, r7, r8, t1, t2, t3, t4, t5, t6, t7, t8, n1, n2, n3, n4, n5, n6, n7, n8, z1, z2, z3, z4, z5, z6, z7, z8, forall_eq, Nat.reduceAdd, Nat.reduceMul, Nat.reduceEqDiff, Nat.reduceLeDiff, Nat.reduceSub, ne_eq, not_false_eq_true, not_true_eq_false, false_implies, true_implies, implies_true, true_and, and_true, eq_self, li0, li1, li2, li3, li4, li5, li6, li7, li8, li9, li10, li11, li12, li15, li18, li21, li22, li23, li24, li27, li30, li32, li39, li50, li51, li59, li60, li63, li75, li87, li90, li99, li100, li111, li121, li126, li131, li141, li150, li400, li900, li987, li1128, li240, i3_add, i3_toNat, vpt, bI_0, bI_1, bI_bo, Bool.not_eq_false, Bool.true_eq_false, Bool.false_eq_true, Bool.not_eq_true, i3_le', i3_lt', i3_eq', hp_sE_sA, hp_sA_sA, hp_E_sA, hp_T_sA, hp_N_sA, hp_R_sA, hp_I_sA, hp_T_sI, hp_N_sI, hp_R_sI, hp_E_sI, hp_I_sI, hp_sA_sI, hp_sI_sI, hg]
        exact ⟨fun a3 => F (by simp [md_any_s, md_stf, a0, a1, a2, a3]), fun a3 => ⟨fun a4 => T (by simp [md_any_s, md_stf, a3, a4]), fun a4 => F (by simp [md_any_s, md_stf, a0, a1, a2, a3, a4])⟩⟩
  exact vX7_stopsAt_0 hX hM (fun x0 x1 x2 x3 x4 M => am_J X 5 [(0, .ref x0), (1, .int x1), (2, .int x2), (3, .int x3), (4, .int x4)] [] M 0 0) (fun _ _ _ _ _ _ h => h) (L (md_n g) 0 (Nat.zero_add _))
theorem md_fl_far {f d e : Nat} {r : Int32} (hf : f < 10) (hr : r = 1 ∨ r = -1) (hd : d < 21) (he : d ≤ e) (h2 : e < 21) (h : md_fl (i3 f + r * i3 d) = false) : md_fl (i3 f + r * i3 e) = false := by
  rcases hr with rfl | rfl
  · rw [(md_fl_up hf hd).2] at h
    rw [(md_fl_up hf h2).2]
    simp only [decide_eq_false_iff_not] at h ⊢
    omega
  · rw [(md_fl_dn hf hd).2] at h
    rw [(md_fl_dn hf h2).2]
    simp only [decide_eq_false_iff_not] at h ⊢
    omega
theorem md_fl_ten {f : Nat} {r : Int32} (hf : f < 10) (hr : r = 1 ∨ r = -1) : md_fl (i3 f + r * i3 10) = false := by
  rcases hr with rfl | rfl
  · rw [(md_fl_up hf (by omega)).2]
    simp
  · rw [(md_fl_dn hf (by omega)).2]
    simp only [decide_eq_false_iff_not]
    omega
theorem c_nearest {G : am_Gx} {d : Nat} {M : am_Hp} {A : Nat → Nat} {g : md_R} {c f : Nat} {r : Int32} (h : mL M A) (hg : hp_E M (A 1) = g) (ok : md_ok g) (hc : c < 3) (hf : g (9 + c) = i3 f) (hf9 : f < 10) (hr : r = 1 ∨ r = -1) : am_CT G (d + 3) rX7_nearest [.ref (A 0), .int (i3 c), .int r] M 0 0 (qi (i3 (md_nr g c r)) M) := by
  have h0 := h
  obtain ⟨t0, r1, r2, r3, r4, r5, r6, r7, r8, t1, t2, t3, t4, t5, t6, t7, t8, n1, n2, n3, n4, n5, n6, n7, n8, z1, z2, z3, z4, z5, z6, z7, z8, hJ⟩ := h
  refine am_intro mkX7_nearest rfl (Nat.le_of_ble_eq_true rfl) rfl (fun X hX hM => ?_)
  have L : ∀ k e, 1 ≤ e → e + k = 10 → md_go (md_hit g c r) k e = md_nr g c r → am_J X 2 [(0, .ref (A 0)), (1, .int (i3 c)), (2, .int r), (3, .int (i3 e))] [] M 0 0 := by
    intro k
    induction k with
    | zero =>
      intro e h1 he hn
      have e10 : e = 10 := by omega
      subst e10
      have hx : md_fl (g (9 + c) + r * i3 10) = false := by rw [hf]; exact md_fl_ten hf9 hr
      refine vX7_nearest_2 hX hM (fun x0 x1 x2 x3 M => am_J X 2 [(0, .ref x0), (1, .int x1), (2, .int x2), (3, .int x3)] [] M 0 0) (fun _ _ _ _ _ h => h) ?_
      simp (disch := omega) only [t0, r1, r2, r3, r4, r5, r6, r7, r8, t1, t2, t3, t4, t5, t6, t7, t8, n1, n2, n3, n4, n5, n6, n7, n8, z1, z2, z3, z4, z5, z6, z7, z8, forall_eq, Nat.reduceAdd, Nat.reduceMul, Nat.reduceEqDiff, Nat.reduceLeDiff, Nat.reduceSub, ne_eq, not_false_eq_true, not_true_eq_false, false_implies, true_implies, implies_true, true_and, and_true, eq_self, li0, li1, li2, li3, li4, li5, li6, li7, li8, li9, li10, li11, li12, li15, li18, li21, li22, li23, li24, li27, li30, li32, li39, li50, li51, li59, li60, li63, li75, li87, li90, li99, li100, li111, li121, li126, li131, li141, li150, li400, li900, li987, li1128, li240, i3_add, i3_toNat, vpt, bI_0, bI_1, bI_bo, Bool.not_eq_false, Bool.true_eq_false, Bool.false_eq_true, Bool.not_eq_true, i3_le', i3_lt', i3_eq', hp_sE_sA, hp_sA_sA, hp_E_sA, hp_T_sA, hp_N_sA, hp_R_sA, hp_I_sA, hp_T_sI, hp_N_sI, hp_R_sI, hp_E_sI, hp_I_sI, hp_sA_sI, hp_sI_sI, hg]
      refine ct_i c_isFloor ?_
      simp (disch := omega) only [t0, r1, r2, r3, r4, r5, r6, r7, r8, t1, t2, t3, t4, t5, t6, t7, t8, n1, n2, n3, n4, n5, n6, n7, n8, z1, z2, z3, z4, z5, z6, z7, z8, forall_eq, Nat.reduceAdd, Nat.reduceMul, Nat.reduceEqDiff, Nat.reduceLeDiff, Nat.reduceSub, ne_eq, not_false_eq_true, not_true_eq_false, false_implies, true_implies, implies_true, true_and, and_true, eq_self, li0, li1, li2, li3, li4, li5, li6, li7, li8, li9, li10, li11, li12, li15, li18, li21, li22, li23, li24, li27, li30, li32, li39, li50, li51, li59, li60, li63, li75, li87, li90, li99, li100, li111, li121, li126, li131, li141, li150, li400, li900, li987, li1128, li240, i3_add, i3_toNat, vpt, bI_0, bI_1, bI_bo, Bool.not_eq_false, Bool.true_eq_false, Bool.false_eq_true, Bool.not_eq_true, i3_le', i3_lt', i3_eq', hp_sE_sA, hp_sA_sA, hp_E_sA, hp_T_sA, hp_N_sA, hp_R_sA, hp_I_sA, hp_T_sI, hp_N_sI, hp_R_sI, hp_E_sI, hp_I_sI, hp_sA_sI, hp_sI_sI, hg, hx]
      refine ct_i c_isFloor ?_
      simp (disch := omega) only [t0, r1, r2, r3, r4, r5, r6, r7, r8, t1, t2, t3, t4, t5, t6, t7, t8, n1, n2, n3, n4, n5, n6, n7, n8, z1, z2, z3, z4, z5, z6, z7, z8, forall_eq, Nat.reduceAdd, Nat.reduceMul, Nat.reduceEqDiff, Nat.reduceLeDiff, Nat.reduceSub, ne_eq, not_false_eq_true, not_true_eq_false, false_implies, true_implies, implies_true, true_and, and_true, eq_self, li0, li1, li2, li3, li4, li5, li6, li7, li8, li9, li10, li11, li12, li15, li18, li21, li22, li23, li24, li27, li30, li32, li39, li50, li51, li59, li60, li63, li75, li87, li90, li99, li100, li111, li121, li126, li131, li141, li150, li400, li900, li987, li1128, li240, i3_add, i3_toNat, vpt, bI_0, bI_1, bI_bo, Bool.not_eq_false, Bool.true_eq_false, Bool.false_eq_true, Bool.not_eq_true, i3_le', i3_lt', i3_eq', hp_sE_sA, hp_sA_sA, hp_E_sA, hp_T_sA, hp_N_sA, hp_R_sA, hp_I_sA, hp_T_sI, hp_N_sI, hp_R_sI, hp_E_sI, hp_I_sI, hp_sA_sI, hp_sI_sI, hg, hx]
      exact ⟨by rw [← hn]; rfl, rfl⟩
    | succ k ih =>
      intro e h1 he hn
      refine vX7_nearest_2 hX hM (fun x0 x1 x2 x3 M => am_J X 2 [(0, .ref x0), (1, .int x1), (2, .int x2), (3, .int x3)] [] M 0 0) (fun _ _ _ _ _ h => h) ?_
      simp (disch := omega) only [t0, r1, r2, r3, r4, r5, r6, r7, r8, t1, t2, t3, t4, t5, t6, t7, t8, n1, n2, n3, n4, n5, n6, n7, n8, z1, z2, z3, z4, z5, z6, z7, z8, forall_eq, Nat.reduceAdd, Nat.reduceMul, Nat.reduceEqDiff, Nat.reduceLeDiff, Nat.reduceSub, ne_eq, not_false_eq_true, not_true_eq_false, false_implies, true_implies, implies_true, true_and, and_true, eq_self, li0, li1, li2, li3, li4, li5, li6, li7, li8, li9, li10, li11, li12, li15, li18, li21, li22, li23, li24, li27, li30, li32, li39, li50, li51, li59, li60, li63, li75, li87, li90, li99, li100, li111, li121, li126, li131, li141, li150, li400, li900, li987, li1128, li240, i3_add, i3_toNat, vpt, bI_0, bI_1, bI_bo, Bool.not_eq_false, Bool.true_eq_false, Bool.false_eq_true, Bool.not_eq_true, i3_le', i3_lt', i3_eq', hp_sE_sA, hp_sA_sA, hp_E_sA, hp_T_sA, hp_N_sA, hp_R_sA, hp_I_sA, hp_T_sI, hp_N_sI, hp_R_sI, hp_E_sI, hp_I_sI, hp_sA_sI, hp_sI_sI, hg]
      refine ct_i c_isFloor ?_
      simp (disch := omega) only [t0, r1, r2, r3, r4, r5, r6, r7, r8, t1, t2, t3, t4, t5, t6, t7, t8, n1, n2, n3, n4, n5, n6, n7, n8, z1, z2, z3, z4, z5, z6, z7, z8, forall_eq, Nat.reduceAdd, Nat.reduceMul, Nat.reduceEqDiff, Nat.reduceLeDiff, Nat.reduceSub, ne_eq, not_false_eq_true, not_true_eq_false, false_implies, true_implies, implies_true, true_and, and_true, eq_self, li0, li1, li2, li3, li4, li5, li6, li7, li8, li9, li10, li11, li12, li15, li18, li21, li22, li23, li24, li27, li30, li32, li39, li50, li51, li59, li60, li63, li75, li87, li90, li99, li100, li111, li121, li126, li131, li141, li150, li400, li900, li987, li1128, li240, i3_add, i3_toNat, vpt, bI_0, bI_1, bI_bo, Bool.not_eq_false, Bool.true_eq_false, Bool.false_eq_true, Bool.not_eq_true, i3_le', i3_lt', i3_eq', hp_sE_sA, hp_sA_sA, hp_E_sA, hp_T_sA, hp_N_sA, hp_R_sA, hp_I_sA, hp_T_sI, hp_N_sI, hp_R_sI, hp_E_sI, hp_I_sI, hp_sA_sI, hp_sI_sI, hg]
      refine ⟨fun hx => ?_, fun hx => ct_i (c_stopsAt h0 hg ok) ?_⟩
      · refine ct_i c_isFloor ?_
        simp (disch := omega) only [t0, r1, r2, r3, r4, r5, r6, r7, r8, t1, t2, t3, t4, t5, t6, t7, t8, n1, n2, n3, n4, n5, n6, n7, n8, z1, z2, z3, z4, z5, z6, z7, z8, forall_eq, Nat.reduceAdd, Nat.reduceMul, Nat.reduceEqDiff, Nat.reduceLeDiff, Nat.reduceSub, ne_eq, not_false_eq_true, not_true_eq_false, false_implies, true_implies, implies_true, true_and, and_true, eq_self, li0, li1, li2, li3, li4, li5, li6, li7, li8, li9, li10, li11, li12, li15, li18, li21, li22, li23, li24, li27, li30, li32, li39, li50, li51, li59, li60, li63, li75, li87, li90, li99, li100, li111, li121, li126, li131, li141, li150, li400, li900, li987, li1128, li240, i3_add, i3_toNat, vpt, bI_0, bI_1, bI_bo, Bool.not_eq_false, Bool.true_eq_false, Bool.false_eq_true, Bool.not_eq_true, i3_le', i3_lt', i3_eq', hp_sE_sA, hp_sA_sA, hp_E_sA, hp_T_sA, hp_N_sA, hp_R_sA, hp_I_sA, hp_T_sI, hp_N_sI, hp_R_sI, hp_E_sI, hp_I_sI, hp_sA_sI, hp_sI_sI, hg, hx]
        refine ⟨?_, rfl⟩
        rw [← hn, md_go_none]
        intro d' hd1 hd2
        unfold md_hit
        rw [hf] at hx ⊢
        rw [md_fl_far hf9 hr (by omega) hd1 (by omega) hx]
        rfl
      · simp (disch := omega) only [t0, r1, r2, r3, r4, r5, r6, r7, r8, t1, t2, t3, t4, t5, t6, t7, t8, n1, n2, n3, n4, n5, n6, n7, n8, z1, z2, z3, z4, z5, z6, z7, z8, forall_eq, Nat.reduceAdd, Nat.reduceMul, Nat.reduceEqDiff, Nat.reduceLeDiff, Nat.reduceSub, ne_eq, not_false_eq_true, not_true_eq_false, false_implies, true_implies, implies_true, true_and, and_true, eq_self, li0, li1, li2, li3, li4, li5, li6, li7, li8, li9, li10, li11, li12, li15, li18, li21, li22, li23, li24, li27, li30, li32, li39, li50, li51, li59, li60, li63, li75, li87, li90, li99, li100, li111, li121, li126, li131, li141, li150, li400, li900, li987, li1128, li240, i3_add, i3_toNat, vpt, bI_0, bI_1, bI_bo, Bool.not_eq_false, Bool.true_eq_false, Bool.false_eq_true, Bool.not_eq_true, i3_le', i3_lt', i3_eq', hp_sE_sA, hp_sA_sA, hp_E_sA, hp_T_sA, hp_N_sA, hp_R_sA, hp_I_sA, hp_T_sI, hp_N_sI, hp_R_sI, hp_E_sI, hp_I_sI, hp_sA_sI, hp_sI_sI, hg]
        refine ⟨fun hy => ?_, fun hy => ct_i c_isFloor ?_⟩
        · refine ih (e + 1) (by omega) (by omega) ?_
          rw [← hn, md_go, if_neg]
          unfold md_hit
          rw [hx, hy]
          decide
        · simp (disch := omega) only [t0, r1, r2, r3, r4, r5, r6, r7, r8, t1, t2, t3, t4, t5, t6, t7, t8, n1, n2, n3, n4, n5, n6, n7, n8, z1, z2, z3, z4, z5, z6, z7, z8, forall_eq, Nat.reduceAdd, Nat.reduceMul, Nat.reduceEqDiff, Nat.reduceLeDiff, Nat.reduceSub, ne_eq, not_false_eq_true, not_true_eq_false, false_implies, true_implies, implies_true, true_and, and_true, eq_self, li0, li1, li2, li3, li4, li5, li6, li7, li8, li9, li10, li11, li12, li15, li18, li21, li22, li23, li24, li27, li30, li32, li39, li50, li51, li59, li60, li63, li75, li87, li90, li99, li100, li111, li121, li126, li131, li141, li150, li400, li900, li987, li1128, li240, i3_add, i3_toNat, vpt, bI_0, bI_1, bI_bo, Bool.not_eq_false, Bool.true_eq_false, Bool.false_eq_true, Bool.not_eq_true, i3_le', i3_lt', i3_eq', hp_sE_sA, hp_sA_sA, hp_E_sA, hp_T_sA, hp_N_sA, hp_R_sA, hp_I_sA, hp_T_sI, hp_N_sI, hp_R_sI, hp_E_sI, hp_I_sI, hp_sA_sI, hp_sI_sI, hg, hx]
          refine ⟨?_, rfl⟩
          rw [← hn, md_go, if_pos]
          unfold md_hit
          rw [hx, hy]
          rfl
  exact vX7_nearest_0 hX hM (fun x0 x1 x2 x3 M => am_J X 2 [(0, .ref x0), (1, .int x1), (2, .int x2), (3, .int x3)] [] M 0 0) (fun _ _ _ _ _ h => h) (L 9 1 (by omega) (by omega) rfl)
theorem c_farthest {G : am_Gx} {d : Nat} {M : am_Hp} {A : Nat → Nat} {g : md_R} {c : Nat} {r : Int32} (h : mL M A) (hg : hp_E M (A 1) = g) (ok : md_ok g) (hc : c < 3) : am_CT G (d + 3) rX7_farthest [.ref (A 0), .int (i3 c), .int r] M 0 0 (qi (i3 (md_fr g c r)) M) := by
  have h0 := h
  obtain ⟨t0, r1, r2, r3, r4, r5, r6, r7, r8, t1, t2, t3, t4, t5, t6, t7, t8, n1, n2, n3, n4, n5, n6, n7, n8, z1, z2, z3, z4, z5, z6, z7, z8, hJ⟩ := h
  refine am_intro mkX7_farthest rfl (Nat.le_of_ble_eq_true rfl) rfl (fun X hX hM => ?_)
  have L : ∀ k e, e + k = 9 → am_J X 5 [(0, .ref (A 0)), (1, .int (i3 c)), (2, .int r), (3, .int (i3 (md_la (md_hit g c r) e))), (4, .int (i3 (e + 1)))] [] M 0 0 := by
    intro k
    induction k with
    | zero =>
      intro e he
      have e9 : e = 9 := by omega
      subst e9
      refine vX7_farthest_5 hX hM (fun x0 x1 x2 x3 x4 M => am_J X 5 [(0, .ref x0), (1, .int x1), (2, .int x2), (3, .int x3), (4, .int x4)] [] M 0 0) (fun _ _ _ _ _ _ h => h) ?_
      simp (disch := omega) only [t0, r1, r2, r3, r4, r5, r6, r7, r8, t1, t2, t3, t4, t5, t6, t7, t8, n1, n2, n3, n4, n5, n6, n7, n8, z1, z2, z3, z4, z5, z6, z7, z8, forall_eq, Nat.reduceAdd, Nat.reduceMul, Nat.reduceEqDiff, Nat.reduceLeDiff, Nat.reduceSub, ne_eq, not_false_eq_true, not_true_eq_false, false_implies, true_implies, implies_true, true_and, and_true, eq_self, li0, li1, li2, li3, li4, li5, li6, li7, li8, li9, li10, li11, li12, li15, li18, li21, li22, li23, li24, li27, li30, li32, li39, li50, li51, li59, li60, li63, li75, li87, li90, li99, li100, li111, li121, li126, li131, li141, li150, li400, li900, li987, li1128, li240, i3_add, i3_toNat, vpt, bI_0, bI_1, bI_bo, Bool.not_eq_false, Bool.true_eq_false, Bool.false_eq_true, Bool.not_eq_true, i3_le', i3_lt', i3_eq', hp_sE_sA, hp_sA_sA, hp_E_sA, hp_T_sA, hp_N_sA, hp_R_sA, hp_I_sA, hp_T_sI, hp_N_sI, hp_R_sI, hp_E_sI, hp_I_sI, hp_sA_sI, hp_sI_sI, hg]
      exact ⟨rfl, rfl⟩
    | succ k ih =>
      intro e he
      have I := ih (e + 1) (by omega)
      rw [md_la] at I
      refine vX7_farthest_5 hX hM (fun x0 x1 x2 x3 x4 M => am_J X 5 [(0, .ref x0), (1, .int x1), (2, .int x2), (3, .int x3), (4, .int x4)] [] M 0 0) (fun _ _ _ _ _ _ h => h) ?_
      simp (disch := omega) only [t0, r1, r2, r3, r4, r5, r6, r7, r8, t1, t2, t3, t4, t5, t6, t7, t8, n1, n2, n3, n4, n5, n6, n7, n8, z1, z2, z3, z4, z5, z6, z7, z8, forall_eq, Nat.reduceAdd, Nat.reduceMul, Nat.reduceEqDiff, Nat.reduceLeDiff, Nat.reduceSub, ne_eq, not_false_eq_true, not_true_eq_false, false_implies, true_implies, implies_true, true_and, and_true, eq_self, li0, li1, li2, li3, li4, li5, li6, li7, li8, li9, li10, li11, li12, li15, li18, li21, li22, li23, li24, li27, li30, li32, li39, li50, li51, li59, li60, li63, li75, li87, li90, li99, li100, li111, li121, li126, li131, li141, li150, li400, li900, li987, li1128, li240, i3_add, i3_toNat, vpt, bI_0, bI_1, bI_bo, Bool.not_eq_false, Bool.true_eq_false, Bool.false_eq_true, Bool.not_eq_true, i3_le', i3_lt', i3_eq', hp_sE_sA, hp_sA_sA, hp_E_sA, hp_T_sA, hp_N_sA, hp_R_sA, hp_I_sA, hp_T_sI, hp_N_sI, hp_R_sI, hp_E_sI, hp_I_sI, hp_sA_sI, hp_sI_sI, hg]
      refine ⟨fun z => absurd z (by omega), fun _ => ct_i c_isFloor ?_⟩
      simp (disch := omega) only [t0, r1, r2, r3, r4, r5, r6, r7, r8, t1, t2, t3, t4, t5, t6, t7, t8, n1, n2, n3, n4, n5, n6, n7, n8, z1, z2, z3, z4, z5, z6, z7, z8, forall_eq, Nat.reduceAdd, Nat.reduceMul, Nat.reduceEqDiff, Nat.reduceLeDiff, Nat.reduceSub, ne_eq, not_false_eq_true, not_true_eq_false, false_implies, true_implies, implies_true, true_and, and_true, eq_self, li0, li1, li2, li3, li4, li5, li6, li7, li8, li9, li10, li11, li12, li15, li18, li21, li22, li23, li24, li27, li30, li32, li39, li50, li51, li59, li60, li63, li75, li87, li90, li99, li100, li111, li121, li126, li131, li141, li150, li400, li900, li987, li1128, li240, i3_add, i3_toNat, vpt, bI_0, bI_1, bI_bo, Bool.not_eq_false, Bool.true_eq_false, Bool.false_eq_true, Bool.not_eq_true, i3_le', i3_lt', i3_eq', hp_sE_sA, hp_sA_sA, hp_E_sA, hp_T_sA, hp_N_sA, hp_R_sA, hp_I_sA, hp_T_sI, hp_N_sI, hp_R_sI, hp_E_sI, hp_I_sI, hp_sA_sI, hp_sI_sI, hg]
      refine ⟨fun hx => ?_, fun hx => ct_i (c_stopsAt h0 hg ok) ?_⟩
      · rw [if_neg (by unfold md_hit; rw [hx]; simp)] at I
        exact I
      · simp (disch := omega) only [t0, r1, r2, r3, r4, r5, r6, r7, r8, t1, t2, t3, t4, t5, t6, t7, t8, n1, n2, n3, n4, n5, n6, n7, n8, z1, z2, z3, z4, z5, z6, z7, z8, forall_eq, Nat.reduceAdd, Nat.reduceMul, Nat.reduceEqDiff, Nat.reduceLeDiff, Nat.reduceSub, ne_eq, not_false_eq_true, not_true_eq_false, false_implies, true_implies, implies_true, true_and, and_true, eq_self, li0, li1, li2, li3, li4, li5, li6, li7, li8, li9, li10, li11, li12, li15, li18, li21, li22, li23, li24, li27, li30, li32, li39, li50, li51, li59, li60, li63, li75, li87, li90, li99, li100, li111, li121, li126, li131, li141, li150, li400, li900, li987, li1128, li240, i3_add, i3_toNat, vpt, bI_0, bI_1, bI_bo, Bool.not_eq_false, Bool.true_eq_false, Bool.false_eq_true, Bool.not_eq_true, i3_le', i3_lt', i3_eq', hp_sE_sA, hp_sA_sA, hp_E_sA, hp_T_sA, hp_N_sA, hp_R_sA, hp_I_sA, hp_T_sI, hp_N_sI, hp_R_sI, hp_E_sI, hp_I_sI, hp_sA_sI, hp_sI_sI, hg]
        refine ⟨fun hy => ?_, fun hy => ?_⟩
        · rw [if_neg (by unfold md_hit; rw [hx, hy]; simp)] at I
          exact I
        · rw [if_pos (by unfold md_hit; rw [hx, hy]; rfl)] at I
          exact I
  exact vX7_farthest_0 hX hM (fun x0 x1 x2 x3 x4 M => am_J X 5 [(0, .ref x0), (1, .int x1), (2, .int x2), (3, .int x3), (4, .int x4)] [] M 0 0) (fun _ _ _ _ _ _ h => h) (L 9 0 (by omega))
theorem i3_mul (a b : Nat) : i3 a * i3 b = i3 (a * b) := (Int32.ofNat_mul a b).symm
theorem c_estimated {G : am_Gx} {d : Nat} {M : am_Hp} {A : Nat → Nat} {g : md_R} {c : Nat} {f : Int32} (h : mL M A) (hg : hp_E M (A 1) = g) (ok : md_ok g) (hc : c < 3) : am_CT G (d + 4) rX7_estimated [.ref (A 0), .int (i3 c), .int f] M 0 0 (qi (md_es g c f) M) := by
  have h0 := h
  obtain ⟨t0, r1, r2, r3, r4, r5, r6, r7, r8, t1, t2, t3, t4, t5, t6, t7, t8, n1, n2, n3, n4, n5, n6, n7, n8, z1, z2, z3, z4, z5, z6, z7, z8, hJ⟩ := h
  refine am_intro mkX7_estimated rfl (Nat.le_of_ble_eq_true rfl) rfl (fun X hX hM => ?_)
  refine vX7_estimated_0 hX hM ?_
  simp (disch := omega) only [t0, r1, r2, r3, r4, r5, r6, r7, r8, t1, t2, t3, t4, t5, t6, t7, t8, n1, n2, n3, n4, n5, n6, n7, n8, z1, z2, z3, z4, z5, z6, z7, z8, forall_eq, Nat.reduceAdd, Nat.reduceMul, Nat.reduceEqDiff, Nat.reduceLeDiff, Nat.reduceSub, ne_eq, not_false_eq_true, not_true_eq_false, false_implies, true_implies, implies_true, true_and, and_true, eq_self, li0, li1, li2, li3, li4, li5, li6, li7, li8, li9, li10, li11, li12, li15, li18, li21, li22, li23, li24, li27, li30, li32, li39, li50, li51, li59, li60, li63, li75, li87, li90, li99, li100, li111, li121, li126, li131, li141, li150, li400, li900, li987, li1128, li240, i3_add, i3_toNat, vpt, bI_0, bI_1, bI_bo, Bool.not_eq_false, Bool.true_eq_false, Bool.false_eq_true, Bool.not_eq_true, i3_le', i3_lt', i3_eq', hp_sE_sA, hp_sA_sA, hp_E_sA, hp_T_sA, hp_N_sA, hp_R_sA, hp_I_sA, hp_T_sI, hp_N_sI, hp_R_sI, hp_E_sI, hp_I_sI, hp_sA_sI, hp_sI_sI, hg]
  refine ct_i c_size ?_
  simp (disch := omega) only [t0, r1, r2, r3, r4, r5, r6, r7, r8, t1, t2, t3, t4, t5, t6, t7, t8, n1, n2, n3, n4, n5, n6, n7, n8, z1, z2, z3, z4, z5, z6, z7, z8, forall_eq, Nat.reduceAdd, Nat.reduceMul, Nat.reduceEqDiff, Nat.reduceLeDiff, Nat.reduceSub, ne_eq, not_false_eq_true, not_true_eq_false, false_implies, true_implies, implies_true, true_and, and_true, eq_self, li0, li1, li2, li3, li4, li5, li6, li7, li8, li9, li10, li11, li12, li15, li18, li21, li22, li23, li24, li27, li30, li32, li39, li50, li51, li59, li60, li63, li75, li87, li90, li99, li100, li111, li121, li126, li131, li141, li150, li400, li900, li987, li1128, li240, i3_add, i3_toNat, vpt, bI_0, bI_1, bI_bo, Bool.not_eq_false, Bool.true_eq_false, Bool.false_eq_true, Bool.not_eq_true, i3_le', i3_lt', i3_eq', hp_sE_sA, hp_sA_sA, hp_E_sA, hp_T_sA, hp_N_sA, hp_R_sA, hp_I_sA, hp_T_sI, hp_N_sI, hp_R_sI, hp_E_sI, hp_I_sI, hp_sA_sI, hp_sI_sI, hg]
  refine ⟨fun c1 => ct_i (c_inside h0 hg ok) ?_, fun c1 => ⟨fun c2 => ct_i (c_inside h0 hg ok) ?_, fun c2 => ct_i (c_inside h0 hg ok) ?_⟩⟩
  · refine ⟨?_, rfl⟩
    unfold md_es
    rw [c1, if_neg (by rw [show (i3 0 : Int32) = 0 from rfl, Int32.mul_zero]; decide)]
    rfl
  · refine ⟨?_, rfl⟩
    unfold md_es
    rw [if_neg (show ¬ (f - g (9 + c)) * g (12 + c) < 0 from Int32.not_lt.mpr c2)]
    rfl
  · simp (disch := omega) only [t0, r1, r2, r3, r4, r5, r6, r7, r8, t1, t2, t3, t4, t5, t6, t7, t8, n1, n2, n3, n4, n5, n6, n7, n8, z1, z2, z3, z4, z5, z6, z7, z8, forall_eq, Nat.reduceAdd, Nat.reduceMul, Nat.reduceEqDiff, Nat.reduceLeDiff, Nat.reduceSub, ne_eq, not_false_eq_true, not_true_eq_false, false_implies, true_implies, implies_true, true_and, and_true, eq_self, li0, li1, li2, li3, li4, li5, li6, li7, li8, li9, li10, li11, li12, li15, li18, li21, li22, li23, li24, li27, li30, li32, li39, li50, li51, li59, li60, li63, li75, li87, li90, li99, li100, li111, li121, li126, li131, li141, li150, li400, li900, li987, li1128, li240, i3_add, i3_toNat, vpt, bI_0, bI_1, bI_bo, Bool.not_eq_false, Bool.true_eq_false, Bool.false_eq_true, Bool.not_eq_true, i3_le', i3_lt', i3_eq', hp_sE_sA, hp_sA_sA, hp_E_sA, hp_T_sA, hp_N_sA, hp_R_sA, hp_I_sA, hp_T_sI, hp_N_sI, hp_R_sI, hp_E_sI, hp_I_sI, hp_sA_sI, hp_sI_sI, hg]
    refine ct_i (c_farthest h0 hg ok hc) ?_
    refine ⟨?_, rfl⟩
    unfold md_es
    rw [if_pos (show (f - g (9 + c)) * g (12 + c) < 0 from Int32.not_le.mp c2)]
    rfl
theorem c_best {G : am_Gx} {d : Nat} {M : am_Hp} {A : Nat → Nat} {g : md_R} {f w : Int32} (h : mL M A) (hg : hp_E M (A 1) = g) (ok : md_ok g) : am_CT G (d + 5) rX7_best [.ref (A 0), .int f, .int w] M 0 0 (qi (md_be g f w 3) M) := by
  have h0 := h
  obtain ⟨t0, r1, r2, r3, r4, r5, r6, r7, r8, t1, t2, t3, t4, t5, t6, t7, t8, n1, n2, n3, n4, n5, n6, n7, n8, z1, z2, z3, z4, z5, z6, z7, z8, hJ⟩ := h
  refine am_intro mkX7_best rfl (Nat.le_of_ble_eq_true rfl) rfl (fun X hX hM => ?_)
  have L : ∀ k j, j + k = 3 → am_J X 5 [(0, .ref (A 0)), (1, .int f), (2, .int w), (3, .int (md_be g f w j)), (4, .int (i3 j))] [] M 0 0 := by
    intro k
    induction k with
    | zero =>
      intro j hj
      have e3 : j = 3 := by omega
      subst e3
      refine vX7_best_5 hX hM (fun x0 x1 x2 x3 x4 M => am_J X 5 [(0, .ref x0), (1, .int x1), (2, .int x2), (3, .int x3), (4, .int x4)] [] M 0 0) (fun _ _ _ _ _ _ h => h) ?_
      simp (disch := omega) only [t0, r1, r2, r3, r4, r5, r6, r7, r8, t1, t2, t3, t4, t5, t6, t7, t8, n1, n2, n3, n4, n5, n6, n7, n8, z1, z2, z3, z4, z5, z6, z7, z8, forall_eq, Nat.reduceAdd, Nat.reduceMul, Nat.reduceEqDiff, Nat.reduceLeDiff, Nat.reduceSub, ne_eq, not_false_eq_true, not_true_eq_false, false_implies, true_implies, implies_true, true_and, and_true, eq_self, li0, li1, li2, li3, li4, li5, li6, li7, li8, li9, li10, li11, li12, li15, li18, li21, li22, li23, li24, li27, li30, li32, li39, li50, li51, li59, li60, li63, li75, li87, li90, li99, li100, li111, li121, li126, li131, li141, li150, li400, li900, li987, li1128, li240, i3_add, i3_toNat, vpt, bI_0, bI_1, bI_bo, Bool.not_eq_false, Bool.true_eq_false, Bool.false_eq_true, Bool.not_eq_true, i3_le', i3_lt', i3_eq', hp_sE_sA, hp_sA_sA, hp_E_sA, hp_T_sA, hp_N_sA, hp_R_sA, hp_I_sA, hp_T_sI, hp_N_sI, hp_R_sI, hp_E_sI, hp_I_sI, hp_sA_sI, hp_sI_sI, hg]
      exact ⟨rfl, rfl⟩
    | succ k ih =>
      intro j hj
      have I := ih (j + 1) (by omega)
      rw [md_be] at I
      refine vX7_best_5 hX hM (fun x0 x1 x2 x3 x4 M => am_J X 5 [(0, .ref x0), (1, .int x1), (2, .int x2), (3, .int x3), (4, .int x4)] [] M 0 0) (fun _ _ _ _ _ _ h => h) ?_
      simp (disch := omega) only [t0, r1, r2, r3, r4, r5, r6, r7, r8, t1, t2, t3, t4, t5, t6, t7, t8, n1, n2, n3, n4, n5, n6, n7, n8, z1, z2, z3, z4, z5, z6, z7, z8, forall_eq, Nat.reduceAdd, Nat.reduceMul, Nat.reduceEqDiff, Nat.reduceLeDiff, Nat.reduceSub, ne_eq, not_false_eq_true, not_true_eq_false, false_implies, true_implies, implies_true, true_and, and_true, eq_self, li0, li1, li2, li3, li4, li5, li6, li7, li8, li9, li10, li11, li12, li15, li18, li21, li22, li23, li24, li27, li30, li32, li39, li50, li51, li59, li60, li63, li75, li87, li90, li99, li100, li111, li121, li126, li131, li141, li150, li400, li900, li987, li1128, li240, i3_add, i3_toNat, vpt, bI_0, bI_1, bI_bo, Bool.not_eq_false, Bool.true_eq_false, Bool.false_eq_true, Bool.not_eq_true, i3_le', i3_lt', i3_eq', hp_sE_sA, hp_sA_sA, hp_E_sA, hp_T_sA, hp_N_sA, hp_R_sA, hp_I_sA, hp_T_sI, hp_N_sI, hp_R_sI, hp_E_sI, hp_I_sI, hp_sA_sI, hp_sI_sI, hg]
      refine ⟨fun z => absurd z (by omega), fun _ => ⟨fun a1 => ct_i (c_loadOf h0 hg ok) ?_, fun a1 => ?_⟩⟩
      · simp (disch := omega) only [t0, r1, r2, r3, r4, r5, r6, r7, r8, t1, t2, t3, t4, t5, t6, t7, t8, n1, n2, n3, n4, n5, n6, n7, n8, z1, z2, z3, z4, z5, z6, z7, z8, forall_eq, Nat.reduceAdd, Nat.reduceMul, Nat.reduceEqDiff, Nat.reduceLeDiff, Nat.reduceSub, ne_eq, not_false_eq_true, not_true_eq_false, false_implies, true_implies, implies_true, true_and, and_true, eq_self, li0, li1, li2, li3, li4, li5, li6, li7, li8, li9, li10, li11, li12, li15, li18, li21, li22, li23, li24, li27, li30, li32, li39, li50, li51, li59, li60, li63, li75, li87, li90, li99, li100, li111, li121, li126, li131, li141, li150, li400, li900, li987, li1128, li240, i3_add, i3_toNat, vpt, bI_0, bI_1, bI_bo, Bool.not_eq_false, Bool.true_eq_false, Bool.false_eq_true, Bool.not_eq_true, i3_le', i3_lt', i3_eq', hp_sE_sA, hp_sA_sA, hp_E_sA, hp_T_sA, hp_N_sA, hp_R_sA, hp_I_sA, hp_T_sI, hp_N_sI, hp_R_sI, hp_E_sI, hp_I_sI, hp_sA_sI, hp_sI_sI, hg]
        refine ⟨fun a2 => ?_, fun a2 => ⟨fun a3 => ?_, fun a3 => ct_i (c_estimated h0 hg ok (by omega)) ?_⟩⟩
        · rw [if_neg (fun z => absurd z.2 (Int32.not_le.mpr a2))] at I
          exact I
        · rw [if_pos ⟨a1, Int32.not_lt.mp a2⟩, if_pos (Or.inl (show md_be g f w j = -1 from a3))] at I
          exact I
        · rcases md_be_val g f w j (by omega) with z | ⟨b, hb, z⟩
          · exact absurd z a3
          · rw [z] at I ⊢
            refine ⟨t0, ct_i (c_estimated h0 hg ok (show b < 3 by omega)) ?_⟩
            rw [if_pos ⟨a1, Int32.not_lt.mp a2⟩] at I
            refine ⟨fun a4 => ?_, fun a4 => ?_⟩
            · rw [if_neg] at I
              · exact I
              · rintro (q | q)
                · exact a3 (z.trans q)
                · rw [i3_toNat (by omega)] at q
                  exact absurd a4 (Int32.not_le.mpr q)
            · rw [if_pos] at I
              · exact I
              · refine Or.inr ?_
                rw [i3_toNat (by omega)]
                exact Int32.not_le.mp a4
      · rw [if_neg (fun z => a1 z.1)] at I
        exact I
  exact vX7_best_0 hX hM (fun x0 x1 x2 x3 x4 M => am_J X 5 [(0, .ref x0), (1, .int x1), (2, .int x2), (3, .int x3), (4, .int x4)] [] M 0 0) (fun _ _ _ _ _ _ h => h) (L 3 0 (by omega))
theorem c_assigns {G : am_Gx} {d : Nat} {M : am_Hp} {A : Nat → Nat} {g : md_R} {p : Nat} (h : mL M A) (hg : hp_E M (A 1) = g) (ok : md_ok g) (hp : p < 12) : am_CT G (d + 6) rX7_assigns [.ref (A 0), .int (i3 p)] M 0 0 (qv (hp_sA M (A 1) (md_as g p))) := by
  have h0 := h
  obtain ⟨t0, r1, r2, r3, r4, r5, r6, r7, r8, t1, t2, t3, t4, t5, t6, t7, t8, n1, n2, n3, n4, n5, n6, n7, n8, z1, z2, z3, z4, z5, z6, z7, z8, hJ⟩ := h
  refine am_intro mkX7_assigns rfl (Nat.le_of_ble_eq_true rfl) rfl (fun X hX hM => ?_)
  refine vX7_assigns_0 hX hM ?_
  simp (disch := omega) only [t0, r1, r2, r3, r4, r5, r6, r7, r8, t1, t2, t3, t4, t5, t6, t7, t8, n1, n2, n3, n4, n5, n6, n7, n8, z1, z2, z3, z4, z5, z6, z7, z8, forall_eq, Nat.reduceAdd, Nat.reduceMul, Nat.reduceEqDiff, Nat.reduceLeDiff, Nat.reduceSub, ne_eq, not_false_eq_true, not_true_eq_false, false_implies, true_implies, implies_true, true_and, and_true, eq_self, li0, li1, li2, li3, li4, li5, li6, li7, li8, li9, li10, li11, li12, li15, li18, li21, li22, li23, li24, li27, li30, li32, li39, li50, li51, li59, li60, li63, li75, li87, li90, li99, li100, li111, li121, li126, li131, li141, li150, li400, li900, li987, li1128, li240, i3_add, i3_toNat, vpt, bI_0, bI_1, bI_bo, Bool.not_eq_false, Bool.true_eq_false, Bool.false_eq_true, Bool.not_eq_true, i3_le', i3_lt', i3_eq', hp_sE_sA, hp_sA_sA, hp_E_sA, hp_T_sA, hp_N_sA, hp_R_sA, hp_I_sA, hp_T_sI, hp_N_sI, hp_R_sI, hp_E_sI, hp_I_sI, hp_sA_sI, hp_sI_sI, hg]
  refine ct_i (c_best (M := hp_sA M (A 1) (va_up g (87 + p) 0)) h0 (hp_E_sA _ _ _) ?_) ?_
  · unfold md_ok
    rw [md_n_up (by omega), up_n _ _ (by omega)]
    exact ok
  · simp (disch := omega) only [t0, r1, r2, r3, r4, r5, r6, r7, r8, t1, t2, t3, t4, t5, t6, t7, t8, n1, n2, n3, n4, n5, n6, n7, n8, z1, z2, z3, z4, z5, z6, z7, z8, forall_eq, Nat.reduceAdd, Nat.reduceMul, Nat.reduceEqDiff, Nat.reduceLeDiff, Nat.reduceSub, ne_eq, not_false_eq_true, not_true_eq_false, false_implies, true_implies, implies_true, true_and, and_true, eq_self, li0, li1, li2, li3, li4, li5, li6, li7, li8, li9, li10, li11, li12, li15, li18, li21, li22, li23, li24, li27, li30, li32, li39, li50, li51, li59, li60, li63, li75, li87, li90, li99, li100, li111, li121, li126, li131, li141, li150, li400, li900, li987, li1128, li240, i3_add, i3_toNat, vpt, bI_0, bI_1, bI_bo, Bool.not_eq_false, Bool.true_eq_false, Bool.false_eq_true, Bool.not_eq_true, i3_le', i3_lt', i3_eq', hp_sE_sA, hp_sA_sA, hp_E_sA, hp_T_sA, hp_N_sA, hp_R_sA, hp_I_sA, hp_T_sI, hp_N_sI, hp_R_sI, hp_E_sI, hp_I_sI, hp_sA_sI, hp_sI_sI, hg, up_up, up_n']
    exact ⟨rfl, rfl⟩
theorem i3_z0 {k : Nat} (h : k < 2147483648) : (i3 k = 0) = (k = 0) := propext (i3_eq (b := 0) h (by omega))
theorem i3_zl {k : Nat} (h : k < 2147483648) : (i3 k ≤ 0) = (k ≤ 0) := propext (i3_le (b := 0) h (by omega))
theorem c_chosen {G : am_Gx} {d : Nat} {M : am_Hp} {A : Nat → Nat} {g : md_R} {c f : Nat} (h : mL M A) (hg : hp_E M (A 1) = g) (ok : md_ok g) (hc : c < 3) (hf : g (9 + c) = i3 f) (hf9 : f < 10) : am_CT G (d + 4) rX7_chosen [.ref (A 0), .int (i3 c)] M 0 0 (qi (md_ch g c) M) := by
  have h0 := h
  obtain ⟨t0, r1, r2, r3, r4, r5, r6, r7, r8, t1, t2, t3, t4, t5, t6, t7, t8, n1, n2, n3, n4, n5, n6, n7, n8, z1, z2, z3, z4, z5, z6, z7, z8, hJ⟩ := h
  have b : ∀ r, md_nr g c r < 10 := fun r => by
    rcases md_go_le (md_hit g c r) 9 1 with q | ⟨-, q, -⟩
    · unfold md_nr; omega
    · unfold md_nr; omega
  have b1 := b 1
  have b2 := b (-1)
  refine am_intro mkX7_chosen rfl (Nat.le_of_ble_eq_true rfl) rfl (fun X hX hM => ?_)
  refine vX7_chosen_0 hX hM ?_
  refine ⟨t0, ct_i (c_nearest h0 hg ok hc hf hf9 (Or.inl rfl)) ⟨t0, ct_i (c_nearest h0 hg ok hc hf hf9 (Or.inr rfl)) ?_⟩⟩
  simp (disch := omega) only [t0, r1, r2, r3, r4, r5, r6, r7, r8, t1, t2, t3, t4, t5, t6, t7, t8, n1, n2, n3, n4, n5, n6, n7, n8, z1, z2, z3, z4, z5, z6, z7, z8, hp_sE_sA, hp_sA_sA, hp_E_sA, hp_T_sA, hp_N_sA, hp_R_sA, hp_I_sA, hp_T_sI, hp_N_sI, hp_R_sI, hp_E_sI, hp_I_sI, hp_sA_sI, hp_sI_sI, forall_eq, ne_eq, not_false_eq_true, true_and, i3_add, i3_toNat, vpt, i3_z0, i3_zl, i3_lt', hg, li12]
  unfold md_ch
  refine ⟨fun a1 => ⟨fun a2 => ⟨fun a3 => ⟨?_, rfl⟩, fun a3 => ⟨?_, rfl⟩⟩, fun a2 => ⟨?_, rfl⟩⟩, fun a1 => ⟨fun a2 => ⟨fun a3 => ⟨fun a4 => ⟨?_, rfl⟩, fun a4 => ⟨?_, rfl⟩⟩, fun a3 => ⟨?_, rfl⟩⟩, fun a2 => ⟨fun a3 => ⟨fun a4 => ⟨?_, rfl⟩, fun a4 => ⟨?_, rfl⟩⟩, fun a3 => ⟨?_, rfl⟩⟩⟩⟩
  · rw [if_pos (Or.inl a1), if_neg (by omega), if_neg (by omega)]
  · rw [if_pos (Or.inl a1), if_neg (by omega), if_pos (by omega)]
  · rw [if_pos (Or.inl a1), if_pos (by omega)]
  · rw [if_pos (Or.inr a2), if_neg (by omega), if_neg (by omega)]
  · rw [if_pos (Or.inr a2), if_neg (by omega), if_pos (by omega)]
  · rw [if_pos (Or.inr a2), if_pos (by omega)]
  · rw [if_neg (by omega), if_neg (fun z => z a3), if_neg (by omega)]
  · rw [if_neg (by omega), if_neg (fun z => z a3), if_pos (by omega)]
  · rw [if_neg (by omega), if_pos a3]
