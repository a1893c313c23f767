/-! .. a step of the reference -/
theorem md_ok_up {g : md_R} {k : Nat} {v : Int32} (h : k ≠ 1) (ok : md_ok g) : md_ok (va_up g k v) := by
  unfold md_ok
  rw [md_n_up h, up_n _ _ (Ne.symm h)]
  exact ok
theorem md_wf_fl {T : Nat} {g : md_R} {c : Nat} (h : md_wf T g) (hc : c < 3) : ∃ f, f < 10 ∧ g (9 + c) = i3 f := (h.2.1 c hc).1
theorem c_alight {G : am_Gx} {d T : Nat} {M : am_Hp} {A : Nat → Nat} {g : md_R} {c : Nat} (h : mL M A) (hg : hp_E M (A 1) = g) (hw : md_wf T g) (hc : c < 3) (hT : T < 400000000) (ht : ∃ t, g 3 = i3 t ∧ t + 12 ≤ T) : am_CT G (d + 2) rX7_alight [.ref (A 0), .int (i3 c)] M 0 0 (qv (hp_sA M (A 1) (md_al c (md_n g) 0 g))) := by
  have h0 := h
  obtain ⟨t0, r1, r2, r3, r4, r5, r6, r7, r8, t1, t2, t3, t4, t5, t6, t7, t8, n1, n2, n3, n4, n5, n6, n7, n8, z1, z2, z3, z4, z5, z6, z7, z8, hJ⟩ := h
  refine am_intro mkX7_alight rfl (Nat.le_of_ble_eq_true rfl) rfl (fun X hX hM => ?_)
  have L : ∀ k p t x, md_wf T x → md_n x = p + k → x 3 = i3 t → t + k ≤ T → md_al c k p x = md_al c (md_n g) 0 g → am_J X 2 [(0, .ref (A 0)), (1, .int (i3 c)), (2, .int (i3 p))] [] (hp_sA M (A 1) x) 0 0 := by
    intro k
    induction k with
    | zero =>
      intro p t x hx hn h3 ht he
      obtain ⟨e1, h12⟩ := md_wf_ok hx
      rw [hn] at e1
      refine vX7_alight_2 hX hM (fun x0 x1 x2 M => am_J X 2 [(0, .ref x0), (1, .int x1), (2, .int x2)] [] M 0 0) (fun _ _ _ _ h => h) ?_
      simp (disch := omega) only [t0, r1, r2, r3, r4, r5, r6, r7, r8, t1, t2, t3, t4, t5, t6, t7, t8, n1, n2, n3, n4, n5, n6, n7, n8, z1, z2, z3, z4, z5, z6, z7, z8, forall_eq, Nat.reduceAdd, Nat.reduceMul, Nat.reduceEqDiff, Nat.reduceLeDiff, Nat.reduceSub, ne_eq, not_false_eq_true, not_true_eq_false, false_implies, true_implies, implies_true, true_and, and_true, eq_self, li0, li1, li2, li3, li4, li5, li6, li7, li8, li9, li10, li11, li12, li15, li18, li21, li22, li23, li24, li27, li30, li32, li39, li50, li51, li59, li60, li63, li75, li87, li90, li99, li100, li111, li121, li126, li131, li141, li150, li400, li900, li987, li1128, li240, i3_add, i3_toNat, vpt, bI_0, bI_1, bI_bo, Bool.not_eq_false, Bool.true_eq_false, Bool.false_eq_true, Bool.not_eq_true, i3_le', i3_lt', i3_eq', hp_sE_sA, hp_sA_sA, hp_E_sA, hp_T_sA, hp_N_sA, hp_R_sA, hp_I_sA, hp_T_sI, hp_N_sI, hp_R_sI, hp_E_sI, hp_I_sI, hp_sA_sI, hp_sI_sI, e1]
      exact ⟨fun _ => ⟨rfl, by rw [← he]; rfl⟩, fun z => absurd (show p + 0 ≤ p by omega) z⟩
    | succ k ih =>
      intro p t x hx hn h3 ht he
      obtain ⟨e1, h12⟩ := md_wf_ok hx
      rw [hn] at e1
      rw [md_al] at he
      refine vX7_alight_2 hX hM (fun x0 x1 x2 M => am_J X 2 [(0, .ref x0), (1, .int x1), (2, .int x2)] [] M 0 0) (fun _ _ _ _ h => h) ?_
      simp (disch := omega) only [t0, r1, r2, r3, r4, r5, r6, r7, r8, t1, t2, t3, t4, t5, t6, t7, t8, n1, n2, n3, n4, n5, n6, n7, n8, z1, z2, z3, z4, z5, z6, z7, z8, forall_eq, Nat.reduceAdd, Nat.reduceMul, Nat.reduceEqDiff, Nat.reduceLeDiff, Nat.reduceSub, ne_eq, not_false_eq_true, not_true_eq_false, false_implies, true_implies, implies_true, true_and, and_true, eq_self, li0, li1, li2, li3, li4, li5, li6, li7, li8, li9, li10, li11, li12, li15, li18, li21, li22, li23, li24, li27, li30, li32, li39, li50, li51, li59, li60, li63, li75, li87, li90, li99, li100, li111, li121, li126, li131, li141, li150, li400, li900, li987, li1128, li240, i3_add, i3_toNat, vpt, bI_0, bI_1, bI_bo, Bool.not_eq_false, Bool.true_eq_false, Bool.false_eq_true, Bool.not_eq_true, i3_le', i3_lt', i3_eq', hp_sE_sA, hp_sA_sA, hp_E_sA, hp_T_sA, hp_N_sA, hp_R_sA, hp_I_sA, hp_T_sI, hp_N_sI, hp_R_sI, hp_E_sI, hp_I_sI, hp_sA_sI, hp_sI_sI, e1]
      refine ⟨fun z => absurd z (by omega), fun _ => ct_i (c_isIn (M := hp_sA M (A 1) x) h0 (hp_E_sA _ _ _) (by omega)) ?_⟩
      simp (disch := omega) only [t0, r1, r2, r3, r4, r5, r6, r7, r8, t1, t2, t3, t4, t5, t6, t7, t8, n1, n2, n3, n4, n5, n6, n7, n8, z1, z2, z3, z4, z5, z6, z7, z8, forall_eq, Nat.reduceAdd, Nat.reduceMul, Nat.reduceEqDiff, Nat.reduceLeDiff, Nat.reduceSub, ne_eq, not_false_eq_true, not_true_eq_false, false_implies, true_implies, implies_true, true_and, and_true, eq_self, li0, li1, li2, li3, li4, li5, li6, li7, li8, li9, li10, li11, li12, li15, li18, li21, li22, li23, li24, li27, li30, li32, li39, li50, li51, li59, li60, li63, li75, li87, li90, li99, li100, li111, li121, li126, li131, li141, li150, li400, li900, li987, li1128, li240, i3_add, i3_toNat, vpt, bI_0, bI_1, bI_bo, Bool.not_eq_false, Bool.true_eq_false, Bool.false_eq_true, Bool.not_eq_true, i3_le', i3_lt', i3_eq', hp_sE_sA, hp_sA_sA, hp_E_sA, hp_T_sA, hp_N_sA, hp_R_sA, hp_I_sA, hp_T_sI, hp_N_sI, hp_R_sI, hp_E_sI, hp_I_sI, hp_sA_sI, hp_sI_sI]
      refine ⟨fun a1 => ?_, fun a1 => ⟨fun a2 => ct_v (c_logs (M := hp_sA M (A 1) x) h0 (hp_E_sA _ _ _) (by omega) h3 (by omega)) ?_, fun a2 => ?_⟩⟩
      · rw [if_neg (by rw [a1]; simp)] at he
        exact ih (p + 1) t x hx (by omega) h3 (by omega) he
      · simp (disch := omega) only [t0, r1, r2, r3, r4, r5, r6, r7, r8, t1, t2, t3, t4, t5, t6, t7, t8, n1, n2, n3, n4, n5, n6, n7, n8, z1, z2, z3, z4, z5, z6, z7, z8, forall_eq, Nat.reduceAdd, Nat.reduceMul, Nat.reduceEqDiff, Nat.reduceLeDiff, Nat.reduceSub, ne_eq, not_false_eq_true, not_true_eq_false, false_implies, true_implies, implies_true, true_and, and_true, eq_self, li0, li1, li2, li3, li4, li5, li6, li7, li8, li9, li10, li11, li12, li15, li18, li21, li22, li23, li24, li27, li30, li32, li39, li50, li51, li59, li60, li63, li75, li87, li90, li99, li100, li111, li121, li126, li131, li141, li150, li400, li900, li987, li1128, li240, i3_add, i3_toNat, vpt, bI_0, bI_1, bI_bo, Bool.not_eq_false, Bool.true_eq_false, Bool.false_eq_true, Bool.not_eq_true, i3_le', i3_lt', i3_eq', hp_sE_sA, hp_sA_sA, hp_E_sA, hp_T_sA, hp_N_sA, hp_R_sA, hp_I_sA, hp_T_sI, hp_N_sI, hp_R_sI, hp_E_sI, hp_I_sI, hp_sA_sI, hp_sI_sI]
        refine ct_v (c_drops (M := hp_sA M (A 1) _) h0 (hp_E_sA _ _ _) (by omega)) ?_
        simp (disch := omega) only [t0, r1, r2, r3, r4, r5, r6, r7, r8, t1, t2, t3, t4, t5, t6, t7, t8, n1, n2, n3, n4, n5, n6, n7, n8, z1, z2, z3, z4, z5, z6, z7, z8, forall_eq, Nat.reduceAdd, Nat.reduceMul, Nat.reduceEqDiff, Nat.reduceLeDiff, Nat.reduceSub, ne_eq, not_false_eq_true, not_true_eq_false, false_implies, true_implies, implies_true, true_and, and_true, eq_self, li0, li1, li2, li3, li4, li5, li6, li7, li8, li9, li10, li11, li12, li15, li18, li21, li22, li23, li24, li27, li30, li32, li39, li50, li51, li59, li60, li63, li75, li87, li90, li99, li100, li111, li121, li126, li131, li141, li150, li400, li900, li987, li1128, li240, i3_add, i3_toNat, vpt, bI_0, bI_1, bI_bo, Bool.not_eq_false, Bool.true_eq_false, Bool.false_eq_true, Bool.not_eq_true, i3_le', i3_lt', i3_eq', hp_sE_sA, hp_sA_sA, hp_E_sA, hp_T_sA, hp_N_sA, hp_R_sA, hp_I_sA, hp_T_sI, hp_N_sI, hp_R_sI, hp_E_sI, hp_I_sI, hp_sA_sI, hp_sI_sI]
        rw [if_pos (by rw [a1, a2]; simp)] at he
        have w1 := md_wf_lg (p := p) (c := c) hx h3 (by omega)
        have m1 : md_n (md_lg x p c) = p + (k + 1) := by rw [md_n_eq (md_lg_far x p c 1 (by omega)), hn]
        have w2 := md_wf_dr (p := p) (by omega) w1
        refine ih p (t + 1) _ w2 ?_ ?_ (by omega) he
        · obtain ⟨⟨m, hm, hm1⟩, -⟩ := w1
          have := md_n_of hm1 hm
          obtain ⟨m', rfl⟩ : ∃ m', m = m' + 1 := ⟨m - 1, by omega⟩
          rw [md_n_of (md_dr_n hm1) (by omega)]
          omega
        · rw [md_dr_out (by omega) (by omega)]
          unfold md_lg
          rw [up_e, h3, i3_one]
      · rw [if_neg (by rw [a1]; simp [a2])] at he
        exact ih (p + 1) t x hx (by omega) h3 (by omega) he
  obtain ⟨t, h3, ht⟩ := ht
  have h12 := (md_wf_ok hw).2
  have I := L (md_n g) 0 t g hw (by omega) h3 (by omega) rfl
  rw [hp_sA_nd hg] at I
  exact vX7_alight_0 hX hM (fun x0 x1 x2 M => am_J X 2 [(0, .ref x0), (1, .int x1), (2, .int x2)] [] M 0 0) (fun _ _ _ _ h => h) I
theorem c_board {G : am_Gx} {d T : Nat} {M : am_Hp} {A : Nat → Nat} {g : md_R} {c : Nat} (h : mL M A) (hg : hp_E M (A 1) = g) (hw : md_wf T g) (hc : c < 3) : am_CT G (d + 3) rX7_board [.ref (A 0), .int (i3 c)] M 0 0 (qv (hp_sA M (A 1) (md_bo g c))) := by
  have h0 := h
  obtain ⟨t0, r1, r2, r3, r4, r5, r6, r7, r8, t1, t2, t3, t4, t5, t6, t7, t8, n1, n2, n3, n4, n5, n6, n7, n8, z1, z2, z3, z4, z5, z6, z7, z8, hJ⟩ := h
  refine am_intro mkX7_board rfl (Nat.le_of_ble_eq_true rfl) rfl (fun X hX hM => ?_)
  have L : ∀ k j, j + k = md_n g → am_J X 2 [(0, .ref (A 0)), (1, .int (i3 c)), (2, .int (i3 j))] [] (hp_sA M (A 1) (md_fo (md_bd c) g j)) 0 0 := by
    intro k
    induction k with
    | zero =>
      intro j hj
      have e : j = md_n g := by omega
      obtain ⟨w1, w2⟩ := md_wf_bo hw hc j (by omega)
      obtain ⟨e1, h12⟩ := md_wf_ok w1
      have e2 := md_n_eq (w2 1 (by omega))
      rw [e2] at e1
      refine vX7_board_2 hX hM (fun x0 x1 x2 M => am_J X 2 [(0, .ref x0), (1, .int x1), (2, .int x2)] [] M 0 0) (fun _ _ _ _ h => h) ?_
      simp (disch := omega) only [t0, r1, r2, r3, r4, r5, r6, r7, r8, t1, t2, t3, t4, t5, t6, t7, t8, n1, n2, n3, n4, n5, n6, n7, n8, z1, z2, z3, z4, z5, z6, z7, z8, forall_eq, Nat.reduceAdd, Nat.reduceMul, Nat.reduceEqDiff, Nat.reduceLeDiff, Nat.reduceSub, ne_eq, not_false_eq_true, not_true_eq_false, false_implies, true_implies, implies_true, true_and, and_true, eq_self, li0, li1, li2, li3, li4, li5, li6, li7, li8, li9, li10, li11, li12, li15, li18, li21, li22, li23, li24, li27, li30, li32, li39, li50, li51, li59, li60, li63, li75, li87, li90, li99, li100, li111, li121, li126, li131, li141, li150, li400, li900, li987, li1128, li240, i3_add, i3_toNat, vpt, bI_0, bI_1, bI_bo, Bool.not_eq_false, Bool.true_eq_false, Bool.false_eq_true, Bool.not_eq_true, i3_le', i3_lt', i3_eq', hp_sE_sA, hp_sA_sA, hp_E_sA, hp_T_sA, hp_N_sA, hp_R_sA, hp_I_sA, hp_T_sI, hp_N_sI, hp_R_sI, hp_E_sI, hp_I_sI, hp_sA_sI, hp_sI_sI, e1]
      exact ⟨fun _ => ⟨rfl, by rw [e]; rfl⟩, fun z => absurd (show md_n g ≤ j by omega) z⟩
    | succ k ih =>
      intro j hj
      have I := ih (j + 1) (by omega)
      rw [md_fo_s] at I
      obtain ⟨w1, w2⟩ := md_wf_bo hw hc j (by omega)
      obtain ⟨x, hx⟩ : ∃ x, x = md_fo (md_bd c) g j := ⟨_, rfl⟩
      rw [← hx] at I w1 w2 ⊢
      have ok := md_wf_ok w1
      obtain ⟨e1, h12⟩ := ok
      have e2 := md_n_eq (w2 1 (by omega))
      rw [e2] at e1
      unfold md_bd at I
      refine vX7_board_2 hX hM (fun x0 x1 x2 M => am_J X 2 [(0, .ref x0), (1, .int x1), (2, .int x2)] [] M 0 0) (fun _ _ _ _ h => h) ?_
      simp (disch := omega) only [t0, r1, r2, r3, r4, r5, r6, r7, r8, t1, t2, t3, t4, t5, t6, t7, t8, n1, n2, n3, n4, n5, n6, n7, n8, z1, z2, z3, z4, z5, z6, z7, z8, forall_eq, Nat.reduceAdd, Nat.reduceMul, Nat.reduceEqDiff, Nat.reduceLeDiff, Nat.reduceSub, ne_eq, not_false_eq_true, not_true_eq_false, false_implies, true_implies, implies_true, true_and, and_true, eq_self, li0, li1, li2, li3, li4, li5, li6, li7, li8, li9, li10, li11, li12, li15, li18, li21, li22, li23, li24, li27, li30, li32, li39, li50, li51, li59, li60, li63, li75, li87, li90, li99, li100, li111, li121, li126, li131, li141, li150, li400, li900, li987, li1128, li240, i3_add, i3_toNat, vpt, bI_0, bI_1, bI_bo, Bool.not_eq_false, Bool.true_eq_false, Bool.false_eq_true, Bool.not_eq_true, i3_le', i3_lt', i3_eq', hp_sE_sA, hp_sA_sA, hp_E_sA, hp_T_sA, hp_N_sA, hp_R_sA, hp_I_sA, hp_T_sI, hp_N_sI, hp_R_sI, hp_E_sI, hp_I_sI, hp_sA_sI, hp_sI_sI, e1]
      refine ⟨fun z => absurd z (by omega), fun _ => ct_i (c_awaits (M := hp_sA M (A 1) x) h0 (hp_E_sA _ _ _) (by omega)) ?_⟩
      simp (disch := omega) only [t0, r1, r2, r3, r4, r5, r6, r7, r8, t1, t2, t3, t4, t5, t6, t7, t8, n1, n2, n3, n4, n5, n6, n7, n8, z1, z2, z3, z4, z5, z6, z7, z8, forall_eq, Nat.reduceAdd, Nat.reduceMul, Nat.reduceEqDiff, Nat.reduceLeDiff, Nat.reduceSub, ne_eq, not_false_eq_true, not_true_eq_false, false_implies, true_implies, implies_true, true_and, and_true, eq_self, li0, li1, li2, li3, li4, li5, li6, li7, li8, li9, li10, li11, li12, li15, li18, li21, li22, li23, li24, li27, li30, li32, li39, li50, li51, li59, li60, li63, li75, li87, li90, li99, li100, li111, li121, li126, li131, li141, li150, li400, li900, li987, li1128, li240, i3_add, i3_toNat, vpt, bI_0, bI_1, bI_bo, Bool.not_eq_false, Bool.true_eq_false, Bool.false_eq_true, Bool.not_eq_true, i3_le', i3_lt', i3_eq', hp_sE_sA, hp_sA_sA, hp_E_sA, hp_T_sA, hp_N_sA, hp_R_sA, hp_I_sA, hp_T_sI, hp_N_sI, hp_R_sI, hp_E_sI, hp_I_sI, hp_sA_sI, hp_sI_sI]
      refine ⟨fun a1 => ?_, fun a1 => ⟨fun a2 => ct_i (c_loadOf (M := hp_sA M (A 1) x) h0 (hp_E_sA _ _ _) (md_wf_ok w1)) ?_, fun a2 => ?_⟩⟩
      · rw [if_neg (by rw [a1]; simp)] at I
        exact I
      · rw [if_pos (by rw [a1, a2]; simp)] at I
        simp (disch := omega) only [t0, r1, r2, r3, r4, r5, r6, r7, r8, t1, t2, t3, t4, t5, t6, t7, t8, n1, n2, n3, n4, n5, n6, n7, n8, z1, z2, z3, z4, z5, z6, z7, z8, forall_eq, Nat.reduceAdd, Nat.reduceMul, Nat.reduceEqDiff, Nat.reduceLeDiff, Nat.reduceSub, ne_eq, not_false_eq_true, not_true_eq_false, false_implies, true_implies, implies_true, true_and, and_true, eq_self, li0, li1, li2, li3, li4, li5, li6, li7, li8, li9, li10, li11, li12, li15, li18, li21, li22, li23, li24, li27, li30, li32, li39, li50, li51, li59, li60, li63, li75, li87, li90, li99, li100, li111, li121, li126, li131, li141, li150, li400, li900, li987, li1128, li240, i3_add, i3_toNat, vpt, bI_0, bI_1, bI_bo, Bool.not_eq_false, Bool.true_eq_false, Bool.false_eq_true, Bool.not_eq_true, i3_le', i3_lt', i3_eq', hp_sE_sA, hp_sA_sA, hp_E_sA, hp_T_sA, hp_N_sA, hp_R_sA, hp_I_sA, hp_T_sI, hp_N_sI, hp_R_sI, hp_E_sI, hp_I_sI, hp_sA_sI, hp_sI_sI]
        refine ⟨fun a3 => ?_, fun a3 => ?_⟩
        · rw [if_neg (Int32.not_le.mpr a3)] at I
          exact I
        · rw [if_pos (Int32.not_lt.mp a3), i3_one] at I
          exact I
      · rw [if_neg (by simp [a2])] at I
        exact I
  have I := L (md_n g) 0 (by omega)
  rw [show md_fo (md_bd c) g 0 = g from rfl, hp_sA_nd hg] at I
  exact vX7_board_0 hX hM (fun x0 x1 x2 M => am_J X 2 [(0, .ref x0), (1, .int x1), (2, .int x2)] [] M 0 0) (fun _ _ _ _ h => h) I
theorem md_mv_u {g : md_R} {c : Nat} (h : md_ch g c = i3 1) : md_mv g c = va_up (va_up (va_up (va_up (va_up g (12 + c) (i3 1)) (9 + c) (g (9 + c) + i3 1)) (24 + c) (g (24 + c) + (i3 2 + md_ld g c / i3 100))) 8 (g 8 + md_ld g c / i3 100)) 5 (g 5 + i3 1) := by
  unfold md_mv
  rw [h]
  rfl
theorem md_mv_d {g : md_R} {c : Nat} (h : md_ch g c = -i3 1) : md_mv g c = va_up (va_up (va_up (va_up g (12 + c) (-i3 1)) (9 + c) (g (9 + c) + -i3 1)) (24 + c) (g (24 + c) + i3 1)) 6 (g 6 + i3 1) := by
  unfold md_mv
  rw [h]
  rfl
theorem md_mv_0 {g : md_R} {c : Nat} (h : ¬ md_ch g c = i3 1) (h2 : ¬ md_ch g c = -i3 1) : md_mv g c = va_up (va_up g (12 + c) (md_ch g c)) (9 + c) (g (9 + c) + md_ch g c) := by
  show (if md_ch g c = 1 then _ else if md_ch g c = -1 then _ else _) = _
  rw [if_neg (show ¬ md_ch g c = 1 from h), if_neg (show ¬ md_ch g c = -1 from h2)]
theorem c_moves {G : am_Gx} {d T : Nat} {M : am_Hp} {A : Nat → Nat} {g : md_R} {c : Nat} (h : mL M A) (hg : hp_E M (A 1) = g) (hw : md_wf T g) (hc : c < 3) : am_CT G (d + 5) rX7_moves [.ref (A 0), .int (i3 c)] M 0 0 (qv (hp_sA M (A 1) (md_mv g c))) := by
  have h0 := h
  obtain ⟨t0, r1, r2, r3, r4, r5, r6, r7, r8, t1, t2, t3, t4, t5, t6, t7, t8, n1, n2, n3, n4, n5, n6, n7, n8, z1, z2, z3, z4, z5, z6, z7, z8, hJ⟩ := h
  have ok := md_wf_ok hw
  obtain ⟨f, hf9, hf⟩ := md_wf_fl hw hc
  have h12 := ok.2
  refine am_intro mkX7_moves rfl (Nat.le_of_ble_eq_true rfl) rfl (fun X hX hM => ?_)
  refine vX7_moves_0 hX hM ?_
  refine ⟨t0, ct_i (c_chosen h0 hg ok hc hf hf9) ?_⟩
  simp (disch := omega) only [t0, r1, r2, r3, r4, r5, r6, r7, r8, t1, t2, t3, t4, t5, t6, t7, t8, n1, n2, n3, n4, n5, n6, n7, n8, z1, z2, z3, z4, z5, z6, z7, z8, forall_eq, Nat.reduceAdd, Nat.reduceMul, Nat.reduceEqDiff, Nat.reduceLeDiff, Nat.reduceSub, ne_eq, not_false_eq_true, not_true_eq_false, false_implies, true_implies, implies_true, true_and, and_true, eq_self, li0, li1, li2, li3, li4, li5, li6, li7, li8, li9, li10, li11, li12, li15, li18, li21, li22, li23, li24, li27, li30, li32, li39, li50, li51, li59, li60, li63, li75, li87, li90, li99, li100, li111, li121, li126, li131, li141, li150, li400, li900, li987, li1128, li240, i3_add, i3_toNat, vpt, bI_0, bI_1, bI_bo, Bool.not_eq_false, Bool.true_eq_false, Bool.false_eq_true, Bool.not_eq_true, i3_le', i3_lt', i3_eq', hp_sE_sA, hp_sA_sA, hp_E_sA, hp_T_sA, hp_N_sA, hp_R_sA, hp_I_sA, hp_T_sI, hp_N_sI, hp_R_sI, hp_E_sI, hp_I_sI, hp_sA_sI, hp_sI_sI, hg, up_n']
  have o1 : ∀ r v : Int32, md_ok (va_up (va_up g (12 + c) r) (9 + c) v) := fun r v => md_ok_up (by omega) (md_ok_up (by omega) ok)
  have l1 : ∀ r v : Int32, md_ld (va_up (va_up g (12 + c) r) (9 + c) v) c = md_ld g c := fun r v => md_ld_cg h12 (fun k hk => by rw [up_n _ _ (by omega), up_n _ _ (by omega)])
  have l2 : ∀ r v w : Int32, md_ld (va_up (va_up (va_up g (12 + c) r) (9 + c) v) (24 + c) w) c = md_ld g c := fun r v w => md_ld_cg h12 (fun k hk => by rw [up_n _ _ (by omega), up_n _ _ (by omega), up_n _ _ (by omega)])
  refine ⟨fun a1 => ct_i (c_loadOf (M := hp_sA M (A 1) _) h0 (hp_E_sA _ _ _) (o1 _ _)) ?_, fun a1 => ⟨fun a2 => ?_, fun a2 => ?_⟩⟩
  · rw [l1]
    simp (disch := omega) only [t0, r1, r2, r3, r4, r5, r6, r7, r8, t1, t2, t3, t4, t5, t6, t7, t8, n1, n2, n3, n4, n5, n6, n7, n8, z1, z2, z3, z4, z5, z6, z7, z8, forall_eq, Nat.reduceAdd, Nat.reduceMul, Nat.reduceEqDiff, Nat.reduceLeDiff, Nat.reduceSub, ne_eq, not_false_eq_true, not_true_eq_false, false_implies, true_implies, implies_true, true_and, and_true, eq_self, li0, li1, li2, li3, li4, li5, li6, li7, li8, li9, li10, li11, li12, li15, li18, li21, li22, li23, li24, li27, li30, li32, li39, li50, li51, li59, li60, li63, li75, li87, li90, li99, li100, li111, li121, li126, li131, li141, li150, li400, li900, li987, li1128, li240, i3_add, i3_toNat, vpt, bI_0, bI_1, bI_bo, Bool.not_eq_false, Bool.true_eq_false, Bool.false_eq_true, Bool.not_eq_true, i3_le', i3_lt', i3_eq', hp_sE_sA, hp_sA_sA, hp_E_sA, hp_T_sA, hp_N_sA, hp_R_sA, hp_I_sA, hp_T_sI, hp_N_sI, hp_R_sI, hp_E_sI, hp_I_sI, hp_sA_sI, hp_sI_sI, up_n']
    refine ct_i (c_loadOf (M := hp_sA M (A 1) _) h0 (hp_E_sA _ _ _) (md_ok_up (by omega) (o1 _ _))) ?_
    rw [l2]
    simp (disch := omega) only [t0, r1, r2, r3, r4, r5, r6, r7, r8, t1, t2, t3, t4, t5, t6, t7, t8, n1, n2, n3, n4, n5, n6, n7, n8, z1, z2, z3, z4, z5, z6, z7, z8, forall_eq, Nat.reduceAdd, Nat.reduceMul, Nat.reduceEqDiff, Nat.reduceLeDiff, Nat.reduceSub, ne_eq, not_false_eq_true, not_true_eq_false, false_implies, true_implies, implies_true, true_and, and_true, eq_self, li0, li1, li2, li3, li4, li5, li6, li7, li8, li9, li10, li11, li12, li15, li18, li21, li22, li23, li24, li27, li30, li32, li39, li50, li51, li59, li60, li63, li75, li87, li90, li99, li100, li111, li121, li126, li131, li141, li150, li400, li900, li987, li1128, li240, i3_add, i3_toNat, vpt, bI_0, bI_1, bI_bo, Bool.not_eq_false, Bool.true_eq_false, Bool.false_eq_true, Bool.not_eq_true, i3_le', i3_lt', i3_eq', hp_sE_sA, hp_sA_sA, hp_E_sA, hp_T_sA, hp_N_sA, hp_R_sA, hp_I_sA, hp_T_sI, hp_N_sI, hp_R_sI, hp_E_sI, hp_I_sI, hp_sA_sI, hp_sI_sI, up_n']
    rw [a1]
    refine ⟨fun z => absurd z (by decide), fun _ => ⟨rfl, ?_⟩⟩
    rw [md_mv_u a1]
  · rw [a2]
    refine ⟨rfl, ?_⟩
    rw [md_mv_d a2]
  · refine ⟨rfl, ?_⟩
    rw [md_mv_0 a1 a2]
theorem md_ac_1 {g : md_R} {c : Nat} (h : ¬ g (18 + c) ≤ i3 0) : md_ac g c = va_up g (18 + c) (g (18 + c) - i3 1) := by
  unfold md_ac
  rw [if_pos (show 0 < g (18 + c) from Int32.not_le.mp h)]
  rfl
theorem md_ac_2 {g : md_R} {c : Nat} (h : g (18 + c) ≤ i3 0) (h2 : md_st g c (g (9 + c)) = false) : md_ac g c = md_mv g c := by
  unfold md_ac
  rw [if_neg (show ¬ 0 < g (18 + c) from Int32.not_lt.mpr h), if_neg (by rw [h2]; decide)]
theorem md_ac_3 {g : md_R} {c : Nat} (h : g (18 + c) ≤ i3 0) (h2 : md_st g c (g (9 + c)) = true) : md_ac g c = md_bo (md_al c (md_n g) 0 (md_op g c)) c := by
  unfold md_ac
  rw [if_neg (show ¬ 0 < g (18 + c) from Int32.not_lt.mpr h), if_pos h2]
theorem md_c1_p {g : md_R} {c : Nat} (h : g (21 + c) = i3 0) : md_c1 g c = md_ac g c := if_pos h
theorem md_c1_n {g : md_R} {c : Nat} (h : ¬ g (21 + c) = i3 0) : md_c1 g c = g := if_neg h
theorem md_a1_p {g : md_R} {p : Nat} (h : g (87 + p) = i3 0) : md_a1 g p = md_as g p := if_pos h
theorem md_a1_n {g : md_R} {p : Nat} (h : ¬ g (87 + p) = i3 0) : md_a1 g p = g := if_neg h
theorem c_acts {G : am_Gx} {d T : Nat} {M : am_Hp} {A : Nat → Nat} {g : md_R} {c : Nat} (h : mL M A) (hg : hp_E M (A 1) = g) (hw : md_wf T g) (hc : c < 3) (hT : T < 300000000) : am_CT G (d + 6) rX7_acts [.ref (A 0), .int (i3 c)] M 0 0 (qv (hp_sA M (A 1) (md_ac g c))) := by
  have h0 := h
  obtain ⟨t0, r1, r2, r3, r4, r5, r6, r7, r8, t1, t2, t3, t4, t5, t6, t7, t8, n1, n2, n3, n4, n5, n6, n7, n8, z1, z2, z3, z4, z5, z6, z7, z8, hJ⟩ := h
  have ok := md_wf_ok hw
  have h12 := ok.2
  refine am_intro mkX7_acts rfl (Nat.le_of_ble_eq_true rfl) rfl (fun X hX hM => ?_)
  refine vX7_acts_0 hX hM ?_
  simp (disch := omega) only [t0, r1, r2, r3, r4, r5, r6, r7, r8, t1, t2, t3, t4, t5, t6, t7, t8, n1, n2, n3, n4, n5, n6, n7, n8, z1, z2, z3, z4, z5, z6, z7, z8, forall_eq, Nat.reduceAdd, Nat.reduceMul, Nat.reduceEqDiff, Nat.reduceLeDiff, Nat.reduceSub, ne_eq, not_false_eq_true, not_true_eq_false, false_implies, true_implies, implies_true, true_and, and_true, eq_self, li0, li1, li2, li3, li4, li5, li6, li7, li8, li9, li10, li11, li12, li15, li18, li21, li22, li23, li24, li27, li30, li32, li39, li50, li51, li59, li60, li63, li75, li87, li90, li99, li100, li111, li121, li126, li131, li141, li150, li400, li900, li987, li1128, li240, i3_add, i3_toNat, vpt, bI_0, bI_1, bI_bo, Bool.not_eq_false, Bool.true_eq_false, Bool.false_eq_true, Bool.not_eq_true, i3_le', i3_lt', i3_eq', hp_sE_sA, hp_sA_sA, hp_E_sA, hp_T_sA, hp_N_sA, hp_R_sA, hp_I_sA, hp_T_sI, hp_N_sI, hp_R_sI, hp_E_sI, hp_I_sI, hp_sA_sI, hp_sI_sI, hg]
  refine ⟨fun a1 => ct_i (c_stopsAt h0 hg ok) ?_, fun a1 => ?_⟩
  · simp (disch := omega) only [t0, r1, r2, r3, r4, r5, r6, r7, r8, t1, t2, t3, t4, t5, t6, t7, t8, n1, n2, n3, n4, n5, n6, n7, n8, z1, z2, z3, z4, z5, z6, z7, z8, forall_eq, Nat.reduceAdd, Nat.reduceMul, Nat.reduceEqDiff, Nat.reduceLeDiff, Nat.reduceSub, ne_eq, not_false_eq_true, not_true_eq_false, false_implies, true_implies, implies_true, true_and, and_true, eq_self, li0, li1, li2, li3, li4, li5, li6, li7, li8, li9, li10, li11, li12, li15, li18, li21, li22, li23, li24, li27, li30, li32, li39, li50, li51, li59, li60, li63, li75, li87, li90, li99, li100, li111, li121, li126, li131, li141, li150, li400, li900, li987, li1128, li240, i3_add, i3_toNat, vpt, bI_0, bI_1, bI_bo, Bool.not_eq_false, Bool.true_eq_false, Bool.false_eq_true, Bool.not_eq_true, i3_le', i3_lt', i3_eq', hp_sE_sA, hp_sA_sA, hp_E_sA, hp_T_sA, hp_N_sA, hp_R_sA, hp_I_sA, hp_T_sI, hp_N_sI, hp_R_sI, hp_E_sI, hp_I_sI, hp_sA_sI, hp_sI_sI, hg]
    refine ⟨fun a2 => ct_v (c_moves h0 hg hw hc) ?_, fun a2 => ?_⟩
    · rw [md_ac_2 a1 a2]
      exact ⟨rfl, rfl⟩
    · rw [md_ac_3 a1 a2]
      have w1 := md_wf_mono (show T + 1 ≤ T + 20 by omega) (md_wf_op hw hc (by omega))
      have e1 : md_n (md_op g c) = md_n g := by unfold md_op md_n; rw [up_n _ _ (by omega), up_n _ _ (by omega), up_n _ _ (by omega)]
      have e3 : md_op g c 3 = g 3 := by unfold md_op; rw [up_n _ _ (by omega), up_n _ _ (by omega), up_n _ _ (by omega)]
      obtain ⟨t, t1, t2⟩ := hw.2.2.2.2.1
      simp (disch := omega) only [t0, r1, r2, r3, r4, r5, r6, r7, r8, t1, t2, t3, t4, t5, t6, t7, t8, n1, n2, n3, n4, n5, n6, n7, n8, z1, z2, z3, z4, z5, z6, z7, z8, forall_eq, Nat.reduceAdd, Nat.reduceMul, Nat.reduceEqDiff, Nat.reduceLeDiff, Nat.reduceSub, ne_eq, not_false_eq_true, not_true_eq_false, false_implies, true_implies, implies_true, true_and, and_true, eq_self, li0, li1, li2, li3, li4, li5, li6, li7, li8, li9, li10, li11, li12, li15, li18, li21, li22, li23, li24, li27, li30, li32, li39, li50, li51, li59, li60, li63, li75, li87, li90, li99, li100, li111, li121, li126, li131, li141, li150, li400, li900, li987, li1128, li240, i3_add, i3_toNat, vpt, bI_0, bI_1, bI_bo, Bool.not_eq_false, Bool.true_eq_false, Bool.false_eq_true, Bool.not_eq_true, i3_le', i3_lt', i3_eq', hp_sE_sA, hp_sA_sA, hp_E_sA, hp_T_sA, hp_N_sA, hp_R_sA, hp_I_sA, hp_T_sI, hp_N_sI, hp_R_sI, hp_E_sI, hp_I_sI, hp_sA_sI, hp_sI_sI, up_n']
      refine ct_v (c_alight (T := T + 20) (g := md_op g c) (M := hp_sA M (A 1) _) h0 ((hp_E_sA _ _ _).trans ?_) w1 hc (by omega) ⟨t, by rw [e3]; exact t2, by omega⟩) ?_
      · rfl
      · simp (disch := omega) only [t0, r1, r2, r3, r4, r5, r6, r7, r8, t1, t2, t3, t4, t5, t6, t7, t8, n1, n2, n3, n4, n5, n6, n7, n8, z1, z2, z3, z4, z5, z6, z7, z8, forall_eq, Nat.reduceAdd, Nat.reduceMul, Nat.reduceEqDiff, Nat.reduceLeDiff, Nat.reduceSub, ne_eq, not_false_eq_true, not_true_eq_false, false_implies, true_implies, implies_true, true_and, and_true, eq_self, li0, li1, li2, li3, li4, li5, li6, li7, li8, li9, li10, li11, li12, li15, li18, li21, li22, li23, li24, li27, li30, li32, li39, li50, li51, li59, li60, li63, li75, li87, li90, li99, li100, li111, li121, li126, li131, li141, li150, li400, li900, li987, li1128, li240, i3_add, i3_toNat, vpt, bI_0, bI_1, bI_bo, Bool.not_eq_false, Bool.true_eq_false, Bool.false_eq_true, Bool.not_eq_true, i3_le', i3_lt', i3_eq', hp_sE_sA, hp_sA_sA, hp_E_sA, hp_T_sA, hp_N_sA, hp_R_sA, hp_I_sA, hp_T_sI, hp_N_sI, hp_R_sI, hp_E_sI, hp_I_sI, hp_sA_sI, hp_sI_sI]
        rw [e1]
        have w2 := (md_wf_al (c := c) (md_n g) 0 t _ w1 (by omega) (by rw [e3]; exact t2) (by omega)).1
        refine ct_v (c_board (M := hp_sA M (A 1) _) h0 (hp_E_sA _ _ _) w2 hc) ?_
        simp (disch := omega) only [t0, r1, r2, r3, r4, r5, r6, r7, r8, t1, t2, t3, t4, t5, t6, t7, t8, n1, n2, n3, n4, n5, n6, n7, n8, z1, z2, z3, z4, z5, z6, z7, z8, forall_eq, Nat.reduceAdd, Nat.reduceMul, Nat.reduceEqDiff, Nat.reduceLeDiff, Nat.reduceSub, ne_eq, not_false_eq_true, not_true_eq_false, false_implies, true_implies, implies_true, true_and, and_true, eq_self, li0, li1, li2, li3, li4, li5, li6, li7, li8, li9, li10, li11, li12, li15, li18, li21, li22, li23, li24, li27, li30, li32, li39, li50, li51, li59, li60, li63, li75, li87, li90, li99, li100, li111, li121, li126, li131, li141, li150, li400, li900, li987, li1128, li240, i3_add, i3_toNat, vpt, bI_0, bI_1, bI_bo, Bool.not_eq_false, Bool.true_eq_false, Bool.false_eq_true, Bool.not_eq_true, i3_le', i3_lt', i3_eq', hp_sE_sA, hp_sA_sA, hp_E_sA, hp_T_sA, hp_N_sA, hp_R_sA, hp_I_sA, hp_T_sI, hp_N_sI, hp_R_sI, hp_E_sI, hp_I_sI, hp_sA_sI, hp_sI_sI]
        exact ⟨rfl, rfl⟩
  · rw [md_ac_1 a1]
    exact ⟨rfl, rfl⟩
theorem md_a1_eq (g : md_R) (p : Nat) : md_a1 g p = if g (87 + p) = 0 then md_as g p else g := rfl
theorem c_step {G : am_Gx} {d T : Nat} {M : am_Hp} {A : Nat → Nat} {g : md_R} (h : mL M A) (hg : hp_E M (A 1) = g) (hw : md_wf T g) (hT : T < 200000000) : am_CT G (d + 7) rX7_step [.ref (A 0)] M 0 0 (qv (hp_sA M (A 1) (md_step g))) := by
  have h0 := h
  obtain ⟨t0, r1, r2, r3, r4, r5, r6, r7, r8, t1, t2, t3, t4, t5, t6, t7, t8, n1, n2, n3, n4, n5, n6, n7, n8, z1, z2, z3, z4, z5, z6, z7, z8, hJ⟩ := h
  obtain ⟨t, q1, q2⟩ := hw.2.2.2.1
  obtain ⟨x0, hx0⟩ : ∃ x, x = va_up g 0 (g 0 + i3 1) := ⟨_, rfl⟩
  have w0 : md_wf (T + 1) x0 := by
    rw [hx0, q2, i3_add]
    exact md_wf_time (md_wf_mono (by omega) hw) (by omega)
  have n0 : md_n x0 = md_n g := by rw [hx0]; exact md_n_up (by omega)
  have hpre : md_pre g = md_fo md_w1 (md_fo md_a1 x0 (md_n g)) (md_n g) := by rw [hx0]; rfl
  have h12 := (md_wf_ok hw).2
  obtain ⟨w1, f1⟩ := md_wf_fa w0 (md_n g) (by omega)
  have m1 : md_n (md_fo md_a1 x0 (md_n g)) = md_n g := by rw [md_n_eq (f1 1 (by omega)), n0]
  have hq : ∀ p, p < md_n (md_fo md_a1 x0 (md_n g)) → ∃ q, q ≤ T ∧ md_fo md_a1 x0 (md_n g) (75 + p) = i3 q := fun p hp => by
    rw [m1] at hp
    obtain ⟨-, -, -, ⟨q, q1, q2⟩, -⟩ := hw.2.2.1 p hp
    exact ⟨q, q1, by rw [f1 _ (by omega), hx0, up_n _ _ (by omega)]; exact q2⟩
  have wp := md_wf_pre hw
  refine am_intro mkX7_step rfl (Nat.le_of_ble_eq_true rfl) rfl (fun X hX hM => ?_)
  have L3 : ∀ k j x, j + k = 3 → md_wf (T + 1 + 20 * j) x → md_fo md_c1 (md_pre g) j = x → am_J X 88 [(0, .ref (A 0)), (1, .int (i3 j))] [] (hp_sA M (A 1) x) 0 0 := by
    intro k
    induction k with
    | zero =>
      intro j x hj hx he
      have e : j = 3 := by omega
      subst e
      refine vX7_step_88 hX hM (fun x0 x1 M => am_J X 88 [(0, .ref x0), (1, .int x1)] [] M 0 0) (fun _ _ _ h => h) ⟨fun _ => ⟨rfl, ?_⟩, fun z => absurd (Int32.le_refl _) z⟩
      rw [← he, md_step_eq hw]
      rfl
    | succ k ih =>
      intro j x hj hx he
      have w2 := md_wf_c1 (c := j) hx (by omega) (by omega)
      have I := ih (j + 1) (md_c1 x j) (by omega) (md_wf_mono (by omega) w2) (by rw [md_fo_s, he])
      refine vX7_step_88 hX hM (fun x0 x1 M => am_J X 88 [(0, .ref x0), (1, .int x1)] [] M 0 0) (fun _ _ _ h => h) ?_
      simp (disch := omega) only [t0, r1, r2, r3, r4, r5, r6, r7, r8, t1, t2, t3, t4, t5, t6, t7, t8, n1, n2, n3, n4, n5, n6, n7, n8, z1, z2, z3, z4, z5, z6, z7, z8, forall_eq, Nat.reduceAdd, Nat.reduceMul, Nat.reduceEqDiff, Nat.reduceLeDiff, Nat.reduceSub, ne_eq, not_false_eq_true, not_true_eq_false, false_implies, true_implies, implies_true, true_and, and_true, eq_self, li0, li1, li2, li3, li4, li5, li6, li7, li8, li9, li10, li11, li12, li15, li18, li21, li22, li23, li24, li27, li30, li32, li39, li50, li51, li59, li60, li63, li75, li87, li90, li99, li100, li111, li121, li126, li131, li141, li150, li400, li900, li987, li1128, li240, i3_add, i3_toNat, vpt, bI_0, bI_1, bI_bo, Bool.not_eq_false, Bool.true_eq_false, Bool.false_eq_true, Bool.not_eq_true, i3_le', i3_lt', i3_eq', hp_sE_sA, hp_sA_sA, hp_E_sA, hp_T_sA, hp_N_sA, hp_R_sA, hp_I_sA, hp_T_sI, hp_N_sI, hp_R_sI, hp_E_sI, hp_I_sI, hp_sA_sI, hp_sI_sI]
      refine ⟨fun z => absurd z (by omega), fun _ => ⟨fun a1 => ct_v (c_acts (M := hp_sA M (A 1) x) h0 (hp_E_sA _ _ _) hx (by omega) (by omega)) ?_, fun a1 => ?_⟩⟩
      · rw [md_c1_p a1] at I
        simp (disch := omega) only [t0, r1, r2, r3, r4, r5, r6, r7, r8, t1, t2, t3, t4, t5, t6, t7, t8, n1, n2, n3, n4, n5, n6, n7, n8, z1, z2, z3, z4, z5, z6, z7, z8, forall_eq, Nat.reduceAdd, Nat.reduceMul, Nat.reduceEqDiff, Nat.reduceLeDiff, Nat.reduceSub, ne_eq, not_false_eq_true, not_true_eq_false, false_implies, true_implies, implies_true, true_and, and_true, eq_self, li0, li1, li2, li3, li4, li5, li6, li7, li8, li9, li10, li11, li12, li15, li18, li21, li22, li23, li24, li27, li30, li32, li39, li50, li51, li59, li60, li63, li75, li87, li90, li99, li100, li111, li121, li126, li131, li141, li150, li400, li900, li987, li1128, li240, i3_add, i3_toNat, vpt, bI_0, bI_1, bI_bo, Bool.not_eq_false, Bool.true_eq_false, Bool.false_eq_true, Bool.not_eq_true, i3_le', i3_lt', i3_eq', hp_sE_sA, hp_sA_sA, hp_E_sA, hp_T_sA, hp_N_sA, hp_R_sA, hp_I_sA, hp_T_sI, hp_N_sI, hp_R_sI, hp_E_sI, hp_I_sI, hp_sA_sI, hp_sI_sI]
        exact I
      · rw [md_c1_n a1] at I
        exact I
  have L2 : ∀ k j, j + k = md_n g → am_J X 47 [(0, .ref (A 0)), (1, .int (i3 j))] [] (hp_sA M (A 1) (md_fo md_w1 (md_fo md_a1 x0 (md_n g)) j)) 0 0 := by
    intro k
    induction k with
    | zero =>
      intro j hj
      obtain ⟨w2, f2⟩ := md_wf_fw (T := T) w1 hq (by omega) j (by omega)
      obtain ⟨e1, -⟩ := md_wf_ok w2
      rw [md_n_eq (f2 1 (by omega)), m1] at e1
      refine vX7_step_47 hX hM (fun x0 x1 M => am_J X 47 [(0, .ref x0), (1, .int x1)] [] M 0 0) (fun _ _ _ h => h) (fun x0 x1 M => am_J X 88 [(0, .ref x0), (1, .int x1)] [] M 0 0) (fun _ _ _ h => h) ?_
      simp (disch := omega) only [t0, r1, r2, r3, r4, r5, r6, r7, r8, t1, t2, t3, t4, t5, t6, t7, t8, n1, n2, n3, n4, n5, n6, n7, n8, z1, z2, z3, z4, z5, z6, z7, z8, forall_eq, Nat.reduceAdd, Nat.reduceMul, Nat.reduceEqDiff, Nat.reduceLeDiff, Nat.reduceSub, ne_eq, not_false_eq_true, not_true_eq_false, false_implies, true_implies, implies_true, true_and, and_true, eq_self, li0, li1, li2, li3, li4, li5, li6, li7, li8, li9, li10, li11, li12, li15, li18, li21, li22, li23, li24, li27, li30, li32, li39, li50, li51, li59, li60, li63, li75, li87, li90, li99, li100, li111, li121, li126, li131, li141, li150, li400, li900, li987, li1128, li240, i3_add, i3_toNat, vpt, bI_0, bI_1, bI_bo, Bool.not_eq_false, Bool.true_eq_false, Bool.false_eq_true, Bool.not_eq_true, i3_le', i3_lt', i3_eq', hp_sE_sA, hp_sA_sA, hp_E_sA, hp_T_sA, hp_N_sA, hp_R_sA, hp_I_sA, hp_T_sI, hp_N_sI, hp_R_sI, hp_E_sI, hp_I_sI, hp_sA_sI, hp_sI_sI, e1]
      refine ⟨fun _ => ?_, fun z => absurd (show md_n g ≤ j by omega) z⟩
      have e : j = md_n g := by omega
      rw [e]
      rw [← hpre]
      exact L3 3 0 _ (by omega) (by rw [Nat.mul_zero, Nat.add_zero]; exact wp) rfl
    | succ k ih =>
      intro j hj
      have I := ih (j + 1) (by omega)
      rw [md_fo_s] at I
      obtain ⟨w2, f2⟩ := md_wf_fw (T := T) w1 hq (by omega) j (by omega)
      obtain ⟨e1, -⟩ := md_wf_ok w2
      rw [md_n_eq (f2 1 (by omega)), m1] at e1
      refine vX7_step_47 hX hM (fun x0 x1 M => am_J X 47 [(0, .ref x0), (1, .int x1)] [] M 0 0) (fun _ _ _ h => h) (fun x0 x1 M => am_J X 88 [(0, .ref x0), (1, .int x1)] [] M 0 0) (fun _ _ _ h => h) ?_
      simp (disch := omega) only [t0, r1, r2, r3, r4, r5, r6, r7, r8, t1, t2, t3, t4, t5, t6, t7, t8, n1, n2, n3, n4, n5, n6, n7, n8, z1, z2, z3, z4, z5, z6, z7, z8, forall_eq, Nat.reduceAdd, Nat.reduceMul, Nat.reduceEqDiff, Nat.reduceLeDiff, Nat.reduceSub, ne_eq, not_false_eq_true, not_true_eq_false, false_implies, true_implies, implies_true, true_and, and_true, eq_self, li0, li1, li2, li3, li4, li5, li6, li7, li8, li9, li10, li11, li12, li15, li18, li21, li22, li23, li24, li27, li30, li32, li39, li50, li51, li59, li60, li63, li75, li87, li90, li99, li100, li111, li121, li126, li131, li141, li150, li400, li900, li987, li1128, li240, i3_add, i3_toNat, vpt, bI_0, bI_1, bI_bo, Bool.not_eq_false, Bool.true_eq_false, Bool.false_eq_true, Bool.not_eq_true, i3_le', i3_lt', i3_eq', hp_sE_sA, hp_sA_sA, hp_E_sA, hp_T_sA, hp_N_sA, hp_R_sA, hp_I_sA, hp_T_sI, hp_N_sI, hp_R_sI, hp_E_sI, hp_I_sI, hp_sA_sI, hp_sI_sI, e1]
      exact ⟨fun z => absurd z (by omega), fun _ => I⟩
  have L1 : ∀ k j, j + k = md_n g → am_J X 12 [(0, .ref (A 0)), (1, .int (i3 j))] [] (hp_sA M (A 1) (md_fo md_a1 x0 j)) 0 0 := by
    intro k
    induction k with
    | zero =>
      intro j hj
      obtain ⟨w2, f2⟩ := md_wf_fa w0 j (by omega)
      obtain ⟨e1, -⟩ := md_wf_ok w2
      rw [md_n_eq (f2 1 (by omega)), n0] at e1
      refine vX7_step_12 hX hM (fun x0 x1 M => am_J X 12 [(0, .ref x0), (1, .int x1)] [] M 0 0) (fun _ _ _ h => h) (fun x0 x1 M => am_J X 47 [(0, .ref x0), (1, .int x1)] [] M 0 0) (fun _ _ _ h => h) ?_
      simp (disch := omega) only [t0, r1, r2, r3, r4, r5, r6, r7, r8, t1, t2, t3, t4, t5, t6, t7, t8, n1, n2, n3, n4, n5, n6, n7, n8, z1, z2, z3, z4, z5, z6, z7, z8, forall_eq, Nat.reduceAdd, Nat.reduceMul, Nat.reduceEqDiff, Nat.reduceLeDiff, Nat.reduceSub, ne_eq, not_false_eq_true, not_true_eq_false, false_implies, true_implies, implies_true, true_and, and_true, eq_self, li0, li1, li2, li3, li4, li5, li6, li7, li8, li9, li10, li11, li12, li15, li18, li21, li22, li23, li24, li27, li30, li32, li39, li50, li51, li59, li60, li63, li75, li87, li90, li99, li100, li111, li121, li126, li131, li141, li150, li400, li900, li987, li1128, li240, i3_add, i3_toNat, vpt, bI_0, bI_1, bI_bo, Bool.not_eq_false, Bool.true_eq_false, Bool.false_eq_true, Bool.not_eq_true, i3_le', i3_lt', i3_eq', hp_sE_sA, hp_sA_sA, hp_E_sA, hp_T_sA, hp_N_sA, hp_R_sA, hp_I_sA, hp_T_sI, hp_N_sI, hp_R_sI, hp_E_sI, hp_I_sI, hp_sA_sI, hp_sI_sI, e1]
      refine ⟨fun _ => ?_, fun z => absurd (show md_n g ≤ j by omega) z⟩
      have e : j = md_n g := by omega
      rw [e]
      exact L2 (md_n g) 0 (by omega)
    | succ k ih =>
      intro j hj
      have I := ih (j + 1) (by omega)
      rw [md_fo_s] at I
      obtain ⟨w2, f2⟩ := md_wf_fa w0 j (by omega)
      obtain ⟨e1, k12⟩ := md_wf_ok w2
      rw [md_n_eq (f2 1 (by omega)), n0] at e1
      refine vX7_step_12 hX hM (fun x0 x1 M => am_J X 12 [(0, .ref x0), (1, .int x1)] [] M 0 0) (fun _ _ _ h => h) (fun x0 x1 M => am_J X 47 [(0, .ref x0), (1, .int x1)] [] M 0 0) (fun _ _ _ h => h) ?_
      simp (disch := omega) only [t0, r1, r2, r3, r4, r5, r6, r7, r8, t1, t2, t3, t4, t5, t6, t7, t8, n1, n2, n3, n4, n5, n6, n7, n8, z1, z2, z3, z4, z5, z6, z7, z8, forall_eq, Nat.reduceAdd, Nat.reduceMul, Nat.reduceEqDiff, Nat.reduceLeDiff, Nat.reduceSub, ne_eq, not_false_eq_true, not_true_eq_false, false_implies, true_implies, implies_true, true_and, and_true, eq_self, li0, li1, li2, li3, li4, li5, li6, li7, li8, li9, li10, li11, li12, li15, li18, li21, li22, li23, li24, li27, li30, li32, li39, li50, li51, li59, li60, li63, li75, li87, li90, li99, li100, li111, li121, li126, li131, li141, li150, li400, li900, li987, li1128, li240, i3_add, i3_toNat, vpt, bI_0, bI_1, bI_bo, Bool.not_eq_false, Bool.true_eq_false, Bool.false_eq_true, Bool.not_eq_true, i3_le', i3_lt', i3_eq', hp_sE_sA, hp_sA_sA, hp_E_sA, hp_T_sA, hp_N_sA, hp_R_sA, hp_I_sA, hp_T_sI, hp_N_sI, hp_R_sI, hp_E_sI, hp_I_sI, hp_sA_sI, hp_sI_sI, e1]
      refine ⟨fun z => absurd z (by omega), fun _ => ⟨fun a1 => ct_v (c_assigns (M := hp_sA M (A 1) _) h0 (hp_E_sA _ _ _) (md_wf_ok w2) (by omega)) ?_, fun a1 => ?_⟩⟩
      · rw [md_a1_p a1] at I
        simp (disch := omega) only [t0, r1, r2, r3, r4, r5, r6, r7, r8, t1, t2, t3, t4, t5, t6, t7, t8, n1, n2, n3, n4, n5, n6, n7, n8, z1, z2, z3, z4, z5, z6, z7, z8, forall_eq, Nat.reduceAdd, Nat.reduceMul, Nat.reduceEqDiff, Nat.reduceLeDiff, Nat.reduceSub, ne_eq, not_false_eq_true, not_true_eq_false, false_implies, true_implies, implies_true, true_and, and_true, eq_self, li0, li1, li2, li3, li4, li5, li6, li7, li8, li9, li10, li11, li12, li15, li18, li21, li22, li23, li24, li27, li30, li32, li39, li50, li51, li59, li60, li63, li75, li87, li90, li99, li100, li111, li121, li126, li131, li141, li150, li400, li900, li987, li1128, li240, i3_add, i3_toNat, vpt, bI_0, bI_1, bI_bo, Bool.not_eq_false, Bool.true_eq_false, Bool.false_eq_true, Bool.not_eq_true, i3_le', i3_lt', i3_eq', hp_sE_sA, hp_sA_sA, hp_E_sA, hp_T_sA, hp_N_sA, hp_R_sA, hp_I_sA, hp_T_sI, hp_N_sI, hp_R_sI, hp_E_sI, hp_I_sI, hp_sA_sI, hp_sI_sI]
        exact I
      · rw [md_a1_n a1] at I
        exact I
  refine vX7_step_0 hX hM (fun x0 x1 M => am_J X 12 [(0, .ref x0), (1, .int x1)] [] M 0 0) (fun _ _ _ h => h) ?_
  simp (disch := omega) only [t0, r1, r2, r3, r4, r5, r6, r7, r8, t1, t2, t3, t4, t5, t6, t7, t8, n1, n2, n3, n4, n5, n6, n7, n8, z1, z2, z3, z4, z5, z6, z7, z8, forall_eq, Nat.reduceAdd, Nat.reduceMul, Nat.reduceEqDiff, Nat.reduceLeDiff, Nat.reduceSub, ne_eq, not_false_eq_true, not_true_eq_false, false_implies, true_implies, implies_true, true_and, and_true, eq_self, li0, li1, li2, li3, li4, li5, li6, li7, li8, li9, li10, li11, li12, li15, li18, li21, li22, li23, li24, li27, li30, li32, li39, li50, li51, li59, li60, li63, li75, li87, li90, li99, li100, li111, li121, li126, li131, li141, li150, li400, li900, li987, li1128, li240, i3_add, i3_toNat, vpt, bI_0, bI_1, bI_bo, Bool.not_eq_false, Bool.true_eq_false, Bool.false_eq_true, Bool.not_eq_true, i3_le', i3_lt', i3_eq', hp_sE_sA, hp_sA_sA, hp_E_sA, hp_T_sA, hp_N_sA, hp_R_sA, hp_I_sA, hp_T_sI, hp_N_sI, hp_R_sI, hp_E_sI, hp_I_sI, hp_sA_sI, hp_sI_sI, hg]
  have I := L1 (md_n g) 0 (by omega)
  rw [show md_fo md_a1 x0 0 = x0 from rfl, hx0] at I
  exact I
def md_bt (b v c : Int32) : Bool := decide (b ≤ v) && decide (v ≤ c)
theorem c_in' {G : am_Gx} {d : Nat} {M : am_Hp} {a b c : Int32} : am_CT G (d + 1) rX7_in [.int a, .int b, .int c] M 0 0 (qi (bI (md_bt b a c)) M) := c_in
theorem sp_adv_eq (g : md_R) (v : Int32) : sp_adv g v = if md_bt (i3 1) v (i3 30) = true then (0, md_it g v.toNatClampNeg 3 - g 3, md_it g v.toNatClampNeg) else (1, i3 0, g) := rfl
theorem md_it_s (g : md_R) (k : Nat) : md_it g (k + 1) = md_step (md_it g k) := rfl
theorem c_advances {G : am_Gx} {d T : Nat} {M : am_Hp} {A : Nat → Nat} {g : md_R} {v : Int32} (h : mL M A) (hg : hp_E M (A 1) = g) (hw : md_wf T g) (hT : T < 100000000) : am_CT G (d + 8) rX7_advances [.ref (A 0), .int v] M 0 0 (qs (sp_adv g v) M A) := by
  have h0 := h
  obtain ⟨t0, r1, r2, r3, r4, r5, r6, r7, r8, t1, t2, t3, t4, t5, t6, t7, t8, n1, n2, n3, n4, n5, n6, n7, n8, z1, z2, z3, z4, z5, z6, z7, z8, hJ⟩ := h
  refine am_intro mkX7_advances rfl (Nat.le_of_ble_eq_true rfl) rfl (fun X hX hM => ?_)
  refine vX7_advances_0 hX hM (fun x0 x1 x2 x3 M => am_J X 25 [(0, .ref x0), (1, .int x1), (2, .int x2), (3, .int x3)] [] M 0 0) (fun _ _ _ _ _ h => h) ?_
  refine ct_i c_in' ?_
  simp (disch := omega) only [t0, r1, r2, r3, r4, r5, r6, r7, r8, t1, t2, t3, t4, t5, t6, t7, t8, n1, n2, n3, n4, n5, n6, n7, n8, z1, z2, z3, z4, z5, z6, z7, z8, forall_eq, Nat.reduceAdd, Nat.reduceMul, Nat.reduceEqDiff, Nat.reduceLeDiff, Nat.reduceSub, ne_eq, not_false_eq_true, not_true_eq_false, false_implies, true_implies, implies_true, true_and, and_true, eq_self, li0, li1, li2, li3, li4, li5, li6, li7, li8, li9, li10, li11, li12, li15, li18, li21, li22, li23, li24, li27, li30, li32, li39, li50, li51, li59, li60, li63, li75, li87, li90, li99, li100, li111, li121, li126, li131, li141, li150, li400, li900, li987, li1128, li240, i3_add, i3_toNat, vpt, bI_0, bI_1, bI_bo, Bool.not_eq_false, Bool.true_eq_false, Bool.false_eq_true, Bool.not_eq_true, i3_le', i3_lt', i3_eq', hp_sE_sA, hp_sA_sA, hp_E_sA, hp_T_sA, hp_N_sA, hp_R_sA, hp_I_sA, hp_T_sI, hp_N_sI, hp_R_sI, hp_E_sI, hp_I_sI, hp_sA_sI, hp_sI_sI, hg]
  refine ⟨fun a1 => ct_i (c_fails h0) (qs_f hg (by rw [sp_adv_eq, if_neg (by rw [a1]; decide)])), fun a1 => ?_⟩
  have a2 := a1
  unfold md_bt at a2
  rw [Bool.and_eq_true, decide_eq_true_eq, decide_eq_true_eq] at a2
  obtain ⟨n, hn, rfl⟩ := i3_of (v := v) (n := 31) (Int32.le_trans (show (0 : Int32) ≤ i3 1 by decide) a2.1) (by have := a2.2; rw [Int32.lt_iff_toInt_lt]; rw [Int32.le_iff_toInt_le] at this; have e1 : (i3 30).toInt = 30 := rfl; have e2 : (i3 31).toInt = 31 := rfl; omega) (by omega)
  have L : ∀ k j, j + k = n → am_J X 25 [(0, .ref (A 0)), (1, .int (i3 n)), (2, .int (g 3)), (3, .int (i3 j))] [] (hp_sA M (A 1) (md_it g j)) 0 0 := by
    intro k
    induction k with
    | zero =>
      intro j hj
      have e : j = n := by omega
      subst e
      refine vX7_advances_25 hX hM (fun x0 x1 x2 x3 M => am_J X 25 [(0, .ref x0), (1, .int x1), (2, .int x2), (3, .int x3)] [] M 0 0) (fun _ _ _ _ _ h => h) ?_
      simp (disch := omega) only [t0, r1, r2, r3, r4, r5, r6, r7, r8, t1, t2, t3, t4, t5, t6, t7, t8, n1, n2, n3, n4, n5, n6, n7, n8, z1, z2, z3, z4, z5, z6, z7, z8, forall_eq, Nat.reduceAdd, Nat.reduceMul, Nat.reduceEqDiff, Nat.reduceLeDiff, Nat.reduceSub, ne_eq, not_false_eq_true, not_true_eq_false, false_implies, true_implies, implies_true, true_and, and_true, eq_self, li0, li1, li2, li3, li4, li5, li6, li7, li8, li9, li10, li11, li12, li15, li18, li21, li22, li23, li24, li27, li30, li32, li39, li50, li51, li59, li60, li63, li75, li87, li90, li99, li100, li111, li121, li126, li131, li141, li150, li400, li900, li987, li1128, li240, i3_add, i3_toNat, vpt, bI_0, bI_1, bI_bo, Bool.not_eq_false, Bool.true_eq_false, Bool.false_eq_true, Bool.not_eq_true, i3_le', i3_lt', i3_eq', hp_sE_sA, hp_sA_sA, hp_E_sA, hp_T_sA, hp_N_sA, hp_R_sA, hp_I_sA, hp_T_sI, hp_N_sI, hp_R_sI, hp_E_sI, hp_I_sI, hp_sA_sI, hp_sI_sI]
      refine ⟨fun _ => ct_i (c_done (M := hp_sA M (A 1) _) h0) (qs_t ?_), fun z => absurd (Nat.le_refl _) z⟩
      rw [sp_adv_eq, if_pos a1, i3_toNat (by omega)]
    | succ k ih =>
      intro j hj
      have I := ih (j + 1) (by omega)
      rw [md_it_s] at I
      refine vX7_advances_25 hX hM (fun x0 x1 x2 x3 M => am_J X 25 [(0, .ref x0), (1, .int x1), (2, .int x2), (3, .int x3)] [] M 0 0) (fun _ _ _ _ _ h => h) ?_
      simp (disch := omega) only [t0, r1, r2, r3, r4, r5, r6, r7, r8, t1, t2, t3, t4, t5, t6, t7, t8, n1, n2, n3, n4, n5, n6, n7, n8, z1, z2, z3, z4, z5, z6, z7, z8, forall_eq, Nat.reduceAdd, Nat.reduceMul, Nat.reduceEqDiff, Nat.reduceLeDiff, Nat.reduceSub, ne_eq, not_false_eq_true, not_true_eq_false, false_implies, true_implies, implies_true, true_and, and_true, eq_self, li0, li1, li2, li3, li4, li5, li6, li7, li8, li9, li10, li11, li12, li15, li18, li21, li22, li23, li24, li27, li30, li32, li39, li50, li51, li59, li60, li63, li75, li87, li90, li99, li100, li111, li121, li126, li131, li141, li150, li400, li900, li987, li1128, li240, i3_add, i3_toNat, vpt, bI_0, bI_1, bI_bo, Bool.not_eq_false, Bool.true_eq_false, Bool.false_eq_true, Bool.not_eq_true, i3_le', i3_lt', i3_eq', hp_sE_sA, hp_sA_sA, hp_E_sA, hp_T_sA, hp_N_sA, hp_R_sA, hp_I_sA, hp_T_sI, hp_N_sI, hp_R_sI, hp_E_sI, hp_I_sI, hp_sA_sI, hp_sI_sI]
      refine ⟨fun z => absurd z (by omega), fun _ => ct_v (c_step (M := hp_sA M (A 1) _) h0 (hp_E_sA _ _ _) (md_wf_it hw j (by omega)) (by omega)) ?_⟩
      simp (disch := omega) only [t0, r1, r2, r3, r4, r5, r6, r7, r8, t1, t2, t3, t4, t5, t6, t7, t8, n1, n2, n3, n4, n5, n6, n7, n8, z1, z2, z3, z4, z5, z6, z7, z8, forall_eq, Nat.reduceAdd, Nat.reduceMul, Nat.reduceEqDiff, Nat.reduceLeDiff, Nat.reduceSub, ne_eq, not_false_eq_true, not_true_eq_false, false_implies, true_implies, implies_true, true_and, and_true, eq_self, li0, li1, li2, li3, li4, li5, li6, li7, li8, li9, li10, li11, li12, li15, li18, li21, li22, li23, li24, li27, li30, li32, li39, li50, li51, li59, li60, li63, li75, li87, li90, li99, li100, li111, li121, li126, li131, li141, li150, li400, li900, li987, li1128, li240, i3_add, i3_toNat, vpt, bI_0, bI_1, bI_bo, Bool.not_eq_false, Bool.true_eq_false, Bool.false_eq_true, Bool.not_eq_true, i3_le', i3_lt', i3_eq', hp_sE_sA, hp_sA_sA, hp_E_sA, hp_T_sA, hp_N_sA, hp_R_sA, hp_I_sA, hp_T_sI, hp_N_sI, hp_R_sI, hp_E_sI, hp_I_sI, hp_sA_sI, hp_sI_sI]
      exact I
  have I := L n 0 (by omega)
  rw [show md_it g 0 = g from rfl, hp_sA_nd hg] at I
  exact I
