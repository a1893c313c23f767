/-! .. a step, many steps, a passenger more, one less -/
theorem k_step {G : am_Gx} {d T : Nat} {M : am_Hp} {B : Nat → Nat} {g : md_R} (hR : bR M B g) (hw : md_wf T g) (hT : T < 200000000) : am_CT G (d + 4) rX0_step [.ref (B 0)] M 0 0 (qw B M (md_step g)) := by
  have ok0 := md_wf_ok hw
  have h12 := ok0.2
  obtain ⟨t, q1, q2⟩ := hw.2.2.2.1
  obtain ⟨x0, hx0⟩ : ∃ x, x = va_up g 0 (g 0 + i3 1) := ⟨_, rfl⟩
  have w0 : md_wf (T + 1) x0 := by
    rw [hx0, q2, i3_add]
    exact md_wf_time (md_wf_mono (by omega) hw) (by omega)
  have n0 : md_n x0 = md_n g := by rw [hx0]; exact md_n_up (by omega)
  have wp := md_wf_pre hw
  have hq0 : ∀ p, p < md_n g → ∃ q, q ≤ T ∧ x0 (75 + p) = i3 q := fun p hp => by
    obtain ⟨-, -, -, ⟨q, q1, q2⟩, -⟩ := hw.2.2.1 p hp
    exact ⟨q, q1, by rw [hx0, up_n _ _ (by omega)]; exact q2⟩
  have wj : ∀ j, j ≤ md_n g → md_wf (T + 1) (md_fo md_aw1 x0 j) ∧ md_n (md_fo md_aw1 x0 j) = md_n g := fun j hj => by
    obtain ⟨w1, f1⟩ := md_wf_fa w0 j (by omega)
    have m1 : md_n (md_fo md_a1 x0 j) = md_n g := by rw [md_n_eq (f1 1 (by omega)), n0]
    obtain ⟨w2, f2⟩ := md_wf_fw (T := T) w1 (fun p hp => by
      obtain ⟨q, q1, q2⟩ := hq0 p (by omega)
      exact ⟨q, q1, by rw [f1 _ (by omega)]; exact q2⟩) (by omega) j (by omega)
    rw [md_aw1_fo (by omega) j (by omega)]
    exact ⟨w2, by rw [md_n_eq (f2 1 (by omega)), m1]⟩
  have hpre : md_fo md_aw1 x0 (md_n g) = md_pre g := by
    rw [md_aw1_fo (by omega) (md_n g) (by omega), hx0]
    rfl
  have fb : ∀ {N : am_Hp} {u : Nat} {v : Int32}, bF B N (hp_sI N u (B 0) v) := bF_sI (i := 0) (by omega) rfl
  refine am_intro mkX0_step rfl (Nat.le_of_ble_eq_true rfl) rfl (fun X hX hM => ?_)
  have L2 : ∀ k j Mx x, j + k = 3 → md_wf (T + 1 + 20 * j) x → md_fo md_c1 (md_pre g) j = x → bR Mx B x → bF B M Mx → am_J X 76 [(0, .ref (B 0)), (1, .int (i3 j))] [] Mx 0 0 := by
    intro k
    induction k with
    | zero =>
      intro j Mx x hj hx he hR hF
      have e : j = 3 := by omega
      subst e
      refine vX0_step_76 hX hM (fun x0 x1 M => am_J X 76 [(0, .ref x0), (1, .int x1)] [] M 0 0) (fun _ _ _ h => h) ⟨fun _ => ⟨rfl, ?_, hF⟩, fun z => absurd (Int32.le_refl _) z⟩
      have e : md_step g = x := by rw [← he, md_step_eq hw]; rfl
      rw [e]
      exact hR
    | succ k ih =>
      intro j Mx x hj hx he hR hF
      have w2 := md_wf_c1 (c := j) hx (by omega) (by omega)
      have I := fun Mx => ih (j + 1) Mx (md_c1 x j) (by omega) (md_wf_mono (by omega) w2) (by rw [md_fo_s, he])
      have hR0 := hR
      have ok := md_wf_ok hx
      obtain ⟨b0, u0, u1, u2, s1, m1, s2, m2, s3, u4, u5, u6, s4, s5, s6, m4, m5, m6, y0, y1, y2, y3, y4, y5, y6, qc, tc, zc, tp, zp, i3_, i4_, i5_, i6_, i7_, i8_, i9_, f20, f21, f22, f23, f24, f25, f26, f27, e60, e61, e62, e63, e64, e65, e66, l3_, l4_, lx, ly, lz⟩ := bR_f hR ok
      refine vX0_step_76 hX hM (fun x0 x1 M => am_J X 76 [(0, .ref x0), (1, .int x1)] [] M 0 0) (fun _ _ _ h => h) ?_
      simp (disch := omega) only [b0, u0, s1, m1, y1, qc, zc, tc, f27, forall_eq, Nat.reduceAdd, Nat.reduceMul, Nat.reduceEqDiff, Nat.reduceLeDiff, Nat.reduceSub, ne_eq, not_false_eq_true, not_true_eq_false, false_implies, true_implies, implies_true, true_and, and_true, eq_self, li0, li1, li2, li3, li4, li5, li6, li7, li8, li9, li10, li11, li12, li15, li18, li21, li22, li23, li24, li27, li30, li32, li39, li50, li51, li59, li60, li63, li75, li87, li90, li99, li100, li111, li121, li126, li131, li141, li150, li400, li900, li987, li1128, li240, i3_add, i3_toNat, vpt, bI_0, bI_1, bI_bo, Bool.not_eq_false, Bool.true_eq_false, Bool.false_eq_true, Bool.not_eq_true, i3_le', i3_lt', i3_eq', hp_T_sI, hp_N_sI, hp_R_sI, hp_E_sI, hp_Q_sI, hp_I_sI, hp_I_sIu, hp_T_sQ, hp_N_sQ, hp_R_sQ, hp_E_sQ, hp_I_sQ, hp_T_sA, hp_N_sA, hp_R_sA, hp_I_sA, hp_Q_sA, hp_E_sA, hp_sE_sA]
      refine ⟨fun z => absurd z (by omega), fun _ => ⟨fun a1 => ?_, fun a1 => ?_⟩⟩
      · refine I _ ?_ hF
        rw [md_c1_n (by simpa using a1)]
        exact hR0
      · refine ct_w (k_act hR0 hx (by omega) (by omega)) (fun M' r1 r2 => ?_)
        refine I _ ?_ (hF.trans r2)
        rw [md_c1_p (by simpa using a1)]
        exact r1
  have L1 : ∀ k j Mx, j + k = md_n g → bR Mx B (md_fo md_aw1 x0 j) → bF B M Mx → am_J X 12 [(0, .ref (B 0)), (1, .int (i3 j))] [] Mx 0 0 := by
    intro k
    induction k with
    | zero =>
      intro j Mx hj hR hF
      obtain ⟨w1, en⟩ := wj j (by omega)
      have hR0 := hR
      have ok := md_wf_ok w1
      obtain ⟨b0, u0, u1, u2, s1, m1, s2, m2, s3, u4, u5, u6, s4, s5, s6, m4, m5, m6, y0, y1, y2, y3, y4, y5, y6, qc, tc, zc, tp, zp, i3_, i4_, i5_, i6_, i7_, i8_, i9_, f20, f21, f22, f23, f24, f25, f26, f27, e60, e61, e62, e63, e64, e65, e66, l3_, l4_, lx, ly, lz⟩ := bR_f hR ok
      rw [en] at i3_
      refine vX0_step_12 hX hM (fun x0 x1 M => am_J X 12 [(0, .ref x0), (1, .int x1)] [] M 0 0) (fun _ _ _ h => h) (fun x0 x1 M => am_J X 76 [(0, .ref x0), (1, .int x1)] [] M 0 0) (fun _ _ _ h => h) ⟨b0, fun _ => ?_, fun z => absurd (show hp_I Mx 3 (B 0) ≤ i3 j by rw [i3_]; exact (i3_le (by omega) (by omega)).mpr (by omega)) z⟩
      rw [show j = md_n g by omega, hpre] at hR0
      exact L2 3 0 Mx _ (by omega) (by rw [Nat.mul_zero, Nat.add_zero]; exact wp) rfl hR0 hF
    | succ k ih =>
      intro j Mx hj hR hF
      obtain ⟨w1, en⟩ := wj j (by omega)
      have I := fun Mx => ih (j + 1) Mx (by omega)
      rw [md_fo_s] at I
      obtain ⟨x, hx⟩ : ∃ x, x = md_fo md_aw1 x0 j := ⟨_, rfl⟩
      rw [← hx] at I hR w1 en
      have hj12 : j < md_n x := by omega
      have hR0 := hR
      have ok := md_wf_ok w1
      have wq := w1.2.2.1 j hj12
      obtain ⟨b0, u0, u1, u2, s1, m1, s2, m2, s3, u4, u5, u6, s4, s5, s6, m4, m5, m6, y0, y1, y2, y3, y4, y5, y6, qc, tc, zc, tp, zp, i3_, i4_, i5_, i6_, i7_, i8_, i9_, f20, f21, f22, f23, f24, f25, f26, f27, e60, e61, e62, e63, e64, e65, e66, l3_, l4_, lx, ly, lz⟩ := bR_f hR ok
      rw [en] at i3_
      have q66 := e66 j hj12
      have q65 := e65 j hj12
      have q61 := e61 j hj12
      have q63 := e63 j hj12
      have q64 := e64 j hj12
      have qt := tp j (by omega)
      have qz := zp j (by omega)
      have fp : ∀ {N : am_Hp} {u : Nat} {v : Int32}, bF B N (hp_sI N u (hp_Q Mx (B 2) j) v) := by
        obtain ⟨i, hi, e⟩ := bP hR0 (show j < 12 by omega)
        exact bF_sI hi e
      refine vX0_step_12 hX hM (fun x0 x1 M => am_J X 12 [(0, .ref x0), (1, .int x1)] [] M 0 0) (fun _ _ _ h => h) (fun x0 x1 M => am_J X 76 [(0, .ref x0), (1, .int x1)] [] M 0 0) (fun _ _ _ h => h) ?_
      simp (disch := omega) only [b0, u1, s2, m2, y2, i3_, qt, qz, q66, q65, q61, q63, q64, forall_eq, Nat.reduceAdd, Nat.reduceMul, Nat.reduceEqDiff, Nat.reduceLeDiff, Nat.reduceSub, ne_eq, not_false_eq_true, not_true_eq_false, false_implies, true_implies, implies_true, true_and, and_true, eq_self, li0, li1, li2, li3, li4, li5, li6, li7, li8, li9, li10, li11, li12, li15, li18, li21, li22, li23, li24, li27, li30, li32, li39, li50, li51, li59, li60, li63, li75, li87, li90, li99, li100, li111, li121, li126, li131, li141, li150, li400, li900, li987, li1128, li240, i3_add, i3_toNat, vpt, bI_0, bI_1, bI_bo, Bool.not_eq_false, Bool.true_eq_false, Bool.false_eq_true, Bool.not_eq_true, i3_le', i3_lt', i3_eq', hp_T_sI, hp_N_sI, hp_R_sI, hp_E_sI, hp_Q_sI, hp_I_sI, hp_I_sIu, hp_T_sQ, hp_N_sQ, hp_R_sQ, hp_E_sQ, hp_I_sQ, hp_T_sA, hp_N_sA, hp_R_sA, hp_I_sA, hp_Q_sA, hp_E_sA, hp_sE_sA, sb1, sb0]
      refine ⟨fun z => absurd z (by omega), fun _ => ⟨fun a1 => ⟨fun a2 => ?_, fun a2 => ?_⟩, fun a1 => ?_⟩⟩
      · refine ct_i (k_choose hR0 w1) ?_
        simp (disch := omega) only [qt, q64, forall_eq, Nat.reduceAdd, Nat.reduceMul, Nat.reduceEqDiff, Nat.reduceLeDiff, Nat.reduceSub, ne_eq, not_false_eq_true, not_true_eq_false, false_implies, true_implies, implies_true, true_and, and_true, eq_self, li0, li1, li2, li3, li4, li5, li6, li7, li8, li9, li10, li11, li12, li15, li18, li21, li22, li23, li24, li27, li30, li32, li39, li50, li51, li59, li60, li63, li75, li87, li90, li99, li100, li111, li121, li126, li131, li141, li150, li400, li900, li987, li1128, li240, i3_add, i3_toNat, vpt, bI_0, bI_1, bI_bo, Bool.not_eq_false, Bool.true_eq_false, Bool.false_eq_true, Bool.not_eq_true, i3_le', i3_lt', i3_eq', hp_T_sI, hp_N_sI, hp_R_sI, hp_E_sI, hp_Q_sI, hp_I_sI, hp_I_sIu, hp_T_sQ, hp_N_sQ, hp_R_sQ, hp_E_sQ, hp_I_sQ, hp_T_sA, hp_N_sA, hp_R_sA, hp_I_sA, hp_Q_sA, hp_E_sA, hp_sE_sA, true_and]
        refine I _ ?_ (hF.trans (fp.trans fp))
        have hs := bR_send (v := md_be x (x (39 + j)) (x (63 + j)) 3) (w := md_be x (x (39 + j)) (x (63 + j)) 3 + 1) hR0 ok hj12 a1 (Int32.add_sub_cancel _ _).symm
        have hx1 : va_up x (87 + j) 0 = x := by rw [show (0 : Int32) = i3 0 from rfl, ← a2]; exact up_id x _
        have e : md_aw1 x j = va_up (va_up x (87 + j) (md_be x (x (39 + j)) (x (63 + j)) 3 + 1)) (75 + j) (x (75 + j) + i3 1) := by
          unfold md_aw1
          rw [md_a1_p a2]
          unfold md_as
          rw [hx1]
          unfold md_w1
          rw [up_n _ _ (by omega), up_n _ _ (by omega), a1]
          rfl
        rw [e]
        refine bR_wait hs (md_ok_up (by omega) ok) ?_
        rw [md_n_up (by omega)]
        exact hj12
      · refine I _ ?_ (hF.trans fp)
        have e : md_aw1 x j = va_up x (75 + j) (x (75 + j) + i3 1) := by
          unfold md_aw1
          rw [md_a1_n a2]
          unfold md_w1
          rw [a1]
          rfl
        rw [e]
        exact bR_wait hR0 ok hj12
      · refine I _ ?_ hF
        obtain ⟨-, -, -, -, -, a6, a7, -⟩ := wq
        have b1 : x (99 + j) = 1 := by
          rcases a6 with z | z
          · exact absurd z a1
          · exact z
        have e : md_aw1 x j = x := by
          unfold md_aw1
          rw [md_a1_n (fun z => a7 b1 z)]
          unfold md_w1
          rw [b1, show x (75 + j) + (1 - 1) = x (75 + j) from Int32.add_zero _]
          exact up_id x _
        rw [e]
        exact hR0
  have I := L1 (md_n g) 0 (hp_sI M 5 (B 0) (g 0 + i3 1)) (by omega) (by rw [show md_fo md_aw1 x0 0 = x0 from rfl, hx0]; exact bR_time hR ok0) fb
  have ok := ok0
  obtain ⟨b0, u0, u1, u2, s1, m1, s2, m2, s3, u4, u5, u6, s4, s5, s6, m4, m5, m6, y0, y1, y2, y3, y4, y5, y6, qc, tc, zc, tp, zp, i3_, i4_, i5_, i6_, i7_, i8_, i9_, f20, f21, f22, f23, f24, f25, f26, f27, e60, e61, e62, e63, e64, e65, e66, l3_, l4_, lx, ly, lz⟩ := bR_f hR ok
  refine vX0_step_0 hX hM (fun x0 x1 M => am_J X 12 [(0, .ref x0), (1, .int x1)] [] M 0 0) (fun _ _ _ h => h) ?_
  simp (disch := omega) only [b0, i5_, forall_eq, Nat.reduceAdd, Nat.reduceMul, Nat.reduceEqDiff, Nat.reduceLeDiff, Nat.reduceSub, ne_eq, not_false_eq_true, not_true_eq_false, false_implies, true_implies, implies_true, true_and, and_true, eq_self, li0, li1, li2, li3, li4, li5, li6, li7, li8, li9, li10, li11, li12, li15, li18, li21, li22, li23, li24, li27, li30, li32, li39, li50, li51, li59, li60, li63, li75, li87, li90, li99, li100, li111, li121, li126, li131, li141, li150, li400, li900, li987, li1128, li240, i3_add, i3_toNat, vpt, bI_0, bI_1, bI_bo, Bool.not_eq_false, Bool.true_eq_false, Bool.false_eq_true, Bool.not_eq_true, i3_le', i3_lt', i3_eq']
  exact I
theorem k_letPass {G : am_Gx} {d T n : Nat} {M : am_Hp} {B : Nat → Nat} {g : md_R} (hR : bR M B g) (hw : md_wf T g) (hT : T + 61 * n < 100000000) : am_CT G (d + 5) rX0_letPass [.ref (B 0), .int (i3 n)] M 0 0 (qb B M (md_it g n 3 - g 3) (md_it g n)) := by
  refine am_intro mkX0_letPass rfl (Nat.le_of_ble_eq_true rfl) rfl (fun X hX hM => ?_)
  have L : ∀ k j Mx, j + k = n → bR Mx B (md_it g j) → bF B M Mx → am_J X 10 [(0, .ref (B 0)), (1, .int (i3 n)), (2, .int (g 3)), (3, .int (i3 j))] [] Mx 0 0 := by
    intro k
    induction k with
    | zero =>
      intro j Mx hj hR hF
      have hR0 := hR
      have ok := md_wf_ok (md_wf_it hw j (by omega))
      have e : j = n := by omega
      obtain ⟨b0, u0, u1, u2, s1, m1, s2, m2, s3, u4, u5, u6, s4, s5, s6, m4, m5, m6, y0, y1, y2, y3, y4, y5, y6, qc, tc, zc, tp, zp, i3_, i4_, i5_, i6_, i7_, i8_, i9_, f20, f21, f22, f23, f24, f25, f26, f27, e60, e61, e62, e63, e64, e65, e66, l3_, l4_, lx, ly, lz⟩ := bR_f hR ok
      refine vX0_letPass_10 hX hM (fun x0 x1 x2 x3 M => am_J X 10 [(0, .ref x0), (1, .int x1), (2, .int x2), (3, .int x3)] [] M 0 0) (fun _ _ _ _ _ h => h) ?_
      simp (disch := omega) only [b0, u2, s3, y3, l3_, forall_eq, Nat.reduceAdd, Nat.reduceMul, Nat.reduceEqDiff, Nat.reduceLeDiff, Nat.reduceSub, ne_eq, not_false_eq_true, not_true_eq_false, false_implies, true_implies, implies_true, true_and, and_true, eq_self, li0, li1, li2, li3, li4, li5, li6, li7, li8, li9, li10, li11, li12, li15, li18, li21, li22, li23, li24, li27, li30, li32, li39, li50, li51, li59, li60, li63, li75, li87, li90, li99, li100, li111, li121, li126, li131, li141, li150, li400, li900, li987, li1128, li240, i3_add, i3_toNat, vpt, bI_0, bI_1, bI_bo, Bool.not_eq_false, Bool.true_eq_false, Bool.false_eq_true, Bool.not_eq_true, i3_le', i3_lt', i3_eq']
      refine ⟨fun _ => ⟨by rw [e], ?_, hF⟩, fun z => absurd (show n ≤ j by omega) z⟩
      rw [← e]
      exact hR0
    | succ k ih =>
      intro j Mx hj hR hF
      have I := fun Mx => ih (j + 1) Mx (by omega)
      rw [md_it_s] at I
      have hR0 := hR
      have w1 := md_wf_it hw j (by omega)
      have ok := md_wf_ok w1
      obtain ⟨b0, u0, u1, u2, s1, m1, s2, m2, s3, u4, u5, u6, s4, s5, s6, m4, m5, m6, y0, y1, y2, y3, y4, y5, y6, qc, tc, zc, tp, zp, i3_, i4_, i5_, i6_, i7_, i8_, i9_, f20, f21, f22, f23, f24, f25, f26, f27, e60, e61, e62, e63, e64, e65, e66, l3_, l4_, lx, ly, lz⟩ := bR_f hR ok
      refine vX0_letPass_10 hX hM (fun x0 x1 x2 x3 M => am_J X 10 [(0, .ref x0), (1, .int x1), (2, .int x2), (3, .int x3)] [] M 0 0) (fun _ _ _ _ _ h => h) ?_
      simp (disch := omega) only [b0, u2, s3, y3, l3_, forall_eq, Nat.reduceAdd, Nat.reduceMul, Nat.reduceEqDiff, Nat.reduceLeDiff, Nat.reduceSub, ne_eq, not_false_eq_true, not_true_eq_false, false_implies, true_implies, implies_true, true_and, and_true, eq_self, li0, li1, li2, li3, li4, li5, li6, li7, li8, li9, li10, li11, li12, li15, li18, li21, li22, li23, li24, li27, li30, li32, li39, li50, li51, li59, li60, li63, li75, li87, li90, li99, li100, li111, li121, li126, li131, li141, li150, li400, li900, li987, li1128, li240, i3_add, i3_toNat, vpt, bI_0, bI_1, bI_bo, Bool.not_eq_false, Bool.true_eq_false, Bool.false_eq_true, Bool.not_eq_true, i3_le', i3_lt', i3_eq']
      refine ⟨fun z => absurd z (by omega), fun _ => ct_w (k_step hR0 w1 (by omega)) (fun M' r1 r2 => ?_)⟩
      exact I _ r1 (hF.trans r2)
  have I := L n 0 M (by omega) hR (bF.rf B M)
  have ok := md_wf_ok hw
  obtain ⟨b0, u0, u1, u2, s1, m1, s2, m2, s3, u4, u5, u6, s4, s5, s6, m4, m5, m6, y0, y1, y2, y3, y4, y5, y6, qc, tc, zc, tp, zp, i3_, i4_, i5_, i6_, i7_, i8_, i9_, f20, f21, f22, f23, f24, f25, f26, f27, e60, e61, e62, e63, e64, e65, e66, l3_, l4_, lx, ly, lz⟩ := bR_f hR ok
  refine vX0_letPass_0 hX hM (fun x0 x1 x2 x3 M => am_J X 10 [(0, .ref x0), (1, .int x1), (2, .int x2), (3, .int x3)] [] M 0 0) (fun _ _ _ _ _ h => h) ?_
  simp (disch := omega) only [b0, u2, s3, y3, l3_, forall_eq, ne_eq, not_false_eq_true, true_and]
  exact I
/-! a passenger more: the row before and behind -/
theorem md_nw_in {g : md_R} {s e w : Int32} {q c : Nat} (hn : md_n g < 12) (hq : q < md_n g) : md_in (md_nw g s e w) q c = md_in g q c := by
  unfold md_in
  rw [md_nw_far (by omega) (by omega) (by omega) hn, md_nw_far (by omega) (by omega) (by omega) hn]
theorem md_nw_n {g : md_R} {s e w : Int32} (ok : md_ok g) (hn : md_n g < 12) : md_nw g s e w 1 = i3 (md_n g + 1) := by
  unfold md_nw
  rw [up_n _ _ (by omega), up_e, ok.1, i3_one]
theorem md_nw_out {g : md_R} {s e w : Int32} (hn : md_n g < 12) : md_nw g s e w (99 + md_n g) = 0 ∧ md_nw g s e w (87 + md_n g) = 0 ∧ md_nw g s e w (39 + md_n g) = s ∧ md_nw g s e w (51 + md_n g) = e ∧ md_nw g s e w (63 + md_n g) = w ∧ md_nw g s e w (75 + md_n g) = 0 ∧ md_nw g s e w (27 + md_n g) = g 2 ∧ md_nw g s e w 2 = g 2 + 1 := by
  unfold md_nw
  refine ⟨?_, ?_, ?_, ?_, ?_, ?_, ?_, ?_⟩ <;> simp (disch := omega) only [up_n', up_e]
theorem md_nw_ld {g : md_R} {s e w : Int32} {c : Nat} (ok : md_ok g) (hn : md_n g < 12) : md_ld (md_nw g s e w) c = md_ld g c := by
  unfold md_ld
  rw [md_n_of (md_nw_n ok hn) (by omega), md_sum_s]
  have : md_ldf (md_nw g s e w) c (md_n g) = 0 := by unfold md_ldf; rw [md_in_no (md_nw_out hn).1]; rfl
  rw [this, Int32.add_zero]
  refine md_sum_congr _ (fun i hi => ?_)
  unfold md_ldf
  rw [md_nw_in hn hi, md_nw_far (by omega) (by omega) (by omega) hn]
theorem md_nw_is {g : md_R} {s e w : Int32} {c : Nat} (ok : md_ok g) (hn : md_n g < 12) : md_is (md_nw g s e w) c = md_is g c := by
  unfold md_is
  rw [md_n_of (md_nw_n ok hn) (by omega), md_sum_s]
  have : md_isf (md_nw g s e w) c (md_n g) = 0 := by unfold md_isf; rw [md_in_no (md_nw_out hn).1]; rfl
  rw [this, Int32.add_zero]
  refine md_sum_congr _ (fun i hi => ?_)
  unfold md_isf
  rw [md_nw_in hn hi]
theorem md_nw_st {g : md_R} {s e w : Int32} {c : Nat} {f : Int32} (ok : md_ok g) (hn : md_n g < 12) (hc : c < 3) : md_st (md_nw g s e w) c f = md_st g c f := by
  unfold md_st
  rw [md_n_of (md_nw_n ok hn) (by omega), md_any_s]
  have : md_stf (md_nw g s e w) c f (md_n g) = false := by
    have h1 : md_aw (md_nw g s e w) (md_n g) c = false := by
      rw [Bool.eq_false_iff]
      intro z
      have := (md_aw_iff.mp z).2
      rw [(md_nw_out hn).2.1, show (0 : Int32) = i3 0 from rfl, i3_eq (by omega) (by omega)] at this
      omega
    unfold md_stf
    rw [md_in_no (md_nw_out hn).1, h1]
    rfl
  rw [this, Bool.or_false]
  refine md_any_congr _ (fun i hi => ?_)
  unfold md_stf md_aw
  rw [md_nw_in hn hi, md_nw_far (by omega) (by omega) (by omega) hn, md_nw_far (by omega) (by omega) (by omega) hn, md_nw_far (by omega) (by omega) (by omega) hn, md_nw_far (by omega) (by omega) (by omega) hn]
theorem md_nw_es {g : md_R} {s e w : Int32} {c : Nat} {f : Int32} (ok : md_ok g) (hn : md_n g < 12) (hc : c < 3) : md_es (md_nw g s e w) c f = md_es g c f := by
  have h1 : ∀ r, md_hit (md_nw g s e w) c r = md_hit g c r := fun r => by
    funext d
    unfold md_hit
    rw [md_nw_far (by omega) (by omega) (by omega) hn, md_nw_st ok hn hc]
  unfold md_es md_fr
  rw [md_nw_far (k := 9 + c) (by omega) (by omega) (by omega) hn, md_nw_far (k := 12 + c) (by omega) (by omega) (by omega) hn, md_nw_is ok hn, h1]
theorem md_be_ext {g h : md_R} {f w : Int32} (e : ∀ c, c < 3 → h (21 + c) = g (21 + c) ∧ h (15 + c) = g (15 + c) ∧ md_ld h c = md_ld g c ∧ md_es h c f = md_es g c f) : ∀ k, k ≤ 3 → md_be h f w k = md_be g f w k
  | 0, _ => rfl
  | k + 1, hk => by
    have ih := md_be_ext (w := w) e k (by omega)
    have hb : (md_be g f w k).toNatClampNeg < 3 := by
      rcases md_be_val g f w k (by omega) with q | ⟨c, hc, q⟩
      · rw [q]; decide
      · rw [q, i3_toNat (by omega)]; omega
    obtain ⟨e1, e2, e3, e4⟩ := e k (by omega)
    rw [md_be, md_be, ih, e1, e2, e3, e4, (e _ hb).2.2.2]
theorem md_ad_eq {g : md_R} {s e w : Int32} (ok : md_ok g) (hn : md_n g < 12) : md_ad g s e w = va_up (md_nw g s e w) (87 + md_n g) (md_be g s w 3 + 1) := by
  rw [md_ad_nw]
  unfold md_as
  obtain ⟨o1, o2, o3, o4, o5, o6, o7, o8⟩ := md_nw_out (s := s) (e := e) (w := w) hn
  rw [o3, o5, show va_up (md_nw g s e w) (87 + md_n g) 0 = md_nw g s e w by rw [← o2]; exact up_id _ _]
  rw [md_be_ext (g := g) (fun c hc => ⟨md_nw_far (by omega) (by omega) (by omega) hn, md_nw_far (by omega) (by omega) (by omega) hn, md_nw_ld ok hn, md_nw_es ok hn hc⟩) 3 (Nat.le_refl _)]
theorem k_add {G : am_Gx} {d T : Nat} {M : am_Hp} {B : Nat → Nat} {g : md_R} {s e w : Int32} (hR : bR M B g) (hw : md_wf T g) (hn : md_n g < 12) : am_CT G (d + 4) rX0_add [.ref (B 0), .int s, .int e, .int w] M 0 0 (qb B M (i3 (md_n g)) (md_ad g s e w)) := by
  have ok := md_wf_ok hw
  have hR0 := hR
  obtain ⟨r1, r2, r3, r4, r5, r6⟩ := hR
  have hq3 := r2.2.2
  have hR := hR0
  obtain ⟨b0, u0, u1, u2, s1, m1, s2, m2, s3, u4, u5, u6, s4, s5, s6, m4, m5, m6, y0, y1, y2, y3, y4, y5, y6, qc, tc, zc, tp, zp, i3_, i4_, i5_, i6_, i7_, i8_, i9_, f20, f21, f22, f23, f24, f25, f26, f27, e60, e61, e62, e63, e64, e65, e66, l3_, l4_, lx, ly, lz⟩ := bR_f hR ok
  obtain ⟨n, hnn⟩ : ∃ n, n = md_n g := ⟨_, rfl⟩
  have qt := tp (md_n g) hn
  have qz := zp (md_n g) hn
  have fb : ∀ {N : am_Hp} {u : Nat} {v : Int32}, bF B N (hp_sI N u (B 0) v) := bF_sI (i := 0) (by omega) rfl
  have fp : ∀ {N : am_Hp} {u : Nat} {v : Int32}, bF B N (hp_sI N u (hp_Q M (B 2) (md_n g)) v) := by
    obtain ⟨i, hi, e⟩ := bP hR0 hn
    exact bF_sI hi e
  have ne : ∀ p, p < md_n g → hp_Q M (B 2) p ≠ hp_Q M (B 2) (md_n g) := fun p hp z => by have := hq3 _ _ (by omega) hn z; omega
  have s2' : g 2 - i3 1 + i3 1 = g 2 := Int32.sub_add_cancel _ _
  refine am_intro mkX0_add rfl (Nat.le_of_ble_eq_true rfl) rfl (fun X hX hM => ?_)
  refine vX0_add_0 hX hM ?_
  simp (disch := omega) only [b0, u1, s2, m2, y2, i3_, i4_, qt, qz, s2', forall_eq, Nat.reduceAdd, Nat.reduceMul, Nat.reduceEqDiff, Nat.reduceLeDiff, Nat.reduceSub, ne_eq, not_false_eq_true, not_true_eq_false, false_implies, true_implies, implies_true, true_and, and_true, eq_self, li0, li1, li2, li3, li4, li5, li6, li7, li8, li9, li10, li11, li12, li15, li18, li21, li22, li23, li24, li27, li30, li32, li39, li50, li51, li59, li60, li63, li75, li87, li90, li99, li100, li111, li121, li126, li131, li141, li150, li400, li900, li987, li1128, li240, i3_add, i3_toNat, vpt, bI_0, bI_1, bI_bo, Bool.not_eq_false, Bool.true_eq_false, Bool.false_eq_true, Bool.not_eq_true, i3_le', i3_lt', i3_eq', hp_T_sI, hp_N_sI, hp_R_sI, hp_E_sI, hp_Q_sI, hp_I_sI, hp_I_sIu, hp_T_sQ, hp_N_sQ, hp_R_sQ, hp_E_sQ, hp_I_sQ, hp_T_sA, hp_N_sA, hp_R_sA, hp_I_sA, hp_Q_sA, hp_E_sA, hp_sE_sA]
  refine ⟨Or.inl rfl, ?_⟩
  -- the heap that chooseCar sees
  obtain ⟨N, hN⟩ : ∃ N, N = hp_sI (hp_sI (hp_sI (hp_sI (hp_sI (hp_sI (hp_sI M 4 (B 0) (g 2)) 60 (hp_Q M (B 2) (md_n g)) (g 2)) 61 (hp_Q M (B 2) (md_n g)) s) 62 (hp_Q M (B 2) (md_n g)) e) 63 (hp_Q M (B 2) (md_n g)) w) 64 (hp_Q M (B 2) (md_n g)) (i3 0)) 66 (hp_Q M (B 2) (md_n g)) (i3 0) := ⟨_, rfl⟩
  have iu : ∀ u a, ((u < 60 ∧ u ≠ 4) ∨ 67 ≤ u ∨ (u ≠ 4 ∧ a ≠ hp_Q M (B 2) (md_n g))) → hp_I N u a = hp_I M u a := fun u a h => by
    rw [hN]
    by_cases hx : a = hp_Q M (B 2) (md_n g)
    · rw [hp_I_sIu _ _ _ _ (by omega), hp_I_sIu _ _ _ _ (by omega), hp_I_sIu _ _ _ _ (by omega), hp_I_sIu _ _ _ _ (by omega), hp_I_sIu _ _ _ _ (by omega), hp_I_sIu _ _ _ _ (by omega), hp_I_sIu _ _ _ _ (by omega)]
    · rw [hp_I_sIa _ _ _ _ hx, hp_I_sIa _ _ _ _ hx, hp_I_sIa _ _ _ _ hx, hp_I_sIa _ _ _ _ hx, hp_I_sIa _ _ _ _ hx, hp_I_sIa _ _ _ _ hx, hp_I_sIu _ _ _ _ (by omega)]
  have hNR : bR N B (va_up g 2 (g 2 + i3 1)) := by
    have eg : ∀ k, k ≠ 2 → va_up g 2 (g 2 + i3 1) k = g k := fun k hk => up_n _ _ hk
    have en : md_n (va_up g 2 (g 2 + i3 1)) = md_n g := md_n_up (by omega)
    have eQ : hp_Q N = hp_Q M := by rw [hN]; rfl
    have eE : hp_E N = hp_E M := by rw [hN]; rfl
    refine ⟨by rw [hN]; exact r1, bQ_eq r2 eQ, ?_, fun c hc => cR_cg hc (fun u _ _ => iu u _ (by omega)) (fun k hk => eg k (by omega)) (md_ld_cg ok.2 (fun k hk => eg k (by omega))) (md_is_cg ok.2 (fun k hk => eg k (by omega))) (r4 c hc), fun p hp => ?_, tR_cg (iu _ _ (by omega)) (iu _ _ (by omega)) (fun i _ _ => by rw [eE]) (fun k hk => eg k (by omega)) r6⟩
    · obtain ⟨h1, h2, h3, h4, h5, h6, h7⟩ := r3
      unfold iR
      rw [iu 3 _ (by omega), iu 5 _ (by omega), iu 6 _ (by omega), iu 7 _ (by omega), iu 8 _ (by omega), iu 9 _ (by omega), eg 1 (by omega), eg 0 (by omega), eg 5 (by omega), eg 6 (by omega), eg 7 (by omega), eg 8 (by omega), up_e]
      refine ⟨h1, ?_, h3, h4, h5, h6, h7⟩
      rw [hN]
      simp (disch := omega) only [hp_T_sI, hp_N_sI, hp_R_sI, hp_E_sI, hp_Q_sI, hp_I_sI, hp_I_sIu, hp_T_sQ, hp_N_sQ, hp_R_sQ, hp_E_sQ, hp_I_sQ, hp_T_sA, hp_N_sA, hp_R_sA, hp_I_sA, hp_Q_sA, hp_E_sA, hp_sE_sA]
      exact (Int32.add_sub_cancel _ _).symm
    · rw [en] at hp
      rw [eQ]
      exact pR_cg (fun u _ _ => iu u _ (Or.inr (Or.inr ⟨by omega, ne p hp⟩))) (fun r hr => eg _ (by omega)) (r5 p hp)
  have hNw : md_wf T (va_up g 2 (g 2 + i3 1)) := md_wf_far hw (fun k hk => up_n _ _ (by omega)) (by rw [up_n _ _ (by omega)]; exact hw.2.2.2.1) (by rw [up_n _ _ (by omega)]; exact hw.2.2.2.2.1)
  have hNb : md_be (va_up g 2 (g 2 + i3 1)) s w 3 = md_be g s w 3 := md_be_cg ok.2 (fun k hk => up_n _ _ (by omega)) 3 (by omega)
  have hC := k_choose (G := G) (d := d) (f := s) (w := w) hNR hNw
  rw [hNb] at hC
  rw [← hN]
  refine ct_i hC ?_
  have tN : hp_T N = hp_T M := by rw [hN]; rfl
  have i3N : hp_I N 3 (B 0) = i3 (md_n g) := (iu 3 _ (by omega)).trans i3_
  simp (disch := omega) only [tN, b0, qt, i3N, forall_eq, Nat.reduceAdd, Nat.reduceMul, Nat.reduceEqDiff, Nat.reduceLeDiff, Nat.reduceSub, ne_eq, not_false_eq_true, not_true_eq_false, false_implies, true_implies, implies_true, true_and, and_true, eq_self, li0, li1, li2, li3, li4, li5, li6, li7, li8, li9, li10, li11, li12, li15, li18, li21, li22, li23, li24, li27, li30, li32, li39, li50, li51, li59, li60, li63, li75, li87, li90, li99, li100, li111, li121, li126, li131, li141, li150, li400, li900, li987, li1128, li240, i3_add, i3_toNat, vpt, bI_0, bI_1, bI_bo, Bool.not_eq_false, Bool.true_eq_false, Bool.false_eq_true, Bool.not_eq_true, i3_le', i3_lt', i3_eq', hp_T_sI, hp_N_sI, hp_R_sI, hp_E_sI, hp_Q_sI, hp_I_sI, hp_I_sIu, hp_T_sQ, hp_N_sQ, hp_R_sQ, hp_E_sQ, hp_I_sQ, hp_T_sA, hp_N_sA, hp_R_sA, hp_I_sA, hp_Q_sA, hp_E_sA, hp_sE_sA]
  have eQ : hp_Q N = hp_Q M := by rw [hN]; rfl
  have eE : hp_E N = hp_E M := by rw [hN]; rfl
  have en : md_n (va_up (md_nw g s e w) (87 + md_n g) (md_be g s w 3 + 1)) = md_n g + 1 := by rw [md_n_up (by omega)]; exact md_n_of (md_nw_n ok hn) (by omega)
  have en0 : md_n (md_nw g s e w) = md_n g + 1 := md_n_of (md_nw_n ok hn) (by omega)
  obtain ⟨o1, o2, o3, o4, o5, o6, o7, o8⟩ := md_nw_out (s := s) (e := e) (w := w) hn
  have far : ∀ k, k ≠ 1 → k ≠ 2 → (k < 27 ∨ 111 ≤ k ∨ (27 ≤ k ∧ k < 111 ∧ (k - 27) % 12 ≠ md_n g)) → va_up (md_nw g s e w) (87 + md_n g) (md_be g s w 3 + 1) k = g k := fun k h1 h2 h3 => by rw [up_n _ _ (by omega), md_nw_far h1 h2 h3 hn]
  refine ⟨by rw [i3_sub], ?_, ?_⟩
  · rw [md_ad_eq ok hn]
    refine ⟨by rw [hN]; exact r1, bQ_eq r2 eQ, ?_, fun c hc => ?_, fun p hp => ?_, tR_cg ((hp_I_sIu _ _ _ _ (by omega)).trans ((hp_I_sIu _ _ _ _ (by omega)).trans (iu _ _ (by omega)))) ((hp_I_sIu _ _ _ _ (by omega)).trans ((hp_I_sIu _ _ _ _ (by omega)).trans (iu _ _ (by omega)))) (fun i _ _ => by rw [hp_E_sI, hp_E_sI, eE]) (fun k hk => far k (by omega) (by omega) (by omega)) r6⟩
    · obtain ⟨h1, h2, h3, h4, h5, h6, h7⟩ := r3
      have i4N : hp_I N 4 (B 0) = g 2 := by rw [hN]; simp (disch := omega) only [hp_T_sI, hp_N_sI, hp_R_sI, hp_E_sI, hp_Q_sI, hp_I_sI, hp_I_sIu, hp_T_sQ, hp_N_sQ, hp_R_sQ, hp_E_sQ, hp_I_sQ, hp_T_sA, hp_N_sA, hp_R_sA, hp_I_sA, hp_Q_sA, hp_E_sA, hp_sE_sA]
      unfold iR
      rw [up_n _ _ (show (1 : Nat) ≠ 87 + md_n g by omega), up_n _ _ (show (2 : Nat) ≠ 87 + md_n g by omega), md_nw_n ok hn, o8, far 0 (by omega) (by omega) (by omega), far 5 (by omega) (by omega) (by omega), far 6 (by omega) (by omega) (by omega), far 7 (by omega) (by omega) (by omega), far 8 (by omega) (by omega) (by omega)]
      simp (disch := omega) only [hp_T_sI, hp_N_sI, hp_R_sI, hp_E_sI, hp_Q_sI, hp_I_sI, hp_I_sIu, hp_T_sQ, hp_N_sQ, hp_R_sQ, hp_E_sQ, hp_I_sQ, hp_T_sA, hp_N_sA, hp_R_sA, hp_I_sA, hp_Q_sA, hp_E_sA, hp_sE_sA, i4N, iu]
      exact ⟨trivial, (Int32.add_sub_cancel _ _).symm, h3, h4, h5, h6, h7⟩
    · refine cR_cg hc (fun u _ _ => (hp_I_sIu _ _ _ _ (by omega)).trans ((hp_I_sIu _ _ _ _ (by omega)).trans (iu u _ (by omega)))) (fun k hk => far k (by omega) (by omega) (by omega)) ?_ ?_ (r4 c hc)
      · rw [md_ld_car (by omega) (by omega) o1, md_nw_ld ok hn]
      · rw [md_is_car (by omega) (by omega) o1, md_nw_is ok hn]
    · rw [en] at hp
      rw [hp_Q_sI, hp_Q_sI, eQ]
      by_cases ep : p = md_n g
      · rw [ep]
        unfold pR
        rw [up_n _ _ (show 27 + md_n g ≠ 87 + md_n g by omega), up_n _ _ (show 39 + md_n g ≠ 87 + md_n g by omega), up_n _ _ (show 51 + md_n g ≠ 87 + md_n g by omega), up_n _ _ (show 63 + md_n g ≠ 87 + md_n g by omega), up_n _ _ (show 75 + md_n g ≠ 87 + md_n g by omega), up_n _ _ (show 99 + md_n g ≠ 87 + md_n g by omega), up_e, o1, o3, o4, o5, o6, o7, hN]
        simp (disch := omega) only [hp_T_sI, hp_N_sI, hp_R_sI, hp_E_sI, hp_Q_sI, hp_I_sI, hp_I_sIu, hp_T_sQ, hp_N_sQ, hp_R_sQ, hp_E_sQ, hp_I_sQ, hp_T_sA, hp_N_sA, hp_R_sA, hp_I_sA, hp_Q_sA, hp_E_sA, hp_sE_sA, true_and]
        exact ⟨rfl, (Int32.add_sub_cancel _ _).symm, rfl⟩
      · refine pR_cg (fun u _ _ => (hp_I_sIu _ _ _ _ (by omega)).trans ((hp_I_sIa _ _ _ _ (ne p (by omega))).trans (iu u _ (Or.inr (Or.inr ⟨by omega, ne p (by omega)⟩))))) (fun r hr => far _ (by omega) (by omega) (by omega)) (r5 p (by omega))
  · rw [hN]
    exact fb.trans (fp.trans (fp.trans (fp.trans (fp.trans (fp.trans (fp.trans (fp.trans fb)))))))
