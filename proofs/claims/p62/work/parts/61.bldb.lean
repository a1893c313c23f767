/-! .. what a building answers -/
theorem md_ca_s (g : md_R) (c n : Nat) : md_sum (fun p => if md_aw g p c then (1 : Int32) else 0) (n + 1) = md_sum (fun p => if md_aw g p c then (1 : Int32) else 0) n + (if md_aw g n c then 1 else 0) := rfl
theorem k_countAssigned {G : am_Gx} {d : Nat} {M : am_Hp} {B : Nat → Nat} {g : md_R} {c : Nat} (hR : bR M B g) (ok : md_ok g) (hc : c < 3) : am_CT G (d + 1) rX0_countAssigned [.ref (B 0), .int (i3 c)] M 0 0 (qi (md_ca g c) M) := by
  have h12 := ok.2
  obtain ⟨b0, u0, u1, u2, s1, m1, s2, m2, s3, u4, u5, u6, s4, s5, s6, m4, m5, m6, y0, y1, y2, y3, y4, y5, y6, qc, tc, zc, tp, zp, i3_, i4_, i5_, i6_, i7_, i8_, i9_, f20, f21, f22, f23, f24, f25, f26, f27, e60, e61, e62, e63, e64, e65, e66, l3_, l4_, lx, ly, lz⟩ := bR_f hR ok
  refine am_intro mkX0_countAssigned rfl (Nat.le_of_ble_eq_true rfl) rfl (fun X hX hM => ?_)
  have L : ∀ k j, j + k = md_n g → am_J X 4 [(0, .ref (B 0)), (1, .int (i3 c)), (2, .int (md_sum (fun p => if md_aw g p c then (1 : Int32) else 0) j)), (3, .int (i3 j))] [] M 0 0 := by
    intro k
    induction k with
    | zero =>
      intro j hj
      refine vX0_countAssigned_4 hX hM (fun x0 x1 x2 x3 M => am_J X 4 [(0, .ref x0), (1, .int x1), (2, .int x2), (3, .int x3)] [] M 0 0) (fun _ _ _ _ _ h => h) ?_
      simp (disch := omega) only [b0, u0, u1, u2, s1, m1, s2, m2, s3, u4, u5, u6, s4, s5, s6, m4, m5, m6, y0, y1, y2, y3, y4, y5, y6, qc, tc, zc, tp, zp, i3_, i4_, i5_, i6_, i7_, i8_, i9_, f20, f21, f22, f23, f24, f25, f26, f27, e60, e61, e62, e63, e64, e65, e66, l3_, l4_, forall_eq, Nat.reduceAdd, Nat.reduceMul, Nat.reduceEqDiff, Nat.reduceLeDiff, Nat.reduceSub, ne_eq, not_false_eq_true, not_true_eq_false, false_implies, true_implies, implies_true, true_and, and_true, eq_self, li0, li1, li2, li3, li4, li5, li6, li7, li8, li9, li10, li11, li12, li15, li18, li21, li22, li23, li24, li27, li30, li32, li39, li50, li51, li59, li60, li63, li75, li87, li90, li99, li100, li111, li121, li126, li131, li141, li150, li400, li900, li987, li1128, li240, i3_add, i3_toNat, vpt, bI_0, bI_1, bI_bo, Bool.not_eq_false, Bool.true_eq_false, Bool.false_eq_true, Bool.not_eq_true, i3_le', i3_lt', i3_eq', hp_T_sI, hp_N_sI, hp_R_sI, hp_E_sI, hp_Q_sI, hp_I_sI, hp_I_sIu, hp_T_sQ, hp_N_sQ, hp_R_sQ, hp_E_sQ, hp_I_sQ, hp_T_sA, hp_N_sA, hp_R_sA, hp_I_sA, hp_Q_sA, hp_E_sA, hp_sE_sA, sb1, sb0]
      exact ⟨fun _ => ⟨by rw [show j = md_n g by omega]; rfl, rfl⟩, fun z => absurd (show md_n g ≤ j by omega) z⟩
    | succ k ih =>
      intro j hj
      have I := ih (j + 1) (by omega)
      rw [md_ca_s] at I
      refine vX0_countAssigned_4 hX hM (fun x0 x1 x2 x3 M => am_J X 4 [(0, .ref x0), (1, .int x1), (2, .int x2), (3, .int x3)] [] M 0 0) (fun _ _ _ _ _ h => h) ?_
      simp (disch := omega) only [b0, u0, u1, u2, s1, m1, s2, m2, s3, u4, u5, u6, s4, s5, s6, m4, m5, m6, y0, y1, y2, y3, y4, y5, y6, qc, tc, zc, tp, zp, i3_, i4_, i5_, i6_, i7_, i8_, i9_, f20, f21, f22, f23, f24, f25, f26, f27, e60, e61, e62, e63, e64, e65, e66, l3_, l4_, forall_eq, Nat.reduceAdd, Nat.reduceMul, Nat.reduceEqDiff, Nat.reduceLeDiff, Nat.reduceSub, ne_eq, not_false_eq_true, not_true_eq_false, false_implies, true_implies, implies_true, true_and, and_true, eq_self, li0, li1, li2, li3, li4, li5, li6, li7, li8, li9, li10, li11, li12, li15, li18, li21, li22, li23, li24, li27, li30, li32, li39, li50, li51, li59, li60, li63, li75, li87, li90, li99, li100, li111, li121, li126, li131, li141, li150, li400, li900, li987, li1128, li240, i3_add, i3_toNat, vpt, bI_0, bI_1, bI_bo, Bool.not_eq_false, Bool.true_eq_false, Bool.false_eq_true, Bool.not_eq_true, i3_le', i3_lt', i3_eq', hp_T_sI, hp_N_sI, hp_R_sI, hp_E_sI, hp_Q_sI, hp_I_sI, hp_I_sIu, hp_T_sQ, hp_N_sQ, hp_R_sQ, hp_E_sQ, hp_I_sQ, hp_T_sA, hp_N_sA, hp_R_sA, hp_I_sA, hp_Q_sA, hp_E_sA, hp_sE_sA, sb1, sb0]
      refine ⟨fun z => absurd z (by omega), fun _ => ⟨fun a1 => ⟨fun a2 => ?_, fun a2 => ?_⟩, fun a1 => ?_⟩⟩
      · rw [if_pos (md_aw_iff.mpr ⟨a1, a2⟩)] at I
        exact I
      · rw [if_neg (fun z => a2 (md_aw_iff.mp z).2), Int32.add_zero] at I
        exact I
      · rw [if_neg (fun z => a1 (md_aw_iff.mp z).1), Int32.add_zero] at I
        exact I
  exact vX0_countAssigned_0 hX hM (fun x0 x1 x2 x3 M => am_J X 4 [(0, .ref x0), (1, .int x1), (2, .int x2), (3, .int x3)] [] M 0 0) (fun _ _ _ _ _ h => h) (L (md_n g) 0 (Nat.zero_add _))
theorem k_indexOf {G : am_Gx} {d : Nat} {M : am_Hp} {B : Nat → Nat} {g : md_R} {N : Int32} (hR : bR M B g) (ok : md_ok g) : am_CT G (d + 1) rX0_indexOf [.ref (B 0), .int N] M 0 0 (qi (md_ix g N (md_n g) 0) M) := by
  have h12 := ok.2
  obtain ⟨b0, u0, u1, u2, s1, m1, s2, m2, s3, u4, u5, u6, s4, s5, s6, m4, m5, m6, y0, y1, y2, y3, y4, y5, y6, qc, tc, zc, tp, zp, i3_, i4_, i5_, i6_, i7_, i8_, i9_, f20, f21, f22, f23, f24, f25, f26, f27, e60, e61, e62, e63, e64, e65, e66, l3_, l4_, lx, ly, lz⟩ := bR_f hR ok
  refine am_intro mkX0_indexOf rfl (Nat.le_of_ble_eq_true rfl) rfl (fun X hX hM => ?_)
  have L : ∀ k j, j + k = md_n g → md_ix g N k j = md_ix g N (md_n g) 0 → am_J X 2 [(0, .ref (B 0)), (1, .int N), (2, .int (i3 j))] [] M 0 0 := by
    intro k
    induction k with
    | zero =>
      intro j hj hn
      refine vX0_indexOf_2 hX hM (fun x0 x1 x2 M => am_J X 2 [(0, .ref x0), (1, .int x1), (2, .int x2)] [] M 0 0) (fun _ _ _ _ h => h) ?_
      simp (disch := omega) only [b0, u0, u1, u2, s1, m1, s2, m2, s3, u4, u5, u6, s4, s5, s6, m4, m5, m6, y0, y1, y2, y3, y4, y5, y6, qc, tc, zc, tp, zp, i3_, i4_, i5_, i6_, i7_, i8_, i9_, f20, f21, f22, f23, f24, f25, f26, f27, e60, e61, e62, e63, e64, e65, e66, l3_, l4_, forall_eq, Nat.reduceAdd, Nat.reduceMul, Nat.reduceEqDiff, Nat.reduceLeDiff, Nat.reduceSub, ne_eq, not_false_eq_true, not_true_eq_false, false_implies, true_implies, implies_true, true_and, and_true, eq_self, li0, li1, li2, li3, li4, li5, li6, li7, li8, li9, li10, li11, li12, li15, li18, li21, li22, li23, li24, li27, li30, li32, li39, li50, li51, li59, li60, li63, li75, li87, li90, li99, li100, li111, li121, li126, li131, li141, li150, li400, li900, li987, li1128, li240, i3_add, i3_toNat, vpt, bI_0, bI_1, bI_bo, Bool.not_eq_false, Bool.true_eq_false, Bool.false_eq_true, Bool.not_eq_true, i3_le', i3_lt', i3_eq', hp_T_sI, hp_N_sI, hp_R_sI, hp_E_sI, hp_Q_sI, hp_I_sI, hp_I_sIu, hp_T_sQ, hp_N_sQ, hp_R_sQ, hp_E_sQ, hp_I_sQ, hp_T_sA, hp_N_sA, hp_R_sA, hp_I_sA, hp_Q_sA, hp_E_sA, hp_sE_sA]
      exact ⟨fun _ => ⟨by rw [← hn]; rfl, rfl⟩, fun z => absurd (show md_n g ≤ j by omega) z⟩
    | succ k ih =>
      intro j hj hn
      rw [md_ix] at hn
      refine vX0_indexOf_2 hX hM (fun x0 x1 x2 M => am_J X 2 [(0, .ref x0), (1, .int x1), (2, .int x2)] [] M 0 0) (fun _ _ _ _ h => h) ?_
      simp (disch := omega) only [b0, u0, u1, u2, s1, m1, s2, m2, s3, u4, u5, u6, s4, s5, s6, m4, m5, m6, y0, y1, y2, y3, y4, y5, y6, qc, tc, zc, tp, zp, i3_, i4_, i5_, i6_, i7_, i8_, i9_, f20, f21, f22, f23, f24, f25, f26, f27, e60, e61, e62, e63, e64, e65, e66, l3_, l4_, forall_eq, Nat.reduceAdd, Nat.reduceMul, Nat.reduceEqDiff, Nat.reduceLeDiff, Nat.reduceSub, ne_eq, not_false_eq_true, not_true_eq_false, false_implies, true_implies, implies_true, true_and, and_true, eq_self, li0, li1, li2, li3, li4, li5, li6, li7, li8, li9, li10, li11, li12, li15, li18, li21, li22, li23, li24, li27, li30, li32, li39, li50, li51, li59, li60, li63, li75, li87, li90, li99, li100, li111, li121, li126, li131, li141, li150, li400, li900, li987, li1128, li240, i3_add, i3_toNat, vpt, bI_0, bI_1, bI_bo, Bool.not_eq_false, Bool.true_eq_false, Bool.false_eq_true, Bool.not_eq_true, i3_le', i3_lt', i3_eq', hp_T_sI, hp_N_sI, hp_R_sI, hp_E_sI, hp_Q_sI, hp_I_sI, hp_I_sIu, hp_T_sQ, hp_N_sQ, hp_R_sQ, hp_E_sQ, hp_I_sQ, hp_T_sA, hp_N_sA, hp_R_sA, hp_I_sA, hp_Q_sA, hp_E_sA, hp_sE_sA]
      refine ⟨fun z => absurd z (by omega), fun _ => ⟨fun a1 => ?_, fun a1 => ?_⟩⟩
      · rw [if_pos a1] at hn
        exact ⟨by rw [← hn], rfl⟩
      · rw [if_neg a1] at hn
        exact ih (j + 1) (by omega) hn
  exact vX0_indexOf_0 hX hM (fun x0 x1 x2 M => am_J X 2 [(0, .ref x0), (1, .int x1), (2, .int x2)] [] M 0 0) (fun _ _ _ _ h => h) (L (md_n g) 0 (Nat.zero_add _) rfl)
def md_rd (g : md_R) (N : Int32) : Bool := !(md_ix g N (md_n g) 0 == -1) && g (99 + (md_ix g N (md_n g) 0).toNatClampNeg) == i3 1
theorem k_isRiding {G : am_Gx} {d T : Nat} {M : am_Hp} {B : Nat → Nat} {g : md_R} {N : Int32} (hR : bR M B g) (hw : md_wf T g) : am_CT G (d + 2) rX0_isRiding [.ref (B 0), .int N] M 0 0 (qi (bI (md_rd g N)) M) := by
  have ok := md_wf_ok hw
  have h12 := ok.2
  obtain ⟨b0, u0, u1, u2, s1, m1, s2, m2, s3, u4, u5, u6, s4, s5, s6, m4, m5, m6, y0, y1, y2, y3, y4, y5, y6, qc, tc, zc, tp, zp, i3_, i4_, i5_, i6_, i7_, i8_, i9_, f20, f21, f22, f23, f24, f25, f26, f27, e60, e61, e62, e63, e64, e65, e66, l3_, l4_, lx, ly, lz⟩ := bR_f hR ok
  refine am_intro mkX0_isRiding rfl (Nat.le_of_ble_eq_true rfl) rfl (fun X hX hM => ?_)
  refine vX0_isRiding_0 hX hM ?_
  refine ⟨b0, ct_i (k_indexOf hR ok) ?_⟩
  rcases md_ix_val g N (md_n g) 0 with h | ⟨p, h1, h2, h3, h4⟩
  · refine ⟨fun _ => qF ?_, fun z => absurd h z⟩
    unfold md_rd
    rw [h]
    simp
  · have hn : ¬ i3 p = (-1 : Int32) := fun z => by
      have := congrArg Int32.toInt z
      rw [i3_toInt (by omega)] at this
      have e : (-1 : Int32).toInt = -1 := rfl
      omega
    have e : md_rd g N = decide (g (99 + p) = i3 1) := by
      unfold md_rd
      rw [h3, i3_toNat (by omega), beq_eq_false_iff_ne.mpr hn]
      rfl
    rw [h3, e]
    refine ⟨fun z => absurd z hn, fun _ => ?_⟩
    simp (disch := omega) only [b0, u0, u1, u2, s1, m1, s2, m2, s3, u4, u5, u6, s4, s5, s6, m4, m5, m6, y0, y1, y2, y3, y4, y5, y6, qc, tc, zc, tp, zp, i3_, i4_, i5_, i6_, i7_, i8_, i9_, f20, f21, f22, f23, f24, f25, f26, f27, e60, e61, e62, e63, e64, e65, e66, l3_, l4_, forall_eq, Nat.reduceAdd, Nat.reduceMul, Nat.reduceEqDiff, Nat.reduceLeDiff, Nat.reduceSub, ne_eq, not_false_eq_true, not_true_eq_false, false_implies, true_implies, implies_true, true_and, and_true, eq_self, li0, li1, li2, li3, li4, li5, li6, li7, li8, li9, li10, li11, li12, li15, li18, li21, li22, li23, li24, li27, li30, li32, li39, li50, li51, li59, li60, li63, li75, li87, li90, li99, li100, li111, li121, li126, li131, li141, li150, li400, li900, li987, li1128, li240, i3_add, i3_toNat, vpt, bI_0, bI_1, bI_bo, Bool.not_eq_false, Bool.true_eq_false, Bool.false_eq_true, Bool.not_eq_true, i3_le', i3_lt', i3_eq', hp_T_sI, hp_N_sI, hp_R_sI, hp_E_sI, hp_Q_sI, hp_I_sI, hp_I_sIu, hp_T_sQ, hp_N_sQ, hp_R_sQ, hp_E_sQ, hp_I_sQ, hp_T_sA, hp_N_sA, hp_R_sA, hp_I_sA, hp_Q_sA, hp_E_sA, hp_sE_sA]
    refine ⟨fun a1 => qF ?_, fun a1 => qT ?_⟩
    · rw [a1]
      decide
    · rcases (hw.2.2.1 p (by omega)).2.2.2.2.2.1 with z | z
      · exact absurd z a1
      · rw [z]
        decide
theorem k_isPassenger {G : am_Gx} {d : Nat} {M : am_Hp} {B : Nat → Nat} {g : md_R} {v : Int32} (hR : bR M B g) (ok : md_ok g) : am_CT G (d + 1) rX0_isPassenger [.ref (B 0), .int v] M 0 0 (qi (bI (md_ip g v)) M) := by
  have h12 := ok.2
  obtain ⟨b0, u0, u1, u2, s1, m1, s2, m2, s3, u4, u5, u6, s4, s5, s6, m4, m5, m6, y0, y1, y2, y3, y4, y5, y6, qc, tc, zc, tp, zp, i3_, i4_, i5_, i6_, i7_, i8_, i9_, f20, f21, f22, f23, f24, f25, f26, f27, e60, e61, e62, e63, e64, e65, e66, l3_, l4_, lx, ly, lz⟩ := bR_f hR ok
  refine am_intro mkX0_isPassenger rfl (Nat.le_of_ble_eq_true rfl) rfl (fun X hX hM => ?_)
  refine vX0_isPassenger_0 hX hM ?_
  rw [i3_]
  have e : md_ip g v = true ↔ ¬ v < 0 ∧ ¬ i3 (md_n g) ≤ v := by
    unfold md_ip
    rw [Bool.and_eq_true, decide_eq_true_eq, decide_eq_true_eq, Int32.not_le, Int32.not_lt]
    exact Iff.rfl
  exact ⟨fun a => qF (fun z => (e.mp z).1 a), fun a => ⟨b0, fun b => qF (fun z => (e.mp z).2 b), fun b => qT (e.mpr ⟨a, b⟩)⟩⟩
/-- the set of stops -/
theorem md_mk_s {T : Nat} {g : md_R} {c n : Nat} (hw : md_wp T g n) : i3 (md_or (md_mkf g c) (n + 1)) = if g (87 + n) = i3 (c + 1) then i3 (md_or (md_mkf g c) n) ||| ((1 : Int32) <<< ((if g (99 + n) = 0 then g (39 + n) else g (51 + n)) &&& 31)) else i3 (md_or (md_mkf g c) n) := by
  rw [md_or, ← i3_or]
  unfold md_mkf
  rw [i3_one]
  by_cases h : g (87 + n) = i3 (c + 1)
  · rw [if_pos h, if_pos h]
    congr 1
    obtain ⟨⟨s, s1, s2⟩, ⟨t, t1, t2⟩, -⟩ := hw
    unfold md_tg
    rw [s2, t2]
    split
    · rw [i3_toNat (by omega), i3_shl s1]
    · rw [i3_toNat (by omega), i3_shl t1]
  · rw [if_neg h, if_neg h]
    rw [show i3 0 = i3 0 from rfl, i3_or, Nat.or_zero]
theorem k_stopsOf {G : am_Gx} {d T : Nat} {M : am_Hp} {B : Nat → Nat} {g : md_R} {c : Nat} (hR : bR M B g) (hw : md_wf T g) : am_CT G (d + 1) rX0_stopsOf [.ref (B 0), .int (i3 c)] M 0 0 (qi (i3 (md_mk g c)) M) := by
  have ok := md_wf_ok hw
  have h12 := ok.2
  obtain ⟨b0, u0, u1, u2, s1, m1, s2, m2, s3, u4, u5, u6, s4, s5, s6, m4, m5, m6, y0, y1, y2, y3, y4, y5, y6, qc, tc, zc, tp, zp, i3_, i4_, i5_, i6_, i7_, i8_, i9_, f20, f21, f22, f23, f24, f25, f26, f27, e60, e61, e62, e63, e64, e65, e66, l3_, l4_, lx, ly, lz⟩ := bR_f hR ok
  refine am_intro mkX0_stopsOf rfl (Nat.le_of_ble_eq_true rfl) rfl (fun X hX hM => ?_)
  have L : ∀ k j, j + k = md_n g → am_J X 4 [(0, .ref (B 0)), (1, .int (i3 c)), (2, .int (i3 (md_or (md_mkf g c) j))), (3, .int (i3 j))] [] M 0 0 := by
    intro k
    induction k with
    | zero =>
      intro j hj
      refine vX0_stopsOf_4 hX hM (fun x0 x1 x2 x3 M => am_J X 4 [(0, .ref x0), (1, .int x1), (2, .int x2), (3, .int x3)] [] M 0 0) (fun _ _ _ _ _ h => h) ?_
      rw [i3_]
      refine ⟨b0, fun _ => ⟨by rw [show j = md_n g by omega]; rfl, rfl⟩, fun z => absurd ((i3_le (by omega) (by omega)).mpr (show md_n g ≤ j by omega)) z⟩
    | succ k ih =>
      intro j hj
      have I := ih (j + 1) (by omega)
      rw [md_mk_s (hw.2.2.1 j (by omega))] at I
      refine vX0_stopsOf_4 hX hM (fun x0 x1 x2 x3 M => am_J X 4 [(0, .ref x0), (1, .int x1), (2, .int x2), (3, .int x3)] [] M 0 0) (fun _ _ _ _ _ h => h) ?_
      rw [i3_]
      refine ⟨b0, fun z => absurd ((i3_le (by omega) (by omega)).mp z) (by omega), fun _ => ?_⟩
      simp (disch := omega) only [b0, u0, u1, u2, s1, m1, s2, m2, s3, u4, u5, u6, s4, s5, s6, m4, m5, m6, y0, y1, y2, y3, y4, y5, y6, qc, tc, zc, tp, zp, forall_eq, ne_eq, not_false_eq_true, true_and, i3_toNat, vpt, hp_T_sI, hp_N_sI, hp_R_sI, hp_E_sI, hp_Q_sI, hp_I_sI, hp_I_sIu, hp_T_sQ, hp_N_sQ, hp_R_sQ, hp_E_sQ, hp_I_sQ, hp_T_sA, hp_N_sA, hp_R_sA, hp_I_sA, hp_Q_sA, hp_E_sA, hp_sE_sA, i3_add]
      rw [e61 j (by omega), e62 j (by omega), e65 j (by omega), e66 j (by omega), sb1]
      refine ⟨fun a1 => ⟨fun a2 => ?_, fun a2 => ?_⟩, fun a1 => ?_⟩
      · rw [i3_one]
        rw [if_pos a1, if_pos a2] at I
        exact I
      · rw [i3_one]
        rw [if_pos a1, if_neg a2] at I
        exact I
      · rw [i3_one]
        rw [if_neg a1] at I
        exact I
  exact vX0_stopsOf_0 hX hM (fun x0 x1 x2 x3 M => am_J X 4 [(0, .ref x0), (1, .int x1), (2, .int x2), (3, .int x3)] [] M 0 0) (fun _ _ _ _ _ h => h) (L (md_n g) 0 (Nat.zero_add _))
theorem md_abs_if (x : Int32) : (if 0 ≤ x then x else 0 - x) = md_abs x := by
  unfold md_abs
  by_cases h : 0 ≤ x
  · rw [if_pos h, if_neg (Int32.not_lt.mpr h)]
  · rw [if_neg h, if_pos (Int32.not_le.mp h), Int32.zero_sub]
theorem k_estF {G : am_Gx} {d T : Nat} {M : am_Hp} {B : Nat → Nat} {g : md_R} {c : Nat} {f : Int32} (hR : bR M B g) (hw : md_wf T g) (hc : c < 3) : am_CT G (d + 2) rX0_estimateByFormula [.ref (B 0), .int (i3 c), .int f] M 0 0 (qi (md_es g c f) M) := by
  have ok := md_wf_ok hw
  have h12 := ok.2
  obtain ⟨fl, fl1, fl2⟩ := md_wf_fl hw hc
  obtain ⟨b0, u0, u1, u2, s1, m1, s2, m2, s3, u4, u5, u6, s4, s5, s6, m4, m5, m6, y0, y1, y2, y3, y4, y5, y6, qc, tc, zc, tp, zp, i3_, i4_, i5_, i6_, i7_, i8_, i9_, f20, f21, f22, f23, f24, f25, f26, f27, e60, e61, e62, e63, e64, e65, e66, l3_, l4_, lx, ly, lz⟩ := bR_f hR ok
  refine am_intro mkX0_estimateByFormula rfl (Nat.le_of_ble_eq_true rfl) rfl (fun X hX hM => ?_)
  refine vX0_estimateByFormula_0 hX hM ?_
  simp (disch := omega) only [b0, u0, u1, u2, s1, m1, s2, m2, s3, u4, u5, u6, s4, s5, s6, m4, m5, m6, y0, y1, y2, y3, y4, y5, y6, qc, tc, zc, tp, zp, forall_eq, ne_eq, not_false_eq_true, true_and, i3_toNat, vpt, hp_T_sI, hp_N_sI, hp_R_sI, hp_E_sI, hp_Q_sI, hp_I_sI, hp_I_sIu, hp_T_sQ, hp_N_sQ, hp_R_sQ, hp_E_sQ, hp_I_sQ, hp_T_sA, hp_N_sA, hp_R_sA, hp_I_sA, hp_Q_sA, hp_E_sA, hp_sE_sA, i3_add]
  rw [f20 c hc, f21 c hc, md_abs_if]
  unfold md_es
  refine ⟨fun a1 => ⟨?_, rfl⟩, fun a1 => ct_i (k_stopsOf hR hw) ?_⟩
  · rw [f24 c hc, if_neg (Int32.not_lt.mpr a1), Int32.add_zero]
  · rw [f20 c hc, f21 c hc, fl2]
    refine ⟨tc c hc, ct_i (k_last (md_mk_lt hw.2.2.1)) ?_⟩
    refine ⟨tc c hc, ?_, rfl⟩
    rw [f24 c hc, md_hc_hit hw.2.2.1 fl2, ← fl2, if_pos (Int32.not_le.mp a1)]
    unfold md_fr
    rw [Int32.add_assoc]
theorem k_choose {G : am_Gx} {d T : Nat} {M : am_Hp} {B : Nat → Nat} {g : md_R} {f w : Int32} (hR : bR M B g) (hw : md_wf T g) : am_CT G (d + 3) rX0_chooseCar [.ref (B 0), .int f, .int w] M 0 0 (qi (md_be g f w 3) M) := by
  have ok := md_wf_ok hw
  have h12 := ok.2
  obtain ⟨b0, u0, u1, u2, s1, m1, s2, m2, s3, u4, u5, u6, s4, s5, s6, m4, m5, m6, y0, y1, y2, y3, y4, y5, y6, qc, tc, zc, tp, zp, i3_, i4_, i5_, i6_, i7_, i8_, i9_, f20, f21, f22, f23, f24, f25, f26, f27, e60, e61, e62, e63, e64, e65, e66, l3_, l4_, lx, ly, lz⟩ := bR_f hR ok
  refine am_intro mkX0_chooseCar rfl (Nat.le_of_ble_eq_true rfl) rfl (fun X hX hM => ?_)
  have L : ∀ k j lo, j + k = 3 → (∀ b, md_be g f w j = i3 b → b < 3 → lo = md_es g b f) → am_J X 8 [(0, .ref (B 0)), (1, .int f), (2, .int w), (3, .int (md_be g f w j)), (4, .int lo), (5, .int (i3 j))] [] M 0 0 := by
    intro k
    induction k with
    | zero =>
      intro j lo hj _
      have e3 : j = 3 := by omega
      subst e3
      exact vX0_chooseCar_8 hX hM (fun x0 x1 x2 x3 x4 x5 M => am_J X 8 [(0, .ref x0), (1, .int x1), (2, .int x2), (3, .int x3), (4, .int x4), (5, .int x5)] [] M 0 0) (fun _ _ _ _ _ _ _ h => h) ⟨fun _ => ⟨rfl, rfl⟩, fun z => absurd (Int32.le_refl _) z⟩
    | succ k ih =>
      intro j lo hj hlo
      have I : ∀ v lo', md_be g f w (j + 1) = v → (∀ b, v = i3 b → b < 3 → lo' = md_es g b f) → am_J X 8 [(0, .ref (B 0)), (1, .int f), (2, .int w), (3, .int v), (4, .int lo'), (5, .int (i3 (j + 1)))] [] M 0 0 := fun v lo' e hl => by
        have := ih (j + 1) lo' (by omega) (fun b hb => hl b (e ▸ hb))
        rw [e] at this
        exact this
      refine vX0_chooseCar_8 hX hM (fun x0 x1 x2 x3 x4 x5 M => am_J X 8 [(0, .ref x0), (1, .int x1), (2, .int x2), (3, .int x3), (4, .int x4), (5, .int x5)] [] M 0 0) (fun _ _ _ _ _ _ _ h => h) ⟨fun z => absurd z (by rw [show (3 : Int32) = i3 3 from rfl, i3_le (by omega) (by omega)]; omega), fun _ => ?_⟩
      simp (disch := omega) only [b0, u0, u1, u2, s1, m1, s2, m2, s3, u4, u5, u6, s4, s5, s6, m4, m5, m6, y0, y1, y2, y3, y4, y5, y6, qc, tc, zc, tp, zp, forall_eq, ne_eq, not_false_eq_true, true_and, i3_toNat, vpt, hp_T_sI, hp_N_sI, hp_R_sI, hp_E_sI, hp_Q_sI, hp_I_sI, hp_I_sIu, hp_T_sQ, hp_N_sQ, hp_R_sQ, hp_E_sQ, hp_I_sQ, hp_T_sA, hp_N_sA, hp_R_sA, hp_I_sA, hp_Q_sA, hp_E_sA, hp_sE_sA, i3_add]
      rw [f22 j (by omega), f23 j (by omega), f27 j (by omega), show (0 : Int32) = i3 0 from rfl, bI_0]
      refine ⟨fun a1 => ?_, fun a1 => ⟨fun a2 => ?_, fun a2 => ct_i (k_estF hR hw (by omega)) ⟨fun a3 => ?_, fun a3 => ⟨fun a4 => ?_, fun a4 => ?_⟩⟩⟩⟩
      · rw [i3_one]
        refine I _ lo ?_ hlo
        rw [md_be, if_neg]
        rintro ⟨z, -⟩
        rw [decide_eq_true (show g (21 + j) = i3 0 from z)] at a1
        cases a1
      · rw [i3_one]
        refine I _ lo ?_ hlo
        rw [md_be, if_neg]
        rintro ⟨-, z⟩
        exact absurd a2 (Int32.not_lt.mpr z)
      all_goals
        have a1' : g (21 + j) = 0 := by
          rw [Bool.not_eq_false, decide_eq_true_eq] at a1
          exact a1
      · rw [i3_one]
        refine I _ _ ?_ (fun b hb hb3 => ?_)
        · rw [md_be, if_pos ⟨a1', Int32.not_lt.mp a2⟩, if_pos (Or.inl a3)]
        · rw [(i3_eq (by omega) (by omega)).mp hb]
      · rw [i3_one]
        refine I _ lo ?_ hlo
        rcases md_be_val g f w j (by omega) with z | ⟨b, hb, z⟩
        · exact absurd z a3
        · rw [md_be, if_pos ⟨a1', Int32.not_lt.mp a2⟩, if_neg]
          rintro (q | q)
          · exact a3 q
          · rw [z, i3_toNat (by omega), ← hlo b z (by omega)] at q
            exact absurd a4 (Int32.not_le.mpr q)
      · rw [i3_one]
        refine I _ _ ?_ (fun b hb hb3 => ?_)
        · rcases md_be_val g f w j (by omega) with z | ⟨b, hb, z⟩
          · exact absurd z a3
          · rw [md_be, if_pos ⟨a1', Int32.not_lt.mp a2⟩, if_pos]
            refine Or.inr ?_
            rw [z, i3_toNat (by omega), ← hlo b z (by omega)]
            exact Int32.not_le.mp a4
        · rw [(i3_eq (by omega) (by omega)).mp hb]
  refine vX0_chooseCar_0 hX hM (fun x0 x1 x2 x3 x4 x5 M => am_J X 8 [(0, .ref x0), (1, .int x1), (2, .int x2), (3, .int x3), (4, .int x4), (5, .int x5)] [] M 0 0) (fun _ _ _ _ _ _ _ h => h) (L 3 0 0 (by omega) (fun b hb hb3 => ?_))
  exact absurd (show (-1 : Int32) = i3 b from hb) (by
    have : ∀ b : Fin 3, ¬ (-1 : Int32) = i3 b.1 := by decide
    exact this ⟨b, hb3⟩)
theorem k_direction {G : am_Gx} {d T : Nat} {M : am_Hp} {B : Nat → Nat} {g : md_R} {c : Nat} (hR : bR M B g) (hw : md_wf T g) (hc : c < 3) (hs : md_st g c (g (9 + c)) = false) : am_CT G (d + 2) rX6_directionToChoose [.ref (B (7 + c)), .int (i3 (md_mk g c))] M 0 0 (qi (md_ch g c) M) := by
  have ok := md_wf_ok hw
  obtain ⟨fl, fl1, fl2⟩ := md_wf_fl hw hc
  have hm := md_mk_lt (c := c) hw.2.2.1
  have b : ∀ r, md_nr g c r < 10 := fun r => by
    rcases md_go_le (md_hit g c r) 9 1 with q | ⟨-, q, -⟩
    · unfold md_nr; omega
    · unfold md_nr; omega
  have b1 := b 1
  have b2 := b (-1)
  obtain ⟨b0, u0, u1, u2, s1, m1, s2, m2, s3, u4, u5, u6, s4, s5, s6, m4, m5, m6, y0, y1, y2, y3, y4, y5, y6, qc, tc, zc, tp, zp, i3_, i4_, i5_, i6_, i7_, i8_, i9_, f20, f21, f22, f23, f24, f25, f26, f27, e60, e61, e62, e63, e64, e65, e66, l3_, l4_, lx, ly, lz⟩ := bR_f hR ok
  refine am_intro mkX6_directionToChoose rfl (Nat.le_of_ble_eq_true rfl) rfl (fun X hX hM => ?_)
  refine vX6_directionToChoose_0 hX hM ?_
  rw [md_ch_cls hw.2.2.1 fl2 fl1 hs, f20 c hc, fl2]
  have n1 : ∀ r, md_go (md_hc (md_mk g c) fl r) 9 1 = md_nr g c r := fun r => by rw [md_hc_hit hw.2.2.1 fl2]; rfl
  refine ⟨fun a1 => ?_, fun a1 => ⟨tc c hc, ct_i (k_first hm) ⟨tc c hc, ?_⟩⟩⟩
  · rw [if_pos ((i3_eq (b := 0) (by omega) (by omega)).mp a1)]
    exact ⟨rfl, rfl⟩
  · rw [f20 c hc, fl2]
    refine ct_i (k_first hm) ?_
    have a1' : ¬ md_mk g c = 0 := fun z => a1 (by rw [z]; rfl)
    rw [n1, n1, if_neg a1']
    refine ⟨fun a2 => ?_, fun a2 => ⟨fun a3 => ?_, fun a3 => ⟨tc c hc, ?_⟩⟩⟩
    · rw [if_pos ((i3_eq (b := 0) (by omega) (by omega)).mp a2)]
      exact ⟨rfl, rfl⟩
    · rw [if_neg (fun z => a2 (by rw [z]; rfl)), if_pos ((i3_eq (b := 0) (by omega) (by omega)).mp a3)]
      exact ⟨rfl, rfl⟩
    · rw [if_neg (fun z => a2 (by rw [z]; rfl)), if_neg (fun z => a3 (by rw [z]; rfl)), f21 c hc]
      refine ⟨fun a4 => ⟨fun a5 => ?_, fun a5 => ?_⟩, fun a4 => ?_⟩
      · rw [if_neg (fun z => z a4), if_neg (Nat.not_le.mpr ((i3_lt (by omega) (by omega)).mp a5))]
        exact ⟨rfl, rfl⟩
      · rw [if_neg (fun z => z a4), if_pos (Nat.le_of_not_lt (fun z => a5 ((i3_lt (by omega) (by omega)).mpr z)))]
        exact ⟨rfl, rfl⟩
      · rw [if_pos a4]
        exact ⟨rfl, rfl⟩
