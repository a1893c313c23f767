/-! .. the parts of a step -/
theorem bR_dir {M : am_Hp} {B : Nat → Nat} {g : md_R} {c : Nat} {v0 : Int32} (hR : bR M B g) (ok : md_ok g) (hc : c < 3) : bR (hp_sI M 21 (B (7 + c)) v0) B (va_up g (12 + c) v0) := by
  have h12 := ok.2
  obtain ⟨b0, u0, u1, u2, s1, m1, s2, m2, s3, u4, u5, u6, s4, s5, s6, m4, m5, m6, y0, y1, y2, y3, y4, y5, y6, qc, tc, zc, tp, zp, i3_, i4_, i5_, i6_, i7_, i8_, i9_, f20, f21, f22, f23, f24, f25, f26, f27, e60, e61, e62, e63, e64, e65, e66, l3_, l4_, lx, ly, lz⟩ := bR_f hR ok
  refine bR_car hR h12 hc (fun u a h => ?_) rfl rfl ⟨rfl, rfl, rfl, rfl, rfl⟩ (fun k a1 a2 a3 a4 a5 a6 => by rw [up_n _ _ (by omega)]) ?_
  · rcases h with h | h | h
    · rw [hp_I_sIu _ _ _ _ (by omega)]
    · rw [hp_I_sIu _ _ _ _ (by omega)]
    · rw [hp_I_sIa _ _ _ _ h]
  · unfold cR
    rw [md_ld_cg (g := g) h12 (fun k hk => by rw [up_n _ _ (by omega)]), md_is_cg (g := g) h12 (fun k hk => by rw [up_n _ _ (by omega)])]
    simp (disch := omega) only [hp_T_sI, hp_N_sI, hp_R_sI, hp_E_sI, hp_Q_sI, hp_I_sI, hp_I_sIu, hp_T_sQ, hp_N_sQ, hp_R_sQ, hp_E_sQ, hp_I_sQ, hp_T_sA, hp_N_sA, hp_R_sA, hp_I_sA, hp_Q_sA, hp_E_sA, hp_sE_sA, f20, f21, f22, f23, f24, f25, f26, f27, hc, up_n', up_e, true_and, and_true, eq_self]
theorem bR_flo {M : am_Hp} {B : Nat → Nat} {g : md_R} {c : Nat} {v0 : Int32} (hR : bR M B g) (ok : md_ok g) (hc : c < 3) : bR (hp_sI M 20 (B (7 + c)) v0) B (va_up g (9 + c) v0) := by
  have h12 := ok.2
  obtain ⟨b0, u0, u1, u2, s1, m1, s2, m2, s3, u4, u5, u6, s4, s5, s6, m4, m5, m6, y0, y1, y2, y3, y4, y5, y6, qc, tc, zc, tp, zp, i3_, i4_, i5_, i6_, i7_, i8_, i9_, f20, f21, f22, f23, f24, f25, f26, f27, e60, e61, e62, e63, e64, e65, e66, l3_, l4_, lx, ly, lz⟩ := bR_f hR ok
  refine bR_car hR h12 hc (fun u a h => ?_) rfl rfl ⟨rfl, rfl, rfl, rfl, rfl⟩ (fun k a1 a2 a3 a4 a5 a6 => by rw [up_n _ _ (by omega)]) ?_
  · rcases h with h | h | h
    · rw [hp_I_sIu _ _ _ _ (by omega)]
    · rw [hp_I_sIu _ _ _ _ (by omega)]
    · rw [hp_I_sIa _ _ _ _ h]
  · unfold cR
    rw [md_ld_cg (g := g) h12 (fun k hk => by rw [up_n _ _ (by omega)]), md_is_cg (g := g) h12 (fun k hk => by rw [up_n _ _ (by omega)])]
    simp (disch := omega) only [hp_T_sI, hp_N_sI, hp_R_sI, hp_E_sI, hp_Q_sI, hp_I_sI, hp_I_sIu, hp_T_sQ, hp_N_sQ, hp_R_sQ, hp_E_sQ, hp_I_sQ, hp_T_sA, hp_N_sA, hp_R_sA, hp_I_sA, hp_Q_sA, hp_E_sA, hp_sE_sA, f20, f21, f22, f23, f24, f25, f26, f27, hc, up_n', up_e, true_and, and_true, eq_self]
theorem bR_flen {M : am_Hp} {B : Nat → Nat} {g : md_R} {c : Nat} {v0 v1 : Int32} (hR : bR M B g) (ok : md_ok g) (hc : c < 3) : bR (hp_sI (hp_sI M 20 (B (7 + c)) v0) 26 (B (7 + c)) v1) B (va_up (va_up g (9 + c) v0) (24 + c) v1) := by
  have h12 := ok.2
  obtain ⟨b0, u0, u1, u2, s1, m1, s2, m2, s3, u4, u5, u6, s4, s5, s6, m4, m5, m6, y0, y1, y2, y3, y4, y5, y6, qc, tc, zc, tp, zp, i3_, i4_, i5_, i6_, i7_, i8_, i9_, f20, f21, f22, f23, f24, f25, f26, f27, e60, e61, e62, e63, e64, e65, e66, l3_, l4_, lx, ly, lz⟩ := bR_f hR ok
  refine bR_car hR h12 hc (fun u a h => ?_) rfl rfl ⟨rfl, rfl, rfl, rfl, rfl⟩ (fun k a1 a2 a3 a4 a5 a6 => by rw [up_n _ _ (by omega), up_n _ _ (by omega)]) ?_
  · rcases h with h | h | h
    · rw [hp_I_sIu _ _ _ _ (by omega), hp_I_sIu _ _ _ _ (by omega)]
    · rw [hp_I_sIu _ _ _ _ (by omega), hp_I_sIu _ _ _ _ (by omega)]
    · rw [hp_I_sIa _ _ _ _ h, hp_I_sIa _ _ _ _ h]
  · unfold cR
    rw [md_ld_cg (g := g) h12 (fun k hk => by rw [up_n _ _ (by omega), up_n _ _ (by omega)]), md_is_cg (g := g) h12 (fun k hk => by rw [up_n _ _ (by omega), up_n _ _ (by omega)])]
    simp (disch := omega) only [hp_T_sI, hp_N_sI, hp_R_sI, hp_E_sI, hp_Q_sI, hp_I_sI, hp_I_sIu, hp_T_sQ, hp_N_sQ, hp_R_sQ, hp_E_sQ, hp_I_sQ, hp_T_sA, hp_N_sA, hp_R_sA, hp_I_sA, hp_Q_sA, hp_E_sA, hp_sE_sA, f20, f21, f22, f23, f24, f25, f26, f27, hc, up_n', up_e, true_and, and_true, eq_self]
theorem bR_door {M : am_Hp} {B : Nat → Nat} {g : md_R} {c : Nat} {v0 : Int32} (hR : bR M B g) (ok : md_ok g) (hc : c < 3) : bR (hp_sI M 25 (B (7 + c)) v0) B (va_up g (18 + c) v0) := by
  have h12 := ok.2
  obtain ⟨b0, u0, u1, u2, s1, m1, s2, m2, s3, u4, u5, u6, s4, s5, s6, m4, m5, m6, y0, y1, y2, y3, y4, y5, y6, qc, tc, zc, tp, zp, i3_, i4_, i5_, i6_, i7_, i8_, i9_, f20, f21, f22, f23, f24, f25, f26, f27, e60, e61, e62, e63, e64, e65, e66, l3_, l4_, lx, ly, lz⟩ := bR_f hR ok
  refine bR_car hR h12 hc (fun u a h => ?_) rfl rfl ⟨rfl, rfl, rfl, rfl, rfl⟩ (fun k a1 a2 a3 a4 a5 a6 => by rw [up_n _ _ (by omega)]) ?_
  · rcases h with h | h | h
    · rw [hp_I_sIu _ _ _ _ (by omega)]
    · rw [hp_I_sIu _ _ _ _ (by omega)]
    · rw [hp_I_sIa _ _ _ _ h]
  · unfold cR
    rw [md_ld_cg (g := g) h12 (fun k hk => by rw [up_n _ _ (by omega)]), md_is_cg (g := g) h12 (fun k hk => by rw [up_n _ _ (by omega)])]
    simp (disch := omega) only [hp_T_sI, hp_N_sI, hp_R_sI, hp_E_sI, hp_Q_sI, hp_I_sI, hp_I_sIu, hp_T_sQ, hp_N_sQ, hp_R_sQ, hp_E_sQ, hp_I_sQ, hp_T_sA, hp_N_sA, hp_R_sA, hp_I_sA, hp_Q_sA, hp_E_sA, hp_sE_sA, f20, f21, f22, f23, f24, f25, f26, f27, hc, up_n', up_e, true_and, and_true, eq_self]
theorem bR_doen {M : am_Hp} {B : Nat → Nat} {g : md_R} {c : Nat} {v0 v1 : Int32} (hR : bR M B g) (ok : md_ok g) (hc : c < 3) : bR (hp_sI (hp_sI M 25 (B (7 + c)) v0) 26 (B (7 + c)) v1) B (va_up (va_up g (18 + c) v0) (24 + c) v1) := by
  have h12 := ok.2
  obtain ⟨b0, u0, u1, u2, s1, m1, s2, m2, s3, u4, u5, u6, s4, s5, s6, m4, m5, m6, y0, y1, y2, y3, y4, y5, y6, qc, tc, zc, tp, zp, i3_, i4_, i5_, i6_, i7_, i8_, i9_, f20, f21, f22, f23, f24, f25, f26, f27, e60, e61, e62, e63, e64, e65, e66, l3_, l4_, lx, ly, lz⟩ := bR_f hR ok
  refine bR_car hR h12 hc (fun u a h => ?_) rfl rfl ⟨rfl, rfl, rfl, rfl, rfl⟩ (fun k a1 a2 a3 a4 a5 a6 => by rw [up_n _ _ (by omega), up_n _ _ (by omega)]) ?_
  · rcases h with h | h | h
    · rw [hp_I_sIu _ _ _ _ (by omega), hp_I_sIu _ _ _ _ (by omega)]
    · rw [hp_I_sIu _ _ _ _ (by omega), hp_I_sIu _ _ _ _ (by omega)]
    · rw [hp_I_sIa _ _ _ _ h, hp_I_sIa _ _ _ _ h]
  · unfold cR
    rw [md_ld_cg (g := g) h12 (fun k hk => by rw [up_n _ _ (by omega), up_n _ _ (by omega)]), md_is_cg (g := g) h12 (fun k hk => by rw [up_n _ _ (by omega), up_n _ _ (by omega)])]
    simp (disch := omega) only [hp_T_sI, hp_N_sI, hp_R_sI, hp_E_sI, hp_Q_sI, hp_I_sI, hp_I_sIu, hp_T_sQ, hp_N_sQ, hp_R_sQ, hp_E_sQ, hp_I_sQ, hp_T_sA, hp_N_sA, hp_R_sA, hp_I_sA, hp_Q_sA, hp_E_sA, hp_sE_sA, f20, f21, f22, f23, f24, f25, f26, f27, hc, up_n', up_e, true_and, and_true, eq_self]
theorem bR_time {M : am_Hp} {B : Nat → Nat} {g : md_R} {v0 : Int32} (hR : bR M B g) (ok : md_ok g) : bR (hp_sI M 5 (B 0) v0) B (va_up g 0 v0) := by
  have h12 := ok.2
  have hI := hR.2.2.1
  obtain ⟨a1, a2, a3, a4, a5, a6, a7⟩ := hI
  refine bR_int hR h12 (fun u a h => by rw [hp_I_sIu _ _ _ _ (by omega)]) rfl rfl ⟨rfl, rfl, rfl, rfl, rfl⟩ (fun k hk => by rw [up_n _ _ (by omega)]) ?_
  unfold iR
  simp (disch := omega) only [hp_T_sI, hp_N_sI, hp_R_sI, hp_E_sI, hp_Q_sI, hp_I_sI, hp_I_sIu, hp_T_sQ, hp_N_sQ, hp_R_sQ, hp_E_sQ, hp_I_sQ, hp_T_sA, hp_N_sA, hp_R_sA, hp_I_sA, hp_Q_sA, hp_E_sA, hp_sE_sA, a1, a2, a3, a4, a5, a6, a7, up_n', up_e, true_and, and_true, eq_self]
theorem bR_opn {M : am_Hp} {B : Nat → Nat} {g : md_R} {v0 : Int32} (hR : bR M B g) (ok : md_ok g) : bR (hp_sI M 9 (B 0) v0) B (va_up g 7 v0) := by
  have h12 := ok.2
  have hI := hR.2.2.1
  obtain ⟨a1, a2, a3, a4, a5, a6, a7⟩ := hI
  refine bR_int hR h12 (fun u a h => by rw [hp_I_sIu _ _ _ _ (by omega)]) rfl rfl ⟨rfl, rfl, rfl, rfl, rfl⟩ (fun k hk => by rw [up_n _ _ (by omega)]) ?_
  unfold iR
  simp (disch := omega) only [hp_T_sI, hp_N_sI, hp_R_sI, hp_E_sI, hp_Q_sI, hp_I_sI, hp_I_sIu, hp_T_sQ, hp_N_sQ, hp_R_sQ, hp_E_sQ, hp_I_sQ, hp_T_sA, hp_N_sA, hp_R_sA, hp_I_sA, hp_Q_sA, hp_E_sA, hp_sE_sA, a1, a2, a3, a4, a5, a6, a7, up_n', up_e, true_and, and_true, eq_self]
theorem bR_up {M : am_Hp} {B : Nat → Nat} {g : md_R} {v0 v1 : Int32} (hR : bR M B g) (ok : md_ok g) : bR (hp_sI (hp_sI M 6 (B 0) v0) 8 (B 0) v1) B (va_up (va_up g 8 v1) 5 v0) := by
  have h12 := ok.2
  have hI := hR.2.2.1
  obtain ⟨a1, a2, a3, a4, a5, a6, a7⟩ := hI
  refine bR_int hR h12 (fun u a h => by rw [hp_I_sIu _ _ _ _ (by omega), hp_I_sIu _ _ _ _ (by omega)]) rfl rfl ⟨rfl, rfl, rfl, rfl, rfl⟩ (fun k hk => by rw [up_n _ _ (by omega), up_n _ _ (by omega)]) ?_
  unfold iR
  simp (disch := omega) only [hp_T_sI, hp_N_sI, hp_R_sI, hp_E_sI, hp_Q_sI, hp_I_sI, hp_I_sIu, hp_T_sQ, hp_N_sQ, hp_R_sQ, hp_E_sQ, hp_I_sQ, hp_T_sA, hp_N_sA, hp_R_sA, hp_I_sA, hp_Q_sA, hp_E_sA, hp_sE_sA, a1, a2, a3, a4, a5, a6, a7, up_n', up_e, true_and, and_true, eq_self]
theorem bR_dn {M : am_Hp} {B : Nat → Nat} {g : md_R} {v0 : Int32} (hR : bR M B g) (ok : md_ok g) : bR (hp_sI M 7 (B 0) v0) B (va_up g 6 v0) := by
  have h12 := ok.2
  have hI := hR.2.2.1
  obtain ⟨a1, a2, a3, a4, a5, a6, a7⟩ := hI
  refine bR_int hR h12 (fun u a h => by rw [hp_I_sIu _ _ _ _ (by omega)]) rfl rfl ⟨rfl, rfl, rfl, rfl, rfl⟩ (fun k hk => by rw [up_n _ _ (by omega)]) ?_
  unfold iR
  simp (disch := omega) only [hp_T_sI, hp_N_sI, hp_R_sI, hp_E_sI, hp_Q_sI, hp_I_sI, hp_I_sIu, hp_T_sQ, hp_N_sQ, hp_R_sQ, hp_E_sQ, hp_I_sQ, hp_T_sA, hp_N_sA, hp_R_sA, hp_I_sA, hp_Q_sA, hp_E_sA, hp_sE_sA, a1, a2, a3, a4, a5, a6, a7, up_n', up_e, true_and, and_true, eq_self]
theorem md_bd_no {c : Nat} {x : md_R} {k : Nat} (h : ¬ (md_aw x k c = true ∧ x (39 + k) = x (9 + c))) : md_bd c x k = x := by
  unfold md_bd
  rw [if_neg]
  rw [Bool.and_eq_true, beq_iff_eq]
  exact h
theorem md_bd_in {c : Nat} {x : md_R} {k : Nat} (h : md_aw x k c = true ∧ x (39 + k) = x (9 + c)) (h2 : md_ld x c + x (63 + k) ≤ x (15 + c)) : md_bd c x k = va_up (va_up x (99 + k) 1) (87 + k) (i3 (c + 1)) := by
  unfold md_bd
  rw [if_pos (by rw [Bool.and_eq_true, beq_iff_eq]; exact h), if_pos h2, i3_one]
theorem md_bd_out {c : Nat} {x : md_R} {k : Nat} (h : md_aw x k c = true ∧ x (39 + k) = x (9 + c)) (h2 : ¬ md_ld x c + x (63 + k) ≤ x (15 + c)) : md_bd c x k = va_up x (87 + k) 0 := by
  unfold md_bd
  rw [if_pos (by rw [Bool.and_eq_true, beq_iff_eq]; exact h), if_neg h2]
  have := (md_aw_iff.mp h.1).1
  rw [show va_up x (99 + k) 0 = x by rw [show (0 : Int32) = i3 0 from rfl, ← this]; exact up_id x _]
theorem k_letIn {G : am_Gx} {d T : Nat} {M : am_Hp} {B : Nat → Nat} {g : md_R} {c : Nat} (hR : bR M B g) (hw : md_wf T g) (hc : c < 3) : am_CT G (d + 1) rX0_letIn [.ref (B 0), .int (i3 c)] M 0 0 (qw B M (md_bo g c)) := by
  have h12 := (md_wf_ok hw).2
  refine am_intro mkX0_letIn rfl (Nat.le_of_ble_eq_true rfl) rfl (fun X hX hM => ?_)
  have L : ∀ k j Mx, j + k = md_n g → bR Mx B (md_fo (md_bd c) g j) → bF B M Mx → am_J X 9 [(0, .ref (B 0)), (1, .int (i3 c)), (2, .ref (B (7 + c))), (3, .int (i3 j))] [] Mx 0 0 := by
    intro k
    induction k with
    | zero =>
      intro j Mx hj hR hF
      obtain ⟨w1, w2⟩ := md_wf_bo hw hc j (by omega)
      have ok := md_wf_ok w1
      have en := md_n_eq (w2 1 (by omega))
      have hR0 := hR
      obtain ⟨b0, u0, u1, u2, s1, m1, s2, m2, s3, u4, u5, u6, s4, s5, s6, m4, m5, m6, y0, y1, y2, y3, y4, y5, y6, qc, tc, zc, tp, zp, i3_, i4_, i5_, i6_, i7_, i8_, i9_, f20, f21, f22, f23, f24, f25, f26, f27, e60, e61, e62, e63, e64, e65, e66, l3_, l4_, lx, ly, lz⟩ := bR_f hR ok
      rw [en] at i3_
      refine vX0_letIn_9 hX hM (fun x0 x1 x2 x3 M => am_J X 9 [(0, .ref x0), (1, .int x1), (2, .ref x2), (3, .int x3)] [] M 0 0) (fun _ _ _ _ _ h => h) ⟨b0, fun _ => ⟨rfl, ?_, hF⟩, fun z => absurd (show hp_I Mx 3 (B 0) ≤ i3 j by rw [i3_]; exact (i3_le (by omega) (by omega)).mpr (by omega)) z⟩
      rw [show j = md_n g by omega] at hR0
      exact hR0
    | succ k ih =>
      intro j Mx hj hR hF
      obtain ⟨w1, w2⟩ := md_wf_bo hw hc j (by omega)
      have ok := md_wf_ok w1
      have en := md_n_eq (w2 1 (by omega))
      have I := fun Mx => ih (j + 1) Mx (by omega)
      rw [md_fo_s] at I
      obtain ⟨x, hx⟩ : ∃ x, x = md_fo (md_bd c) g j := ⟨_, rfl⟩
      rw [← hx] at I hR w1 w2 ok en
      have hj12 : j < md_n x := by omega
      have hR0 := hR
      obtain ⟨b0, u0, u1, u2, s1, m1, s2, m2, s3, u4, u5, u6, s4, s5, s6, m4, m5, m6, y0, y1, y2, y3, y4, y5, y6, qc, tc, zc, tp, zp, i3_, i4_, i5_, i6_, i7_, i8_, i9_, f20, f21, f22, f23, f24, f25, f26, f27, e60, e61, e62, e63, e64, e65, e66, l3_, l4_, lx, ly, lz⟩ := bR_f hR ok
      rw [en] at i3_
      have q66 := e66 j hj12
      have q65 := e65 j hj12
      have q61 := e61 j hj12
      have q63 := e63 j hj12
      have qt := tp j (by omega)
      have qz := zp j (by omega)
      refine vX0_letIn_9 hX hM (fun x0 x1 x2 x3 M => am_J X 9 [(0, .ref x0), (1, .int x1), (2, .ref x2), (3, .int x3)] [] M 0 0) (fun _ _ _ _ _ h => h) ?_
      simp (disch := omega) only [b0, u1, s2, m2, y2, i3_, qt, qz, q66, q65, q61, q63, tc, hc, f20, f22, f23, f24, forall_eq, Nat.reduceAdd, Nat.reduceMul, Nat.reduceEqDiff, Nat.reduceLeDiff, Nat.reduceSub, ne_eq, not_false_eq_true, not_true_eq_false, false_implies, true_implies, implies_true, true_and, and_true, eq_self, li0, li1, li2, li3, li4, li5, li6, li7, li8, li9, li10, li11, li12, li15, li18, li21, li22, li23, li24, li27, li30, li32, li39, li50, li51, li59, li60, li63, li75, li87, li90, li99, li100, li111, li121, li126, li131, li141, li150, li400, li900, li987, li1128, li240, i3_add, i3_toNat, vpt, bI_0, bI_1, bI_bo, Bool.not_eq_false, Bool.true_eq_false, Bool.false_eq_true, Bool.not_eq_true, i3_le', i3_lt', i3_eq', hp_T_sI, hp_N_sI, hp_R_sI, hp_E_sI, hp_Q_sI, hp_I_sI, hp_I_sIu, hp_T_sQ, hp_N_sQ, hp_R_sQ, hp_E_sQ, hp_I_sQ, hp_T_sA, hp_N_sA, hp_R_sA, hp_I_sA, hp_Q_sA, hp_E_sA, hp_sE_sA, sb1]
      refine ⟨fun z => absurd z (by omega), fun _ => ⟨fun a1 => ⟨fun a2 => ⟨fun a3 => ⟨fun a4 => ?_, fun a4 => ⟨Or.inr rfl, ?_⟩⟩, fun a3 => ?_⟩, fun a2 => ?_⟩, fun a1 => ?_⟩⟩
      · rw [md_bd_out ⟨md_aw_iff.mpr ⟨a1, a2⟩, a3⟩ (Int32.not_le.mpr a4)] at I
        exact I _ (bR_send (v := -1) (w := 0) hR0 ok hj12 a1 (by decide)) (hF.trans (bF_P hR0 (by omega)))
      · rw [md_bd_in ⟨md_aw_iff.mpr ⟨a1, a2⟩, a3⟩ (Int32.not_lt.mp a4)] at I
        refine I _ (bR_ride hR0 ok hj12 hc a1 a2) (hF.trans ((bF_P hR0 (by omega)).trans ((bF_sI (i := 7 + c) (by omega) rfl).trans (bF_sI (i := 7 + c) (by omega) rfl))))
      · rw [md_bd_no (fun z => a3 z.2)] at I
        exact I _ hR0 hF
      · rw [md_bd_no (fun z => a2 (md_aw_iff.mp z.1).2)] at I
        exact I _ hR0 hF
      · rw [md_bd_no (fun z => a1 (md_aw_iff.mp z.1).1)] at I
        exact I _ hR0 hF
  have I := L (md_n g) 0 M (by omega) hR (bF.rf B M)
  have ok := md_wf_ok hw
  obtain ⟨b0, u0, u1, u2, s1, m1, s2, m2, s3, u4, u5, u6, s4, s5, s6, m4, m5, m6, y0, y1, y2, y3, y4, y5, y6, qc, tc, zc, tp, zp, i3_, i4_, i5_, i6_, i7_, i8_, i9_, f20, f21, f22, f23, f24, f25, f26, f27, e60, e61, e62, e63, e64, e65, e66, l3_, l4_, lx, ly, lz⟩ := bR_f hR ok
  refine vX0_letIn_0 hX hM (fun x0 x1 x2 x3 M => am_J X 9 [(0, .ref x0), (1, .int x1), (2, .ref x2), (3, .int x3)] [] M 0 0) (fun _ _ _ _ _ h => h) ?_
  simp (disch := omega) only [b0, u0, u1, u2, s1, m1, s2, m2, s3, u4, u5, u6, s4, s5, s6, m4, m5, m6, y0, y1, y2, y3, y4, y5, y6, qc, tc, zc, tp, zp, forall_eq, ne_eq, not_false_eq_true, true_and, i3_toNat, vpt, hp_T_sI, hp_N_sI, hp_R_sI, hp_E_sI, hp_Q_sI, hp_I_sI, hp_I_sIu, hp_T_sQ, hp_N_sQ, hp_R_sQ, hp_E_sQ, hp_I_sQ, hp_T_sA, hp_N_sA, hp_R_sA, hp_I_sA, hp_Q_sA, hp_E_sA, hp_sE_sA, i3_add]
  exact I
/-- moving, once the direction is set -/
def md_m2 (x : md_R) (c : Nat) : md_R := if x (12 + c) = i3 1 then va_up (va_up (va_up (va_up x (9 + c) (x (9 + c) + i3 1)) (24 + c) (x (24 + c) + (i3 2 + md_ld x c / i3 100))) 8 (x 8 + md_ld x c / i3 100)) 5 (x 5 + i3 1) else if x (12 + c) = -i3 1 then va_up (va_up (va_up x (9 + c) (x (9 + c) + -i3 1)) (24 + c) (x (24 + c) + i3 1)) 6 (x 6 + i3 1) else va_up x (9 + c) (x (9 + c) + x (12 + c))
theorem md_mv_m2 {g : md_R} {c : Nat} (h12 : md_n g ≤ 12) (hc : c < 3) : md_mv g c = md_m2 (va_up g (12 + c) (md_ch g c)) c := by
  have hl : md_ld (va_up g (12 + c) (md_ch g c)) c = md_ld g c := md_ld_cg h12 (fun k hk => up_n _ _ (by omega))
  unfold md_m2
  rw [up_e, hl]
  by_cases h1 : md_ch g c = i3 1
  · rw [if_pos h1, md_mv_u h1, h1]
    simp (disch := omega) only [up_n']
  · rw [if_neg h1]
    by_cases h2 : md_ch g c = -i3 1
    · rw [if_pos h2, md_mv_d h2, h2]
      simp (disch := omega) only [up_n']
    · rw [if_neg h2, md_mv_0 h1 h2]
      simp (disch := omega) only [up_n']
theorem k_move {G : am_Gx} {d : Nat} {M : am_Hp} {B : Nat → Nat} {g : md_R} {c : Nat} (hR : bR M B g) (ok : md_ok g) (hc : c < 3) : am_CT G (d + 1) rX0_move [.ref (B 0), .ref (B (7 + c))] M 0 0 (qw B M (md_m2 g c)) := by
  have h12 := ok.2
  have hR0 := hR
  obtain ⟨b0, u0, u1, u2, s1, m1, s2, m2, s3, u4, u5, u6, s4, s5, s6, m4, m5, m6, y0, y1, y2, y3, y4, y5, y6, qc, tc, zc, tp, zp, i3_, i4_, i5_, i6_, i7_, i8_, i9_, f20, f21, f22, f23, f24, f25, f26, f27, e60, e61, e62, e63, e64, e65, e66, l3_, l4_, lx, ly, lz⟩ := bR_f hR ok
  have fc : ∀ {N : am_Hp} {u : Nat} {v : Int32}, bF B N (hp_sI N u (B (7 + c)) v) := bF_sI (i := 7 + c) (by omega) rfl
  have fb : ∀ {N : am_Hp} {u : Nat} {v : Int32}, bF B N (hp_sI N u (B 0) v) := bF_sI (i := 0) (by omega) rfl
  refine am_intro mkX0_move rfl (Nat.le_of_ble_eq_true rfl) rfl (fun X hX hM => ?_)
  refine vX0_move_0 hX hM ?_
  simp (disch := omega) only [b0, tc, hc, f20, f21, f23, f26, i6_, i7_, i8_, forall_eq, ne_eq, not_false_eq_true, true_and, li0, li1, li2, li3, li4, li5, li6, li7, li8, li9, li10, li11, li12, li15, li18, li21, li22, li23, li24, li27, li30, li32, li39, li50, li51, li59, li60, li63, li75, li87, li90, li99, li100, li111, li121, li126, li131, li141, li150, li400, li900, li987, li1128, li240, hp_T_sI, hp_N_sI, hp_R_sI, hp_E_sI, hp_Q_sI, hp_I_sI, hp_I_sIu, hp_T_sQ, hp_N_sQ, hp_R_sQ, hp_E_sQ, hp_I_sQ, hp_T_sA, hp_N_sA, hp_R_sA, hp_I_sA, hp_Q_sA, hp_E_sA, hp_sE_sA]
  unfold md_m2
  refine ⟨fun a1 => ?_, fun a1 => ⟨fun a2 => ?_, fun a2 => ?_⟩⟩
  · rw [if_pos a1, a1]
    refine ⟨rfl, ?_, fc.trans (fc.trans (fb.trans fb))⟩
    have h1 := bR_flen (v0 := g (9 + c) + i3 1) (v1 := g (24 + c) + (i3 2 + md_ld g c / i3 100)) hR0 ok hc
    exact bR_up (v0 := g 5 + i3 1) (v1 := g 8 + md_ld g c / i3 100) h1 (md_ok_up (by omega) (md_ok_up (by omega) ok))
  · rw [if_neg a1, if_pos a2, a2]
    refine ⟨rfl, ?_, fc.trans (fc.trans fb)⟩
    have h1 := bR_flen (v0 := g (9 + c) + -i3 1) (v1 := g (24 + c) + i3 1) hR0 ok hc
    exact bR_dn (v0 := g 6 + i3 1) h1 (md_ok_up (by omega) (md_ok_up (by omega) ok))
  · rw [if_neg a1, if_neg a2]
    exact ⟨rfl, bR_flo hR0 ok hc, fc⟩
/-- waiting and assigning, at one go -/
theorem up_cm {α : Type} (f : Nat → α) {j k : Nat} (v w : α) (h : j ≠ k) : va_up (va_up f j v) k w = va_up (va_up f k w) j v := by
  funext i
  unfold va_up
  by_cases h1 : i = k
  · subst h1
    rw [if_pos rfl, if_neg (Ne.symm h), if_pos rfl]
  · rw [if_neg h1]
    by_cases h2 : i = j
    · rw [if_pos h2, if_pos h2]
    · rw [if_neg h2, if_neg h2, if_neg h1]
theorem md_a1_w1 {h : md_R} {q k : Nat} (h12 : md_n h ≤ 12) (hq : q < 12) (hk : k < 12) : md_a1 (md_w1 h q) k = md_w1 (md_a1 h k) q := by
  by_cases e : h (87 + k) = i3 0
  · rw [md_a1_p (show md_w1 h q (87 + k) = i3 0 by rw [md_w1_far (by omega)]; exact e), md_a1_p e]
    unfold md_as
    rw [md_w1_far (by omega), md_w1_far (by omega)]
    have hb : md_be (va_up (md_w1 h q) (87 + k) 0) (h (39 + k)) (h (63 + k)) 3 = md_be (va_up h (87 + k) 0) (h (39 + k)) (h (63 + k)) 3 := by
      refine md_be_cg (g := va_up h (87 + k) 0) (by rw [md_n_up (by omega)]; exact h12) (fun j hj => ?_) 3 (by omega)
      by_cases ej : j = 87 + k
      · rw [ej, up_e, up_e]
      · rw [up_n _ _ ej, up_n _ _ ej, md_w1_far (by omega)]
    rw [hb]
    unfold md_w1
    rw [up_n _ _ (by omega), up_n _ _ (by omega), up_cm _ _ _ (by omega)]
  · rw [md_a1_n (show ¬ md_w1 h q (87 + k) = i3 0 by rw [md_w1_far (by omega)]; exact e), md_a1_n e]
theorem md_a1_fw {h : md_R} {k : Nat} (h12 : md_n h ≤ 12) (hk : k < 12) : ∀ j, j ≤ 12 → md_a1 (md_fo md_w1 h j) k = md_fo md_w1 (md_a1 h k) j
  | 0, _ => rfl
  | j + 1, hj => by
    have en : ∀ i, i ≤ 12 → md_fo md_w1 h i 1 = h 1 := by
      intro i
      induction i with
      | zero => intro _; rfl
      | succ i ih => intro hi; rw [md_fo_s, md_w1_far (by omega), ih (by omega)]
    rw [md_fo_s, md_fo_s, md_a1_w1 (by rw [md_n_eq (en j (by omega))]; exact h12) (by omega) hk, md_a1_fw h12 hk j (by omega)]
def md_aw1 (g : md_R) (p : Nat) : md_R := md_w1 (md_a1 g p) p
theorem md_aw1_fo {g : md_R} (h12 : md_n g ≤ 12) : ∀ k, k ≤ 12 → md_fo md_aw1 g k = md_fo md_w1 (md_fo md_a1 g k) k
  | 0, _ => rfl
  | k + 1, hk => by
    have en : ∀ i, i ≤ 12 → md_fo md_a1 g i 1 = g 1 := by
      intro i
      induction i with
      | zero => intro _; rfl
      | succ i ih => intro hi; rw [md_fo_s, md_a1_far (by omega), ih (by omega)]
    rw [md_fo_s, md_fo_s, md_fo_s, md_aw1_fo h12 k (by omega), ← md_a1_fw (by rw [md_n_eq (en k (by omega))]; exact h12) (by omega) k (by omega)]
    rfl
theorem md_in_w {g : md_R} {p q c : Nat} {v : Int32} (hp : p < 12) (hq : q < 12) : md_in (va_up g (75 + p) v) q c = md_in g q c := md_in_up (by omega) (by omega)
theorem bR_wait {M : am_Hp} {B : Nat → Nat} {x : md_R} {p : Nat} {w : Int32} (hR : bR M B x) (ok : md_ok x) (hp : p < md_n x) : bR (hp_sI M 64 (hp_Q M (B 2) p) w) B (va_up x (75 + p) w) := by
  have h12 := ok.2
  have hP := hR.2.2.2.2.1 p hp
  refine bR_pas hR h12 hp (fun u a h => ?_) rfl rfl ⟨rfl, rfl, rfl, rfl, rfl⟩ (fun k hk => up_n _ _ (by omega)) ?_ (fun c hc => ⟨md_ld_in (up_n _ _ (by omega)) (fun q hq => ⟨md_in_w (by omega) (by omega), up_n _ _ (by omega)⟩), md_is_in (up_n _ _ (by omega)) (fun q hq => md_in_w (by omega) (by omega))⟩)
  · rcases h with h | h | h
    · exact hp_I_sIu _ _ _ _ (by omega)
    · exact hp_I_sIu _ _ _ _ (by omega)
    · exact hp_I_sIa _ _ _ _ h
  · obtain ⟨a1, a2, a3, a4, a5, a6, a7⟩ := hP
    unfold pR
    simp (disch := omega) only [hp_T_sI, hp_N_sI, hp_R_sI, hp_E_sI, hp_Q_sI, hp_I_sI, hp_I_sIu, hp_T_sQ, hp_N_sQ, hp_R_sQ, hp_E_sQ, hp_I_sQ, hp_T_sA, hp_N_sA, hp_R_sA, hp_I_sA, hp_Q_sA, hp_E_sA, hp_sE_sA, a1, a2, a3, a4, a6, a7, up_n', up_e, true_and, and_true, eq_self]
