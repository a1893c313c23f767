/-! .. services, boarding, moving -/
theorem md_ld_in {g h : md_R} {c : Nat} (e1 : h 1 = g 1) (e : ∀ p, p < md_n g → md_in h p c = md_in g p c ∧ h (63 + p) = g (63 + p)) : md_ld h c = md_ld g c := by
  unfold md_ld
  rw [md_n_eq e1]
  refine md_sum_congr _ (fun i hi => ?_)
  unfold md_ldf
  rw [(e i hi).1, (e i hi).2]
theorem md_is_in {g h : md_R} {c : Nat} (e1 : h 1 = g 1) (e : ∀ p, p < md_n g → md_in h p c = md_in g p c) : md_is h c = md_is g c := by
  unfold md_is
  rw [md_n_eq e1]
  refine md_sum_congr _ (fun i hi => ?_)
  unfold md_isf
  rw [e i hi]
theorem md_ld_car {g : md_R} {p c : Nat} {v : Int32} (hp : p < 12) (hn : md_n g ≤ 12) (h : g (99 + p) = 0) : md_ld (va_up g (87 + p) v) c = md_ld g c :=
  md_ld_in (up_n _ _ (by omega)) (fun q hq => ⟨md_in_car hp (by omega) h, up_n _ _ (by omega)⟩)
theorem md_is_car {g : md_R} {p c : Nat} {v : Int32} (hp : p < 12) (hn : md_n g ≤ 12) (h : g (99 + p) = 0) : md_is (va_up g (87 + p) v) c = md_is g c :=
  md_is_in (up_n _ _ (by omega)) (fun q hq => md_in_car hp (by omega) h)
theorem bP {M : am_Hp} {B : Nat → Nat} {g : md_R} (hR : bR M B g) {p : Nat} (hp : p < 12) : ∃ i, i < 22 ∧ hp_Q M (B 2) p = B i := by
  obtain ⟨k, hk, e⟩ := hR.2.1.2.1 p hp
  exact ⟨10 + k, by omega, e⟩
theorem bF_P {M : am_Hp} {B : Nat → Nat} {g : md_R} (hR : bR M B g) {p u : Nat} {v : Int32} (hp : p < 12) : bF B M (hp_sI M u (hp_Q M (B 2) p) v) := by
  obtain ⟨i, hi, e⟩ := bP hR hp
  exact bF_sI hi e
/-- who waits is sent elsewhere -/
theorem bR_send {M : am_Hp} {B : Nat → Nat} {x : md_R} {p : Nat} {v w : Int32} (hR : bR M B x) (ok : md_ok x) (hp : p < md_n x) (h0 : x (99 + p) = 0) (hv : v = w - i3 1) : bR (hp_sI M 65 (hp_Q M (B 2) p) v) B (va_up x (87 + p) w) := by
  have h12 := ok.2
  have hP := hR.2.2.2.2.1 p hp
  refine bR_pas hR h12 hp (fun u a h => ?_) rfl rfl ⟨rfl, rfl, rfl, rfl, rfl⟩ (fun k hk => up_n _ _ (by omega)) ?_ (fun c hc => ⟨md_ld_car (by omega) h12 h0, md_is_car (by omega) h12 h0⟩)
  · rcases h with h | h | h
    · exact hp_I_sIu _ _ _ _ (by omega)
    · exact hp_I_sIu _ _ _ _ (by omega)
    · exact hp_I_sIa _ _ _ _ h
  · obtain ⟨a1, a2, a3, a4, a5, a6, a7⟩ := hP
    unfold pR
    simp (disch := omega) only [hp_T_sI, hp_N_sI, hp_R_sI, hp_E_sI, hp_Q_sI, hp_I_sI, hp_I_sIu, hp_T_sQ, hp_N_sQ, hp_R_sQ, hp_E_sQ, hp_I_sQ, hp_T_sA, hp_N_sA, hp_R_sA, hp_I_sA, hp_Q_sA, hp_E_sA, hp_sE_sA, a1, a2, a3, a4, a5, a7, up_n', up_e, true_and, and_true, eq_self, hv]
/-- a car's service -/
theorem bR_serve {M : am_Hp} {B : Nat → Nat} {g : md_R} {c : Nat} {v w : Int32} (hR : bR M B g) (ok : md_ok g) (hc : c < 3) (hv : v = bI (decide (w = i3 0))) : bR (hp_sI M 27 (B (7 + c)) v) B (va_up g (21 + c) w) := by
  have h12 := ok.2
  obtain ⟨b0, u0, u1, u2, s1, m1, s2, m2, s3, u4, u5, u6, s4, s5, s6, m4, m5, m6, y0, y1, y2, y3, y4, y5, y6, qc, tc, zc, tp, zp, i3_, i4_, i5_, i6_, i7_, i8_, i9_, f20, f21, f22, f23, f24, f25, f26, f27, e60, e61, e62, e63, e64, e65, e66, l3_, l4_, lx, ly, lz⟩ := bR_f hR ok
  refine bR_car hR h12 hc (fun u a h => ?_) rfl rfl ⟨rfl, rfl, rfl, rfl, rfl⟩ (fun k _ _ _ _ h _ => up_n _ _ h) ?_
  · rcases h with h | h | h
    · exact hp_I_sIu _ _ _ _ (by omega)
    · exact hp_I_sIu _ _ _ _ (by omega)
    · exact hp_I_sIa _ _ _ _ h
  · unfold cR
    rw [md_ld_cg (g := g) h12 (fun k hk => up_n _ _ (by omega)), md_is_cg (g := g) h12 (fun k hk => up_n _ _ (by omega))]
    simp (disch := omega) only [hp_T_sI, hp_N_sI, hp_R_sI, hp_E_sI, hp_Q_sI, hp_I_sI, hp_I_sIu, hp_T_sQ, hp_N_sQ, hp_R_sQ, hp_E_sQ, hp_I_sQ, hp_T_sA, hp_N_sA, hp_R_sA, hp_I_sA, hp_Q_sA, hp_E_sA, hp_sE_sA, f20, f21, f22, f23, f24, f25, f26, hc, up_n', up_e, true_and, and_true, eq_self, hv]
theorem k_putIn {G : am_Gx} {d T : Nat} {M : am_Hp} {B : Nat → Nat} {g : md_R} {c : Nat} (hR : bR M B g) (hw : md_wf T g) (hc : c < 3) : am_CT G (d + 1) rX0_putInService [.ref (B 0), .int (i3 c)] M 0 0 (qb B M (i3 3 - va_up g (21 + c) 0 21 - va_up g (21 + c) 0 22 - va_up g (21 + c) 0 23) (va_up g (21 + c) 0)) := by
  have ok := md_wf_ok hw
  have h12 := ok.2
  have hR1 : bR (hp_sI M 27 (B (7 + c)) (i3 1)) B (va_up g (21 + c) 0) := bR_serve hR ok hc (by simp [bI, i3])
  have hF1 : bF B M (hp_sI M 27 (B (7 + c)) (i3 1)) := bF_sI (i := 7 + c) (by omega) rfl
  have hw1 := md_wf_si hw hc
  obtain ⟨x, hx⟩ : ∃ x, x = va_up g (21 + c) 0 := ⟨_, rfl⟩
  have st : hp_T M (B 0) = 1 ∧ hp_R M 0 (B 0) = B 1 ∧ hp_T M (B 1) = 26 ∧ hp_N M (B 1) = 3 ∧ B 1 ≠ 0 ∧ hp_Q M (B 1) c = B (7 + c) ∧ B (7 + c) ≠ 0 ∧ hp_T M (B (7 + c)) = 2 := by
    obtain ⟨b0, u0, u1, u2, s1, m1, s2, m2, s3, u4, u5, u6, s4, s5, s6, m4, m5, m6, y0, y1, y2, y3, y4, y5, y6, qc, tc, zc, tp, zp, i3_, i4_, i5_, i6_, i7_, i8_, i9_, f20, f21, f22, f23, f24, f25, f26, f27, e60, e61, e62, e63, e64, e65, e66, l3_, l4_, lx, ly, lz⟩ := bR_f hR ok
    exact ⟨b0, u0, s1, m1, y1, qc c hc, zc c hc, tc c hc⟩
  obtain ⟨st1, st2, st3, st4, st5, st6, st7, st8⟩ := st
  rw [← hx] at hR1 hw1 ⊢
  refine am_intro mkX0_putInService rfl (Nat.le_of_ble_eq_true rfl) rfl (fun X hX hM => ?_)
  obtain ⟨N, hN⟩ : ∃ N, N = hp_sI M 27 (B (7 + c)) (i3 1) := ⟨_, rfl⟩
  rw [← hN] at hR1 hF1
  have L : ∀ k j, j + k = 3 → am_J X 14 [(0, .ref (B 0)), (2, .int (md_sum (fun c => bI (decide (x (21 + c) = i3 0))) j)), (3, .int (i3 j))] [] N 0 0 := by
    have ok1 := md_wf_ok hw1
    have hR := hR1
    have ok := ok1
    obtain ⟨b0, u0, u1, u2, s1, m1, s2, m2, s3, u4, u5, u6, s4, s5, s6, m4, m5, m6, y0, y1, y2, y3, y4, y5, y6, qc, tc, zc, tp, zp, i3_, i4_, i5_, i6_, i7_, i8_, i9_, f20, f21, f22, f23, f24, f25, f26, f27, e60, e61, e62, e63, e64, e65, e66, l3_, l4_, lx, ly, lz⟩ := bR_f hR ok
    intro k
    induction k with
    | zero =>
      intro j hj
      have e : j = 3 := by omega
      subst e
      refine vX0_putInService_14 hX hM (fun x0 x2 x3 M => am_J X 14 [(0, .ref x0), (2, .int x2), (3, .int x3)] [] M 0 0) (fun _ _ _ _ h => h) ⟨fun _ => ⟨?_, hR1, hF1⟩, fun z => absurd (Int32.le_refl _) z⟩
      have v := fun c hc => (hw1.2.1 c hc).2.2.2.2.1
      have v0 := v 0 (by omega)
      have v1 := v 1 (by omega)
      have v2 := v 2 (by omega)
      simp only [Nat.add_zero, Nat.reduceAdd] at v0 v1 v2
      have e : ∀ a b c : Int32, (a = 0 ∨ a = 1) → (b = 0 ∨ b = 1) → (c = 0 ∨ c = 1) → 0 + bI (decide (a = i3 0)) + bI (decide (b = i3 0)) + bI (decide (c = i3 0)) = i3 3 - a - b - c := by
        rintro a b c (rfl | rfl) (rfl | rfl) (rfl | rfl) <;> decide
      have := e _ _ _ v0 v1 v2
      rw [← this]
      rfl
    | succ k ih =>
      intro j hj
      have I := ih (j + 1) (by omega)
      rw [md_sum_s] at I
      refine vX0_putInService_14 hX hM (fun x0 x2 x3 M => am_J X 14 [(0, .ref x0), (2, .int x2), (3, .int x3)] [] M 0 0) (fun _ _ _ _ h => h) ?_
      simp (disch := omega) only [b0, u0, u1, u2, s1, m1, s2, m2, s3, u4, u5, u6, s4, s5, s6, m4, m5, m6, y0, y1, y2, y3, y4, y5, y6, qc, tc, zc, tp, zp, i3_, i4_, i5_, i6_, i7_, i8_, i9_, f20, f21, f22, f23, f24, f25, f26, f27, e60, e61, e62, e63, e64, e65, e66, l3_, l4_, forall_eq, Nat.reduceAdd, Nat.reduceMul, Nat.reduceEqDiff, Nat.reduceLeDiff, Nat.reduceSub, ne_eq, not_false_eq_true, not_true_eq_false, false_implies, true_implies, implies_true, true_and, and_true, eq_self, li0, li1, li2, li3, li4, li5, li6, li7, li8, li9, li10, li11, li12, li15, li18, li21, li22, li23, li24, li27, li30, li32, li39, li50, li51, li59, li60, li63, li75, li87, li90, li99, li100, li111, li121, li126, li131, li141, li150, li400, li900, li987, li1128, li240, i3_add, i3_toNat, vpt, bI_0, bI_1, bI_bo, Bool.not_eq_false, Bool.true_eq_false, Bool.false_eq_true, Bool.not_eq_true, i3_le', i3_lt', i3_eq', hp_T_sI, hp_N_sI, hp_R_sI, hp_E_sI, hp_Q_sI, hp_I_sI, hp_I_sIu, hp_T_sQ, hp_N_sQ, hp_R_sQ, hp_E_sQ, hp_I_sQ, hp_T_sA, hp_N_sA, hp_R_sA, hp_I_sA, hp_Q_sA, hp_E_sA, hp_sE_sA]
      refine ⟨fun z => absurd z (by omega), fun _ => ⟨fun a1 => ?_, fun a1 => ?_⟩⟩
      · rw [a1] at I
        rw [show md_sum (fun c => bI (decide (x (21 + c) = i3 0))) j + bI false = md_sum (fun c => bI (decide (x (21 + c) = i3 0))) j from Int32.add_zero _] at I
        exact I
      · rw [a1] at I
        exact I
  refine vX0_putInService_0 hX hM (fun x0 x2 x3 M => am_J X 14 [(0, .ref x0), (2, .int x2), (3, .int x3)] [] M 0 0) (fun _ _ _ _ h => h) ?_
  simp (disch := omega) only [st1, st2, st3, st4, st5, st6, st7, st8, forall_eq, ne_eq, not_false_eq_true, true_and, i3_toNat, vpt]
  refine ⟨Or.inr rfl, ?_⟩
  have I := L 3 0 (by omega)
  rw [hN] at I
  exact I
theorem k_takeOut {G : am_Gx} {d T : Nat} {M : am_Hp} {B : Nat → Nat} {g : md_R} {c : Nat} (hR : bR M B g) (hw : md_wf T g) (hc : c < 3) : am_CT G (d + 1) rX0_takeOutOfService [.ref (B 0), .int (i3 c)] M 0 0 (qb B M (md_ca g c) (md_so g c)) := by
  have h12 := (md_wf_ok hw).2
  refine am_intro mkX0_takeOutOfService rfl (Nat.le_of_ble_eq_true rfl) rfl (fun X hX hM => ?_)
  have L : ∀ k j Mx, j + k = md_n g → bR Mx B (md_fo (md_r1 c) g j) → bF B M Mx → am_J X 4 [(0, .ref (B 0)), (1, .int (i3 c)), (2, .int (md_sum (fun p => if md_aw g p c then (1 : Int32) else 0) j)), (3, .int (i3 j))] [] Mx 0 0 := by
    intro k
    induction k with
    | zero =>
      intro j Mx hj hR hF
      obtain ⟨w1, w2, -⟩ := md_wf_r1 hw hc j (by omega)
      have ok := md_wf_ok w1
      have en := md_n_eq (w2 1 (by omega))
      have hS := bR_serve (v := i3 0) (w := i3 1) hR ok hc (by decide)
      obtain ⟨b0, u0, u1, u2, s1, m1, s2, m2, s3, u4, u5, u6, s4, s5, s6, m4, m5, m6, y0, y1, y2, y3, y4, y5, y6, qc, tc, zc, tp, zp, i3_, i4_, i5_, i6_, i7_, i8_, i9_, f20, f21, f22, f23, f24, f25, f26, f27, e60, e61, e62, e63, e64, e65, e66, l3_, l4_, lx, ly, lz⟩ := bR_f hR ok
      rw [en] at i3_
      refine vX0_takeOutOfService_4 hX hM (fun x0 x1 x2 x3 M => am_J X 4 [(0, .ref x0), (1, .int x1), (2, .int x2), (3, .int x3)] [] M 0 0) (fun _ _ _ _ _ h => h) ?_
      simp (disch := omega) only [b0, u0, u1, u2, s1, m1, s2, m2, s3, u4, u5, u6, s4, s5, s6, m4, m5, m6, y0, y1, y2, y3, y4, y5, y6, qc, tc, zc, tp, zp, forall_eq, ne_eq, not_false_eq_true, true_and, i3_toNat, vpt, hp_T_sI, hp_N_sI, hp_R_sI, hp_E_sI, hp_Q_sI, hp_I_sI, hp_I_sIu, hp_T_sQ, hp_N_sQ, hp_R_sQ, hp_E_sQ, hp_I_sQ, hp_T_sA, hp_N_sA, hp_R_sA, hp_I_sA, hp_Q_sA, hp_E_sA, hp_sE_sA, i3_add, i3_]
      refine ⟨fun _ => ⟨Or.inl rfl, by rw [show j = md_n g by omega]; rfl, ?_, hF.trans (bF_sI (i := 7 + c) (by omega) rfl)⟩, fun z => absurd ((i3_le (by omega) (by omega)).mpr (show md_n g ≤ j by omega)) z⟩
      have e : j = md_n g := by omega
      rw [e] at hS
      exact hS
    | succ k ih =>
      intro j Mx hj hR hF
      obtain ⟨w1, w2, -⟩ := md_wf_r1 hw hc j (by omega)
      have ok := md_wf_ok w1
      have en := md_n_eq (w2 1 (by omega))
      have ea : md_aw (md_fo (md_r1 c) g j) j c = md_aw g j c := by unfold md_aw; rw [md_fr_far _ _ (by omega), md_fr_far _ _ (by omega)]
      have I := fun Mx => ih (j + 1) Mx (by omega)
      rw [md_fo_s, md_r1_eq, ea, md_sum_s] at I
      have hj12 : j < md_n (md_fo (md_r1 c) g j) := by omega
      have hS := fun (h0 : md_fo (md_r1 c) g j (99 + j) = 0) => bR_send (v := -1) (w := 0) hR ok hj12 h0 (by decide)
      have hR0 := hR
      obtain ⟨b0, u0, u1, u2, s1, m1, s2, m2, s3, u4, u5, u6, s4, s5, s6, m4, m5, m6, y0, y1, y2, y3, y4, y5, y6, qc, tc, zc, tp, zp, i3_, i4_, i5_, i6_, i7_, i8_, i9_, f20, f21, f22, f23, f24, f25, f26, f27, e60, e61, e62, e63, e64, e65, e66, l3_, l4_, lx, ly, lz⟩ := bR_f hR ok
      have q66 := e66 j hj12
      have q65 := e65 j hj12
      have qt := tp j (by omega)
      have qz := zp j (by omega)
      rw [md_fr_far _ _ (by omega)] at q66 q65
      rw [md_fr_far _ _ (by omega)] at hS
      rw [en] at i3_
      refine vX0_takeOutOfService_4 hX hM (fun x0 x1 x2 x3 M => am_J X 4 [(0, .ref x0), (1, .int x1), (2, .int x2), (3, .int x3)] [] M 0 0) (fun _ _ _ _ _ h => h) ?_
      simp (disch := omega) only [b0, u1, s2, m2, y2, i3_, qt, qz, q66, q65, forall_eq, Nat.reduceAdd, Nat.reduceMul, Nat.reduceEqDiff, Nat.reduceLeDiff, Nat.reduceSub, ne_eq, not_false_eq_true, not_true_eq_false, false_implies, true_implies, implies_true, true_and, and_true, eq_self, li0, li1, li2, li3, li4, li5, li6, li7, li8, li9, li10, li11, li12, li15, li18, li21, li22, li23, li24, li27, li30, li32, li39, li50, li51, li59, li60, li63, li75, li87, li90, li99, li100, li111, li121, li126, li131, li141, li150, li400, li900, li987, li1128, li240, i3_add, i3_toNat, vpt, bI_0, bI_1, bI_bo, Bool.not_eq_false, Bool.true_eq_false, Bool.false_eq_true, Bool.not_eq_true, i3_le', i3_lt', i3_eq', hp_Q_sI, sb1]
      refine ⟨fun z => absurd z (by omega), fun _ => ⟨fun a1 => ⟨fun a2 => ?_, fun a2 => ?_⟩, fun a1 => ?_⟩⟩
      · have a := md_aw_iff.mpr ⟨a1, a2⟩
        rw [if_pos a, if_pos a] at I
        exact I _ (hS a1) (hF.trans (bF_P hR0 (by omega)))
      · have a : ¬ md_aw g j c = true := fun z => a2 (md_aw_iff.mp z).2
        rw [if_neg a, if_neg a, Int32.add_zero] at I
        exact I _ hR0 hF
      · have a : ¬ md_aw g j c = true := fun z => a1 (md_aw_iff.mp z).1
        rw [if_neg a, if_neg a, Int32.add_zero] at I
        exact I _ hR0 hF
  exact vX0_takeOutOfService_0 hX hM (fun x0 x1 x2 x3 M => am_J X 4 [(0, .ref x0), (1, .int x1), (2, .int x2), (3, .int x3)] [] M 0 0) (fun _ _ _ _ _ h => h) (L (md_n g) 0 M (by omega) hR (bF.rf B M))
/-- who boards -/
theorem md_sum_upd {f f' : Nat → Int32} {p : Nat} (h : ∀ q, q ≠ p → f' q = f q) : ∀ n, p < n → md_sum f' n + f p = md_sum f n + f' p
  | 0, hp => absurd hp (Nat.not_lt_zero _)
  | n + 1, hp => by
    rw [md_sum_s, md_sum_s]
    by_cases e : n = p
    · subst e
      rw [md_sum_congr (f := f') (f' := f) n (fun i hi => h i (by omega)), Int32.add_assoc, Int32.add_comm (f' n), ← Int32.add_assoc]
    · have := md_sum_upd h n (by omega)
      rw [h n e, Int32.add_assoc, Int32.add_comm (f n), ← Int32.add_assoc, this, Int32.add_assoc, Int32.add_comm (f' p), ← Int32.add_assoc]
theorem md_ride_in {x : md_R} {p q c c' : Nat} (hp : p < 12) (hq : q < 12) (hc : c < 3) (hc' : c' < 3) : md_in (va_up (va_up x (99 + p) 1) (87 + p) (i3 (c + 1))) q c' = if q = p then decide (c' = c) else md_in x q c' := by
  by_cases e : q = p
  · subst e
    rw [if_pos rfl]
    unfold md_in
    rw [up_n _ _ (show 99 + q ≠ 87 + q by omega), up_e, up_e, i3_one]
    by_cases hx : c' = c
    · subst hx; simp
    · have : ¬ i3 (c + 1) = i3 (c' + 1) := fun z => hx (by have := (i3_eq (by omega) (by omega)).mp z; omega)
      simp [hx, this]
  · rw [if_neg e, md_in_up (by omega) (by omega), md_in_up (by omega) (by omega)]
theorem md_ld_ride {x : md_R} {p c c' : Nat} (hp : p < md_n x) (h12 : md_n x ≤ 12) (hc : c < 3) (hc' : c' < 3) (h0 : x (99 + p) = 0) : md_ld (va_up (va_up x (99 + p) 1) (87 + p) (i3 (c + 1))) c' = if c' = c then md_ld x c' + x (63 + p) else md_ld x c' := by
  have en : md_n (va_up (va_up x (99 + p) 1) (87 + p) (i3 (c + 1))) = md_n x := by rw [md_n_up (by omega), md_n_up (by omega)]
  unfold md_ld
  rw [en]
  by_cases e : c' = c
  · rw [if_pos e]
    have := md_sum_upd (f := md_ldf x c') (f' := fun q => if q = p then x (63 + p) else md_ldf x c' q) (p := p) (fun q hq => if_neg hq) (md_n x) hp
    rw [show md_ldf x c' p = 0 by unfold md_ldf; rw [md_in_no h0]; rfl, Int32.add_zero, if_pos rfl] at this
    rw [← this]
    refine md_sum_congr _ (fun i hi => ?_)
    unfold md_ldf
    rw [md_ride_in (by omega) (by omega) hc hc', up_n _ _ (by omega), up_n _ _ (by omega)]
    by_cases ei : i = p
    · rw [if_pos ei, if_pos ei, ei]; simp [e]
    · rw [if_neg ei, if_neg ei]
  · rw [if_neg e]
    refine md_sum_congr _ (fun i hi => ?_)
    unfold md_ldf
    rw [md_ride_in (by omega) (by omega) hc hc', up_n _ _ (by omega), up_n _ _ (by omega)]
    by_cases ei : i = p
    · rw [if_pos ei, ei, md_in_no h0]; simp [e]
    · rw [if_neg ei]
theorem md_is_ride {x : md_R} {p c c' : Nat} (hp : p < md_n x) (h12 : md_n x ≤ 12) (hc : c < 3) (hc' : c' < 3) (h0 : x (99 + p) = 0) : md_is (va_up (va_up x (99 + p) 1) (87 + p) (i3 (c + 1))) c' = if c' = c then md_is x c' + 1 else md_is x c' := by
  have en : md_n (va_up (va_up x (99 + p) 1) (87 + p) (i3 (c + 1))) = md_n x := by rw [md_n_up (by omega), md_n_up (by omega)]
  unfold md_is
  rw [en]
  by_cases e : c' = c
  · rw [if_pos e]
    have := md_sum_upd (f := md_isf x c') (f' := fun q => if q = p then 1 else md_isf x c' q) (p := p) (fun q hq => if_neg hq) (md_n x) hp
    rw [show md_isf x c' p = 0 by unfold md_isf; rw [md_in_no h0]; rfl, Int32.add_zero, if_pos rfl] at this
    rw [← this]
    refine md_sum_congr _ (fun i hi => ?_)
    unfold md_isf
    rw [md_ride_in (by omega) (by omega) hc hc']
    by_cases ei : i = p
    · rw [if_pos ei, if_pos ei]; simp [e]
    · rw [if_neg ei, if_neg ei]
  · rw [if_neg e]
    refine md_sum_congr _ (fun i hi => ?_)
    unfold md_isf
    rw [md_ride_in (by omega) (by omega) hc hc']
    by_cases ei : i = p
    · rw [if_pos ei, ei, md_in_no h0]; simp [e]
    · rw [if_neg ei]
theorem bR_ride {M : am_Hp} {B : Nat → Nat} {x : md_R} {p c : Nat} (hR : bR M B x) (ok : md_ok x) (hp : p < md_n x) (hc : c < 3) (h0 : x (99 + p) = 0) (h1 : x (87 + p) = i3 (c + 1)) : bR (hp_sI (hp_sI (hp_sI M 66 (hp_Q M (B 2) p) 1) 23 (B (7 + c)) (md_ld x c + x (63 + p))) 24 (B (7 + c)) (md_is x c + 1)) B (va_up (va_up x (99 + p) 1) (87 + p) (i3 (c + 1))) := by
  have h12 := ok.2
  have en : md_n (va_up (va_up x (99 + p) 1) (87 + p) (i3 (c + 1))) = md_n x := by rw [md_n_up (by omega), md_n_up (by omega)]
  have hJ := hR.1.2.2.2.2
  obtain ⟨b0, u0, u1, u2, s1, m1, s2, m2, s3, u4, u5, u6, s4, s5, s6, m4, m5, m6, y0, y1, y2, y3, y4, y5, y6, qc, tc, zc, tp, zp, i3_, i4_, i5_, i6_, i7_, i8_, i9_, f20, f21, f22, f23, f24, f25, f26, f27, e60, e61, e62, e63, e64, e65, e66, l3_, l4_, lx, ly, lz⟩ := bR_f hR ok
  obtain ⟨r1, r2, r3, r4, r5, r6⟩ := hR
  have eo : ∀ k, k ≠ 99 + p → k ≠ 87 + p → va_up (va_up x (99 + p) 1) (87 + p) (i3 (c + 1)) k = x k := fun k k1 k2 => by rw [up_n _ _ k2, up_n _ _ k1]
  refine ⟨r1, r2, iR_cg (fun u h1 h2 => by rw [hp_I_sIu _ _ _ _ (by omega), hp_I_sIu _ _ _ _ (by omega), hp_I_sIu _ _ _ _ (by omega)]) (fun k hk => eo k (by omega) (by omega)) r3, fun c' hc' => ?_, fun q hq => ?_, tR_cg rfl rfl (fun i _ _ => rfl) (fun k hk => eo k (by omega) (by omega)) r6⟩
  · unfold cR
    rw [md_ld_ride hp h12 hc hc' h0, md_is_ride hp h12 hc hc' h0]
    by_cases e : c' = c
    · subst e
      simp (disch := omega) only [hp_T_sI, hp_N_sI, hp_R_sI, hp_E_sI, hp_Q_sI, hp_I_sI, hp_I_sIu, hp_T_sQ, hp_N_sQ, hp_R_sQ, hp_E_sQ, hp_I_sQ, hp_T_sA, hp_N_sA, hp_R_sA, hp_I_sA, hp_Q_sA, hp_E_sA, hp_sE_sA, f20, f21, f22, f23, f24, f25, f26, f27, hc, up_n', up_e, true_and, and_true, eq_self, if_true]
    · have ne : B (7 + c') ≠ B (7 + c) := fun z => e (by have := hJ _ _ (by omega) (by omega) z; omega)
      simp (disch := omega) only [hp_T_sI, hp_N_sI, hp_R_sI, hp_E_sI, hp_Q_sI, hp_I_sI, hp_I_sIu, hp_T_sQ, hp_N_sQ, hp_R_sQ, hp_E_sQ, hp_I_sQ, hp_T_sA, hp_N_sA, hp_R_sA, hp_I_sA, hp_Q_sA, hp_E_sA, hp_sE_sA, f20, f21, f22, f23, f24, f25, f26, f27, hc', up_n', up_e, true_and, and_true, eq_self, if_neg e, hp_I_sIa _ _ _ _ ne]
  · rw [en] at hq
    by_cases e : q = p
    · subst e
      have w := r5 q hq
      obtain ⟨w1, w2, w3, w4, w5, w6, w7⟩ := w
      show pR _ (hp_Q M (B 2) q) _ q
      unfold pR
      rw [h1] at w6
      simp (disch := omega) only [hp_T_sI, hp_N_sI, hp_R_sI, hp_E_sI, hp_Q_sI, hp_I_sI, hp_I_sIu, hp_T_sQ, hp_N_sQ, hp_R_sQ, hp_E_sQ, hp_I_sQ, hp_T_sA, hp_N_sA, hp_R_sA, hp_I_sA, hp_Q_sA, hp_E_sA, hp_sE_sA, w1, w2, w3, w4, w5, w6, w7, up_n', up_e, true_and, and_true, eq_self]
    · have ne : hp_Q M (B 2) q ≠ hp_Q M (B 2) p := fun z => e (r2.2.2 _ _ (by omega) (by omega) z)
      refine pR_cg (fun u h1 h2 => ?_) (fun r hr => eo _ (by omega) (by omega)) (r5 q hq)
      show hp_I _ u (hp_Q M (B 2) q) = _
      rw [hp_I_sIu _ _ _ _ (by omega), hp_I_sIu _ _ _ _ (by omega), hp_I_sIa _ _ _ _ ne]
      rfl
