/-! .. a step of the class is the reference's */ -/
theorem lR_end {M : am_Hp} {B : Nat → Nat} {x : md_R} {n s : Nat} (h : lR M B x n n s) (hx : md_n x = s) (ok : md_ok x) : bR (hp_sI M 3 (B 0) (i3 s)) B x := by
  obtain ⟨r1, r2, r3, r4, r5, r6, r7, r8⟩ := h
  refine ⟨r1, r2, ?_, fun c hc => cR_cg hc (fun u _ _ => hp_I_sIu _ _ _ _ (by omega)) (fun k _ => rfl) rfl rfl (r5 c hc), fun p hp => pR_cg (fun u _ _ => hp_I_sIu _ _ _ _ (by omega)) (fun r _ => rfl) (r6 p (by omega)), tR_cg rfl rfl (fun _ _ _ => rfl) (fun _ _ => rfl) r8⟩
  obtain ⟨h2, h3, h4, h5, h6, h7⟩ := r4
  have e1 := ok.1
  rw [hx] at e1
  unfold iR
  simp (disch := omega) only [hp_T_sI, hp_N_sI, hp_R_sI, hp_E_sI, hp_Q_sI, hp_I_sI, hp_I_sIu, hp_T_sQ, hp_N_sQ, hp_R_sQ, hp_E_sQ, hp_I_sQ, hp_T_sA, hp_N_sA, hp_R_sA, hp_I_sA, hp_Q_sA, hp_E_sA, hp_sE_sA, e1, h2, h3, h4, h5, h6, h7, true_and, and_true, eq_self]
theorem k_letOut {G : am_Gx} {d T : Nat} {M : am_Hp} {B : Nat → Nat} {g : md_R} {c : Nat} (hR : bR M B g) (hw : md_wf T g) (hc : c < 3) (hT : T < 400000000) (ht : ∃ t, g 3 = i3 t ∧ t + 12 ≤ T) : am_CT G (d + 2) rX0_letOut [.ref (B 0), .int (i3 c)] M 0 0 (qw B M (md_al c (md_n g) 0 g)) := by
  have ok0 := md_wf_ok hw
  have h12 := ok0.2
  obtain ⟨n, hn⟩ : ∃ n, n = md_n g := ⟨_, rfl⟩
  have fc : ∀ {N : am_Hp} {u : Nat} {v : Int32}, bF B N (hp_sI N u (B (7 + c)) v) := bF_sI (i := 7 + c) (by omega) rfl
  have fe : ∀ {N : am_Hp} {i : Nat} {f : md_R}, i < 22 → bF B N (hp_sA N (B i) f) := fun hi => bF_sA hi rfl
  have fq : ∀ {N : am_Hp} {k v : Nat}, bF B N (hp_sQ N (B 2) k v) := bF_sQ (i := 2) (by omega) rfl
  have fi : ∀ {N : am_Hp} {u i : Nat} {v : Int32}, i < 22 → bF B N (hp_sI N u (B i) v) := fun hi => bF_sI hi rfl
  refine am_intro mkX0_letOut rfl (Nat.le_of_ble_eq_true rfl) rfl (fun X hX hM => ?_)
  have L : ∀ k i s Mx x t, i + k = n → s ≤ i → md_wf T x → md_n x = s + k → x 3 = i3 t → t + k ≤ T → lR Mx B x n i s → bF B M Mx → md_al c k s x = md_al c (md_n g) 0 g → am_J X 12 [(0, .ref (B 0)), (1, .int (i3 c)), (2, .ref (B (7 + c))), (3, .int (i3 s)), (4, .int (i3 i))] [] Mx 0 0 := by
    intro k
    induction k with
    | zero =>
      intro i s Mx x t hi hs hx hxn h3 ht hl hF he
      have e : i = n := by omega
      subst e
      have hE := lR_end hl (by omega) (md_wf_ok hx)
      obtain ⟨⟨⟨a0, -⟩, -⟩, -, r3, -⟩ := hl
      refine vX0_letOut_12 hX hM (fun x0 x1 x2 x3 x4 M => am_J X 12 [(0, .ref x0), (1, .int x1), (2, .ref x2), (3, .int x3), (4, .int x4)] [] M 0 0) (fun _ _ _ _ _ _ h => h) ⟨a0, fun _ => ?_, fun z => absurd (show hp_I Mx 3 (B 0) ≤ i3 i by rw [r3]; exact Int32.le_refl _) z⟩
      rintro _ rfl
      refine ⟨rfl, ?_, hF.trans (fi (i := 0) (by omega))⟩
      rw [← he]
      exact hE
    | succ k ih =>
      intro i s Mx x t hi hs hx hxn h3 ht hl hF he
      have okx := md_wf_ok hx
      have hl0 := hl
      have stay : ¬ (md_in x s c && x (51 + s) == x (9 + c)) = true → am_J X 12 [(0, .ref (B 0)), (1, .int (i3 c)), (2, .ref (B (7 + c))), (3, .int (i3 (s + 1))), (4, .int (i3 (i + 1)))] [] (hp_sQ (hp_sQ Mx (B 2) i (hp_Q Mx (B 2) s)) (B 2) s (hp_Q Mx (B 2) i)) 0 0 := fun z => by
        rw [md_al, if_neg z] at he
        exact ih (i + 1) (s + 1) _ x t (by omega) (by omega) hx (by omega) h3 (by omega) (lR_stay hl0 hs (by omega) (by omega)) (hF.trans (fq.trans fq)) he
      obtain ⟨r1, r2, r3, r4, r5, r6, r7, r8⟩ := hl
      have rL := r1
      have qs := bQ_t r1 r2 (show s < 12 by omega)
      have qi := bQ_t r1 r2 (show i < 12 by omega)
      have hp := r7 i (by omega) (by omega)
      rw [show s + (i - i) = s by omega] at hp
      obtain ⟨w1, w2, w3, w4, w5, w6, w7⟩ := hp
      obtain ⟨c1, c2, c3, c4, c5, c6, c7, c8⟩ := r5 c hc
      obtain ⟨⟨a0, a1, a2, a3, a4, a5, a6, a7, a8, a9, a10, a11, a12, a13, a14, a15, a16, a17⟩, tc, tk, hz, hJ⟩ := r1
      have z2 := hz 2 (by omega)
      have z3 := hz 3 (by omega)
      have tcc := tc c hc
      obtain ⟨qs1, qs2⟩ := qs
      obtain ⟨qi1, qi2⟩ := qi
      refine vX0_letOut_12 hX hM (fun x0 x1 x2 x3 x4 M => am_J X 12 [(0, .ref x0), (1, .int x1), (2, .ref x2), (3, .int x3), (4, .int x4)] [] M 0 0) (fun _ _ _ _ _ _ h => h) ?_
      simp (disch := omega) only [a0, a2, a3, a6, a7, a8, z2, z3, r3, tcc, qs1, qs2, qi1, qi2, w1, w3, w4, w5, w6, w7, c1, c4, c5, forall_eq, Nat.reduceAdd, Nat.reduceMul, Nat.reduceEqDiff, Nat.reduceLeDiff, Nat.reduceSub, ne_eq, not_false_eq_true, not_true_eq_false, false_implies, true_implies, implies_true, true_and, and_true, eq_self, li0, li1, li2, li3, li4, li5, li6, li7, li8, li9, li10, li11, li12, li15, li18, li21, li22, li23, li24, li27, li30, li32, li39, li50, li51, li59, li60, li63, li75, li87, li90, li99, li100, li111, li121, li126, li131, li141, li150, li400, li900, li987, li1128, li240, i3_add, i3_toNat, vpt, bI_0, bI_1, bI_bo, Bool.not_eq_false, Bool.true_eq_false, Bool.false_eq_true, Bool.not_eq_true, i3_le', i3_lt', i3_eq', hp_T_sI, hp_N_sI, hp_R_sI, hp_E_sI, hp_Q_sI, hp_I_sI, hp_I_sIu, hp_T_sQ, hp_N_sQ, hp_R_sQ, hp_E_sQ, hp_I_sQ, hp_T_sA, hp_N_sA, hp_R_sA, hp_I_sA, hp_Q_sA, hp_E_sA, hp_sE_sA, sb1]
      refine ⟨fun z => absurd z (by omega), fun _ => ⟨fun b1 => stay ?_, fun b1 => ⟨fun b2 => ⟨fun b3 => ?_, fun b3 => stay ?_⟩, fun b2 => stay ?_⟩⟩⟩
      · intro z
        rw [Bool.and_eq_true] at z
        have := (md_in_iff.mp z.1).1
        rw [b1] at this
        exact absurd this (by decide)
      · have b1' : x (99 + s) = i3 1 := by
          rcases (hx.2.2.1 s (by omega)).2.2.2.2.2.1 with z | z
          · exact absurd z b1
          · exact z
        have hin : md_in x s c = true := md_in_iff.mpr ⟨b1', b2⟩
        refine ct_v (k_append (M := hp_sI (hp_sI Mx 23 (B (7 + c)) _) 24 (B (7 + c)) _) rL (r8.1.trans h3) (by omega)) ?_
        have e4 : hp_I (hp_sI (hp_sI Mx 23 (B (7 + c)) (md_ld x c - x (63 + s))) 24 (B (7 + c)) (md_is x c - i3 1)) 104 (B 3) = x 4 := r8.2.1
        rw [e4]
        have w1' := md_wf_lg (p := s) (c := c) hx h3 (by omega)
        have m1 : md_n (md_lg x s c) = s + (k + 1) := by rw [md_n_eq (md_lg_far x s c 1 (by omega)), hxn]
        have w2' := md_wf_dr (p := s) (by omega) w1'
        rw [md_al, if_pos (by rw [hin, b3]; simp)] at he
        refine ih (i + 1) s _ _ (t + 1) (by omega) (by omega) w2' ?_ ?_ (by omega) (lR_leave hl0 hs (by omega) (by omega) (by omega) okx hc h3 (by omega) hin) (hF.trans (fc.trans (fc.trans ((fe (by omega)).trans ((fe (by omega)).trans ((fe (by omega)).trans ((fi (by omega)).trans (fi (by omega)))))))) ) he
        · obtain ⟨⟨m, hm, hm1⟩, -⟩ := w1'
          have := md_n_of hm1 hm
          obtain ⟨m', rfl⟩ : ∃ m', m = m' + 1 := ⟨m - 1, by omega⟩
          rw [md_n_of (md_dr_n hm1) (by omega)]
          omega
        · rw [md_dr_out (by omega) (by omega)]
          unfold md_lg
          rw [up_e, h3, i3_one]
      · intro z
        rw [Bool.and_eq_true, beq_iff_eq] at z
        exact b3 z.2
      · intro z
        rw [Bool.and_eq_true] at z
        exact b2 (md_in_iff.mp z.1).2
  obtain ⟨t, h3, ht⟩ := ht
  have hl : lR M B g n 0 0 := by
    obtain ⟨r1, r2, r3, r4, r5, r6⟩ := hR
    refine ⟨r1, r2, ?_, r3.2, r4, fun p hp => absurd hp (Nat.not_lt_zero p), fun q _ hq => ?_, r6⟩
    · rw [r3.1, ok0.1, hn]
    · rw [Nat.zero_add, Nat.sub_zero]
      exact r5 q (by omega)
  have I := L n 0 0 M g t (by omega) (by omega) hw (by omega) h3 (by omega) hl (bF.rf B M) (by rw [hn])
  have ok := ok0
  obtain ⟨b0, u0, u1, u2, s1, m1, s2, m2, s3, u4, u5, u6, s4, s5, s6, m4, m5, m6, y0, y1, y2, y3, y4, y5, y6, qc, tc, zc, tp, zp, i3_, i4_, i5_, i6_, i7_, i8_, i9_, f20, f21, f22, f23, f24, f25, f26, f27, e60, e61, e62, e63, e64, e65, e66, l3_, l4_, lx, ly, lz⟩ := bR_f hR ok
  refine vX0_letOut_0 hX hM (fun x0 x1 x2 x3 x4 M => am_J X 12 [(0, .ref x0), (1, .int x1), (2, .ref x2), (3, .int x3), (4, .int x4)] [] M 0 0) (fun _ _ _ _ _ _ h => h) ?_
  simp (disch := omega) only [b0, u0, u1, u2, s1, m1, s2, m2, s3, u4, u5, u6, s4, s5, s6, m4, m5, m6, y0, y1, y2, y3, y4, y5, y6, qc, tc, zc, tp, zp, forall_eq, ne_eq, not_false_eq_true, true_and, i3_toNat, vpt, hp_T_sI, hp_N_sI, hp_R_sI, hp_E_sI, hp_Q_sI, hp_I_sI, hp_I_sIu, hp_T_sQ, hp_N_sQ, hp_R_sQ, hp_E_sQ, hp_I_sQ, hp_T_sA, hp_N_sA, hp_R_sA, hp_I_sA, hp_Q_sA, hp_E_sA, hp_sE_sA, i3_add]
  exact I
theorem md_st_test {T : Nat} {g : md_R} {c f : Nat} (hw : md_wf T g) (hf : g (9 + c) = i3 f) (hf9 : f < 10) : (md_fl (i3 f) && (md_mk g c).testBit (i3 f).toNatClampNeg) = md_st g c (g (9 + c)) := by
  rw [hf, i3_toNat (by omega), md_mk_bit hw.2.2.1 hf9, md_fl_iff.mpr ⟨f, hf9, rfl⟩, Bool.true_and]
theorem k_act {G : am_Gx} {d T : Nat} {M : am_Hp} {B : Nat → Nat} {g : md_R} {c : Nat} (hR : bR M B g) (hw : md_wf T g) (hc : c < 3) (hT : T < 300000000) : am_CT G (d + 3) rX0_act [.ref (B 0), .int (i3 c)] M 0 0 (qw B M (md_ac g c)) := by
  have ok := md_wf_ok hw
  have h12 := ok.2
  obtain ⟨f, hf9, hf⟩ := md_wf_fl hw hc
  have hR0 := hR
  have fc : ∀ {N : am_Hp} {u : Nat} {v : Int32}, bF B N (hp_sI N u (B (7 + c)) v) := bF_sI (i := 7 + c) (by omega) rfl
  have fb : ∀ {N : am_Hp} {u : Nat} {v : Int32}, bF B N (hp_sI N u (B 0) v) := bF_sI (i := 0) (by omega) rfl
  obtain ⟨b0, u0, u1, u2, s1, m1, s2, m2, s3, u4, u5, u6, s4, s5, s6, m4, m5, m6, y0, y1, y2, y3, y4, y5, y6, qc, tc, zc, tp, zp, i3_, i4_, i5_, i6_, i7_, i8_, i9_, f20, f21, f22, f23, f24, f25, f26, f27, e60, e61, e62, e63, e64, e65, e66, l3_, l4_, lx, ly, lz⟩ := bR_f hR ok
  refine am_intro mkX0_act rfl (Nat.le_of_ble_eq_true rfl) rfl (fun X hX hM => ?_)
  refine vX0_act_0 hX hM ?_
  simp (disch := omega) only [b0, u0, u1, u2, s1, m1, s2, m2, s3, u4, u5, u6, s4, s5, s6, m4, m5, m6, y0, y1, y2, y3, y4, y5, y6, qc, tc, zc, tp, zp, forall_eq, ne_eq, not_false_eq_true, true_and, i3_toNat, vpt, hp_T_sI, hp_N_sI, hp_R_sI, hp_E_sI, hp_Q_sI, hp_I_sI, hp_I_sIu, hp_T_sQ, hp_N_sQ, hp_R_sQ, hp_E_sQ, hp_I_sQ, hp_T_sA, hp_N_sA, hp_R_sA, hp_I_sA, hp_Q_sA, hp_E_sA, hp_sE_sA, i3_add, hc, f25]
  refine ⟨fun a1 => ct_i (k_stopsOf hR0 hw) ⟨tc c hc, ?_⟩, fun a1 => ?_⟩
  · rw [f20 c hc, hf]
    refine ct_i (k_holds (md_mk_lt hw.2.2.1)) ?_
    rw [md_st_test hw hf hf9]
    refine ⟨fun a2 => ?_, fun a2 => ⟨tc c hc, ?_⟩⟩
    · have a2' : md_st g c (g (9 + c)) = false := by
        rw [show (0 : Int32) = i3 0 from rfl, bI_0] at a2
        exact a2
      refine ct_i (k_direction hR0 hw hc a2') ⟨tc c hc, ?_⟩
      refine ⟨b0, ct_w (k_move (bR_dir (v0 := md_ch g c) hR0 ok hc) (md_ok_up (by omega) ok) hc) (fun M' q1 q2 => ⟨rfl, ?_, fc.trans q2⟩)⟩
      rw [md_ac_2 a1 a2', md_mv_m2 h12 hc]
      exact q1
    · have a2' : md_st g c (g (9 + c)) = true := by
        rw [show (0 : Int32) = i3 0 from rfl, bI_0, Bool.not_eq_false] at a2
        exact a2
      have w1 := md_wf_mono (show T + 1 ≤ T + 20 by omega) (md_wf_op hw hc (by omega))
      have e1 : md_n (md_op g c) = md_n g := by unfold md_op md_n; rw [up_n _ _ (by omega), up_n _ _ (by omega), up_n _ _ (by omega)]
      have e3 : md_op g c 3 = g 3 := by unfold md_op; rw [up_n _ _ (by omega), up_n _ _ (by omega), up_n _ _ (by omega)]
      obtain ⟨t, t1, t2⟩ := hw.2.2.2.2.1
      have w2 := (md_wf_al (c := c) (md_n g) 0 t _ w1 (by omega) (by rw [e3]; exact t2) (by omega)).1
      have ho : bR (hp_sI (hp_sI (hp_sI M 25 (B (7 + c)) 2) 26 (B (7 + c)) (g (24 + c) + 1)) 9 (B 0) (g 7 + 1)) B (md_op g c) := bR_opn (bR_doen hR0 ok hc) (md_ok_up (by omega) (md_ok_up (by omega) ok))
      refine ⟨b0, ?_⟩
      rw [f26 c hc, i9_]
      refine ct_w (k_letOut ho w1 hc (by omega) ⟨t, by rw [e3]; exact t2, by omega⟩) (fun M1 q1 q2 => ⟨?_, ?_⟩)
      · exact (q1.1.1).1
      · rw [e1] at q1
        refine ct_w (k_letIn q1 w2 hc) (fun M2 q3 q4 => ⟨rfl, ?_, fc.trans (fc.trans (fb.trans (q2.trans q4)))⟩)
        rw [md_ac_3 a1 a2']
        exact q3
  · refine ⟨rfl, ?_, fc⟩
    rw [md_ac_1 a1]
    exact bR_door hR0 ok hc
