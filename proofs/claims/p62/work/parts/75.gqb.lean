/-! .. more queries of the class (made by gen/mk/mk75.py) -/
theorem bo_bI (b : Bool) : am_bo (bI b) := by
  cases b
  · exact .inl rfl
  · exact .inr rfl
theorem g_isInService {G : am_Gx} {d a : Nat} {M : am_Hp} {B : Nat → Nat} {g : md_R} {v : Int32} (h : gN M a B g) (ok : md_ok g) : am_CT G (d + 3) rX6_isInService [.ref a, .int v] M 1 6 (xq ["java/lang/IndexOutOfBoundsException"] (sq_serv g v) M) := by
  obtain ⟨ta, ra, hR⟩ := h
  obtain ⟨b0, u0, u1, u2, s1, m1, s2, m2, s3, u4, u5, u6, s4, s5, s6, m4, m5, m6, y0, y1, y2, y3, y4, y5, y6, qc, tc, zc, tp, zp, i3_, i4_, i5_, i6_, i7_, i8_, i9_, f20, f21, f22, f23, f24, f25, f26, f27, e60, e61, e62, e63, e64, e65, e66, l3_, l4_, lx, ly, lz⟩ := bR_f hR ok
  refine am_intro mkX6_isInService rfl (Nat.le_of_ble_eq_true rfl) rfl (fun X hX hM => ?_)
  refine vX6_isInService_0 hX hM ⟨by omega, by omega, ct_k k_ckCar (fun c1 => ?_) (fun c1 => xqk (v := i3 0) (k := 0) (by unfold sq_serv; rw [c1]; rfl) rfl)⟩
  obtain ⟨c, hc, rfl⟩ := md_ic_iff.mp c1
  simp (disch := omega) only [ta, ra, b0, u0, u1, u2, s1, m1, s2, m2, s3, u4, u5, u6, s4, s5, s6, m4, m5, m6, y0, y1, y2, y3, y4, y5, y6, qc, tc, zc, tp, zp, i3_, i4_, i5_, i6_, i7_, i8_, i9_, f20, f21, f22, f23, f24, f25, f26, f27, e60, e61, e62, e63, e64, e65, e66, l3_, l4_, forall_eq, Nat.reduceAdd, Nat.reduceMul, Nat.reduceEqDiff, Nat.reduceLeDiff, Nat.reduceSub, ne_eq, not_false_eq_true, not_true_eq_false, false_implies, true_implies, implies_true, true_and, and_true, eq_self, li0, li1, li2, li3, li4, li5, li6, li7, li8, li9, li10, li11, li12, li15, li18, li21, li22, li23, li24, li27, li30, li32, li39, li50, li51, li59, li60, li63, li75, li87, li90, li99, li100, li111, li121, li126, li131, li141, li150, li400, li900, li987, li1128, li240, i3_add, i3_toNat, vpt, bI_0, bI_1, bI_bo, Bool.not_eq_false, Bool.true_eq_false, Bool.false_eq_true, Bool.not_eq_true, i3_le', i3_lt', i3_eq']
  exact xq0 (by unfold sq_serv; rw [if_pos c1, i3_toNat (by omega)])
theorem g_isInCar {G : am_Gx} {d a : Nat} {M : am_Hp} {B : Nat → Nat} {g : md_R} {T : Nat} {v : Int32} (h : gN M a B g) (hw : md_wf T g) : am_CT G (d + 3) rX6_isInCar [.ref a, .int v] M 1 6 (xq ["java/lang/IndexOutOfBoundsException"] (sq_inside g v) M) := by
  have ok := md_wf_ok hw
  have h0 := h
  obtain ⟨ta, ra, hR⟩ := h
  have h12 := ok.2
  have ok0 := ok
  obtain ⟨b0, u0, u1, u2, s1, m1, s2, m2, s3, u4, u5, u6, s4, s5, s6, m4, m5, m6, y0, y1, y2, y3, y4, y5, y6, qc, tc, zc, tp, zp, i3_, i4_, i5_, i6_, i7_, i8_, i9_, f20, f21, f22, f23, f24, f25, f26, f27, e60, e61, e62, e63, e64, e65, e66, l3_, l4_, lx, ly, lz⟩ := bR_f hR ok
  refine am_intro mkX6_isInCar rfl (Nat.le_of_ble_eq_true rfl) rfl (fun X hX hM => ?_)
  refine vX6_isInCar_0 hX hM ⟨ta, by omega, by omega, ct_k (k_ckPas h0 ok0) (fun c1 => ?_) (fun c1 => xqk (v := i3 0) (k := 0) (by unfold sq_inside; rw [c1]; rfl) rfl)⟩
  obtain ⟨p, hp, rfl⟩ := (md_ip_iff ok0).mp c1
  have hb := (hw.2.2.1 p hp).2.2.2.2.2.1
  simp (disch := omega) only [ta, ra, b0, u0, u1, u2, s1, m1, s2, m2, s3, u4, u5, u6, s4, s5, s6, m4, m5, m6, y0, y1, y2, y3, y4, y5, y6, qc, tc, zc, tp, zp, i3_, i4_, i5_, i6_, i7_, i8_, i9_, f20, f21, f22, f23, f24, f25, f26, f27, e60, e61, e62, e63, e64, e65, e66, l3_, l4_, forall_eq, Nat.reduceAdd, Nat.reduceMul, Nat.reduceEqDiff, Nat.reduceLeDiff, Nat.reduceSub, ne_eq, not_false_eq_true, not_true_eq_false, false_implies, true_implies, implies_true, true_and, and_true, eq_self, li0, li1, li2, li3, li4, li5, li6, li7, li8, li9, li10, li11, li12, li15, li18, li21, li22, li23, li24, li27, li30, li32, li39, li50, li51, li59, li60, li63, li75, li87, li90, li99, li100, li111, li121, li126, li131, li141, li150, li400, li900, li987, li1128, li240, i3_add, i3_toNat, vpt, bI_0, bI_1, bI_bo, Bool.not_eq_false, Bool.true_eq_false, Bool.false_eq_true, Bool.not_eq_true, i3_le', i3_lt', i3_eq']
  refine ⟨hb, xq0 ?_⟩
  unfold sq_inside
  rw [if_pos c1, i3_toNat (by omega)]
  rcases hb with z | z <;> rw [z] <;> rfl
theorem g_carOf {G : am_Gx} {d a : Nat} {M : am_Hp} {B : Nat → Nat} {g : md_R} {T : Nat} {v : Int32} (h : gN M a B g) (hw : md_wf T g) : am_CT G (d + 3) rX6_carOf [.ref a, .int v] M 2 12 (xq ["java/lang/IndexOutOfBoundsException", "java/util/NoSuchElementException"] (sq_carOf g v) M) := by
  have ok := md_wf_ok hw
  have h0 := h
  obtain ⟨ta, ra, hR⟩ := h
  have h12 := ok.2
  have ok0 := ok
  obtain ⟨b0, u0, u1, u2, s1, m1, s2, m2, s3, u4, u5, u6, s4, s5, s6, m4, m5, m6, y0, y1, y2, y3, y4, y5, y6, qc, tc, zc, tp, zp, i3_, i4_, i5_, i6_, i7_, i8_, i9_, f20, f21, f22, f23, f24, f25, f26, f27, e60, e61, e62, e63, e64, e65, e66, l3_, l4_, lx, ly, lz⟩ := bR_f hR ok
  refine am_intro mkX6_carOf rfl (Nat.le_of_ble_eq_true rfl) rfl (fun X hX hM => ?_)
  refine vX6_carOf_0 hX hM ⟨ta, by omega, by omega, ct_k (k_ckPas h0 ok0) (fun c1 => ?_) (fun c1 => xqk (v := i3 0) (k := 0) (by unfold sq_carOf; rw [c1]; rfl) rfl)⟩
  obtain ⟨p, hp, rfl⟩ := (md_ip_iff ok0).mp c1
  obtain ⟨k, hk, ke⟩ := (hw.2.2.1 p hp).2.2.2.2.1
  have kn : g (87 + p) - i3 1 = -1 ↔ g (87 + p) = i3 0 := by
    have : k = 0 ∨ k = 1 ∨ k = 2 ∨ k = 3 := by omega
    rw [ke]
    rcases this with rfl | rfl | rfl | rfl <;> decide
  simp (disch := omega) only [ta, ra, y0, b0, u1, y2, s2, m2, zp, tp, vpt, i3_toNat, forall_eq, ne_eq, not_false_eq_true, true_and, e65]
  refine ⟨fun a1 => ⟨by omega, by omega, xqk (v := i3 0) (k := 1) (by unfold sq_carOf; rw [if_pos c1, i3_toNat (by omega), if_pos (kn.mp a1)]) rfl⟩, fun a1 => xq0 (by unfold sq_carOf; rw [if_pos c1, i3_toNat (by omega), if_neg (fun z => a1 (kn.mpr z))])⟩
theorem g_estimate {G : am_Gx} {d a : Nat} {M : am_Hp} {B : Nat → Nat} {g : md_R} {T : Nat} {v f : Int32} (h : gN M a B g) (hw : md_wf T g) : am_CT G (d + 3) rX6_estimate [.ref a, .int v, .int f] M 2 12 (xq ["java/lang/IndexOutOfBoundsException", "java/lang/IllegalArgumentException"] (sq_est g v f) M) := by
  have ok := md_wf_ok hw
  obtain ⟨ta, ra, hR⟩ := h
  have hR0 := hR
  obtain ⟨b0, u0, u1, u2, s1, m1, s2, m2, s3, u4, u5, u6, s4, s5, s6, m4, m5, m6, y0, y1, y2, y3, y4, y5, y6, qc, tc, zc, tp, zp, i3_, i4_, i5_, i6_, i7_, i8_, i9_, f20, f21, f22, f23, f24, f25, f26, f27, e60, e61, e62, e63, e64, e65, e66, l3_, l4_, lx, ly, lz⟩ := bR_f hR ok
  refine am_intro mkX6_estimate rfl (Nat.le_of_ble_eq_true rfl) rfl (fun X hX hM => ?_)
  refine vX6_estimate_0 hX hM ⟨by omega, by omega, ct_k k_ckCar (fun c1 => ⟨by omega, by omega, ct_k k_ckFloor (fun c2 => ?_) (fun c2 => xqk (v := i3 0) (k := 1) (by unfold sq_est; rw [if_pos c1, c2]; rfl) rfl)⟩) (fun c1 => xqk (v := i3 0) (k := 0) (by unfold sq_est; rw [c1]; rfl) rfl)⟩
  obtain ⟨c, hc, rfl⟩ := md_ic_iff.mp c1
  obtain ⟨q, hq, rfl⟩ := md_fl_iff.mp c2
  simp only [forall_eq]
  rw [ra]
  exact ⟨ta, y0, b0, ct_i (k_estF hR0 hw hc) (xq0 (by unfold sq_est; rw [if_pos c1, if_pos c2, i3_toNat (by omega)]))⟩
theorem g_estimateByWalk {G : am_Gx} {d a : Nat} {M : am_Hp} {B : Nat → Nat} {g : md_R} {T : Nat} {v f : Int32} (h : gN M a B g) (hw : md_wf T g) : am_CT G (d + 3) rX6_estimateByWalk [.ref a, .int v, .int f] M 2 12 (xq ["java/lang/IndexOutOfBoundsException", "java/lang/IllegalArgumentException"] (sq_est g v f) M) := by
  have ok := md_wf_ok hw
  obtain ⟨ta, ra, hR⟩ := h
  have hR0 := hR
  obtain ⟨b0, u0, u1, u2, s1, m1, s2, m2, s3, u4, u5, u6, s4, s5, s6, m4, m5, m6, y0, y1, y2, y3, y4, y5, y6, qc, tc, zc, tp, zp, i3_, i4_, i5_, i6_, i7_, i8_, i9_, f20, f21, f22, f23, f24, f25, f26, f27, e60, e61, e62, e63, e64, e65, e66, l3_, l4_, lx, ly, lz⟩ := bR_f hR ok
  refine am_intro mkX6_estimateByWalk rfl (Nat.le_of_ble_eq_true rfl) rfl (fun X hX hM => ?_)
  refine vX6_estimateByWalk_0 hX hM ⟨by omega, by omega, ct_k k_ckCar (fun c1 => ⟨by omega, by omega, ct_k k_ckFloor (fun c2 => ?_) (fun c2 => xqk (v := i3 0) (k := 1) (by unfold sq_est; rw [if_pos c1, c2]; rfl) rfl)⟩) (fun c1 => xqk (v := i3 0) (k := 0) (by unfold sq_est; rw [c1]; rfl) rfl)⟩
  obtain ⟨c, hc, rfl⟩ := md_ic_iff.mp c1
  obtain ⟨q, hq, rfl⟩ := md_fl_iff.mp c2
  simp only [forall_eq]
  rw [ra]
  exact ⟨ta, y0, b0, ct_i (k_estM hR0 hw hc hq) (xq0 (by unfold sq_est; rw [if_pos c1, if_pos c2, i3_toNat (by omega)]))⟩
theorem md_sc_mk {T : Nat} {g : md_R} {c : Nat} (hw : md_wf T g) : md_sc g c = md_sum (fun f => bI ((md_mk g c).testBit f)) 10 := by
  unfold md_sc
  exact md_sum_congr 10 (fun f hf => by rw [md_mk_bit hw.2.2.1 hf])
theorem md_sc_0 {m : Nat} (h : m < 1024) : md_sum (fun f => bI (m.testBit f)) 10 = i3 0 ↔ m = 0 := by
  have : ∀ m : Fin 1024, md_sum (fun f => bI (m.1.testBit f)) 10 = i3 0 ↔ m.1 = 0 := by decide +kernel
  exact this ⟨m, h⟩
theorem g_nextStop {G : am_Gx} {d a : Nat} {M : am_Hp} {B : Nat → Nat} {g : md_R} {T : Nat} {v : Int32} (h : gN M a B g) (hw : md_wf T g) : am_CT G (d + 3) rX6_nextStop [.ref a, .int v] M 2 12 (xq ["java/lang/IndexOutOfBoundsException", "java/util/NoSuchElementException"] (sq_next g v) M) := by
  have ok := md_wf_ok hw
  obtain ⟨ta, ra, hR⟩ := h
  have hR0 := hR
  obtain ⟨b0, u0, u1, u2, s1, m1, s2, m2, s3, u4, u5, u6, s4, s5, s6, m4, m5, m6, y0, y1, y2, y3, y4, y5, y6, qc, tc, zc, tp, zp, i3_, i4_, i5_, i6_, i7_, i8_, i9_, f20, f21, f22, f23, f24, f25, f26, f27, e60, e61, e62, e63, e64, e65, e66, l3_, l4_, lx, ly, lz⟩ := bR_f hR ok
  refine am_intro mkX6_nextStop rfl (Nat.le_of_ble_eq_true rfl) rfl (fun X hX hM => ?_)
  refine vX6_nextStop_0 hX hM ⟨by omega, by omega, ct_k k_ckCar (fun c1 => ?_) (fun c1 => xqk (v := i3 0) (k := 0) (by unfold sq_next; rw [c1]; rfl) rfl)⟩
  obtain ⟨c, hc, rfl⟩ := md_ic_iff.mp c1
  obtain ⟨fl, fl1, fl2⟩ := md_wf_fl hw hc
  have hm := md_mk_lt (c := c) hw.2.2.1
  have s0 : (i3 (md_mk g c) = 0) ↔ md_sc g c = i3 0 := by
    rw [md_sc_mk hw, md_sc_0 hm]
    exact i3_eq (b := 0) (by omega) (by omega)
  simp (disch := omega) only [ta, ra, y0, b0, u0, y1, s1, m1, qc, zc, vpt, i3_toNat, forall_eq, ne_eq, not_false_eq_true, true_and]
  refine ct_i (k_stopsOf hR0 hw) ⟨fun a1 => ⟨by omega, by omega, xqk (v := i3 0) (k := 1) (by unfold sq_next; rw [if_pos c1, i3_toNat (by omega), if_pos (s0.mp a1)]) rfl⟩, fun a1 => ⟨tc c hc, ?_⟩⟩
  rw [f20 c hc, fl2]
  have hb : (md_fl (i3 fl) && (md_mk g c).testBit (i3 fl).toNatClampNeg) = md_st g c (g (9 + c)) := by
    rw [i3_toNat (by omega), md_mk_bit hw.2.2.1 fl1, md_fl_iff.mpr ⟨fl, fl1, rfl⟩, Bool.true_and, fl2]
  have e0 : sq_next g (i3 c) = (0, md_nx g c) := by
    unfold sq_next
    rw [if_pos c1, i3_toNat (by omega), if_neg (fun z => a1 (s0.mpr z))]
  refine ct_i (k_holds hm) ⟨fun a2 => ?_, fun a2 => ⟨tc c hc, ?_⟩⟩
  · rw [hb] at a2
    have a3 : md_st g c (g (9 + c)) = false := by
      cases hq : md_st g c (g (9 + c)) with
      | false => rfl
      | true =>
        rw [hq] at a2
        exact absurd a2 (by decide)
    refine ct_i (k_direction hR0 hw hc a3) ⟨tc c hc, ?_⟩
    rw [f20 c hc, fl2]
    refine ct_i (k_first hm) (xq0 ?_)
    rw [e0]
    unfold md_nx md_nr
    rw [a3, if_neg (by decide), md_hc_hit hw.2.2.1 fl2, fl2]
  · rw [hb] at a2
    have a3 : md_st g c (g (9 + c)) = true := by
      cases hq : md_st g c (g (9 + c)) with
      | true => rfl
      | false =>
        rw [hq] at a2
        exact absurd rfl a2
    rw [f20 c hc]
    refine xq0 ?_
    rw [e0]
    unfold md_nx
    rw [if_pos a3]
