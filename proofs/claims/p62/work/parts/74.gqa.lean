/-! .. the class's checks and its plain queries (made by gen/mk/mk74.py) -/
def gN (M : am_Hp) (a : Nat) (B : Nat → Nat) (g : md_R) : Prop := hp_T M a = 7 ∧ hp_R M 120 a = B 0 ∧ bR M B g
abbrev xq (ns : List String) (s : md_Sq) (M : am_Hp) : am_Q := fun o M' => o = (if s.1 = 0 then .inl (some (.int s.2)) else .inr (ns.getD (s.1 - 1) "")) ∧ M' = M
theorem xq0 {ns : List String} {s : md_Sq} {M : am_Hp} {v : Int32} (h : s = (0, v)) : xq ns s M (.inl (some (.int v))) M := by
  rw [h]
  exact ⟨rfl, rfl⟩
theorem xqk {ns : List String} {s : md_Sq} {M : am_Hp} {k : Nat} {v : Int32} {N : String} (h : s = (k + 1, v)) (e : ns.getD k "" = N) : xq ns s M (.inr N) M := by
  rw [h]
  exact ⟨by rw [if_neg (Nat.succ_ne_zero k), Nat.add_sub_cancel, e], rfl⟩
abbrev qk (b : Bool) (N : String) (M : am_Hp) : am_Q := fun o M' => o = (if b = true then .inl none else .inr N) ∧ M' = M
theorem qk0 {b : Bool} {N : String} {M : am_Hp} (h : b = true) : qk b N M (.inl none) M := ⟨by rw [if_pos h], rfl⟩
theorem qk1 {b : Bool} {N : String} {M : am_Hp} (h : b = false) : qk b N M (.inr N) M := ⟨by rw [h]; rfl, rfl⟩
theorem ct_k {G : am_Gx} {d : Nat} {r : am_Rec} {as : List Value} {M : am_Hp} {mc ms : Nat} {b : Bool} {N : String} {P R : am_Hp → Prop} (h : am_CT G d r as M mc ms (qk b N M)) (k1 : b = true → P M) (k2 : b = false → R M) : am_CT G d r as M mc ms (fun o M1 => (o = .inl none ∧ P M1) ∨ (o = .inr N ∧ R M1)) := by
  refine am_CT.mono (fun o M' h => ?_) h
  obtain ⟨e1, rfl⟩ := h
  cases hb : b with
  | true =>
    rw [hb, if_pos rfl] at e1
    exact .inl ⟨e1, k1 hb⟩
  | false =>
    rw [hb, if_neg (by decide)] at e1
    exact .inr ⟨e1, k2 hb⟩
theorem k_ckCar {G : am_Gx} {d : Nat} {M : am_Hp} {v : Int32} : am_CT G (d + 2) rX6_checkCar [.int v] M 1 6 (qk (md_ic v) "java/lang/IndexOutOfBoundsException" M) := by
  refine am_intro mkX6_checkCar rfl (Nat.le_of_ble_eq_true rfl) rfl (fun X hX hM => ?_)
  refine vX6_checkCar_0 hX hM (ct_i k_isCar ?_)
  simp (disch := omega) only [forall_eq, Nat.reduceAdd, Nat.reduceMul, Nat.reduceEqDiff, Nat.reduceLeDiff, Nat.reduceSub, ne_eq, not_false_eq_true, not_true_eq_false, false_implies, true_implies, implies_true, true_and, and_true, eq_self, li0, li1, li2, li3, li4, li5, li6, li7, li8, li9, li10, li11, li12, li15, li18, li21, li22, li23, li24, li27, li30, li32, li39, li50, li51, li59, li60, li63, li75, li87, li90, li99, li100, li111, li121, li126, li131, li141, li150, li400, li900, li987, li1128, li240, i3_add, i3_toNat, vpt, bI_0, bI_1, bI_bo, Bool.not_eq_false, Bool.true_eq_false, Bool.false_eq_true, Bool.not_eq_true, i3_le', i3_lt', i3_eq']
  exact ⟨fun a1 => qk1 a1, fun a1 => qk0 a1⟩
theorem k_ckFloor {G : am_Gx} {d : Nat} {M : am_Hp} {v : Int32} : am_CT G (d + 2) rX6_checkFloor [.int v] M 1 6 (qk (md_fl v) "java/lang/IllegalArgumentException" M) := by
  refine am_intro mkX6_checkFloor rfl (Nat.le_of_ble_eq_true rfl) rfl (fun X hX hM => ?_)
  refine vX6_checkFloor_0 hX hM (ct_i k_isFloor ?_)
  simp (disch := omega) only [forall_eq, Nat.reduceAdd, Nat.reduceMul, Nat.reduceEqDiff, Nat.reduceLeDiff, Nat.reduceSub, ne_eq, not_false_eq_true, not_true_eq_false, false_implies, true_implies, implies_true, true_and, and_true, eq_self, li0, li1, li2, li3, li4, li5, li6, li7, li8, li9, li10, li11, li12, li15, li18, li21, li22, li23, li24, li27, li30, li32, li39, li50, li51, li59, li60, li63, li75, li87, li90, li99, li100, li111, li121, li126, li131, li141, li150, li400, li900, li987, li1128, li240, i3_add, i3_toNat, vpt, bI_0, bI_1, bI_bo, Bool.not_eq_false, Bool.true_eq_false, Bool.false_eq_true, Bool.not_eq_true, i3_le', i3_lt', i3_eq']
  exact ⟨fun a1 => qk1 a1, fun a1 => qk0 a1⟩
theorem k_ckPas {G : am_Gx} {d a : Nat} {M : am_Hp} {B : Nat → Nat} {g : md_R} {v : Int32} (h : gN M a B g) (ok : md_ok g) : am_CT G (d + 2) rX6_checkPassenger [.ref a, .int v] M 1 6 (qk (md_ip g v) "java/lang/IndexOutOfBoundsException" M) := by
  obtain ⟨ta, ra, hR⟩ := h
  have hR0 := hR
  have ok0 := ok
  obtain ⟨b0, u0, u1, u2, s1, m1, s2, m2, s3, u4, u5, u6, s4, s5, s6, m4, m5, m6, y0, y1, y2, y3, y4, y5, y6, qc, tc, zc, tp, zp, i3_, i4_, i5_, i6_, i7_, i8_, i9_, f20, f21, f22, f23, f24, f25, f26, f27, e60, e61, e62, e63, e64, e65, e66, l3_, l4_, lx, ly, lz⟩ := bR_f hR ok
  refine am_intro mkX6_checkPassenger rfl (Nat.le_of_ble_eq_true rfl) rfl (fun X hX hM => ?_)
  refine vX6_checkPassenger_0 hX hM ?_
  simp only [forall_eq]
  rw [ra]
  refine ⟨ta, y0, b0, ct_i (k_isPassenger hR0 ok0) ?_⟩
  simp (disch := omega) only [forall_eq, Nat.reduceAdd, Nat.reduceMul, Nat.reduceEqDiff, Nat.reduceLeDiff, Nat.reduceSub, ne_eq, not_false_eq_true, not_true_eq_false, false_implies, true_implies, implies_true, true_and, and_true, eq_self, li0, li1, li2, li3, li4, li5, li6, li7, li8, li9, li10, li11, li12, li15, li18, li21, li22, li23, li24, li27, li30, li32, li39, li50, li51, li59, li60, li63, li75, li87, li90, li99, li100, li111, li121, li126, li131, li141, li150, li400, li900, li987, li1128, li240, i3_add, i3_toNat, vpt, bI_0, bI_1, bI_bo, Bool.not_eq_false, Bool.true_eq_false, Bool.false_eq_true, Bool.not_eq_true, i3_le', i3_lt', i3_eq']
  exact ⟨fun a1 => qk1 a1, fun a1 => qk0 a1⟩
theorem k_ckTrip {G : am_Gx} {d a : Nat} {M : am_Hp} {B : Nat → Nat} {g : md_R} {v : Int32} (h : gN M a B g) (ok : md_ok g) : am_CT G (d + 2) rX6_checkTrip [.ref a, .int v] M 1 6 (qk (md_rm g v) "java/util/NoSuchElementException" M) := by
  obtain ⟨ta, ra, hR⟩ := h
  have hR0 := hR
  obtain ⟨b0, u0, u1, u2, s1, m1, s2, m2, s3, u4, u5, u6, s4, s5, s6, m4, m5, m6, y0, y1, y2, y3, y4, y5, y6, qc, tc, zc, tp, zp, i3_, i4_, i5_, i6_, i7_, i8_, i9_, f20, f21, f22, f23, f24, f25, f26, f27, e60, e61, e62, e63, e64, e65, e66, l3_, l4_, lx, ly, lz⟩ := bR_f hR ok
  refine am_intro mkX6_checkTrip rfl (Nat.le_of_ble_eq_true rfl) rfl (fun X hX hM => ?_)
  refine vX6_checkTrip_0 hX hM ?_
  simp only [forall_eq]
  rw [ra, u2]
  refine ⟨ta, y0, b0, y3, s3, ct_i (k_remembers hR0) ?_⟩
  simp (disch := omega) only [forall_eq, Nat.reduceAdd, Nat.reduceMul, Nat.reduceEqDiff, Nat.reduceLeDiff, Nat.reduceSub, ne_eq, not_false_eq_true, not_true_eq_false, false_implies, true_implies, implies_true, true_and, and_true, eq_self, li0, li1, li2, li3, li4, li5, li6, li7, li8, li9, li10, li11, li12, li15, li18, li21, li22, li23, li24, li27, li30, li32, li39, li50, li51, li59, li60, li63, li75, li87, li90, li99, li100, li111, li121, li126, li131, li141, li150, li400, li900, li987, li1128, li240, i3_add, i3_toNat, vpt, bI_0, bI_1, bI_bo, Bool.not_eq_false, Bool.true_eq_false, Bool.false_eq_true, Bool.not_eq_true, i3_le', i3_lt', i3_eq']
  exact ⟨fun a1 => qk1 a1, fun a1 => qk0 a1⟩
theorem g_floor {G : am_Gx} {d a : Nat} {M : am_Hp} {B : Nat → Nat} {g : md_R} {v : Int32} (h : gN M a B g) (ok : md_ok g) : am_CT G (d + 3) rX6_floor [.ref a, .int v] M 1 6 (xq ["java/lang/IndexOutOfBoundsException"] (sq_cell 9 g v) M) := by
  obtain ⟨ta, ra, hR⟩ := h
  obtain ⟨b0, u0, u1, u2, s1, m1, s2, m2, s3, u4, u5, u6, s4, s5, s6, m4, m5, m6, y0, y1, y2, y3, y4, y5, y6, qc, tc, zc, tp, zp, i3_, i4_, i5_, i6_, i7_, i8_, i9_, f20, f21, f22, f23, f24, f25, f26, f27, e60, e61, e62, e63, e64, e65, e66, l3_, l4_, lx, ly, lz⟩ := bR_f hR ok
  refine am_intro mkX6_floor rfl (Nat.le_of_ble_eq_true rfl) rfl (fun X hX hM => ?_)
  refine vX6_floor_0 hX hM ⟨by omega, by omega, ct_k k_ckCar (fun c1 => ?_) (fun c1 => xqk (v := i3 0) (k := 0) (by unfold sq_cell; rw [c1]; rfl) rfl)⟩
  obtain ⟨c, hc, rfl⟩ := md_ic_iff.mp c1
  simp (disch := omega) only [ta, ra, b0, u0, u1, u2, s1, m1, s2, m2, s3, u4, u5, u6, s4, s5, s6, m4, m5, m6, y0, y1, y2, y3, y4, y5, y6, qc, tc, zc, tp, zp, i3_, i4_, i5_, i6_, i7_, i8_, i9_, f20, f21, f22, f23, f24, f25, f26, f27, e60, e61, e62, e63, e64, e65, e66, l3_, l4_, forall_eq, Nat.reduceAdd, Nat.reduceMul, Nat.reduceEqDiff, Nat.reduceLeDiff, Nat.reduceSub, ne_eq, not_false_eq_true, not_true_eq_false, false_implies, true_implies, implies_true, true_and, and_true, eq_self, li0, li1, li2, li3, li4, li5, li6, li7, li8, li9, li10, li11, li12, li15, li18, li21, li22, li23, li24, li27, li30, li32, li39, li50, li51, li59, li60, li63, li75, li87, li90, li99, li100, li111, li121, li126, li131, li141, li150, li400, li900, li987, li1128, li240, i3_add, i3_toNat, vpt, bI_0, bI_1, bI_bo, Bool.not_eq_false, Bool.true_eq_false, Bool.false_eq_true, Bool.not_eq_true, i3_le', i3_lt', i3_eq']
  exact xq0 (by unfold sq_cell; rw [if_pos c1, i3_toNat (by omega)])
theorem g_direction {G : am_Gx} {d a : Nat} {M : am_Hp} {B : Nat → Nat} {g : md_R} {v : Int32} (h : gN M a B g) (ok : md_ok g) : am_CT G (d + 3) rX6_direction [.ref a, .int v] M 1 6 (xq ["java/lang/IndexOutOfBoundsException"] (sq_cell 12 g v) M) := by
  obtain ⟨ta, ra, hR⟩ := h
  obtain ⟨b0, u0, u1, u2, s1, m1, s2, m2, s3, u4, u5, u6, s4, s5, s6, m4, m5, m6, y0, y1, y2, y3, y4, y5, y6, qc, tc, zc, tp, zp, i3_, i4_, i5_, i6_, i7_, i8_, i9_, f20, f21, f22, f23, f24, f25, f26, f27, e60, e61, e62, e63, e64, e65, e66, l3_, l4_, lx, ly, lz⟩ := bR_f hR ok
  refine am_intro mkX6_direction rfl (Nat.le_of_ble_eq_true rfl) rfl (fun X hX hM => ?_)
  refine vX6_direction_0 hX hM ⟨by omega, by omega, ct_k k_ckCar (fun c1 => ?_) (fun c1 => xqk (v := i3 0) (k := 0) (by unfold sq_cell; rw [c1]; rfl) rfl)⟩
  obtain ⟨c, hc, rfl⟩ := md_ic_iff.mp c1
  simp (disch := omega) only [ta, ra, b0, u0, u1, u2, s1, m1, s2, m2, s3, u4, u5, u6, s4, s5, s6, m4, m5, m6, y0, y1, y2, y3, y4, y5, y6, qc, tc, zc, tp, zp, i3_, i4_, i5_, i6_, i7_, i8_, i9_, f20, f21, f22, f23, f24, f25, f26, f27, e60, e61, e62, e63, e64, e65, e66, l3_, l4_, forall_eq, Nat.reduceAdd, Nat.reduceMul, Nat.reduceEqDiff, Nat.reduceLeDiff, Nat.reduceSub, ne_eq, not_false_eq_true, not_true_eq_false, false_implies, true_implies, implies_true, true_and, and_true, eq_self, li0, li1, li2, li3, li4, li5, li6, li7, li8, li9, li10, li11, li12, li15, li18, li21, li22, li23, li24, li27, li30, li32, li39, li50, li51, li59, li60, li63, li75, li87, li90, li99, li100, li111, li121, li126, li131, li141, li150, li400, li900, li987, li1128, li240, i3_add, i3_toNat, vpt, bI_0, bI_1, bI_bo, Bool.not_eq_false, Bool.true_eq_false, Bool.false_eq_true, Bool.not_eq_true, i3_le', i3_lt', i3_eq']
  exact xq0 (by unfold sq_cell; rw [if_pos c1, i3_toNat (by omega)])
theorem g_capacity {G : am_Gx} {d a : Nat} {M : am_Hp} {B : Nat → Nat} {g : md_R} {v : Int32} (h : gN M a B g) (ok : md_ok g) : am_CT G (d + 3) rX6_capacity [.ref a, .int v] M 1 6 (xq ["java/lang/IndexOutOfBoundsException"] (sq_cell 15 g v) M) := by
  obtain ⟨ta, ra, hR⟩ := h
  obtain ⟨b0, u0, u1, u2, s1, m1, s2, m2, s3, u4, u5, u6, s4, s5, s6, m4, m5, m6, y0, y1, y2, y3, y4, y5, y6, qc, tc, zc, tp, zp, i3_, i4_, i5_, i6_, i7_, i8_, i9_, f20, f21, f22, f23, f24, f25, f26, f27, e60, e61, e62, e63, e64, e65, e66, l3_, l4_, lx, ly, lz⟩ := bR_f hR ok
  refine am_intro mkX6_capacity rfl (Nat.le_of_ble_eq_true rfl) rfl (fun X hX hM => ?_)
  refine vX6_capacity_0 hX hM ⟨by omega, by omega, ct_k k_ckCar (fun c1 => ?_) (fun c1 => xqk (v := i3 0) (k := 0) (by unfold sq_cell; rw [c1]; rfl) rfl)⟩
  obtain ⟨c, hc, rfl⟩ := md_ic_iff.mp c1
  simp (disch := omega) only [ta, ra, b0, u0, u1, u2, s1, m1, s2, m2, s3, u4, u5, u6, s4, s5, s6, m4, m5, m6, y0, y1, y2, y3, y4, y5, y6, qc, tc, zc, tp, zp, i3_, i4_, i5_, i6_, i7_, i8_, i9_, f20, f21, f22, f23, f24, f25, f26, f27, e60, e61, e62, e63, e64, e65, e66, l3_, l4_, forall_eq, Nat.reduceAdd, Nat.reduceMul, Nat.reduceEqDiff, Nat.reduceLeDiff, Nat.reduceSub, ne_eq, not_false_eq_true, not_true_eq_false, false_implies, true_implies, implies_true, true_and, and_true, eq_self, li0, li1, li2, li3, li4, li5, li6, li7, li8, li9, li10, li11, li12, li15, li18, li21, li22, li23, li24, li27, li30, li32, li39, li50, li51, li59, li60, li63, li75, li87, li90, li99, li100, li111, li121, li126, li131, li141, li150, li400, li900, li987, li1128, li240, i3_add, i3_toNat, vpt, bI_0, bI_1, bI_bo, Bool.not_eq_false, Bool.true_eq_false, Bool.false_eq_true, Bool.not_eq_true, i3_le', i3_lt', i3_eq']
  exact xq0 (by unfold sq_cell; rw [if_pos c1, i3_toNat (by omega)])
theorem g_doorSteps {G : am_Gx} {d a : Nat} {M : am_Hp} {B : Nat → Nat} {g : md_R} {v : Int32} (h : gN M a B g) (ok : md_ok g) : am_CT G (d + 3) rX6_doorSteps [.ref a, .int v] M 1 6 (xq ["java/lang/IndexOutOfBoundsException"] (sq_cell 18 g v) M) := by
  obtain ⟨ta, ra, hR⟩ := h
  obtain ⟨b0, u0, u1, u2, s1, m1, s2, m2, s3, u4, u5, u6, s4, s5, s6, m4, m5, m6, y0, y1, y2, y3, y4, y5, y6, qc, tc, zc, tp, zp, i3_, i4_, i5_, i6_, i7_, i8_, i9_, f20, f21, f22, f23, f24, f25, f26, f27, e60, e61, e62, e63, e64, e65, e66, l3_, l4_, lx, ly, lz⟩ := bR_f hR ok
  refine am_intro mkX6_doorSteps rfl (Nat.le_of_ble_eq_true rfl) rfl (fun X hX hM => ?_)
  refine vX6_doorSteps_0 hX hM ⟨by omega, by omega, ct_k k_ckCar (fun c1 => ?_) (fun c1 => xqk (v := i3 0) (k := 0) (by unfold sq_cell; rw [c1]; rfl) rfl)⟩
  obtain ⟨c, hc, rfl⟩ := md_ic_iff.mp c1
  simp (disch := omega) only [ta, ra, b0, u0, u1, u2, s1, m1, s2, m2, s3, u4, u5, u6, s4, s5, s6, m4, m5, m6, y0, y1, y2, y3, y4, y5, y6, qc, tc, zc, tp, zp, i3_, i4_, i5_, i6_, i7_, i8_, i9_, f20, f21, f22, f23, f24, f25, f26, f27, e60, e61, e62, e63, e64, e65, e66, l3_, l4_, forall_eq, Nat.reduceAdd, Nat.reduceMul, Nat.reduceEqDiff, Nat.reduceLeDiff, Nat.reduceSub, ne_eq, not_false_eq_true, not_true_eq_false, false_implies, true_implies, implies_true, true_and, and_true, eq_self, li0, li1, li2, li3, li4, li5, li6, li7, li8, li9, li10, li11, li12, li15, li18, li21, li22, li23, li24, li27, li30, li32, li39, li50, li51, li59, li60, li63, li75, li87, li90, li99, li100, li111, li121, li126, li131, li141, li150, li400, li900, li987, li1128, li240, i3_add, i3_toNat, vpt, bI_0, bI_1, bI_bo, Bool.not_eq_false, Bool.true_eq_false, Bool.false_eq_true, Bool.not_eq_true, i3_le', i3_lt', i3_eq']
  exact xq0 (by unfold sq_cell; rw [if_pos c1, i3_toNat (by omega)])
theorem g_energy {G : am_Gx} {d a : Nat} {M : am_Hp} {B : Nat → Nat} {g : md_R} {v : Int32} (h : gN M a B g) (ok : md_ok g) : am_CT G (d + 3) rX6_energy [.ref a, .int v] M 1 6 (xq ["java/lang/IndexOutOfBoundsException"] (sq_cell 24 g v) M) := by
  obtain ⟨ta, ra, hR⟩ := h
  obtain ⟨b0, u0, u1, u2, s1, m1, s2, m2, s3, u4, u5, u6, s4, s5, s6, m4, m5, m6, y0, y1, y2, y3, y4, y5, y6, qc, tc, zc, tp, zp, i3_, i4_, i5_, i6_, i7_, i8_, i9_, f20, f21, f22, f23, f24, f25, f26, f27, e60, e61, e62, e63, e64, e65, e66, l3_, l4_, lx, ly, lz⟩ := bR_f hR ok
  refine am_intro mkX6_energy rfl (Nat.le_of_ble_eq_true rfl) rfl (fun X hX hM => ?_)
  refine vX6_energy_0 hX hM ⟨by omega, by omega, ct_k k_ckCar (fun c1 => ?_) (fun c1 => xqk (v := i3 0) (k := 0) (by unfold sq_cell; rw [c1]; rfl) rfl)⟩
  obtain ⟨c, hc, rfl⟩ := md_ic_iff.mp c1
  simp (disch := omega) only [ta, ra, b0, u0, u1, u2, s1, m1, s2, m2, s3, u4, u5, u6, s4, s5, s6, m4, m5, m6, y0, y1, y2, y3, y4, y5, y6, qc, tc, zc, tp, zp, i3_, i4_, i5_, i6_, i7_, i8_, i9_, f20, f21, f22, f23, f24, f25, f26, f27, e60, e61, e62, e63, e64, e65, e66, l3_, l4_, forall_eq, Nat.reduceAdd, Nat.reduceMul, Nat.reduceEqDiff, Nat.reduceLeDiff, Nat.reduceSub, ne_eq, not_false_eq_true, not_true_eq_false, false_implies, true_implies, implies_true, true_and, and_true, eq_self, li0, li1, li2, li3, li4, li5, li6, li7, li8, li9, li10, li11, li12, li15, li18, li21, li22, li23, li24, li27, li30, li32, li39, li50, li51, li59, li60, li63, li75, li87, li90, li99, li100, li111, li121, li126, li131, li141, li150, li400, li900, li987, li1128, li240, i3_add, i3_toNat, vpt, bI_0, bI_1, bI_bo, Bool.not_eq_false, Bool.true_eq_false, Bool.false_eq_true, Bool.not_eq_true, i3_le', i3_lt', i3_eq']
  exact xq0 (by unfold sq_cell; rw [if_pos c1, i3_toNat (by omega)])
theorem g_load {G : am_Gx} {d a : Nat} {M : am_Hp} {B : Nat → Nat} {g : md_R} {v : Int32} (h : gN M a B g) (ok : md_ok g) : am_CT G (d + 3) rX6_load [.ref a, .int v] M 1 6 (xq ["java/lang/IndexOutOfBoundsException"] (sq_load g v) M) := by
  obtain ⟨ta, ra, hR⟩ := h
  obtain ⟨b0, u0, u1, u2, s1, m1, s2, m2, s3, u4, u5, u6, s4, s5, s6, m4, m5, m6, y0, y1, y2, y3, y4, y5, y6, qc, tc, zc, tp, zp, i3_, i4_, i5_, i6_, i7_, i8_, i9_, f20, f21, f22, f23, f24, f25, f26, f27, e60, e61, e62, e63, e64, e65, e66, l3_, l4_, lx, ly, lz⟩ := bR_f hR ok
  refine am_intro mkX6_load rfl (Nat.le_of_ble_eq_true rfl) rfl (fun X hX hM => ?_)
  refine vX6_load_0 hX hM ⟨by omega, by omega, ct_k k_ckCar (fun c1 => ?_) (fun c1 => xqk (v := i3 0) (k := 0) (by unfold sq_load; rw [c1]; rfl) rfl)⟩
  obtain ⟨c, hc, rfl⟩ := md_ic_iff.mp c1
  simp (disch := omega) only [ta, ra, b0, u0, u1, u2, s1, m1, s2, m2, s3, u4, u5, u6, s4, s5, s6, m4, m5, m6, y0, y1, y2, y3, y4, y5, y6, qc, tc, zc, tp, zp, i3_, i4_, i5_, i6_, i7_, i8_, i9_, f20, f21, f22, f23, f24, f25, f26, f27, e60, e61, e62, e63, e64, e65, e66, l3_, l4_, forall_eq, Nat.reduceAdd, Nat.reduceMul, Nat.reduceEqDiff, Nat.reduceLeDiff, Nat.reduceSub, ne_eq, not_false_eq_true, not_true_eq_false, false_implies, true_implies, implies_true, true_and, and_true, eq_self, li0, li1, li2, li3, li4, li5, li6, li7, li8, li9, li10, li11, li12, li15, li18, li21, li22, li23, li24, li27, li30, li32, li39, li50, li51, li59, li60, li63, li75, li87, li90, li99, li100, li111, li121, li126, li131, li141, li150, li400, li900, li987, li1128, li240, i3_add, i3_toNat, vpt, bI_0, bI_1, bI_bo, Bool.not_eq_false, Bool.true_eq_false, Bool.false_eq_true, Bool.not_eq_true, i3_le', i3_lt', i3_eq']
  exact xq0 (by unfold sq_load; rw [if_pos c1, i3_toNat (by omega)])
theorem g_passengersIn {G : am_Gx} {d a : Nat} {M : am_Hp} {B : Nat → Nat} {g : md_R} {v : Int32} (h : gN M a B g) (ok : md_ok g) : am_CT G (d + 3) rX6_passengersIn [.ref a, .int v] M 1 6 (xq ["java/lang/IndexOutOfBoundsException"] (sq_riders g v) M) := by
  obtain ⟨ta, ra, hR⟩ := h
  obtain ⟨b0, u0, u1, u2, s1, m1, s2, m2, s3, u4, u5, u6, s4, s5, s6, m4, m5, m6, y0, y1, y2, y3, y4, y5, y6, qc, tc, zc, tp, zp, i3_, i4_, i5_, i6_, i7_, i8_, i9_, f20, f21, f22, f23, f24, f25, f26, f27, e60, e61, e62, e63, e64, e65, e66, l3_, l4_, lx, ly, lz⟩ := bR_f hR ok
  refine am_intro mkX6_passengersIn rfl (Nat.le_of_ble_eq_true rfl) rfl (fun X hX hM => ?_)
  refine vX6_passengersIn_0 hX hM ⟨by omega, by omega, ct_k k_ckCar (fun c1 => ?_) (fun c1 => xqk (v := i3 0) (k := 0) (by unfold sq_riders; rw [c1]; rfl) rfl)⟩
  obtain ⟨c, hc, rfl⟩ := md_ic_iff.mp c1
  simp (disch := omega) only [ta, ra, b0, u0, u1, u2, s1, m1, s2, m2, s3, u4, u5, u6, s4, s5, s6, m4, m5, m6, y0, y1, y2, y3, y4, y5, y6, qc, tc, zc, tp, zp, i3_, i4_, i5_, i6_, i7_, i8_, i9_, f20, f21, f22, f23, f24, f25, f26, f27, e60, e61, e62, e63, e64, e65, e66, l3_, l4_, forall_eq, Nat.reduceAdd, Nat.reduceMul, Nat.reduceEqDiff, Nat.reduceLeDiff, Nat.reduceSub, ne_eq, not_false_eq_true, not_true_eq_false, false_implies, true_implies, implies_true, true_and, and_true, eq_self, li0, li1, li2, li3, li4, li5, li6, li7, li8, li9, li10, li11, li12, li15, li18, li21, li22, li23, li24, li27, li30, li32, li39, li50, li51, li59, li60, li63, li75, li87, li90, li99, li100, li111, li121, li126, li131, li141, li150, li400, li900, li987, li1128, li240, i3_add, i3_toNat, vpt, bI_0, bI_1, bI_bo, Bool.not_eq_false, Bool.true_eq_false, Bool.false_eq_true, Bool.not_eq_true, i3_le', i3_lt', i3_eq']
  exact xq0 (by unfold sq_riders; rw [if_pos c1, i3_toNat (by omega)])
theorem g_number {G : am_Gx} {d a : Nat} {M : am_Hp} {B : Nat → Nat} {g : md_R} {v : Int32} (h : gN M a B g) (ok : md_ok g) : am_CT G (d + 3) rX6_number [.ref a, .int v] M 1 6 (xq ["java/lang/IndexOutOfBoundsException"] (sq_pas 27 g v) M) := by
  have h0 := h
  obtain ⟨ta, ra, hR⟩ := h
  have h12 := ok.2
  have ok0 := ok
  obtain ⟨b0, u0, u1, u2, s1, m1, s2, m2, s3, u4, u5, u6, s4, s5, s6, m4, m5, m6, y0, y1, y2, y3, y4, y5, y6, qc, tc, zc, tp, zp, i3_, i4_, i5_, i6_, i7_, i8_, i9_, f20, f21, f22, f23, f24, f25, f26, f27, e60, e61, e62, e63, e64, e65, e66, l3_, l4_, lx, ly, lz⟩ := bR_f hR ok
  refine am_intro mkX6_number rfl (Nat.le_of_ble_eq_true rfl) rfl (fun X hX hM => ?_)
  refine vX6_number_0 hX hM ⟨ta, by omega, by omega, ct_k (k_ckPas h0 ok0) (fun c1 => ?_) (fun c1 => xqk (v := i3 0) (k := 0) (by unfold sq_pas; rw [c1]; rfl) rfl)⟩
  obtain ⟨p, hp, rfl⟩ := (md_ip_iff ok0).mp c1
  simp (disch := omega) only [ta, ra, b0, u0, u1, u2, s1, m1, s2, m2, s3, u4, u5, u6, s4, s5, s6, m4, m5, m6, y0, y1, y2, y3, y4, y5, y6, qc, tc, zc, tp, zp, i3_, i4_, i5_, i6_, i7_, i8_, i9_, f20, f21, f22, f23, f24, f25, f26, f27, e60, e61, e62, e63, e64, e65, e66, l3_, l4_, forall_eq, Nat.reduceAdd, Nat.reduceMul, Nat.reduceEqDiff, Nat.reduceLeDiff, Nat.reduceSub, ne_eq, not_false_eq_true, not_true_eq_false, false_implies, true_implies, implies_true, true_and, and_true, eq_self, li0, li1, li2, li3, li4, li5, li6, li7, li8, li9, li10, li11, li12, li15, li18, li21, li22, li23, li24, li27, li30, li32, li39, li50, li51, li59, li60, li63, li75, li87, li90, li99, li100, li111, li121, li126, li131, li141, li150, li400, li900, li987, li1128, li240, i3_add, i3_toNat, vpt, bI_0, bI_1, bI_bo, Bool.not_eq_false, Bool.true_eq_false, Bool.false_eq_true, Bool.not_eq_true, i3_le', i3_lt', i3_eq']
  exact xq0 (by unfold sq_pas; rw [if_pos c1, i3_toNat (by omega)])
theorem g_start {G : am_Gx} {d a : Nat} {M : am_Hp} {B : Nat → Nat} {g : md_R} {v : Int32} (h : gN M a B g) (ok : md_ok g) : am_CT G (d + 3) rX6_start [.ref a, .int v] M 1 6 (xq ["java/lang/IndexOutOfBoundsException"] (sq_pas 39 g v) M) := by
  have h0 := h
  obtain ⟨ta, ra, hR⟩ := h
  have h12 := ok.2
  have ok0 := ok
  obtain ⟨b0, u0, u1, u2, s1, m1, s2, m2, s3, u4, u5, u6, s4, s5, s6, m4, m5, m6, y0, y1, y2, y3, y4, y5, y6, qc, tc, zc, tp, zp, i3_, i4_, i5_, i6_, i7_, i8_, i9_, f20, f21, f22, f23, f24, f25, f26, f27, e60, e61, e62, e63, e64, e65, e66, l3_, l4_, lx, ly, lz⟩ := bR_f hR ok
  refine am_intro mkX6_start rfl (Nat.le_of_ble_eq_true rfl) rfl (fun X hX hM => ?_)
  refine vX6_start_0 hX hM ⟨ta, by omega, by omega, ct_k (k_ckPas h0 ok0) (fun c1 => ?_) (fun c1 => xqk (v := i3 0) (k := 0) (by unfold sq_pas; rw [c1]; rfl) rfl)⟩
  obtain ⟨p, hp, rfl⟩ := (md_ip_iff ok0).mp c1
  simp (disch := omega) only [ta, ra, b0, u0, u1, u2, s1, m1, s2, m2, s3, u4, u5, u6, s4, s5, s6, m4, m5, m6, y0, y1, y2, y3, y4, y5, y6, qc, tc, zc, tp, zp, i3_, i4_, i5_, i6_, i7_, i8_, i9_, f20, f21, f22, f23, f24, f25, f26, f27, e60, e61, e62, e63, e64, e65, e66, l3_, l4_, forall_eq, Nat.reduceAdd, Nat.reduceMul, Nat.reduceEqDiff, Nat.reduceLeDiff, Nat.reduceSub, ne_eq, not_false_eq_true, not_true_eq_false, false_implies, true_implies, implies_true, true_and, and_true, eq_self, li0, li1, li2, li3, li4, li5, li6, li7, li8, li9, li10, li11, li12, li15, li18, li21, li22, li23, li24, li27, li30, li32, li39, li50, li51, li59, li60, li63, li75, li87, li90, li99, li100, li111, li121, li126, li131, li141, li150, li400, li900, li987, li1128, li240, i3_add, i3_toNat, vpt, bI_0, bI_1, bI_bo, Bool.not_eq_false, Bool.true_eq_false, Bool.false_eq_true, Bool.not_eq_true, i3_le', i3_lt', i3_eq']
  exact xq0 (by unfold sq_pas; rw [if_pos c1, i3_toNat (by omega)])
theorem g_destination {G : am_Gx} {d a : Nat} {M : am_Hp} {B : Nat → Nat} {g : md_R} {v : Int32} (h : gN M a B g) (ok : md_ok g) : am_CT G (d + 3) rX6_destination [.ref a, .int v] M 1 6 (xq ["java/lang/IndexOutOfBoundsException"] (sq_pas 51 g v) M) := by
  have h0 := h
  obtain ⟨ta, ra, hR⟩ := h
  have h12 := ok.2
  have ok0 := ok
  obtain ⟨b0, u0, u1, u2, s1, m1, s2, m2, s3, u4, u5, u6, s4, s5, s6, m4, m5, m6, y0, y1, y2, y3, y4, y5, y6, qc, tc, zc, tp, zp, i3_, i4_, i5_, i6_, i7_, i8_, i9_, f20, f21, f22, f23, f24, f25, f26, f27, e60, e61, e62, e63, e64, e65, e66, l3_, l4_, lx, ly, lz⟩ := bR_f hR ok
  refine am_intro mkX6_destination rfl (Nat.le_of_ble_eq_true rfl) rfl (fun X hX hM => ?_)
  refine vX6_destination_0 hX hM ⟨ta, by omega, by omega, ct_k (k_ckPas h0 ok0) (fun c1 => ?_) (fun c1 => xqk (v := i3 0) (k := 0) (by unfold sq_pas; rw [c1]; rfl) rfl)⟩
  obtain ⟨p, hp, rfl⟩ := (md_ip_iff ok0).mp c1
  simp (disch := omega) only [ta, ra, b0, u0, u1, u2, s1, m1, s2, m2, s3, u4, u5, u6, s4, s5, s6, m4, m5, m6, y0, y1, y2, y3, y4, y5, y6, qc, tc, zc, tp, zp, i3_, i4_, i5_, i6_, i7_, i8_, i9_, f20, f21, f22, f23, f24, f25, f26, f27, e60, e61, e62, e63, e64, e65, e66, l3_, l4_, forall_eq, Nat.reduceAdd, Nat.reduceMul, Nat.reduceEqDiff, Nat.reduceLeDiff, Nat.reduceSub, ne_eq, not_false_eq_true, not_true_eq_false, false_implies, true_implies, implies_true, true_and, and_true, eq_self, li0, li1, li2, li3, li4, li5, li6, li7, li8, li9, li10, li11, li12, li15, li18, li21, li22, li23, li24, li27, li30, li32, li39, li50, li51, li59, li60, li63, li75, li87, li90, li99, li100, li111, li121, li126, li131, li141, li150, li400, li900, li987, li1128, li240, i3_add, i3_toNat, vpt, bI_0, bI_1, bI_bo, Bool.not_eq_false, Bool.true_eq_false, Bool.false_eq_true, Bool.not_eq_true, i3_le', i3_lt', i3_eq']
  exact xq0 (by unfold sq_pas; rw [if_pos c1, i3_toNat (by omega)])
theorem g_weight {G : am_Gx} {d a : Nat} {M : am_Hp} {B : Nat → Nat} {g : md_R} {v : Int32} (h : gN M a B g) (ok : md_ok g) : am_CT G (d + 3) rX6_weight [.ref a, .int v] M 1 6 (xq ["java/lang/IndexOutOfBoundsException"] (sq_pas 63 g v) M) := by
  have h0 := h
  obtain ⟨ta, ra, hR⟩ := h
  have h12 := ok.2
  have ok0 := ok
  obtain ⟨b0, u0, u1, u2, s1, m1, s2, m2, s3, u4, u5, u6, s4, s5, s6, m4, m5, m6, y0, y1, y2, y3, y4, y5, y6, qc, tc, zc, tp, zp, i3_, i4_, i5_, i6_, i7_, i8_, i9_, f20, f21, f22, f23, f24, f25, f26, f27, e60, e61, e62, e63, e64, e65, e66, l3_, l4_, lx, ly, lz⟩ := bR_f hR ok
  refine am_intro mkX6_weight rfl (Nat.le_of_ble_eq_true rfl) rfl (fun X hX hM => ?_)
  refine vX6_weight_0 hX hM ⟨ta, by omega, by omega, ct_k (k_ckPas h0 ok0) (fun c1 => ?_) (fun c1 => xqk (v := i3 0) (k := 0) (by unfold sq_pas; rw [c1]; rfl) rfl)⟩
  obtain ⟨p, hp, rfl⟩ := (md_ip_iff ok0).mp c1
  simp (disch := omega) only [ta, ra, b0, u0, u1, u2, s1, m1, s2, m2, s3, u4, u5, u6, s4, s5, s6, m4, m5, m6, y0, y1, y2, y3, y4, y5, y6, qc, tc, zc, tp, zp, i3_, i4_, i5_, i6_, i7_, i8_, i9_, f20, f21, f22, f23, f24, f25, f26, f27, e60, e61, e62, e63, e64, e65, e66, l3_, l4_, forall_eq, Nat.reduceAdd, Nat.reduceMul, Nat.reduceEqDiff, Nat.reduceLeDiff, Nat.reduceSub, ne_eq, not_false_eq_true, not_true_eq_false, false_implies, true_implies, implies_true, true_and, and_true, eq_self, li0, li1, li2, li3, li4, li5, li6, li7, li8, li9, li10, li11, li12, li15, li18, li21, li22, li23, li24, li27, li30, li32, li39, li50, li51, li59, li60, li63, li75, li87, li90, li99, li100, li111, li121, li126, li131, li141, li150, li400, li900, li987, li1128, li240, i3_add, i3_toNat, vpt, bI_0, bI_1, bI_bo, Bool.not_eq_false, Bool.true_eq_false, Bool.false_eq_true, Bool.not_eq_true, i3_le', i3_lt', i3_eq']
  exact xq0 (by unfold sq_pas; rw [if_pos c1, i3_toNat (by omega)])
theorem g_waitingTime {G : am_Gx} {d a : Nat} {M : am_Hp} {B : Nat → Nat} {g : md_R} {v : Int32} (h : gN M a B g) (ok : md_ok g) : am_CT G (d + 3) rX6_waitingTime [.ref a, .int v] M 1 6 (xq ["java/lang/IndexOutOfBoundsException"] (sq_pas 75 g v) M) := by
  have h0 := h
  obtain ⟨ta, ra, hR⟩ := h
  have h12 := ok.2
  have ok0 := ok
  obtain ⟨b0, u0, u1, u2, s1, m1, s2, m2, s3, u4, u5, u6, s4, s5, s6, m4, m5, m6, y0, y1, y2, y3, y4, y5, y6, qc, tc, zc, tp, zp, i3_, i4_, i5_, i6_, i7_, i8_, i9_, f20, f21, f22, f23, f24, f25, f26, f27, e60, e61, e62, e63, e64, e65, e66, l3_, l4_, lx, ly, lz⟩ := bR_f hR ok
  refine am_intro mkX6_waitingTime rfl (Nat.le_of_ble_eq_true rfl) rfl (fun X hX hM => ?_)
  refine vX6_waitingTime_0 hX hM ⟨ta, by omega, by omega, ct_k (k_ckPas h0 ok0) (fun c1 => ?_) (fun c1 => xqk (v := i3 0) (k := 0) (by unfold sq_pas; rw [c1]; rfl) rfl)⟩
  obtain ⟨p, hp, rfl⟩ := (md_ip_iff ok0).mp c1
  simp (disch := omega) only [ta, ra, b0, u0, u1, u2, s1, m1, s2, m2, s3, u4, u5, u6, s4, s5, s6, m4, m5, m6, y0, y1, y2, y3, y4, y5, y6, qc, tc, zc, tp, zp, i3_, i4_, i5_, i6_, i7_, i8_, i9_, f20, f21, f22, f23, f24, f25, f26, f27, e60, e61, e62, e63, e64, e65, e66, l3_, l4_, forall_eq, Nat.reduceAdd, Nat.reduceMul, Nat.reduceEqDiff, Nat.reduceLeDiff, Nat.reduceSub, ne_eq, not_false_eq_true, not_true_eq_false, false_implies, true_implies, implies_true, true_and, and_true, eq_self, li0, li1, li2, li3, li4, li5, li6, li7, li8, li9, li10, li11, li12, li15, li18, li21, li22, li23, li24, li27, li30, li32, li39, li50, li51, li59, li60, li63, li75, li87, li90, li99, li100, li111, li121, li126, li131, li141, li150, li400, li900, li987, li1128, li240, i3_add, i3_toNat, vpt, bI_0, bI_1, bI_bo, Bool.not_eq_false, Bool.true_eq_false, Bool.false_eq_true, Bool.not_eq_true, i3_le', i3_lt', i3_eq']
  exact xq0 (by unfold sq_pas; rw [if_pos c1, i3_toNat (by omega)])
theorem g_time {G : am_Gx} {d a : Nat} {M : am_Hp} {B : Nat → Nat} {g : md_R} (h : gN M a B g) (ok : md_ok g) : am_CT G (d + 1) rX6_time [.ref a] M 0 0 (qi (g 0) M) := by
  obtain ⟨ta, ra, hR⟩ := h
  obtain ⟨b0, u0, u1, u2, s1, m1, s2, m2, s3, u4, u5, u6, s4, s5, s6, m4, m5, m6, y0, y1, y2, y3, y4, y5, y6, qc, tc, zc, tp, zp, i3_, i4_, i5_, i6_, i7_, i8_, i9_, f20, f21, f22, f23, f24, f25, f26, f27, e60, e61, e62, e63, e64, e65, e66, l3_, l4_, lx, ly, lz⟩ := bR_f hR ok
  refine am_intro mkX6_time rfl (Nat.le_of_ble_eq_true rfl) rfl (fun X hX hM => ?_)
  refine vX6_time_0 hX hM ?_
  simp (disch := omega) only [ta, ra, b0, u0, u1, u2, s1, m1, s2, m2, s3, u4, u5, u6, s4, s5, s6, m4, m5, m6, y0, y1, y2, y3, y4, y5, y6, qc, tc, zc, tp, zp, i3_, i4_, i5_, i6_, i7_, i8_, i9_, f20, f21, f22, f23, f24, f25, f26, f27, e60, e61, e62, e63, e64, e65, e66, l3_, l4_, forall_eq, Nat.reduceAdd, Nat.reduceMul, Nat.reduceEqDiff, Nat.reduceLeDiff, Nat.reduceSub, ne_eq, not_false_eq_true, not_true_eq_false, false_implies, true_implies, implies_true, true_and, and_true, eq_self, li0, li1, li2, li3, li4, li5, li6, li7, li8, li9, li10, li11, li12, li15, li18, li21, li22, li23, li24, li27, li30, li32, li39, li50, li51, li59, li60, li63, li75, li87, li90, li99, li100, li111, li121, li126, li131, li141, li150, li400, li900, li987, li1128, li240, i3_add, i3_toNat, vpt, bI_0, bI_1, bI_bo, Bool.not_eq_false, Bool.true_eq_false, Bool.false_eq_true, Bool.not_eq_true, i3_le', i3_lt', i3_eq']
  exact ⟨rfl, rfl⟩
theorem g_passengerCount {G : am_Gx} {d a : Nat} {M : am_Hp} {B : Nat → Nat} {g : md_R} (h : gN M a B g) (ok : md_ok g) : am_CT G (d + 1) rX6_passengerCount [.ref a] M 0 0 (qi (i3 (md_n g)) M) := by
  obtain ⟨ta, ra, hR⟩ := h
  obtain ⟨b0, u0, u1, u2, s1, m1, s2, m2, s3, u4, u5, u6, s4, s5, s6, m4, m5, m6, y0, y1, y2, y3, y4, y5, y6, qc, tc, zc, tp, zp, i3_, i4_, i5_, i6_, i7_, i8_, i9_, f20, f21, f22, f23, f24, f25, f26, f27, e60, e61, e62, e63, e64, e65, e66, l3_, l4_, lx, ly, lz⟩ := bR_f hR ok
  refine am_intro mkX6_passengerCount rfl (Nat.le_of_ble_eq_true rfl) rfl (fun X hX hM => ?_)
  refine vX6_passengerCount_0 hX hM ?_
  simp (disch := omega) only [ta, ra, b0, u0, u1, u2, s1, m1, s2, m2, s3, u4, u5, u6, s4, s5, s6, m4, m5, m6, y0, y1, y2, y3, y4, y5, y6, qc, tc, zc, tp, zp, i3_, i4_, i5_, i6_, i7_, i8_, i9_, f20, f21, f22, f23, f24, f25, f26, f27, e60, e61, e62, e63, e64, e65, e66, l3_, l4_, forall_eq, Nat.reduceAdd, Nat.reduceMul, Nat.reduceEqDiff, Nat.reduceLeDiff, Nat.reduceSub, ne_eq, not_false_eq_true, not_true_eq_false, false_implies, true_implies, implies_true, true_and, and_true, eq_self, li0, li1, li2, li3, li4, li5, li6, li7, li8, li9, li10, li11, li12, li15, li18, li21, li22, li23, li24, li27, li30, li32, li39, li50, li51, li59, li60, li63, li75, li87, li90, li99, li100, li111, li121, li126, li131, li141, li150, li400, li900, li987, li1128, li240, i3_add, i3_toNat, vpt, bI_0, bI_1, bI_bo, Bool.not_eq_false, Bool.true_eq_false, Bool.false_eq_true, Bool.not_eq_true, i3_le', i3_lt', i3_eq']
  exact ⟨rfl, rfl⟩
theorem g_tripCount {G : am_Gx} {d a : Nat} {M : am_Hp} {B : Nat → Nat} {g : md_R} (h : gN M a B g) (ok : md_ok g) : am_CT G (d + 1) rX6_tripCount [.ref a] M 0 0 (qi (g 3) M) := by
  obtain ⟨ta, ra, hR⟩ := h
  obtain ⟨b0, u0, u1, u2, s1, m1, s2, m2, s3, u4, u5, u6, s4, s5, s6, m4, m5, m6, y0, y1, y2, y3, y4, y5, y6, qc, tc, zc, tp, zp, i3_, i4_, i5_, i6_, i7_, i8_, i9_, f20, f21, f22, f23, f24, f25, f26, f27, e60, e61, e62, e63, e64, e65, e66, l3_, l4_, lx, ly, lz⟩ := bR_f hR ok
  refine am_intro mkX6_tripCount rfl (Nat.le_of_ble_eq_true rfl) rfl (fun X hX hM => ?_)
  refine vX6_tripCount_0 hX hM ?_
  simp (disch := omega) only [ta, ra, b0, u0, u1, u2, s1, m1, s2, m2, s3, u4, u5, u6, s4, s5, s6, m4, m5, m6, y0, y1, y2, y3, y4, y5, y6, qc, tc, zc, tp, zp, i3_, i4_, i5_, i6_, i7_, i8_, i9_, f20, f21, f22, f23, f24, f25, f26, f27, e60, e61, e62, e63, e64, e65, e66, l3_, l4_, forall_eq, Nat.reduceAdd, Nat.reduceMul, Nat.reduceEqDiff, Nat.reduceLeDiff, Nat.reduceSub, ne_eq, not_false_eq_true, not_true_eq_false, false_implies, true_implies, implies_true, true_and, and_true, eq_self, li0, li1, li2, li3, li4, li5, li6, li7, li8, li9, li10, li11, li12, li15, li18, li21, li22, li23, li24, li27, li30, li32, li39, li50, li51, li59, li60, li63, li75, li87, li90, li99, li100, li111, li121, li126, li131, li141, li150, li400, li900, li987, li1128, li240, i3_add, i3_toNat, vpt, bI_0, bI_1, bI_bo, Bool.not_eq_false, Bool.true_eq_false, Bool.false_eq_true, Bool.not_eq_true, i3_le', i3_lt', i3_eq']
  exact ⟨rfl, rfl⟩
theorem g_floorsUp {G : am_Gx} {d a : Nat} {M : am_Hp} {B : Nat → Nat} {g : md_R} (h : gN M a B g) (ok : md_ok g) : am_CT G (d + 1) rX6_floorsUp [.ref a] M 0 0 (qi (g 5) M) := by
  obtain ⟨ta, ra, hR⟩ := h
  obtain ⟨b0, u0, u1, u2, s1, m1, s2, m2, s3, u4, u5, u6, s4, s5, s6, m4, m5, m6, y0, y1, y2, y3, y4, y5, y6, qc, tc, zc, tp, zp, i3_, i4_, i5_, i6_, i7_, i8_, i9_, f20, f21, f22, f23, f24, f25, f26, f27, e60, e61, e62, e63, e64, e65, e66, l3_, l4_, lx, ly, lz⟩ := bR_f hR ok
  refine am_intro mkX6_floorsUp rfl (Nat.le_of_ble_eq_true rfl) rfl (fun X hX hM => ?_)
  refine vX6_floorsUp_0 hX hM ?_
  simp (disch := omega) only [ta, ra, b0, u0, u1, u2, s1, m1, s2, m2, s3, u4, u5, u6, s4, s5, s6, m4, m5, m6, y0, y1, y2, y3, y4, y5, y6, qc, tc, zc, tp, zp, i3_, i4_, i5_, i6_, i7_, i8_, i9_, f20, f21, f22, f23, f24, f25, f26, f27, e60, e61, e62, e63, e64, e65, e66, l3_, l4_, forall_eq, Nat.reduceAdd, Nat.reduceMul, Nat.reduceEqDiff, Nat.reduceLeDiff, Nat.reduceSub, ne_eq, not_false_eq_true, not_true_eq_false, false_implies, true_implies, implies_true, true_and, and_true, eq_self, li0, li1, li2, li3, li4, li5, li6, li7, li8, li9, li10, li11, li12, li15, li18, li21, li22, li23, li24, li27, li30, li32, li39, li50, li51, li59, li60, li63, li75, li87, li90, li99, li100, li111, li121, li126, li131, li141, li150, li400, li900, li987, li1128, li240, i3_add, i3_toNat, vpt, bI_0, bI_1, bI_bo, Bool.not_eq_false, Bool.true_eq_false, Bool.false_eq_true, Bool.not_eq_true, i3_le', i3_lt', i3_eq']
  exact ⟨rfl, rfl⟩
theorem g_floorsDown {G : am_Gx} {d a : Nat} {M : am_Hp} {B : Nat → Nat} {g : md_R} (h : gN M a B g) (ok : md_ok g) : am_CT G (d + 1) rX6_floorsDown [.ref a] M 0 0 (qi (g 6) M) := by
  obtain ⟨ta, ra, hR⟩ := h
  obtain ⟨b0, u0, u1, u2, s1, m1, s2, m2, s3, u4, u5, u6, s4, s5, s6, m4, m5, m6, y0, y1, y2, y3, y4, y5, y6, qc, tc, zc, tp, zp, i3_, i4_, i5_, i6_, i7_, i8_, i9_, f20, f21, f22, f23, f24, f25, f26, f27, e60, e61, e62, e63, e64, e65, e66, l3_, l4_, lx, ly, lz⟩ := bR_f hR ok
  refine am_intro mkX6_floorsDown rfl (Nat.le_of_ble_eq_true rfl) rfl (fun X hX hM => ?_)
  refine vX6_floorsDown_0 hX hM ?_
  simp (disch := omega) only [ta, ra, b0, u0, u1, u2, s1, m1, s2, m2, s3, u4, u5, u6, s4, s5, s6, m4, m5, m6, y0, y1, y2, y3, y4, y5, y6, qc, tc, zc, tp, zp, i3_, i4_, i5_, i6_, i7_, i8_, i9_, f20, f21, f22, f23, f24, f25, f26, f27, e60, e61, e62, e63, e64, e65, e66, l3_, l4_, forall_eq, Nat.reduceAdd, Nat.reduceMul, Nat.reduceEqDiff, Nat.reduceLeDiff, Nat.reduceSub, ne_eq, not_false_eq_true, not_true_eq_false, false_implies, true_implies, implies_true, true_and, and_true, eq_self, li0, li1, li2, li3, li4, li5, li6, li7, li8, li9, li10, li11, li12, li15, li18, li21, li22, li23, li24, li27, li30, li32, li39, li50, li51, li59, li60, li63, li75, li87, li90, li99, li100, li111, li121, li126, li131, li141, li150, li400, li900, li987, li1128, li240, i3_add, i3_toNat, vpt, bI_0, bI_1, bI_bo, Bool.not_eq_false, Bool.true_eq_false, Bool.false_eq_true, Bool.not_eq_true, i3_le', i3_lt', i3_eq']
  exact ⟨rfl, rfl⟩
theorem g_doorOpenings {G : am_Gx} {d a : Nat} {M : am_Hp} {B : Nat → Nat} {g : md_R} (h : gN M a B g) (ok : md_ok g) : am_CT G (d + 1) rX6_doorOpenings [.ref a] M 0 0 (qi (g 7) M) := by
  obtain ⟨ta, ra, hR⟩ := h
  obtain ⟨b0, u0, u1, u2, s1, m1, s2, m2, s3, u4, u5, u6, s4, s5, s6, m4, m5, m6, y0, y1, y2, y3, y4, y5, y6, qc, tc, zc, tp, zp, i3_, i4_, i5_, i6_, i7_, i8_, i9_, f20, f21, f22, f23, f24, f25, f26, f27, e60, e61, e62, e63, e64, e65, e66, l3_, l4_, lx, ly, lz⟩ := bR_f hR ok
  refine am_intro mkX6_doorOpenings rfl (Nat.le_of_ble_eq_true rfl) rfl (fun X hX hM => ?_)
  refine vX6_doorOpenings_0 hX hM ?_
  simp (disch := omega) only [ta, ra, b0, u0, u1, u2, s1, m1, s2, m2, s3, u4, u5, u6, s4, s5, s6, m4, m5, m6, y0, y1, y2, y3, y4, y5, y6, qc, tc, zc, tp, zp, i3_, i4_, i5_, i6_, i7_, i8_, i9_, f20, f21, f22, f23, f24, f25, f26, f27, e60, e61, e62, e63, e64, e65, e66, l3_, l4_, forall_eq, Nat.reduceAdd, Nat.reduceMul, Nat.reduceEqDiff, Nat.reduceLeDiff, Nat.reduceSub, ne_eq, not_false_eq_true, not_true_eq_false, false_implies, true_implies, implies_true, true_and, and_true, eq_self, li0, li1, li2, li3, li4, li5, li6, li7, li8, li9, li10, li11, li12, li15, li18, li21, li22, li23, li24, li27, li30, li32, li39, li50, li51, li59, li60, li63, li75, li87, li90, li99, li100, li111, li121, li126, li131, li141, li150, li400, li900, li987, li1128, li240, i3_add, i3_toNat, vpt, bI_0, bI_1, bI_bo, Bool.not_eq_false, Bool.true_eq_false, Bool.false_eq_true, Bool.not_eq_true, i3_le', i3_lt', i3_eq']
  exact ⟨rfl, rfl⟩
