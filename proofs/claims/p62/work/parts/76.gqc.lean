/-! .. the last plain queries of the class (made by gen/mk/mk76.py) -/
def bcx (a : Int32) : Int32 :=
  let v1 := (a - (((a).toUInt32 >>> (((1 : Int32) : Int32).toUInt32 &&& Int32.toUInt32 31)).toInt32 &&& (1431655765 : Int32)))
  let v2 := ((v1 &&& (858993459 : Int32)) + (((v1).toUInt32 >>> (((2 : Int32) : Int32).toUInt32 &&& Int32.toUInt32 31)).toInt32 &&& (858993459 : Int32)))
  let v3 := ((v2 + ((v2).toUInt32 >>> (((4 : Int32) : Int32).toUInt32 &&& Int32.toUInt32 31)).toInt32) &&& (252645135 : Int32))
  let v4 := (v3 + ((v3).toUInt32 >>> (((8 : Int32) : Int32).toUInt32 &&& Int32.toUInt32 31)).toInt32)
  let v5 := (v4 + ((v4).toUInt32 >>> (((16 : Int32) : Int32).toUInt32 &&& Int32.toUInt32 31)).toInt32)
  v5 &&& (63 : Int32)
theorem bcx_i3 {m : Nat} (h : m < 1024) : bcx (i3 m) = md_sum (fun f => bI (m.testBit f)) 10 := by
  have : ∀ m : Fin 1024, bcx (i3 m.1) = md_sum (fun f => bI (m.1.testBit f)) 10 := by decide +kernel
  exact this ⟨m, h⟩
theorem g_bestCar {G : am_Gx} {d a : Nat} {M : am_Hp} {B : Nat → Nat} {g : md_R} {T : Nat} {f v : Int32} (h : gN M a B g) (hw : md_wf T g) : am_CT G (d + 4) rX6_bestCar [.ref a, .int f, .int v] M 2 12 (xq ["java/lang/IllegalArgumentException", "java/util/NoSuchElementException"] (sq_best g f v) M) := by
  have ok := md_wf_ok hw
  obtain ⟨ta, ra, hR⟩ := h
  have hR0 := hR
  obtain ⟨b0, u0, u1, u2, s1, m1, s2, m2, s3, u4, u5, u6, s4, s5, s6, m4, m5, m6, y0, y1, y2, y3, y4, y5, y6, qc, tc, zc, tp, zp, i3_, i4_, i5_, i6_, i7_, i8_, i9_, f20, f21, f22, f23, f24, f25, f26, f27, e60, e61, e62, e63, e64, e65, e66, l3_, l4_, lx, ly, lz⟩ := bR_f hR ok
  refine am_intro mkX6_bestCar rfl (Nat.le_of_ble_eq_true rfl) rfl (fun X hX hM => ?_)
  refine vX6_bestCar_0 hX hM ⟨by omega, by omega, ct_k k_ckFloor (fun c1 => ct_i k_isWeight ⟨fun a1 => ⟨by omega, by omega, ?_⟩, fun a1 => ?_⟩) (fun c1 => xqk (v := i3 0) (k := 0) (by unfold sq_best; rw [c1]; rfl) rfl)⟩
  · have a2 : md_iw v = false := by
      cases hq : md_iw v with
      | false => rfl
      | true =>
        rw [hq] at a1
        exact absurd a1 (by decide)
    exact xqk (v := i3 0) (k := 0) (by unfold sq_best; rw [if_pos c1, a2]; rfl) rfl
  · have a2 : md_iw v = true := by
      cases hq : md_iw v with
      | true => rfl
      | false =>
        rw [hq] at a1
        exact absurd rfl a1
    simp only [forall_eq]
    rw [ra]
    exact ⟨ta, y0, b0, ct_i (k_choose hR0 hw) ⟨fun a3 => ⟨by omega, by omega, xqk (v := i3 0) (k := 1) (by unfold sq_best; rw [if_pos c1, if_pos a2, if_pos a3]) rfl⟩, fun a3 => xq0 (by unfold sq_best; rw [if_pos c1, if_pos a2, if_neg a3])⟩⟩
theorem md_rm_bt {g : md_R} {v : Int32} : md_rm g v = true ↔ md_bt (i3 0) v (i3 9) = true ∧ v < g 3 := by
  unfold md_rm md_bt
  rw [Bool.and_eq_true, Bool.and_eq_true, Bool.and_eq_true, decide_eq_true_eq, decide_eq_true_eq, decide_eq_true_eq, decide_eq_true_eq, decide_eq_true_eq]
  have e : v < 10 ↔ v ≤ i3 9 := by
    rw [Int32.lt_iff_toInt_lt, Int32.le_iff_toInt_le]
    have e1 : (10 : Int32).toInt = 10 := rfl
    have e2 : (i3 9).toInt = 9 := rfl
    omega
  rw [e]
  exact ⟨fun ⟨x, y, z⟩ => ⟨⟨x, z⟩, y⟩, fun ⟨⟨x, z⟩, y⟩ => ⟨x, y, z⟩⟩
theorem g_tripNumber {G : am_Gx} {d a : Nat} {M : am_Hp} {B : Nat → Nat} {g : md_R} {T : Nat} {v : Int32} (h : gN M a B g) (hw : md_wf T g) (hT : T < 1000000000) : am_CT G (d + 3) rX6_tripNumber [.ref a, .int v] M 1 6 (xq ["java/util/NoSuchElementException"] (sq_trip 111 g v) M) := by
  have ok := md_wf_ok hw
  have h0 := h
  have ok0 := ok
  obtain ⟨ta, ra, hR⟩ := h
  have hR0 := hR
  obtain ⟨t, t1, t2⟩ := hw.2.2.2.2.1
  obtain ⟨b0, u0, u1, u2, s1, m1, s2, m2, s3, u4, u5, u6, s4, s5, s6, m4, m5, m6, y0, y1, y2, y3, y4, y5, y6, qc, tc, zc, tp, zp, i3_, i4_, i5_, i6_, i7_, i8_, i9_, f20, f21, f22, f23, f24, f25, f26, f27, e60, e61, e62, e63, e64, e65, e66, l3_, l4_, lx, ly, lz⟩ := bR_f hR ok
  refine am_intro mkX6_tripNumber rfl (Nat.le_of_ble_eq_true rfl) rfl (fun X hX hM => ?_)
  refine vX6_tripNumber_0 hX hM ⟨ta, by omega, by omega, ct_k (k_ckTrip h0 ok0) (fun c1 => ?_) (fun c1 => xqk (v := i3 0) (k := 0) (by unfold sq_trip; rw [if_neg (fun z => absurd (md_rm_bt.mpr z) (by rw [c1]; decide))]) rfl)⟩
  have c2 := md_rm_bt.mp c1
  obtain ⟨r, hr, rfl⟩ := md_bt_9 c2.1
  have hrt : r < t := by
    have := c2.2
    rw [t2, i3_lt (by omega) (by omega)] at this
    exact this
  simp only [forall_eq]
  rw [ra, u2, u4]
  refine ⟨ta, y0, b0, y3, s3, y4, y0, b0, y3, s3, ct_i (k_placeOf hR0 t2 hrt (by omega)) ⟨s4, ?_, xq0 ?_⟩⟩
  · rw [m4]
    exact vp_in_i3 (by omega) (by omega)
  · rw [i3_toNat (by omega), hR0.2.2.2.2.2.2.2.1 _ (by omega)]
    unfold sq_trip
    rw [if_pos c2, t2, i3_toNat (by omega), i3_toNat (by omega)]
theorem g_tripCar {G : am_Gx} {d a : Nat} {M : am_Hp} {B : Nat → Nat} {g : md_R} {T : Nat} {v : Int32} (h : gN M a B g) (hw : md_wf T g) (hT : T < 1000000000) : am_CT G (d + 3) rX6_tripCar [.ref a, .int v] M 1 6 (xq ["java/util/NoSuchElementException"] (sq_trip 121 g v) M) := by
  have ok := md_wf_ok hw
  have h0 := h
  have ok0 := ok
  obtain ⟨ta, ra, hR⟩ := h
  have hR0 := hR
  obtain ⟨t, t1, t2⟩ := hw.2.2.2.2.1
  obtain ⟨b0, u0, u1, u2, s1, m1, s2, m2, s3, u4, u5, u6, s4, s5, s6, m4, m5, m6, y0, y1, y2, y3, y4, y5, y6, qc, tc, zc, tp, zp, i3_, i4_, i5_, i6_, i7_, i8_, i9_, f20, f21, f22, f23, f24, f25, f26, f27, e60, e61, e62, e63, e64, e65, e66, l3_, l4_, lx, ly, lz⟩ := bR_f hR ok
  refine am_intro mkX6_tripCar rfl (Nat.le_of_ble_eq_true rfl) rfl (fun X hX hM => ?_)
  refine vX6_tripCar_0 hX hM ⟨ta, by omega, by omega, ct_k (k_ckTrip h0 ok0) (fun c1 => ?_) (fun c1 => xqk (v := i3 0) (k := 0) (by unfold sq_trip; rw [if_neg (fun z => absurd (md_rm_bt.mpr z) (by rw [c1]; decide))]) rfl)⟩
  have c2 := md_rm_bt.mp c1
  obtain ⟨r, hr, rfl⟩ := md_bt_9 c2.1
  have hrt : r < t := by
    have := c2.2
    rw [t2, i3_lt (by omega) (by omega)] at this
    exact this
  simp only [forall_eq]
  rw [ra, u2, u5]
  refine ⟨ta, y0, b0, y3, s3, y5, y0, b0, y3, s3, ct_i (k_placeOf hR0 t2 hrt (by omega)) ⟨s5, ?_, xq0 ?_⟩⟩
  · rw [m5]
    exact vp_in_i3 (by omega) (by omega)
  · rw [i3_toNat (by omega), hR0.2.2.2.2.2.2.2.2.1 _ (by omega)]
    unfold sq_trip
    rw [if_pos c2, t2, i3_toNat (by omega), i3_toNat (by omega)]
theorem g_tripWaiting {G : am_Gx} {d a : Nat} {M : am_Hp} {B : Nat → Nat} {g : md_R} {T : Nat} {v : Int32} (h : gN M a B g) (hw : md_wf T g) (hT : T < 1000000000) : am_CT G (d + 3) rX6_tripWaiting [.ref a, .int v] M 1 6 (xq ["java/util/NoSuchElementException"] (sq_trip 131 g v) M) := by
  have ok := md_wf_ok hw
  have h0 := h
  have ok0 := ok
  obtain ⟨ta, ra, hR⟩ := h
  have hR0 := hR
  obtain ⟨t, t1, t2⟩ := hw.2.2.2.2.1
  obtain ⟨b0, u0, u1, u2, s1, m1, s2, m2, s3, u4, u5, u6, s4, s5, s6, m4, m5, m6, y0, y1, y2, y3, y4, y5, y6, qc, tc, zc, tp, zp, i3_, i4_, i5_, i6_, i7_, i8_, i9_, f20, f21, f22, f23, f24, f25, f26, f27, e60, e61, e62, e63, e64, e65, e66, l3_, l4_, lx, ly, lz⟩ := bR_f hR ok
  refine am_intro mkX6_tripWaiting rfl (Nat.le_of_ble_eq_true rfl) rfl (fun X hX hM => ?_)
  refine vX6_tripWaiting_0 hX hM ⟨ta, by omega, by omega, ct_k (k_ckTrip h0 ok0) (fun c1 => ?_) (fun c1 => xqk (v := i3 0) (k := 0) (by unfold sq_trip; rw [if_neg (fun z => absurd (md_rm_bt.mpr z) (by rw [c1]; decide))]) rfl)⟩
  have c2 := md_rm_bt.mp c1
  obtain ⟨r, hr, rfl⟩ := md_bt_9 c2.1
  have hrt : r < t := by
    have := c2.2
    rw [t2, i3_lt (by omega) (by omega)] at this
    exact this
  simp only [forall_eq]
  rw [ra, u2, u6]
  refine ⟨ta, y0, b0, y3, s3, y6, y0, b0, y3, s3, ct_i (k_placeOf hR0 t2 hrt (by omega)) ⟨s6, ?_, xq0 ?_⟩⟩
  · rw [m6]
    exact vp_in_i3 (by omega) (by omega)
  · rw [i3_toNat (by omega), hR0.2.2.2.2.2.2.2.2.2 _ (by omega)]
    unfold sq_trip
    rw [if_pos c2, t2, i3_toNat (by omega), i3_toNat (by omega)]
theorem g_carByEnergy {G : am_Gx} {d a : Nat} {M : am_Hp} {B : Nat → Nat} {g : md_R} {T : Nat} {v : Int32} (h : gN M a B g) (hw : md_wf T g) (hT : T < 1000000000) : am_CT G (d + 4) rX6_carByEnergy [.ref a, .int v] M 1 6 (xq ["java/util/NoSuchElementException"] (sq_ce g v) M) := by
  have ok := md_wf_ok hw
  have h12 := ok.2
  obtain ⟨ta, ra, hR⟩ := h
  have hR0 := hR
  obtain ⟨b0, u0, u1, u2, s1, m1, s2, m2, s3, u4, u5, u6, s4, s5, s6, m4, m5, m6, y0, y1, y2, y3, y4, y5, y6, qc, tc, zc, tp, zp, i3_, i4_, i5_, i6_, i7_, i8_, i9_, f20, f21, f22, f23, f24, f25, f26, f27, e60, e61, e62, e63, e64, e65, e66, l3_, l4_, lx, ly, lz⟩ := bR_f hR ok
  refine am_intro mkX6_carByEnergy rfl (Nat.le_of_ble_eq_true rfl) rfl (fun X hX hM => ?_)
  have L : ∀ k j, j + k = 3 → sq_ce g v = md_ff (fun p => decide (md_ce g p = v)) k j → am_J X 2 [(0, .ref a), (1, .int v), (2, .int (i3 j))] [] M 1 6 := by
    intro k
    induction k with
    | zero =>
      intro j hj e
      refine vX6_carByEnergy_2 hX hM (fun x0 x1 x2 M bc bs => am_J X 2 [(0, .ref x0), (1, .int x1), (2, .int x2)] [] M bc bs) (fun _ _ _ _ _ _ h => h) ?_
      simp only [forall_eq]
      refine ⟨fun _ => ⟨by omega, by omega, xqk (k := 0) (e.trans rfl) rfl⟩, fun z => absurd ((i3_le (a := 3) (by omega) (by omega)).mpr (by omega)) z⟩
    | succ k ih =>
      intro j hj e
      rw [md_ff] at e
      refine vX6_carByEnergy_2 hX hM (fun x0 x1 x2 M bc bs => am_J X 2 [(0, .ref x0), (1, .int x1), (2, .int x2)] [] M bc bs) (fun _ _ _ _ _ _ h => h) ?_
      simp only [forall_eq]
      rw [ra]
      refine ⟨fun z => absurd ((i3_le (a := 3) (by omega) (by omega)).mp z) (by omega), fun _ => ⟨ta, y0, b0, ct_i (k_more hR0 hw hT (by omega)) ⟨fun a1 => ?_, fun a1 => ?_⟩⟩⟩
      · rw [if_pos (decide_eq_true a1)] at e
        exact xq0 e
      · rw [if_neg (fun z => a1 (of_decide_eq_true z))] at e
        rw [i3_one]
        exact ih (j + 1) (by omega) e
  exact vX6_carByEnergy_0 hX hM (fun x0 x1 x2 M bc bs => am_J X 2 [(0, .ref x0), (1, .int x1), (2, .int x2)] [] M bc bs) (fun _ _ _ _ _ _ h => h) (L _ 0 (Nat.zero_add _) rfl)
theorem g_totalEnergy {G : am_Gx} {d a : Nat} {M : am_Hp} {B : Nat → Nat} {g : md_R} (h : gN M a B g) (ok : md_ok g) : am_CT G (d + 2) rX6_totalEnergy [.ref a] M 0 0 (ql (md_te g) M) := by
  obtain ⟨ta, ra, hR⟩ := h
  have hR0 := hR
  have ok0 := ok
  obtain ⟨b0, u0, u1, u2, s1, m1, s2, m2, s3, u4, u5, u6, s4, s5, s6, m4, m5, m6, y0, y1, y2, y3, y4, y5, y6, qc, tc, zc, tp, zp, i3_, i4_, i5_, i6_, i7_, i8_, i9_, f20, f21, f22, f23, f24, f25, f26, f27, e60, e61, e62, e63, e64, e65, e66, l3_, l4_, lx, ly, lz⟩ := bR_f hR ok
  refine am_intro mkX6_totalEnergy rfl (Nat.le_of_ble_eq_true rfl) rfl (fun X hX hM => ?_)
  refine vX6_totalEnergy_0 hX hM ?_
  simp only [forall_eq]
  rw [ra]
  exact ⟨ta, y0, b0, ct_l (k_sum hR0 ok0) ⟨rfl, rfl⟩⟩
theorem g_totalEnergyByMoves {G : am_Gx} {d a : Nat} {M : am_Hp} {B : Nat → Nat} {g : md_R} (h : gN M a B g) (ok : md_ok g) : am_CT G (d + 2) rX6_totalEnergyByMoves [.ref a] M 0 0 (ql (md_tm g) M) := by
  obtain ⟨ta, ra, hR⟩ := h
  have hR0 := hR
  have ok0 := ok
  obtain ⟨b0, u0, u1, u2, s1, m1, s2, m2, s3, u4, u5, u6, s4, s5, s6, m4, m5, m6, y0, y1, y2, y3, y4, y5, y6, qc, tc, zc, tp, zp, i3_, i4_, i5_, i6_, i7_, i8_, i9_, f20, f21, f22, f23, f24, f25, f26, f27, e60, e61, e62, e63, e64, e65, e66, l3_, l4_, lx, ly, lz⟩ := bR_f hR ok
  refine am_intro mkX6_totalEnergyByMoves rfl (Nat.le_of_ble_eq_true rfl) rfl (fun X hX hM => ?_)
  refine vX6_totalEnergyByMoves_0 hX hM ?_
  simp only [forall_eq]
  rw [ra]
  exact ⟨ta, y0, b0, ct_l (k_moves hR0 ok0) ⟨rfl, rfl⟩⟩
theorem g_errorPosition {G : am_Gx} {d a : Nat} {M : am_Hp} (ta : hp_T M a = 7) : am_CT G (d + 1) rX6_errorPosition [.ref a] M 1 6 (xq ["java/util/NoSuchElementException"] (sq_flag (hp_I M 127 a)) M) := by
  refine am_intro mkX6_errorPosition rfl (Nat.le_of_ble_eq_true rfl) rfl (fun X hX hM => ?_)
  exact vX6_errorPosition_0 hX hM ⟨ta, fun a1 => ⟨by omega, by omega, xqk (v := i3 0) (k := 0) (by unfold sq_flag; rw [if_pos a1]) rfl⟩, fun a1 => xq0 (by unfold sq_flag; rw [if_neg a1])⟩
theorem g_failedCommand {G : am_Gx} {d a : Nat} {M : am_Hp} (ta : hp_T M a = 7) : am_CT G (d + 1) rX6_failedCommand [.ref a] M 1 6 (xq ["java/util/NoSuchElementException"] (sq_flag (hp_I M 128 a)) M) := by
  refine am_intro mkX6_failedCommand rfl (Nat.le_of_ble_eq_true rfl) rfl (fun X hX hM => ?_)
  exact vX6_failedCommand_0 hX hM ⟨ta, fun a1 => ⟨by omega, by omega, xqk (v := i3 0) (k := 0) (by unfold sq_flag; rw [if_pos a1]) rfl⟩, fun a1 => xq0 (by unfold sq_flag; rw [if_neg a1])⟩
