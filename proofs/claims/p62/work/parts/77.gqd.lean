/-! .. consistency, mean waiting, load share (made by gen/mk/mk77.py) -/
theorem i3_64 {k : Nat} (h : k < 2147483648) : (i3 k).toInt64 = Int64.ofNat k := by
  rw [← Int64.toInt_inj, Int32.toInt_toInt64, i3_toInt h, Int64.toInt_ofNat_of_lt (by omega)]
theorem md_tetm {T : Nat} {g : md_R} (hw : md_wf T g) (hT : T < 1000000000) : md_te g = md_tm g := by
  obtain ⟨-, hc, -, -, -, u, e, o, h, e5, e6, e7, e8, hu, he, ho, hh, hs⟩ := hw
  obtain ⟨-, -, -, -, -, a, a1, a2⟩ := hc 0 (by omega)
  obtain ⟨-, -, -, -, -, b, b1, b2⟩ := hc 1 (by omega)
  obtain ⟨-, -, -, -, -, c, c1, c2⟩ := hc 2 (by omega)
  rw [Nat.add_zero] at a2
  rw [show 24 + 1 = 25 from rfl] at b2
  rw [show 24 + 2 = 26 from rfl] at c2
  rw [a2, b2, c2, i3_toNat (by omega), i3_toNat (by omega), i3_toNat (by omega)] at hs
  unfold md_te md_tm
  rw [a2, b2, c2, e5, e6, e7, e8, i3_64 (by omega), i3_64 (by omega), i3_64 (by omega), i3_64 (by omega), i3_64 (by omega), i3_64 (by omega), i3_64 (by omega), ← Int64.ofNat_add, ← Int64.ofNat_add, show (2 : Int64) = Int64.ofNat 2 from rfl, ← Int64.ofNat_mul, ← Int64.ofNat_add, ← Int64.ofNat_add, ← Int64.ofNat_add, hs]
theorem g_isConsistent {G : am_Gx} {d a : Nat} {M : am_Hp} {B : Nat → Nat} {g : md_R} {T : Nat} (h : gN M a B g) (hw : md_wf T g) (hT : T < 1000000000) : am_CT G (d + 4) rX6_isConsistent [.ref a] M 0 0 (qi (i3 1) M) := by
  have ok := md_wf_ok hw
  obtain ⟨ta, ra, hR⟩ := h
  have hR0 := hR
  have ok0 := ok
  obtain ⟨b0, u0, u1, u2, s1, m1, s2, m2, s3, u4, u5, u6, s4, s5, s6, m4, m5, m6, y0, y1, y2, y3, y4, y5, y6, qc, tc, zc, tp, zp, i3_, i4_, i5_, i6_, i7_, i8_, i9_, f20, f21, f22, f23, f24, f25, f26, f27, e60, e61, e62, e63, e64, e65, e66, l3_, l4_, lx, ly, lz⟩ := bR_f hR ok
  refine am_intro mkX6_isConsistent rfl (Nat.le_of_ble_eq_true rfl) rfl (fun X hX hM => ?_)
  refine vX6_isConsistent_0 hX hM ?_
  simp only [forall_eq]
  rw [ra]
  refine ⟨ta, y0, b0, ct_i (k_agree hR0 hw) ⟨fun z => absurd z (by decide), fun _ => ?_⟩⟩
  refine ⟨ta, by rw [ra]; exact y0, by rw [ra]; exact b0, ?_⟩
  rw [ra]
  refine ct_l (k_sum hR0 ok0) ?_
  refine ⟨ta, by rw [ra]; exact y0, by rw [ra]; exact b0, ?_⟩
  rw [ra]
  refine ct_l (k_moves hR0 ok0) ⟨fun _ => ?_, fun z => absurd (show lg_cmp (md_te g) (md_tm g) = 0 from ?_) z⟩
  · refine ⟨ta, by rw [ra]; exact y0, by rw [ra]; exact b0, ?_⟩
    rw [ra]
    refine ct_i (k_fit hR0 hw) ⟨fun z => absurd z (by decide), fun _ => ?_⟩
    refine ⟨ta, by rw [ra]; exact y0, by rw [ra]; exact b0, ?_⟩
    rw [ra]
    exact ct_i (k_serve hR0 hw) ⟨fun z => absurd z (by decide), fun _ => ⟨rfl, rfl⟩⟩
  · rw [md_tetm hw hT]
    unfold lg_cmp
    simp
abbrev xd (ns : List String) (s : Nat × UInt64) (M : am_Hp) : am_Q := fun o M' => o = (if s.1 = 0 then .inl (some (.double s.2)) else .inr (ns.getD (s.1 - 1) "")) ∧ M' = M
abbrev xf (ns : List String) (s : Nat × UInt32) (M : am_Hp) : am_Q := fun o M' => o = (if s.1 = 0 then .inl (some (.float s.2)) else .inr (ns.getD (s.1 - 1) "")) ∧ M' = M
theorem g_meanWaiting {G : am_Gx} {d a : Nat} {M : am_Hp} {B : Nat → Nat} {g : md_R} (h : gN M a B g) (ok : md_ok g) : am_CT G (d + 1) rX6_meanWaiting [.ref a] M 1 6 (xd ["java/lang/ArithmeticException"] (sq_mean g) M) := by
  obtain ⟨ta, ra, hR⟩ := h
  obtain ⟨b0, u0, u1, u2, s1, m1, s2, m2, s3, u4, u5, u6, s4, s5, s6, m4, m5, m6, y0, y1, y2, y3, y4, y5, y6, qc, tc, zc, tp, zp, i3_, i4_, i5_, i6_, i7_, i8_, i9_, f20, f21, f22, f23, f24, f25, f26, f27, e60, e61, e62, e63, e64, e65, e66, l3_, l4_, lx, ly, lz⟩ := bR_f hR ok
  refine am_intro mkX6_meanWaiting rfl (Nat.le_of_ble_eq_true rfl) rfl (fun X hX hM => ?_)
  refine vX6_meanWaiting_0 hX hM ?_
  simp only [forall_eq]
  rw [ra, u2, l3_, l4_]
  refine ⟨ta, y0, b0, y3, s3, fun a1 => ⟨by omega, by omega, ?_⟩, fun a1 => ⟨y0, b0, y3, s3, y0, b0, y3, s3, nn64 a1, ?_⟩⟩
  · unfold sq_mean
    rw [if_pos (show g 3 = i3 0 from a1)]
    exact ⟨rfl, rfl⟩
  · unfold sq_mean
    rw [if_neg (show ¬ g 3 = i3 0 from a1)]
    exact ⟨rfl, rfl⟩
