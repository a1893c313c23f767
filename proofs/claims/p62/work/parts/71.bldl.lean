/-! .. the walk of a car to a floor -/
theorem k_compare {G : am_Gx} {d : Nat} {M : am_Hp} {a b : Int32} : am_CT G (d + 1) rJ6_compare_7cf53 [.int a, .int b] M 0 0 (qi (if b ≤ a then (if a = b then 0 else 1) else -1) M) := by
  refine am_intro mkJ6_compare_7cf53 rfl (Nat.le_of_ble_eq_true rfl) rfl (fun X hX hM => ?_)
  refine vJ6_compare_7cf53_0 hX hM ⟨fun a1 => ⟨fun a2 => ⟨?_, rfl⟩, fun a2 => ⟨?_, rfl⟩⟩, fun a1 => ⟨?_, rfl⟩⟩
  · rw [if_pos a1, if_pos a2]
  · rw [if_pos a1, if_neg a2]
  · rw [if_neg a1]
theorem md_hc_up {m f d : Nat} (hf : f < 10) (hd : d < 21) : md_hc m f 1 d = (decide (f + d < 10) && m.testBit (f + d)) := by
  unfold md_hc
  rw [Int32.mul_comm (i3 d) 1, (md_fl_up hf hd).2, (md_fl_up hf hd).1, i3_toNat (by omega)]
theorem md_hc_dn {m f d : Nat} (hf : f < 10) (hd : d < 21) : md_hc m f (-1) d = (decide (d ≤ f) && m.testBit (f - d)) := by
  unfold md_hc
  rw [Int32.mul_comm (i3 d) (-1), (md_fl_dn hf hd).2]
  by_cases h : d ≤ f
  · rw [(md_fl_dn hf hd).1 h, i3_toNat (by omega)]
  · rw [decide_eq_false h]
    rfl
theorem md_la_is (P : Nat → Bool) : ∀ k, (md_la P k = 0 ∨ P (md_la P k) = true) ∧ ∀ d, md_la P k < d → d ≤ k → P d = false
  | 0 => ⟨.inl rfl, fun d h1 h2 => by omega⟩
  | k + 1 => by
    obtain ⟨h1, h2⟩ := md_la_is P k
    rw [md_la]
    cases h : P (k + 1) with
    | true =>
      rw [if_pos rfl]
      exact ⟨.inr h, fun d h3 h4 => by omega⟩
    | false =>
      rw [if_neg (by decide)]
      refine ⟨h1, fun d h3 h4 => ?_⟩
      by_cases e : d = k + 1
      · rw [e, h]
      · exact h2 d h3 (by omega)
theorem md_up_L {m f : Nat} (hf : f < 10) : f + md_la (md_hc m f 1) 9 < 10 ∧ ∀ j, j ≤ md_la (md_hc m f 1) 9 → (md_go (md_hc m (f + j) 1) 9 1 = 0 ↔ j = md_la (md_hc m f 1) 9) := by
  obtain ⟨h1, h2⟩ := md_la_is (md_hc m f 1) 9
  have h9 := md_la_le (md_hc m f 1) 9
  generalize md_la (md_hc m f 1) 9 = L at h1 h2 h9 ⊢
  have hL : f + L < 10 ∧ (L = 0 ∨ m.testBit (f + L) = true) := by
    rcases h1 with z | z
    · exact ⟨by omega, .inl z⟩
    · rw [md_hc_up hf (by omega), Bool.and_eq_true, decide_eq_true_eq] at z
      exact ⟨z.1, .inr z.2⟩
  refine ⟨hL.1, fun j hj => ⟨fun z => ?_, fun z => ?_⟩⟩
  · by_cases e : j = L
    · exact e
    · have q := md_go_zero 9 1 (by omega) z (L - j) (by omega) (by omega)
      rw [md_hc_up (by omega) (by omega), show f + j + (L - j) = f + L by omega, decide_eq_true hL.1, Bool.true_and] at q
      rcases hL.2 with y | y
      · omega
      · rw [y] at q
        exact absurd q (by decide)
  · rw [z]
    refine md_go_none 9 1 (fun d d1 d2 => ?_)
    rw [md_hc_up (by omega) (by omega)]
    by_cases e : f + L + d < 10
    · have q := h2 (L + d) (by omega) (by omega)
      rw [md_hc_up hf (by omega), ← Nat.add_assoc] at q
      exact q
    · rw [decide_eq_false e]
      rfl
theorem md_dn_L {m f : Nat} (hf : f < 10) : md_la (md_hc m f (-1)) 9 ≤ f ∧ ∀ j, j ≤ md_la (md_hc m f (-1)) 9 → (md_go (md_hc m (f - j) (-1)) 9 1 = 0 ↔ j = md_la (md_hc m f (-1)) 9) := by
  obtain ⟨h1, h2⟩ := md_la_is (md_hc m f (-1)) 9
  have h9 := md_la_le (md_hc m f (-1)) 9
  generalize md_la (md_hc m f (-1)) 9 = L at h1 h2 h9 ⊢
  have hL : L ≤ f ∧ (L = 0 ∨ m.testBit (f - L) = true) := by
    rcases h1 with z | z
    · exact ⟨by omega, .inl z⟩
    · rw [md_hc_dn hf (by omega), Bool.and_eq_true, decide_eq_true_eq] at z
      exact ⟨z.1, .inr z.2⟩
  have hLf := hL.1
  refine ⟨hL.1, fun j hj => ⟨fun z => ?_, fun z => ?_⟩⟩
  · by_cases e : j = L
    · exact e
    · have q := md_go_zero 9 1 (by omega) z (L - j) (by omega) (by omega)
      rw [md_hc_dn (by omega) (by omega), show f - j - (L - j) = f - L by omega, decide_eq_true (by omega), Bool.true_and] at q
      rcases hL.2 with y | y
      · omega
      · rw [y] at q
        exact absurd q (by decide)
  · rw [z]
    refine md_go_none 9 1 (fun d d1 d2 => ?_)
    rw [md_hc_dn (by omega) (by omega)]
    by_cases e : d ≤ f - L
    · have q := h2 (L + d) (by omega) (by omega)
      rw [md_hc_dn hf (by omega), Nat.sub_add_eq, decide_eq_true (by omega)] at q
      rw [decide_eq_true e]
      exact q
    · rw [decide_eq_false e]
      rfl
theorem md_sg {v f : Nat} (hv : v < 10) (hf : f < 10) : ((0 : Int32) ≤ (i3 v - i3 f) * 1 ↔ f ≤ v) ∧ ((0 : Int32) ≤ (i3 v - i3 f) * (-1) ↔ v ≤ f) ∧ md_abs (i3 v - i3 f) = i3 (v - f + (f - v)) := by
  have : ∀ v : Fin 10, ∀ f : Fin 10, ((0 : Int32) ≤ (i3 v.1 - i3 f.1) * 1 ↔ f.1 ≤ v.1) ∧ ((0 : Int32) ≤ (i3 v.1 - i3 f.1) * (-1) ↔ v.1 ≤ f.1) ∧ md_abs (i3 v.1 - i3 f.1) = i3 (v.1 - f.1 + (f.1 - v.1)) := by decide +kernel
  exact this ⟨v, hv⟩ ⟨f, hf⟩
theorem i3_dn {n : Nat} (h : 0 < n) : i3 n + (-1) = i3 (n - 1) := by
  obtain ⟨k, rfl⟩ : ∃ k, n = k + 1 := ⟨n - 1, by omega⟩
  rw [← i3_add, Int32.add_assoc]
  exact Int32.add_zero _
theorem k_estM {G : am_Gx} {d T : Nat} {M : am_Hp} {B : Nat → Nat} {g : md_R} {c v : Nat} (hR : bR M B g) (hw : md_wf T g) (hc : c < 3) (hv : v < 10) : am_CT G (d + 2) rX0_estimateByMoving [.ref (B 0), .int (i3 c), .int (i3 v)] M 0 0 (qi (md_es g c (i3 v)) M) := by
  have ok := md_wf_ok hw
  have h12 := ok.2
  have hR0 := hR
  have hm := md_mk_lt (c := c) hw.2.2.1
  obtain ⟨⟨f, hf, fe⟩, hdir, -⟩ := hw.2.1 c hc
  obtain ⟨b0, u0, u1, u2, s1, m1, s2, m2, s3, u4, u5, u6, s4, s5, s6, m4, m5, m6, y0, y1, y2, y3, y4, y5, y6, qc, tc, zc, tp, zp, i3_, i4_, i5_, i6_, i7_, i8_, i9_, f20, f21, f22, f23, f24, f25, f26, f27, e60, e61, e62, e63, e64, e65, e66, l3_, l4_, lx, ly, lz⟩ := bR_f hR ok
  refine am_intro mkX0_estimateByMoving rfl (Nat.le_of_ble_eq_true rfl) rfl (fun X hX hM => ?_)
  have E : ∀ t, md_es g c (i3 v) = md_is g c + i3 t → qi (md_es g c (i3 v)) M (.inl (some (.int (hp_I M 24 (B (7 + c)) + i3 t)))) M := fun t e => by
    rw [f24 c hc]
    exact ⟨by rw [e], rfl⟩
  have U : ∀ k f t, f + k = v → t + k ≤ 20 → md_es g c (i3 v) = md_is g c + i3 (t + k) → am_J X 48 [(2, .int (i3 v)), (3, .ref (B (7 + c))), (4, .int (i3 (md_mk g c))), (5, .int (i3 f)), (6, .int 1), (7, .int (i3 t)), (8, .int (i3 t))] [] M 0 0 := by
    intro k
    induction k with
    | zero =>
      intro f t hk ht e
      exact vX0_estimateByMoving_48 hX hM (fun x2 x3 x4 x5 x6 x7 x8 M => am_J X 48 [(2, .int x2), (3, .ref x3), (4, .int x4), (5, .int x5), (6, .int x6), (7, .int x7), (8, .int x8)] [] M 0 0) (fun _ _ _ _ _ _ _ _ h => h) ⟨fun _ => ⟨tc c hc, E t e⟩, fun _ => ⟨fun _ => ⟨tc c hc, E t e⟩, fun z => absurd (show i3 f = i3 v by rw [show f = v by omega]) z⟩⟩
    | succ k ih =>
      intro f t hk ht e
      have I := ih (f + 1) (t + 1) (by omega) (by omega) (by rw [e]; congr 2; omega)
      rw [← i3_one, ← i3_one] at I
      refine vX0_estimateByMoving_48 hX hM (fun x2 x3 x4 x5 x6 x7 x8 M => am_J X 48 [(2, .int x2), (3, .ref x3), (4, .int x4), (5, .int x5), (6, .int x6), (7, .int x7), (8, .int x8)] [] M 0 0) (fun _ _ _ _ _ _ _ _ h => h) ⟨fun z => absurd ((i3_le (a := 20) (by omega) (by omega)).mp z) (by omega), fun _ => ⟨fun z => absurd ((i3_eq (by omega) (by omega)).mp z) (by omega), fun _ => ⟨fun _ => ⟨fun _ => ?_, fun z => absurd rfl z⟩, fun z => absurd ((md_sg hv (by omega)).1.mpr (by omega)) z⟩⟩⟩
      rintro _ rfl _ rfl _ rfl
      exact I
  have D : ∀ k f t, v + k = f → f < 10 → t + k ≤ 20 → md_es g c (i3 v) = md_is g c + i3 (t + k) → am_J X 48 [(2, .int (i3 v)), (3, .ref (B (7 + c))), (4, .int (i3 (md_mk g c))), (5, .int (i3 f)), (6, .int (-1)), (7, .int (i3 t)), (8, .int (i3 t))] [] M 0 0 := by
    intro k
    induction k with
    | zero =>
      intro f t hk hf ht e
      exact vX0_estimateByMoving_48 hX hM (fun x2 x3 x4 x5 x6 x7 x8 M => am_J X 48 [(2, .int x2), (3, .ref x3), (4, .int x4), (5, .int x5), (6, .int x6), (7, .int x7), (8, .int x8)] [] M 0 0) (fun _ _ _ _ _ _ _ _ h => h) ⟨fun _ => ⟨tc c hc, E t e⟩, fun _ => ⟨fun _ => ⟨tc c hc, E t e⟩, fun z => absurd (show i3 f = i3 v by rw [show f = v by omega]) z⟩⟩
    | succ k ih =>
      intro f t hk hf ht e
      have I := ih (f - 1) (t + 1) (by omega) (by omega) (by omega) (by rw [e]; congr 2; omega)
      rw [← i3_dn (show 0 < f by omega), ← i3_one] at I
      refine vX0_estimateByMoving_48 hX hM (fun x2 x3 x4 x5 x6 x7 x8 M => am_J X 48 [(2, .int x2), (3, .ref x3), (4, .int x4), (5, .int x5), (6, .int x6), (7, .int x7), (8, .int x8)] [] M 0 0) (fun _ _ _ _ _ _ _ _ h => h) ⟨fun z => absurd ((i3_le (a := 20) (by omega) (by omega)).mp z) (by omega), fun _ => ⟨fun z => absurd ((i3_eq (by omega) (by omega)).mp z) (by omega), fun _ => ⟨fun _ => ⟨fun _ => ?_, fun z => absurd rfl z⟩, fun z => absurd ((md_sg hv (by omega)).2.1.mpr (by omega)) z⟩⟩⟩
      rintro _ rfl _ rfl _ rfl
      exact I
  have BU : ∀ k j, j + k = md_la (md_hc (md_mk g c) f 1) 9 → v < f → md_es g c (i3 v) = md_is g c + i3 (2 * md_la (md_hc (md_mk g c) f 1) 9 + (f - v)) → am_J X 48 [(2, .int (i3 v)), (3, .ref (B (7 + c))), (4, .int (i3 (md_mk g c))), (5, .int (i3 (f + j))), (6, .int 1), (7, .int (i3 j)), (8, .int (i3 j))] [] M 0 0 := by
    obtain ⟨l1, l2⟩ := md_up_L (m := md_mk g c) hf
    generalize md_la (md_hc (md_mk g c) f 1) 9 = L at l1 l2 ⊢
    intro k
    induction k with
    | zero =>
      intro j hj hvf e
      have I := D (f + j - 1 - v) (f + j - 1) (j + 1) (by omega) (by omega) (by omega) (by rw [e]; congr 2; omega)
      rw [← i3_dn (show 0 < f + j by omega), ← i3_one] at I
      refine vX0_estimateByMoving_48 hX hM (fun x2 x3 x4 x5 x6 x7 x8 M => am_J X 48 [(2, .int x2), (3, .ref x3), (4, .int x4), (5, .int x5), (6, .int x6), (7, .int x7), (8, .int x8)] [] M 0 0) (fun _ _ _ _ _ _ _ _ h => h) ⟨fun z => absurd ((i3_le (a := 20) (by omega) (by omega)).mp z) (by omega), fun _ => ⟨fun z => absurd ((i3_eq (by omega) (by omega)).mp z) (by omega), fun _ => ⟨fun z => absurd ((md_sg hv (by omega)).1.mp z) (by omega), fun _ => ⟨fun z => absurd z (by decide), fun _ => ct_i (k_first hm) ?_⟩⟩⟩⟩
      rw [(l2 j (by omega)).mpr (by omega)]
      refine ⟨fun _ => ?_, fun z => absurd rfl z⟩
      rintro _ rfl _ rfl _ rfl _ rfl
      exact I
    | succ k ih =>
      intro j hj hvf e
      have I := ih (j + 1) (by omega) hvf e
      rw [← Nat.add_assoc, ← i3_one, ← i3_one] at I
      refine vX0_estimateByMoving_48 hX hM (fun x2 x3 x4 x5 x6 x7 x8 M => am_J X 48 [(2, .int x2), (3, .ref x3), (4, .int x4), (5, .int x5), (6, .int x6), (7, .int x7), (8, .int x8)] [] M 0 0) (fun _ _ _ _ _ _ _ _ h => h) ⟨fun z => absurd ((i3_le (a := 20) (by omega) (by omega)).mp z) (by omega), fun _ => ⟨fun z => absurd ((i3_eq (by omega) (by omega)).mp z) (by omega), fun _ => ⟨fun z => absurd ((md_sg hv (by omega)).1.mp z) (by omega), fun _ => ⟨fun z => absurd z (by decide), fun _ => ct_i (k_first hm) ?_⟩⟩⟩⟩
      have n0 : md_go (md_hc (md_mk g c) (f + j) 1) 9 1 ≠ 0 := fun z => absurd ((l2 j (by omega)).mp z) (by omega)
      have q := md_go_le (md_hc (md_mk g c) (f + j) 1) 9 1
      refine ⟨fun z => absurd ((i3_eq (b := 0) (by omega) (by omega)).mp z) n0, fun _ => ?_⟩
      rintro _ rfl _ rfl _ rfl
      exact I
  have BD : ∀ k j, j + k = md_la (md_hc (md_mk g c) f (-1)) 9 → f < v → md_es g c (i3 v) = md_is g c + i3 (2 * md_la (md_hc (md_mk g c) f (-1)) 9 + (v - f)) → am_J X 48 [(2, .int (i3 v)), (3, .ref (B (7 + c))), (4, .int (i3 (md_mk g c))), (5, .int (i3 (f - j))), (6, .int (-1)), (7, .int (i3 j)), (8, .int (i3 j))] [] M 0 0 := by
    obtain ⟨l1, l2⟩ := md_dn_L (m := md_mk g c) hf
    generalize md_la (md_hc (md_mk g c) f (-1)) 9 = L at l1 l2 ⊢
    intro k
    induction k with
    | zero =>
      intro j hj hvf e
      have I := U (v - (f - j + 1)) (f - j + 1) (j + 1) (by omega) (by omega) (by rw [e]; congr 2; omega)
      rw [← i3_one, ← i3_one] at I
      refine vX0_estimateByMoving_48 hX hM (fun x2 x3 x4 x5 x6 x7 x8 M => am_J X 48 [(2, .int x2), (3, .ref x3), (4, .int x4), (5, .int x5), (6, .int x6), (7, .int x7), (8, .int x8)] [] M 0 0) (fun _ _ _ _ _ _ _ _ h => h) ⟨fun z => absurd ((i3_le (a := 20) (by omega) (by omega)).mp z) (by omega), fun _ => ⟨fun z => absurd ((i3_eq (by omega) (by omega)).mp z) (by omega), fun _ => ⟨fun z => absurd ((md_sg hv (by omega)).2.1.mp z) (by omega), fun _ => ⟨fun z => absurd z (by decide), fun _ => ct_i (k_first hm) ?_⟩⟩⟩⟩
      rw [(l2 j (by omega)).mpr (by omega)]
      refine ⟨fun _ => ?_, fun z => absurd rfl z⟩
      rintro _ rfl _ rfl _ rfl _ rfl
      exact I
    | succ k ih =>
      intro j hj hvf e
      have I := ih (j + 1) (by omega) hvf e
      rw [show f - (j + 1) = f - j - 1 by omega, ← i3_dn (show 0 < f - j by omega), ← i3_one] at I
      refine vX0_estimateByMoving_48 hX hM (fun x2 x3 x4 x5 x6 x7 x8 M => am_J X 48 [(2, .int x2), (3, .ref x3), (4, .int x4), (5, .int x5), (6, .int x6), (7, .int x7), (8, .int x8)] [] M 0 0) (fun _ _ _ _ _ _ _ _ h => h) ⟨fun z => absurd ((i3_le (a := 20) (by omega) (by omega)).mp z) (by omega), fun _ => ⟨fun z => absurd ((i3_eq (by omega) (by omega)).mp z) (by omega), fun _ => ⟨fun z => absurd ((md_sg hv (by omega)).2.1.mp z) (by omega), fun _ => ⟨fun z => absurd z (by decide), fun _ => ct_i (k_first hm) ?_⟩⟩⟩⟩
      have n0 : md_go (md_hc (md_mk g c) (f - j) (-1)) 9 1 ≠ 0 := fun z => absurd ((l2 j (by omega)).mp z) (by omega)
      have q := md_go_le (md_hc (md_mk g c) (f - j) (-1)) 9 1
      refine ⟨fun z => absurd ((i3_eq (b := 0) (by omega) (by omega)).mp z) n0, fun _ => ?_⟩
      rintro _ rfl _ rfl _ rfl
      exact I
  have hes : md_es g c (i3 v) = md_is g c + i3 (v - f + (f - v)) + (if (i3 v - i3 f) * g (12 + c) < 0 then 2 * i3 (md_la (md_hc (md_mk g c) f (g (12 + c))) 9) else 0) := by
    unfold md_es md_fr
    rw [fe, (md_sg hv hf).2.2, md_hc_hit hw.2.2.1 fe]
  have h20 : ∀ n : Nat, (2 : Int32) * i3 n = i3 (2 * n) := fun n => i3_mul 2 n
  refine vX0_estimateByMoving_0 hX hM (fun x2 x3 x4 x5 x6 x7 x8 M => am_J X 48 [(2, .int x2), (3, .ref x3), (4, .int x4), (5, .int x5), (6, .int x6), (7, .int x7), (8, .int x8)] [] M 0 0) (fun _ _ _ _ _ _ _ _ h => h) ?_
  simp (disch := omega) only [b0, u0, u1, u2, s1, m1, s2, m2, s3, u4, u5, u6, s4, s5, s6, m4, m5, m6, y0, y1, y2, y3, y4, y5, y6, qc, tc, zc, tp, zp, forall_eq, ne_eq, not_false_eq_true, true_and, i3_toNat, vpt, hp_T_sI, hp_N_sI, hp_R_sI, hp_E_sI, hp_Q_sI, hp_I_sI, hp_I_sIu, hp_T_sQ, hp_N_sQ, hp_R_sQ, hp_E_sQ, hp_I_sQ, hp_T_sA, hp_N_sA, hp_R_sA, hp_I_sA, hp_Q_sA, hp_E_sA, hp_sE_sA, i3_add]
  refine ct_i (k_stopsOf hR0 hw) ⟨tc c hc, ?_⟩
  rw [f20 c hc, f21 c hc, fe]
  refine ⟨fun a1 => ct_i k_compare ?_, fun a1 => ?_⟩
  · rw [a1, Int32.mul_zero, if_neg (by decide), Int32.add_zero] at hes
    rcases Nat.lt_trichotomy v f with q | q | q
    · rw [if_neg (by rw [i3_le (by omega) (by omega)]; omega)]
      exact D (f - v) f 0 (by omega) hf (by omega) (by rw [hes]; congr 2; omega)
    · rw [if_pos (by rw [i3_le (by omega) (by omega)]; omega), if_pos (by rw [q])]
      exact vX0_estimateByMoving_48 hX hM (fun x2 x3 x4 x5 x6 x7 x8 M => am_J X 48 [(2, .int x2), (3, .ref x3), (4, .int x4), (5, .int x5), (6, .int x6), (7, .int x7), (8, .int x8)] [] M 0 0) (fun _ _ _ _ _ _ _ _ h => h) ⟨fun _ => ⟨tc c hc, E 0 (by rw [hes]; congr 2; omega)⟩, fun _ => ⟨fun _ => ⟨tc c hc, E 0 (by rw [hes]; congr 2; omega)⟩, fun z => absurd (show i3 f = i3 v by rw [q]) z⟩⟩
    · rw [if_pos (by rw [i3_le (by omega) (by omega)]; omega), if_neg (by rw [i3_eq (by omega) (by omega)]; omega)]
      exact U (v - f) f 0 (by omega) (by omega) (by rw [hes]; congr 2; omega)
  · rcases hdir with z | z | z
    · exact absurd z a1
    · rw [z] at hes ⊢
      by_cases q : v < f
      · refine BU _ 0 (Nat.zero_add _) q ?_
        rw [hes, if_pos (Int32.not_le.mp (fun y => absurd ((md_sg hv hf).1.mp y) (by omega))), h20, Int32.add_assoc, i3_add]
        exact congrArg (fun n => md_is g c + i3 n) (by omega)
      · refine U (v - f) f 0 (by omega) (by omega) ?_
        rw [hes, if_neg (Int32.not_lt.mpr ((md_sg hv hf).1.mpr (by omega))), Int32.add_zero]
        exact congrArg (fun n => md_is g c + i3 n) (by omega)
    · rw [z] at hes ⊢
      by_cases q : f < v
      · refine BD _ 0 (Nat.zero_add _) q ?_
        rw [hes, if_pos (Int32.not_le.mp (fun y => absurd ((md_sg hv hf).2.1.mp y) (by omega))), h20, Int32.add_assoc, i3_add]
        exact congrArg (fun n => md_is g c + i3 n) (by omega)
      · refine D (f - v) f 0 (by omega) hf (by omega) ?_
        rw [hes, if_neg (Int32.not_lt.mpr ((md_sg hv hf).2.1.mpr (by omega))), Int32.add_zero]
        exact congrArg (fun n => md_is g c + i3 n) (by omega)
theorem k_agree {G : am_Gx} {d T : Nat} {M : am_Hp} {B : Nat → Nat} {g : md_R} (hR : bR M B g) (hw : md_wf T g) : am_CT G (d + 3) rX0_estimatesAgree [.ref (B 0)] M 0 0 (qi (i3 1) M) := by
  have ok := md_wf_ok hw
  have hR0 := hR
  obtain ⟨b0, u0, u1, u2, s1, m1, s2, m2, s3, u4, u5, u6, s4, s5, s6, m4, m5, m6, y0, y1, y2, y3, y4, y5, y6, qc, tc, zc, tp, zp, i3_, i4_, i5_, i6_, i7_, i8_, i9_, f20, f21, f22, f23, f24, f25, f26, f27, e60, e61, e62, e63, e64, e65, e66, l3_, l4_, lx, ly, lz⟩ := bR_f hR ok
  refine am_intro mkX0_estimatesAgree rfl (Nat.le_of_ble_eq_true rfl) rfl (fun X hX hM => ?_)
  have L : ∀ k j, j + k = 3 → am_J X 2 [(0, .ref (B 0)), (1, .int (i3 j))] [] M 0 0 := by
    intro k
    induction k with
    | zero =>
      intro j hj
      have j3 : j = 3 := hj
      subst j3
      exact vX0_estimatesAgree_2 hX hM (fun x0 x1 x2 M => am_J X 9 [(0, .ref x0), (1, .int x1), (2, .int x2)] [] M 0 0) (fun _ _ _ _ h => h) ⟨fun _ => ⟨rfl, rfl⟩, fun z => absurd (Int32.le_refl _) z⟩
    | succ k ih =>
      intro j hj
      have I := ih (j + 1) (by omega)
      rw [← i3_one] at I
      have L2 : ∀ k2 f, f + k2 = 10 → am_J X 9 [(0, .ref (B 0)), (1, .int (i3 j)), (2, .int (i3 f))] [] M 0 0 := by
        intro k2
        induction k2 with
        | zero =>
          intro f hf
          have f10 : f = 10 := hf
          subst f10
          refine vX0_estimatesAgree_9 hX hM (fun x0 x1 M => am_J X 2 [(0, .ref x0), (1, .int x1)] [] M 0 0) (fun _ _ _ h => h) (fun x0 x1 x2 M => am_J X 9 [(0, .ref x0), (1, .int x1), (2, .int x2)] [] M 0 0) (fun _ _ _ _ h => h) ⟨fun _ => ?_, fun z => absurd (Int32.le_refl _) z⟩
          rintro _ rfl
          exact I
        | succ k2 ih2 =>
          intro f hf
          have I2 := ih2 (f + 1) (by omega)
          rw [← i3_one] at I2
          refine vX0_estimatesAgree_9 hX hM (fun x0 x1 M => am_J X 2 [(0, .ref x0), (1, .int x1)] [] M 0 0) (fun _ _ _ h => h) (fun x0 x1 x2 M => am_J X 9 [(0, .ref x0), (1, .int x1), (2, .int x2)] [] M 0 0) (fun _ _ _ _ h => h) ⟨fun z => absurd ((i3_le (a := 10) (by omega) (by omega)).mp z) (by omega), fun _ => ⟨b0, ct_i (k_estF hR0 hw (by omega)) ⟨b0, ct_i (k_estM hR0 hw (by omega) (by omega)) ⟨fun _ => ?_, fun z => absurd rfl z⟩⟩⟩⟩
          rintro _ rfl
          exact I2
      exact vX0_estimatesAgree_2 hX hM (fun x0 x1 x2 M => am_J X 9 [(0, .ref x0), (1, .int x1), (2, .int x2)] [] M 0 0) (fun _ _ _ _ h => h) ⟨fun z => absurd ((i3_le (a := 3) (by omega) (by omega)).mp z) (by omega), fun _ => L2 10 0 rfl⟩
  exact vX0_estimatesAgree_0 hX hM (fun x0 x1 M => am_J X 2 [(0, .ref x0), (1, .int x1)] [] M 0 0) (fun _ _ _ h => h) (L 3 0 (Nat.zero_add _))
