/-! .. boarding, opening, moving, a step -/
theorem md_fo_ind {F : md_R → Nat → md_R} {I : Nat → md_R → Prop} {g : md_R} {n : Nat} (h0 : I 0 g) (hs : ∀ k h, k < n → I k h → I (k + 1) (F h k)) : ∀ k, k ≤ n → I k (md_fo F g k)
  | 0, _ => h0
  | k + 1, hk => hs k _ (by omega) (md_fo_ind h0 hs k (by omega))
theorem md_wf_bd {T c k : Nat} {h : md_R} (hw : md_wf T h) (hc : c < 3) (hk : k < md_n h) : md_wf T (md_bd c h k) ∧ ∀ j, j < 63 → md_bd c h k j = h j := by
  have h12 := md_wf_n hw
  unfold md_bd
  split
  · rename_i h1
    have h0 : h (99 + k) = 0 := by
      rw [Bool.and_eq_true] at h1
      have := h1.1
      unfold md_aw at this
      rw [Bool.and_eq_true] at this
      exact eq_of_beq this.1
    split
    · rename_i h2
      refine ⟨md_wf_ride hw hk hc h0 (fun K hK hK2 => ?_), fun j hj => by rw [up_n _ _ (by omega), up_n _ _ (by omega)]⟩
      obtain ⟨-, -, ⟨w, b1, b2, b3⟩, -⟩ := hw.2.2.1 k hk
      have hL := md_lN_le (c := c) hw.2.2.1
      rw [md_ld_N hw.2.2.1, b3, i3_add, hK, i3_le (by omega) (by omega)] at h2
      rw [b3, i3_toNat (by omega)]
      exact h2
    · rw [show va_up h (99 + k) 0 = h by rw [← h0]; exact up_id h _]
      exact ⟨md_wf_car hw hk h0 (.inl rfl), fun j hj => up_n _ _ (by omega)⟩
  · exact ⟨hw, fun j hj => rfl⟩
theorem md_wf_bo {T c : Nat} {g : md_R} (hw : md_wf T g) (hc : c < 3) : ∀ k, k ≤ md_n g → md_wf T (md_fo (md_bd c) g k) ∧ ∀ j, j < 63 → md_fo (md_bd c) g k j = g j :=
  md_fo_ind (I := fun _ h => md_wf T h ∧ ∀ j, j < 63 → h j = g j) ⟨hw, fun j hj => rfl⟩ (fun k h hk ⟨h1, h2⟩ => by
    obtain ⟨h3, h4⟩ := md_wf_bd h1 hc (by rw [md_n_eq (h2 1 (by omega))]; exact hk)
    exact ⟨h3, fun j hj => by rw [h4 j hj, h2 j hj]⟩)
/-- a car's place and accounts change together with the totals -/
theorem md_wf_acc {T U c f q de du dd dq dh : Nat} {g h : md_R} (hw : md_wf T g) (hc : c < 3) (e : ∀ k, k ≠ 9 + c → k ≠ 12 + c → k ≠ 18 + c → k ≠ 24 + c → (k < 5 ∨ 9 ≤ k) → h k = g k)
    (hf : h (9 + c) = i3 f) (hf9 : f < 10) (hr : h (12 + c) = 0 ∨ h (12 + c) = 1 ∨ h (12 + c) = -1) (hq : h (18 + c) = i3 q) (hq3 : q ≤ 3) (he : h (24 + c) = g (24 + c) + i3 de) (h5 : h 5 = g 5 + i3 du) (h6 : h 6 = g 6 + i3 dd) (h7 : h 7 = g 7 + i3 dq) (h8 : h 8 = g 8 + i3 dh)
    (hs : de = 2 * du + dh + dd + dq) (hT : T + de ≤ U) (hU : U < 500000000) : md_wf U h := by
  have h12 := md_wf_n hw
  have eL : ∀ x, md_lN h x = md_lN g x := fun x => md_lN_cg (e 1 (by omega) (by omega) (by omega) (by omega) (by omega)) (fun p hp => ⟨by unfold md_in; rw [e (99 + p) (by omega) (by omega) (by omega) (by omega) (by omega), e (87 + p) (by omega) (by omega) (by omega) (by omega) (by omega)], e (63 + p) (by omega) (by omega) (by omega) (by omega) (by omega)⟩)
  have en := md_n_eq (h := h) (e 1 (by omega) (by omega) (by omega) (by omega) (by omega))
  obtain ⟨hn, hC, hP, ⟨t, t1, t2⟩, ⟨s, s1, s2⟩, ⟨u, d, o, k, d1, d2, d3, d4, d5, d6, d7, d8, d9⟩⟩ := hw
  refine ⟨by rw [e 1 (by omega) (by omega) (by omega) (by omega) (by omega)]; exact hn, fun x hx => ?_, fun p hp => ?_, ⟨t, by omega, by rw [e 0 (by omega) (by omega) (by omega) (by omega) (by omega)]; exact t2⟩, ⟨s, by omega, by rw [e 3 (by omega) (by omega) (by omega) (by omega) (by omega)]; exact s2⟩, ?_⟩
  · obtain ⟨a1, a2, a3, a4, a5, ⟨z, z1, z2⟩⟩ := hC x hx
    unfold md_wc
    rw [eL x]
    by_cases ex : x = c
    · subst ex
      rw [hf, e (15 + x) (by omega) (by omega) (by omega) (by omega) (by omega), hq, e (21 + x) (by omega) (by omega) (by omega) (by omega) (by omega), he, z2, i3_add]
      exact ⟨⟨f, hf9, rfl⟩, hr, a3, ⟨q, hq3, rfl⟩, a5, ⟨z + de, by omega, rfl⟩⟩
    · rw [e (9 + x) (by omega) (by omega) (by omega) (by omega) (by omega), e (12 + x) (by omega) (by omega) (by omega) (by omega) (by omega), e (15 + x) (by omega) (by omega) (by omega) (by omega) (by omega), e (18 + x) (by omega) (by omega) (by omega) (by omega) (by omega), e (21 + x) (by omega) (by omega) (by omega) (by omega) (by omega), e (24 + x) (by omega) (by omega) (by omega) (by omega) (by omega)]
      exact ⟨a1, a2, a3, a4, a5, ⟨z, by omega, z2⟩⟩
  · rw [en] at hp
    exact md_wp_mono (by omega) (md_wp_cg (e _ (by omega) (by omega) (by omega) (by omega) (by omega)) (e _ (by omega) (by omega) (by omega) (by omega) (by omega)) (e _ (by omega) (by omega) (by omega) (by omega) (by omega)) (e _ (by omega) (by omega) (by omega) (by omega) (by omega)) (e _ (by omega) (by omega) (by omega) (by omega) (by omega)) (e _ (by omega) (by omega) (by omega) (by omega) (by omega)) (fun c hc3 => e _ (by omega) (by omega) (by omega) (by omega) (by omega)) (hP p hp))
  · refine ⟨u + du, d + dd, o + dq, k + dh, by rw [h5, d1, i3_add], by rw [h6, d2, i3_add], by rw [h7, d3, i3_add], by rw [h8, d4, i3_add], by omega, by omega, by omega, by omega, ?_⟩
    have hz : ∀ x, x < 3 → (h (24 + x)).toNatClampNeg = (g (24 + x)).toNatClampNeg + (if x = c then de else 0) := by
      intro x hx
      obtain ⟨-, -, -, -, -, ⟨z, z1, z2⟩⟩ := hC x hx
      by_cases ex : x = c
      · subst ex
        rw [he, z2, i3_add, i3_toNat (by omega), i3_toNat (by omega), if_pos rfl]
      · rw [e (24 + x) (by omega) (by omega) (by omega) (by omega) (by omega), if_neg ex]; rfl
    have z0 := hz 0 (by omega)
    have z1 := hz 1 (by omega)
    have z2 := hz 2 (by omega)
    simp only [Nat.reduceAdd] at z0 z1 z2
    rw [z0, z1, z2]
    rcases (by omega : c = 0 ∨ c = 1 ∨ c = 2) with rfl | rfl | rfl <;> simp <;> omega
theorem md_wf_op {T c : Nat} {g : md_R} (hw : md_wf T g) (hc : c < 3) (hT : T < 400000000) : md_wf (T + 1) (md_op g c) := by
  have eo : ∀ k, k ≠ 18 + c → k ≠ 24 + c → k ≠ 7 → md_op g c k = g k := fun k h1 h2 h3 => by unfold md_op; rw [up_n _ _ h3, up_n _ _ h2, up_n _ _ h1]
  obtain ⟨⟨f, f1, f2⟩, a2, -⟩ := hw.2.1 c hc
  refine md_wf_acc (de := 1) (du := 0) (dd := 0) (dq := 1) (dh := 0) (f := f) (q := 2) hw hc (fun k k1 k2 k3 k4 k5 => eo k k3 k4 (by omega)) (by rw [eo _ (by omega) (by omega) (by omega)]; exact f2) f1 (by rw [eo _ (by omega) (by omega) (by omega)]; exact a2) ?_ (by omega) ?_ (by rw [eo _ (by omega) (by omega) (by omega)]; exact (Int32.add_zero _).symm) (by rw [eo _ (by omega) (by omega) (by omega)]; exact (Int32.add_zero _).symm) ?_ (by rw [eo _ (by omega) (by omega) (by omega)]; exact (Int32.add_zero _).symm) rfl (by omega) (by omega)
  · unfold md_op; rw [up_n _ _ (by omega), up_n _ _ (by omega), up_e]; rfl
  · unfold md_op; rw [up_n _ _ (by omega), up_e]; rfl
  · unfold md_op; rw [up_e]; rfl
theorem md_div {x : Nat} (h : x < 2048) : i3 x / 100 = i3 (x / 100) := by
  have : ∀ x : Fin 2048, i3 x.1 / 100 = i3 (x.1 / 100) := by decide +kernel
  exact this ⟨x, h⟩
/-- the direction that is chosen leads to a floor -/
theorem md_ch_to {g : md_R} {c f : Nat} (hf : g (9 + c) = i3 f) (hf9 : f < 10) (hr : g (12 + c) = 0 ∨ g (12 + c) = 1 ∨ g (12 + c) = -1) : (md_ch g c = 0 ∧ g (9 + c) + md_ch g c = i3 f) ∨ (md_ch g c = 1 ∧ ∃ k, k < 10 ∧ g (9 + c) + md_ch g c = i3 k) ∨ (md_ch g c = -1 ∧ ∃ k, k < 10 ∧ g (9 + c) + md_ch g c = i3 k) := by
  have q1 : ∀ d, d < 21 → md_hit g c 1 d = true → f + d < 10 := fun d hd h => by
    unfold md_hit at h
    rw [hf, (md_fl_up hf9 hd).2, Bool.and_eq_true, decide_eq_true_eq] at h
    exact h.1
  have q2 : ∀ d, d < 21 → md_hit g c (-1) d = true → d ≤ f := fun d hd h => by
    unfold md_hit at h
    rw [hf, (md_fl_dn hf9 hd).2, Bool.and_eq_true, decide_eq_true_eq] at h
    exact h.1
  have up : md_nr g c 1 ≠ 0 → f + 1 < 10 := fun h => by
    rcases md_go_le (md_hit g c 1) 9 1 with z | ⟨z1, z2, z3⟩
    · exact absurd z h
    · have := q1 _ (by omega) z3
      omega
  have dn : md_nr g c (-1) ≠ 0 → 1 ≤ f := fun h => by
    rcases md_go_le (md_hit g c (-1)) 9 1 with z | ⟨z1, z2, z3⟩
    · exact absurd z h
    · have := q2 _ (by omega) z3
      omega
  have e1 : f + 1 < 10 → ∃ k, k < 10 ∧ i3 f + 1 = i3 k := fun h => ⟨f + 1, h, i3_one f⟩
  have e2 : 1 ≤ f → ∃ k, k < 10 ∧ i3 f + -1 = i3 k := fun h => ⟨f - 1, by omega, by
    obtain ⟨z, rfl⟩ : ∃ z, f = z + 1 := ⟨f - 1, by omega⟩
    show i3 (z + 1) + -1 = i3 z
    rw [← Int32.sub_eq_add_neg]
    exact i3_sub z 1⟩
  rw [hf]
  unfold md_ch
  split
  · split
    · exact .inr (.inl ⟨rfl, e1 (up (by omega))⟩)
    · split
      · exact .inr (.inr ⟨rfl, e2 (dn (by omega))⟩)
      · exact .inl ⟨rfl, Int32.add_zero _⟩
  · rename_i h
    have u1 := up (by omega)
    have u2 := dn (by omega)
    split
    · rename_i h2
      rcases hr with h3 | h3 | h3
      · exact absurd h3 h2
      · rw [h3]; exact .inr (.inl ⟨rfl, e1 u1⟩)
      · rw [h3]; exact .inr (.inr ⟨rfl, e2 u2⟩)
    · split
      · exact .inr (.inl ⟨rfl, e1 u1⟩)
      · exact .inr (.inr ⟨rfl, e2 u2⟩)
theorem md_wf_mv {T c : Nat} {g : md_R} (hw : md_wf T g) (hc : c < 3) (hT : T < 400000000) : md_wf (T + 11) (md_mv g c) := by
  have h12 := md_wf_n hw
  obtain ⟨⟨f, f1, f2⟩, a2, ⟨K, k1, k2, k3, k4⟩, ⟨q, q1, q2⟩, a5, a6⟩ := hw.2.1 c hc
  have hL := md_ld_N (c := c) hw.2.2.1
  have hD : md_ld g c / 100 = i3 (md_lN g c / 100) := by rw [hL]; exact md_div (by omega)
  rcases md_ch_to f2 f1 a2 with ⟨c1, c2⟩ | ⟨c1, k, c2, c3⟩ | ⟨c1, k, c2, c3⟩
  · have eo : ∀ j, j ≠ 9 + c → j ≠ 12 + c → md_mv g c j = g j := fun j j1 j2 => by
      unfold md_mv; simp only [c1]; rw [if_neg (by decide), if_neg (by decide), up_n _ _ j1, up_n _ _ j2]
    refine md_wf_acc (de := 0) (du := 0) (dd := 0) (dq := 0) (dh := 0) (f := f) (q := q) hw hc (fun j j1 j2 j3 j4 j5 => eo j j1 j2) ?_ f1 (.inl ?_) (by rw [eo _ (by omega) (by omega)]; exact q2) q1 (by rw [eo _ (by omega) (by omega)]; exact (Int32.add_zero _).symm) (by rw [eo _ (by omega) (by omega)]; exact (Int32.add_zero _).symm) (by rw [eo _ (by omega) (by omega)]; exact (Int32.add_zero _).symm) (by rw [eo _ (by omega) (by omega)]; exact (Int32.add_zero _).symm) (by rw [eo _ (by omega) (by omega)]; exact (Int32.add_zero _).symm) rfl (by omega) (by omega)
    · rw [c1] at c2
      unfold md_mv; simp only [c1]; rw [if_neg (by decide), if_neg (by decide), up_e]; exact c2
    · unfold md_mv; simp only [c1]; rw [if_neg (by decide), if_neg (by decide), up_n _ _ (by omega), up_e]
  · have eo : ∀ j, j ≠ 9 + c → j ≠ 12 + c → j ≠ 24 + c → j ≠ 8 → j ≠ 5 → md_mv g c j = g j := fun j j1 j2 j3 j4 j5 => by
      unfold md_mv; simp only [c1, if_true]; rw [up_n _ _ j5, up_n _ _ j4, up_n _ _ j3, up_n _ _ j1, up_n _ _ j2]
    refine md_wf_acc (de := 2 + md_lN g c / 100) (du := 1) (dd := 0) (dq := 0) (dh := md_lN g c / 100) (f := k) (q := q) hw hc (fun j j1 j2 j3 j4 j5 => eo j j1 j2 j4 (by omega) (by omega)) ?_ c2 (.inr (.inl ?_)) (by rw [eo _ (by omega) (by omega) (by omega) (by omega) (by omega)]; exact q2) q1 ?_ ?_ (by rw [eo _ (by omega) (by omega) (by omega) (by omega) (by omega)]; exact (Int32.add_zero _).symm) (by rw [eo _ (by omega) (by omega) (by omega) (by omega) (by omega)]; exact (Int32.add_zero _).symm) ?_ (by omega) (by omega) (by omega)
    · rw [c1] at c3
      unfold md_mv; simp only [c1, if_true]; rw [up_n _ _ (by omega), up_n _ _ (by omega), up_n _ _ (by omega), up_e]; exact c3
    · unfold md_mv; simp only [c1, if_true]; rw [up_n _ _ (by omega), up_n _ _ (by omega), up_n _ _ (by omega), up_n _ _ (by omega), up_e]
    · unfold md_mv; simp only [c1, if_true]; rw [up_n _ _ (by omega), up_n _ _ (by omega), up_e, hD, ← i3_add]; rfl
    · unfold md_mv; simp only [c1, if_true]; rw [up_e]; rfl
    · unfold md_mv; simp only [c1, if_true]; rw [up_n _ _ (by omega), up_e, hD]
  · have eo : ∀ j, j ≠ 9 + c → j ≠ 12 + c → j ≠ 24 + c → j ≠ 6 → md_mv g c j = g j := fun j j1 j2 j3 j4 => by
      unfold md_mv; simp only [c1, if_true]; rw [if_neg (by decide), up_n _ _ j4, up_n _ _ j3, up_n _ _ j1, up_n _ _ j2]
    refine md_wf_acc (de := 1) (du := 0) (dd := 1) (dq := 0) (dh := 0) (f := k) (q := q) hw hc (fun j j1 j2 j3 j4 j5 => eo j j1 j2 j4 (by omega)) ?_ c2 (.inr (.inr ?_)) (by rw [eo _ (by omega) (by omega) (by omega) (by omega)]; exact q2) q1 ?_ (by rw [eo _ (by omega) (by omega) (by omega) (by omega)]; exact (Int32.add_zero _).symm) ?_ (by rw [eo _ (by omega) (by omega) (by omega) (by omega)]; exact (Int32.add_zero _).symm) (by rw [eo _ (by omega) (by omega) (by omega) (by omega)]; exact (Int32.add_zero _).symm) (by omega) (by omega) (by omega)
    · rw [c1] at c3
      unfold md_mv; simp only [c1, if_true]; rw [if_neg (by decide), up_n _ _ (by omega), up_n _ _ (by omega), up_e]; exact c3
    · unfold md_mv; simp only [c1, if_true]; rw [if_neg (by decide), up_n _ _ (by omega), up_n _ _ (by omega), up_n _ _ (by omega), up_e]
    · unfold md_mv; simp only [c1, if_true]; rw [if_neg (by decide), up_n _ _ (by omega), up_e]; rfl
    · unfold md_mv; simp only [c1, if_true]; rw [if_neg (by decide), up_e]; rfl
theorem md_wf_ac {T c : Nat} {g : md_R} (hw : md_wf T g) (hc : c < 3) (hT : T < 400000000) : md_wf (T + 20) (md_ac g c) := by
  obtain ⟨-, -, -, ⟨q, q1, q2⟩, -⟩ := hw.2.1 c hc
  unfold md_ac
  split
  · rename_i h
    rw [q2, show (0 : Int32) = i3 0 from rfl, i3_lt (by omega) (by omega)] at h
    obtain ⟨z, rfl⟩ : ∃ z, q = z + 1 := ⟨q - 1, by omega⟩
    rw [q2, show i3 (z + 1) - 1 = i3 z from i3_sub z 1]
    exact md_wf_mono (by omega) (md_wf_doors hw hc (by omega))
  · split
    · have w1 := md_wf_mono (show T + 1 ≤ T + 20 by omega) (md_wf_op hw hc hT)
      have h12 := md_wf_n w1
      have e1 : md_n (md_op g c) = md_n g := by unfold md_op md_n; rw [up_n _ _ (by omega), up_n _ _ (by omega), up_n _ _ (by omega)]
      have e3 : md_op g c 3 = g 3 := by unfold md_op; rw [up_n _ _ (by omega), up_n _ _ (by omega), up_n _ _ (by omega)]
      obtain ⟨t, t1, t2⟩ := hw.2.2.2.2.1
      obtain ⟨w2, e⟩ := md_wf_al (c := c) (md_n g) 0 t _ w1 (by omega) (by rw [e3]; exact t2) (by omega)
      exact (md_wf_bo w2 hc _ (Nat.le_refl _)).1
    · exact md_wf_mono (by omega) (md_wf_mv hw hc hT)
