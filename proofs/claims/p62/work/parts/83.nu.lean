/-! .. the passengers' numbers are all different, and below the next number -/
def md_nu (K : Nat) (g : md_R) : Prop := (∃ m, m ≤ K ∧ g 2 = i3 m ∧ ∀ p, p < md_n g → ∃ k, k < m ∧ g (27 + p) = i3 k) ∧ ∀ p q, p < md_n g → q < md_n g → g (27 + p) = g (27 + q) → p = q
theorem nu_mono {K K' : Nat} {g : md_R} (h : md_nu K g) (hK : K ≤ K') : md_nu K' g := by
  obtain ⟨⟨m, h1, h2, h3⟩, h4⟩ := h
  exact ⟨⟨m, by omega, h2, h3⟩, h4⟩
theorem nu_cg {K : Nat} {g g' : md_R} (h12 : md_n g ≤ 12) (e : ∀ k, k = 1 ∨ k = 2 ∨ (27 ≤ k ∧ k < 39) → g' k = g k) (h : md_nu K g) : md_nu K g' := by
  obtain ⟨⟨m, h1, h2, h3⟩, h4⟩ := h
  have en := md_n_eq (e 1 (by omega))
  unfold md_nu
  rw [en, e 2 (by omega)]
  refine ⟨⟨m, h1, h2, fun p hp => ?_⟩, fun p q hp hq => ?_⟩
  · rw [e _ (by omega)]
    exact h3 p hp
  · rw [e _ (by omega), e _ (by omega)]
    exact h4 p q hp hq
theorem nu_dr {K p n : Nat} {g : md_R} (hn : g 1 = i3 (n + 1)) (h12 : n + 1 ≤ 12) (hp : p < n + 1) (h : md_nu K g) : md_nu K (md_dr g p) := by
  obtain ⟨⟨m, h1, h2, h3⟩, h4⟩ := h
  have en : md_n g = n + 1 := by unfold md_n; rw [hn, i3_toNat (by omega)]
  have en' : md_n (md_dr g p) = n := by unfold md_n; rw [md_dr_n hn, i3_toNat (by omega)]
  rw [en] at h3 h4
  have r0 : ∀ q, q < n → md_dr g p (27 + q) = g (27 + (if q < p then q else q + 1)) := fun q hq => md_dr_row (r := 0) (by omega) (by omega)
  unfold md_nu
  rw [en', md_dr_out (by omega) (by omega)]
  refine ⟨⟨m, h1, h2, fun q hq => ?_⟩, fun x y hx hy e => ?_⟩
  · rw [r0 q hq]
    exact h3 _ (by split <;> omega)
  · rw [r0 x hx, r0 y hy] at e
    have := h4 _ _ (by split <;> omega) (by split <;> omega) e
    by_cases a : x < p
    · rw [if_pos a] at this
      by_cases b : y < p
      · rw [if_pos b] at this
        exact this
      · rw [if_neg b] at this
        omega
    · rw [if_neg a] at this
      by_cases b : y < p
      · rw [if_pos b] at this
        omega
      · rw [if_neg b] at this
        omega
theorem nu_al {K c : Nat} : ∀ (k p : Nat) (g : md_R), g 1 = i3 (p + k) → p + k ≤ 12 → md_nu K g → md_nu K (md_al c k p g) ∧ ∃ n, n ≤ 12 ∧ md_al c k p g 1 = i3 n
  | 0, p, g, h1, h2, h => ⟨h, p, by omega, h1⟩
  | k + 1, p, g, h1, h2, h => by
    rw [md_al]
    split
    · have l1 : md_lg g p c 1 = i3 (p + k + 1) := by
        rw [md_lg_far g p c 1 (by omega), h1, Nat.add_assoc]
      have n12 : md_n g ≤ 12 := by unfold md_n; rw [h1, i3_toNat (by omega)]; exact h2
      have l2 : md_nu K (md_lg g p c) := nu_cg n12 (fun k hk => md_lg_far g p c k (by omega)) h
      exact nu_al k p _ (md_dr_n l1) (by omega) (nu_dr l1 (by omega) (by omega) l2)
    · exact nu_al k (p + 1) g (by rw [h1]; congr 1; omega) (by omega) h
theorem bd_far {c k : Nat} {h : md_R} {j : Nat} (hj : j < 87) : md_bd c h k j = h j := by
  unfold md_bd
  split
  · split
    · rw [up_n _ _ (by omega), up_n _ _ (by omega)]
    · rw [up_n _ _ (by omega), up_n _ _ (by omega)]
  · rfl
theorem bo_far {c : Nat} {g : md_R} {j : Nat} (hj : j < 87) : ∀ k, md_fo (md_bd c) g k j = g j
  | 0 => rfl
  | k + 1 => by
    rw [md_fo, bd_far hj, bo_far hj k]
theorem nu_c1 {K T c : Nat} {g : md_R} (hc : c < 3) (hw : md_wf T g) (h : md_nu K g) : md_nu K (md_c1 g c) := by
  have ok := md_wf_ok hw
  have h12 := ok.2
  unfold md_c1
  split
  · unfold md_ac
    split
    · exact nu_cg h12 (fun k hk => up_n _ _ (by omega)) h
    · split
      · have e1 : ∀ k, k = 1 ∨ k = 2 ∨ (27 ≤ k ∧ k < 39) → md_op g c k = g k := fun k hk => by
          unfold md_op
          rw [up_n _ _ (by omega), up_n _ _ (by omega), up_n _ _ (by omega)]
        obtain ⟨a1, n, a2, a3⟩ := nu_al (c := c) (md_n g) 0 (md_op g c) (by rw [e1 1 (by omega), Nat.zero_add]; exact ok.1) (by omega) (nu_cg h12 e1 h)
        have n12 : md_n (md_al c (md_n g) 0 (md_op g c)) ≤ 12 := by rw [md_n_of a3 a2]; exact a2
        exact nu_cg n12 (fun k hk => bo_far (by omega) _) a1
      · refine nu_cg h12 (fun k hk => ?_) h
        unfold md_mv
        split
        · rw [up_n _ _ (by omega), up_n _ _ (by omega), up_n _ _ (by omega), up_n _ _ (by omega), up_n _ _ (by omega)]
        · split
          · rw [up_n _ _ (by omega), up_n _ _ (by omega), up_n _ _ (by omega), up_n _ _ (by omega)]
          · rw [up_n _ _ (by omega), up_n _ _ (by omega)]
  · exact h
theorem nu_step {K T : Nat} {g : md_R} (hw : md_wf T g) (hT : T < 200000000) (h : md_nu K g) : md_nu K (md_step g) := by
  rw [md_step_eq hw]
  have w0 := md_wf_pre hw
  have w1 := md_wf_c1 (c := 0) w0 (by omega) (by omega)
  have w2 := md_wf_c1 (c := 1) w1 (by omega) (by omega)
  have h12 := md_wf_n hw
  refine nu_c1 (by omega) w2 (nu_c1 (by omega) w1 (nu_c1 (by omega) w0 (nu_cg h12 (fun j hj => ?_) h)))
  unfold md_pre
  rw [fw_far _ h12 j (by omega), fa_far _ h12 j (by omega), up_n _ _ (by omega)]
theorem nu_it {K T : Nat} {g : md_R} (hw : md_wf T g) (h : md_nu K g) : ∀ k, T + 61 * k < 200000000 → md_nu K (md_it g k)
  | 0, _ => h
  | k + 1, hk => nu_step (md_wf_it hw k (by omega)) (by omega) (nu_it hw h k (by omega))
theorem nu_ad {K : Nat} {g : md_R} {s e w : Int32} (ok : md_ok g) (hn : md_n g < 12) (hK : K < 1000000000) (h : md_nu K g) : md_nu (K + 1) (md_ad g s e w) := by
  obtain ⟨⟨m, h1, h2, h3⟩, h4⟩ := h
  have f : ∀ j, j < 39 → j ≠ 1 → j ≠ 2 → j ≠ 27 + md_n g → md_ad g s e w j = g j := fun j a1 a2 a3 a4 => by
    unfold md_ad md_as
    rw [up_n _ _ (by omega), up_n _ _ (by omega), up_n _ _ (by omega), up_n _ _ (by omega), up_n _ _ (by omega), up_n _ _ (by omega), up_n _ _ (by omega), up_n _ _ (by omega), up_n _ _ (by omega), up_n _ _ (by omega)]
  have f1 : md_ad g s e w 1 = i3 (md_n g + 1) := by
    unfold md_ad md_as
    rw [up_n _ _ (by omega), up_n _ _ (by omega), up_e, ok.1, i3_one]
  have f2 : md_ad g s e w 2 = i3 (m + 1) := by
    unfold md_ad md_as
    rw [up_n _ _ (by omega), up_e, h2, i3_one]
  have f27 : md_ad g s e w (27 + md_n g) = i3 m := by
    unfold md_ad md_as
    rw [up_n _ _ (by omega), up_n _ _ (by omega), up_n _ _ (by omega), up_n _ _ (by omega), up_n _ _ (by omega), up_n _ _ (by omega), up_n _ _ (by omega), up_n _ _ (by omega), up_n _ _ (by omega), up_e, h2]
  have en : md_n (md_ad g s e w) = md_n g + 1 := md_n_of f1 (by omega)
  unfold md_nu
  rw [en]
  have v : ∀ p, p < md_n g + 1 → (p = md_n g ∧ md_ad g s e w (27 + p) = i3 m) ∨ (p < md_n g ∧ md_ad g s e w (27 + p) = g (27 + p)) := fun p hp => by
    by_cases z : p = md_n g
    · rw [z]
      exact .inl ⟨rfl, f27⟩
    · exact .inr ⟨by omega, f _ (by omega) (by omega) (by omega) (by omega)⟩
  refine ⟨⟨m + 1, by omega, f2, fun p hp => ?_⟩, fun p q hp hq e => ?_⟩
  · rcases v p hp with ⟨-, z⟩ | ⟨z1, z⟩
    · exact ⟨m, by omega, z⟩
    · obtain ⟨k, k1, k2⟩ := h3 p z1
      exact ⟨k, by omega, z.trans k2⟩
  · rcases v p hp with ⟨y1, y⟩ | ⟨y1, y⟩ <;> rcases v q hq with ⟨z1, z⟩ | ⟨z1, z⟩
    · omega
    · obtain ⟨k, k1, k2⟩ := h3 q z1
      rw [y, z, k2] at e
      have := (i3_eq (by omega) (by omega)).mp e
      omega
    · obtain ⟨k, k1, k2⟩ := h3 p y1
      rw [y, z, k2] at e
      have := (i3_eq (by omega) (by omega)).mp e
      omega
    · rw [y, z] at e
      exact h4 p q y1 z1 e
theorem r1_far {c : Nat} {g : md_R} {j : Nat} (hj : j < 87) : ∀ k, md_fo (md_r1 c) g k j = g j
  | 0 => rfl
  | k + 1 => by
    rw [md_fo]
    unfold md_r1
    split
    · rw [up_n _ _ (by omega)]
      exact r1_far hj k
    · exact r1_far hj k
theorem nu_so {K c : Nat} {g : md_R} (h12 : md_n g ≤ 12) (hc : c < 3) (h : md_nu K g) : md_nu K (md_so g c) := by
  refine nu_cg h12 (fun k hk => ?_) h
  unfold md_so
  rw [up_n _ _ (by omega), r1_far (by omega)]
theorem nu_up {K i : Nat} {v : Int32} {g : md_R} (h12 : md_n g ≤ 12) (hi : 2 < i ∧ i < 27) (h : md_nu K g) : md_nu K (va_up g i v) := nu_cg h12 (fun k hk => up_n _ _ (by omega)) h
theorem nu_g0 : md_nu 1 md_g0 := ⟨⟨1, by omega, rfl, fun p hp => absurd (show p < 0 from hp) (Nat.not_lt_zero p)⟩, fun p q hp _ _ => absurd (show p < 0 from hp) (Nat.not_lt_zero p)⟩
theorem nu_pf {K T k : Nat} {g x : md_R} (hw : md_wf T g) (hT : T < 90000000) (hK : K < 1000000000) (hk : k < 8) (h0 : rf_k g k x = 0) (h : md_nu K g) : md_nu (K + 1) (pf_k g k x) := by
  have ok := md_wf_ok hw
  have h12 := ok.2
  have e8 : k = 0 ∨ k = 1 ∨ k = 2 ∨ k = 3 ∨ k = 4 ∨ k = 5 ∨ k = 6 ∨ k = 7 := by omega
  rcases e8 with rfl | rfl | rfl | rfl | rfl | rfl | rfl | rfl
  · obtain ⟨-, -, -, -, a4⟩ := rf_add_0 ok h0
    exact nu_ad ok a4 hK h
  · obtain ⟨p, hp, e1, -⟩ := rf_rem_0 ok h0
    rw [show pf_k g 1 x = md_dr g (x 0).toNatClampNeg from rfl, e1, i3_toNat (by omega)]
    refine nu_mono (nu_dr (n := md_n g - 1) ?_ (by omega) (by omega) h) (by omega)
    rw [Nat.sub_add_cancel (by omega)]
    exact ok.1
  · obtain ⟨c, hc, e1, -⟩ := rf_hold_0 h0
    rw [show pf_k g 2 x = va_up g (18 + (x 0).toNatClampNeg) (x 1) from rfl, e1, i3_toNat (by omega)]
    exact nu_mono (nu_up h12 (by omega) h) (by omega)
  · obtain ⟨c, hc, e1, -⟩ := rf_stop_0 h0
    rw [show pf_k g 3 x = md_so g (x 0).toNatClampNeg from rfl, e1, i3_toNat (by omega)]
    exact nu_mono (nu_so h12 hc h) (by omega)
  · obtain ⟨c, hc, e1, -⟩ := rf_start_0 h0
    rw [show pf_k g 4 x = va_up g (21 + (x 0).toNatClampNeg) 0 from rfl, e1, i3_toNat (by omega)]
    exact nu_mono (nu_up h12 (by omega) h) (by omega)
  · obtain ⟨c, hc, e1, -⟩ := rf_limit_0 h0
    rw [show pf_k g 5 x = va_up g (15 + (x 0).toNatClampNeg) (x 1) from rfl, e1, i3_toNat (by omega)]
    exact nu_mono (nu_up h12 (by omega) h) (by omega)
  · obtain ⟨n, n1, n2, e1⟩ := rf_pass_0 h0
    rw [show pf_k g 6 x = md_it g (x 0).toNatClampNeg from rfl, e1, i3_toNat (by omega)]
    exact nu_mono (nu_it hw h n (by omega)) (by omega)
  · exact nu_mono (nu_it hw h 1 (by omega)) (by omega)
