/-! .. and what a step does -/
theorem md_n_eq {g h : md_R} (e : h 1 = g 1) : md_n h = md_n g := by unfold md_n; rw [e]
theorem md_wf_wait {T : Nat} {g : md_R} {p q : Nat} (hw : md_wf T g) (hp : p < md_n g) (hq : q ≤ T) : md_wf T (va_up g (75 + p) (i3 q)) := by
  have h12 := md_wf_n hw
  obtain ⟨hn, hc, hP, ht, hr, hs⟩ := hw
  have eo : ∀ j, j ≠ 75 + p → va_up g (75 + p) (i3 q) j = g j := fun j hj => up_n _ _ hj
  refine ⟨by rw [eo 1 (by omega)]; exact hn, fun c hc3 => md_wc_cg (fun k h1 h2 => eo k (by omega)) (Nat.le_of_eq (md_lN_cg (eo 1 (by omega)) (fun q hq => ⟨md_in_up (by omega) (by omega), eo _ (by omega)⟩))) hc3 (hc c hc3), fun x hx => ?_, by rw [eo 0 (by omega)]; exact ht, by rw [eo 3 (by omega)]; exact hr, ?_⟩
  · rw [md_n_up (by omega)] at hx
    by_cases e : x = p
    · subst e
      obtain ⟨a1, a2, a3, a4, a5, a6, a7, a8⟩ := hP x hp
      unfold md_wp
      rw [eo (39 + x) (by omega), eo (51 + x) (by omega), eo (63 + x) (by omega), eo (87 + x) (by omega), eo (99 + x) (by omega), up_e]
      exact ⟨a1, a2, a3, ⟨q, hq, rfl⟩, a5, a6, a7, fun c hc3 => by rw [eo (21 + c) (by omega)]; exact a8 c hc3⟩
    · exact md_wp_cg (eo _ (by omega)) (eo _ (by omega)) (eo _ (by omega)) (eo _ (by omega)) (eo _ (by omega)) (eo _ (by omega)) (fun c hc3 => eo _ (by omega)) (hP x hx)
  · rw [eo 5 (by omega), eo 6 (by omega), eo 7 (by omega), eo 8 (by omega), eo 24 (by omega), eo 25 (by omega), eo 26 (by omega)]
    exact hs
/-- rows that differ at 0, 2, 3, 4 and behind 111 alone -/
theorem md_wf_far {T : Nat} {g h : md_R} (hw : md_wf T g) (e : ∀ k, (k ≠ 0 ∧ k ≠ 2 ∧ k ≠ 3 ∧ k ≠ 4 ∧ k < 111) → h k = g k) (h0 : ∃ t, t ≤ T ∧ h 0 = i3 t) (h3 : ∃ t, t ≤ T ∧ h 3 = i3 t) : md_wf T h := by
  have h12 := md_wf_n hw
  obtain ⟨hn, hc, hP, ht, hr, hs⟩ := hw
  have en : md_n h = md_n g := md_n_eq (e 1 (by omega))
  refine ⟨by rw [e 1 (by omega)]; exact hn, fun c hc3 => md_wc_cg (fun k h1 h2 => e k (by omega)) (Nat.le_of_eq (md_lN_cg (e 1 (by omega)) (fun q hq => ⟨?_, e _ (by omega)⟩))) hc3 (hc c hc3), fun x hx => ?_, h0, h3, ?_⟩
  · unfold md_in
    rw [e (99 + q) (by omega), e (87 + q) (by omega)]
  · rw [en] at hx
    exact md_wp_cg (e _ (by omega)) (e _ (by omega)) (e _ (by omega)) (e _ (by omega)) (e _ (by omega)) (e _ (by omega)) (fun c hc3 => e _ (by omega)) (hP x hx)
  · rw [e 5 (by omega), e 6 (by omega), e 7 (by omega), e 8 (by omega), e 24 (by omega), e 25 (by omega), e 26 (by omega)]
    exact hs
theorem md_lg_far (g : md_R) (p c k : Nat) (h : k ≠ 3 ∧ k ≠ 4 ∧ k < 111) : md_lg g p c k = g k := by
  unfold md_lg
  rw [up_n _ _ (by omega), up_n _ _ (by omega), up_n _ _ (by omega), up_n _ _ (by omega), up_n _ _ (by omega)]
theorem md_wf_lg {T t : Nat} {g : md_R} {p c : Nat} (hw : md_wf T g) (h3 : g 3 = i3 t) (ht : t + 1 ≤ T) : md_wf T (md_lg g p c) := by
  refine md_wf_far hw (fun k hk => md_lg_far g p c k (by omega)) ?_ ⟨t + 1, ht, ?_⟩
  · rw [md_lg_far g p c 0 (by omega)]; exact hw.2.2.2.1
  · unfold md_lg
    rw [up_e, h3, i3_one]
theorem md_lg_in (g : md_R) (p c q x : Nat) (hq : q < 12) : md_in (md_lg g p c) q x = md_in g q x := by
  unfold md_in
  rw [md_lg_far g p c _ (by omega), md_lg_far g p c _ (by omega)]
/-- alighting: k passengers are left to look at, from p on -/
theorem md_wf_al {T c : Nat} : ∀ (k p t : Nat) (g : md_R), md_wf T g → md_n g = p + k → g 3 = i3 t → t + k ≤ T → md_wf T (md_al c k p g) ∧ (∀ j, j ≠ 1 → j ≠ 3 → j ≠ 4 → j < 27 → md_al c k p g j = g j)
  | 0, p, t, g, hw, _, _, _ => ⟨hw, fun j _ _ _ _ => rfl⟩
  | k + 1, p, t, g, hw, hn, h3, ht => by
    have h12 := md_wf_n hw
    rw [md_al]
    split
    · have w1 := md_wf_lg (p := p) (c := c) hw h3 (by omega)
      have n1 : md_n (md_lg g p c) = p + (k + 1) := by rw [md_n_eq (md_lg_far g p c 1 (by omega)), hn]
      have w2 := md_wf_dr (p := p) (by omega) w1
      have e3 : md_dr (md_lg g p c) p 3 = i3 (t + 1) := by
        rw [md_dr_out (by omega) (by omega)]
        unfold md_lg
        rw [up_e, h3, i3_one]
      have n2 : md_n (md_dr (md_lg g p c) p) = p + k := by
        obtain ⟨⟨m, hm, hm1⟩, -⟩ := w1
        have := md_n_of hm1 hm
        obtain ⟨m', rfl⟩ : ∃ m', m = m' + 1 := ⟨m - 1, by omega⟩
        rw [md_n_of (md_dr_n hm1) (by omega)]
        omega
      obtain ⟨w3, e⟩ := md_wf_al k p (t + 1) _ w2 n2 e3 (by omega)
      exact ⟨w3, fun j j1 j3 j4 j27 => by rw [e j j1 j3 j4 j27, md_dr_out j1 (by omega), md_lg_far g p c j (by omega)]⟩
    · exact md_wf_al k (p + 1) t g hw (by omega) h3 (by omega)
theorem md_al_trips {c : Nat} {T : Nat} : ∀ (k p t : Nat) (g : md_R), md_wf T g → md_n g = p + k → g 3 = i3 t → t + k ≤ T → ∃ u, t ≤ u ∧ u ≤ t + k ∧ md_al c k p g 3 = i3 u
  | 0, p, t, g, _, _, h3, _ => ⟨t, by omega, by omega, h3⟩
  | k + 1, p, t, g, hw, hn, h3, ht => by
    have h12 := md_wf_n hw
    rw [md_al]
    split
    · have w1 := md_wf_lg (p := p) (c := c) hw h3 (by omega)
      have n1 : md_n (md_lg g p c) = p + (k + 1) := by rw [md_n_eq (md_lg_far g p c 1 (by omega)), hn]
      have w2 := md_wf_dr (p := p) (by omega) w1
      have e3 : md_dr (md_lg g p c) p 3 = i3 (t + 1) := by
        rw [md_dr_out (by omega) (by omega)]
        unfold md_lg
        rw [up_e, h3, i3_one]
      have n2 : md_n (md_dr (md_lg g p c) p) = p + k := by
        obtain ⟨⟨m, hm, hm1⟩, -⟩ := w1
        have := md_n_of hm1 hm
        obtain ⟨m', rfl⟩ : ∃ m', m = m' + 1 := ⟨m - 1, by omega⟩
        rw [md_n_of (md_dr_n hm1) (by omega)]
        omega
      obtain ⟨u, h1, h2, h4⟩ := md_al_trips k p (t + 1) _ w2 n2 e3 (by omega)
      exact ⟨u, by omega, by omega, h4⟩
    · obtain ⟨u, h1, h2, h4⟩ := md_al_trips k (p + 1) t g hw (by omega) h3 (by omega)
      exact ⟨u, h1, by omega, h4⟩
/-- who boards -/
theorem md_wf_ride {T : Nat} {g : md_R} {p c : Nat} (hw : md_wf T g) (hp : p < md_n g) (hc3 : c < 3) (h0 : g (99 + p) = 0) (hl : ∀ k, g (15 + c) = i3 k → k ≤ 900 → md_lN g c + (g (63 + p)).toNatClampNeg ≤ k) : md_wf T (va_up (va_up g (99 + p) 1) (87 + p) (i3 c + 1)) := by
  have h12 := md_wf_n hw
  have eo : ∀ j, j ≠ 87 + p → j ≠ 99 + p → va_up (va_up g (99 + p) 1) (87 + p) (i3 c + 1) j = g j := fun j h1 h2 => by rw [up_n _ _ h1, up_n _ _ h2]
  have ei : ∀ q x, q < 12 → md_in (va_up (va_up g (99 + p) 1) (87 + p) (i3 c + 1)) q x = if q = p then decide (x = c ∨ (i3 c + 1 : Int32) = i3 x + 1) else md_in g q x := by
    intro q x hq
    by_cases e : q = p
    · subst e
      rw [if_pos rfl]
      unfold md_in
      rw [up_n _ _ (show 99 + q ≠ 87 + q by omega), up_e, up_e]
      by_cases hx : x = c
      · subst hx; simp
      · by_cases hz : (i3 c + 1 : Int32) = i3 x + 1
        · simp [hz]
        · simp [hx, hz]
    · rw [if_neg e, md_in_up (by omega) (by omega), md_in_up (by omega) (by omega)]
  have hL : ∀ x, x < 3 → md_lN (va_up (va_up g (99 + p) 1) (87 + p) (i3 c + 1)) x = md_lN g x + (if x = c then (g (63 + p)).toNatClampNeg else 0) := by
    intro x hx
    have key : ∀ n, n ≤ 12 → md_sN (fun q => if md_in (va_up (va_up g (99 + p) 1) (87 + p) (i3 c + 1)) q x then (va_up (va_up g (99 + p) 1) (87 + p) (i3 c + 1) (63 + q)).toNatClampNeg else 0) n = md_sN (fun q => if md_in g q x then (g (63 + q)).toNatClampNeg else 0) n + (if p < n ∧ x = c then (g (63 + p)).toNatClampNeg else 0) := by
      intro n
      induction n with
      | zero => intro _; simp [md_sN]
      | succ n ih =>
        intro hn
        rw [md_sN, md_sN, ih (by omega), ei n x (by omega), eo (63 + n) (by omega) (by omega)]
        by_cases e : n = p
        · subst e
          have hz : (i3 c + 1 : Int32) = i3 x + 1 ↔ x = c := by
            rw [i3_one, i3_one, i3_eq (by omega) (by omega)]; omega
          rw [if_pos rfl, md_in_no h0]
          by_cases hx : x = c
          · subst hx; simp
          · simp [hx, hz]
        · rw [if_neg e]
          have : (p < n + 1 ∧ x = c) ↔ (p < n ∧ x = c) := by omega
          simp only [this]
          omega
    unfold md_lN
    rw [md_n_eq (eo 1 (by omega) (by omega)), key _ h12]
    simp [hp]
  obtain ⟨hn, hc, hP, ht, hr, hs⟩ := hw
  refine ⟨by rw [eo 1 (by omega) (by omega)]; exact hn, fun x hx => ?_, fun q hq => ?_, by rw [eo 0 (by omega) (by omega)]; exact ht, by rw [eo 3 (by omega) (by omega)]; exact hr, ?_⟩
  · obtain ⟨a1, a2, ⟨k, b1, b2, b3, b4⟩, a4, a5, a6⟩ := hc x hx
    unfold md_wc
    rw [hL x hx, eo (9 + x) (by omega) (by omega), eo (12 + x) (by omega) (by omega), eo (15 + x) (by omega) (by omega), eo (18 + x) (by omega) (by omega), eo (21 + x) (by omega) (by omega), eo (24 + x) (by omega) (by omega)]
    refine ⟨a1, a2, ⟨k, b1, b2, b3, ?_⟩, a4, a5, a6⟩
    by_cases e : x = c
    · subst e; rw [if_pos rfl]; exact hl k b3 b2
    · rw [if_neg e]; exact b4
  · rw [md_n_eq (eo 1 (by omega) (by omega))] at hq
    by_cases e : q = p
    · subst e
      obtain ⟨a1, a2, a3, a4, a5, a6, a7, a8⟩ := hP q hq
      unfold md_wp
      rw [eo (39 + q) (by omega) (by omega), eo (51 + q) (by omega) (by omega), eo (63 + q) (by omega) (by omega), eo (75 + q) (by omega) (by omega), up_n _ _ (show 99 + q ≠ 87 + q by omega), up_e, up_e]
      refine ⟨a1, a2, a3, a4, ⟨c + 1, by omega, i3_one c⟩, .inr rfl, fun _ => ?_, fun _ _ z => absurd z (by decide)⟩
      rw [i3_one, show (0 : Int32) = i3 0 from rfl, ne_eq, i3_eq (by omega) (by omega)]
      omega
    · exact md_wp_cg (eo _ (by omega) (by omega)) (eo _ (by omega) (by omega)) (eo _ (by omega) (by omega)) (eo _ (by omega) (by omega)) (eo _ (by omega) (by omega)) (eo _ (by omega) (by omega)) (fun c hc3 => eo _ (by omega) (by omega)) (hP q hq)
  · rw [eo 5 (by omega) (by omega), eo 6 (by omega) (by omega), eo 7 (by omega) (by omega), eo 8 (by omega) (by omega), eo 24 (by omega) (by omega), eo 25 (by omega) (by omega), eo 26 (by omega) (by omega)]
    exact hs
