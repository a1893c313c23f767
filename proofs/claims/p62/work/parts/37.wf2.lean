/-! .. and what single changes do -/
theorem i3_m1 : (-1 : Int32) + 1 = 0 := by decide
theorem md_in_up {g : md_R} {k p c : Nat} {v : Int32} (h1 : k ≠ 99 + p) (h2 : k ≠ 87 + p) : md_in (va_up g k v) p c = md_in g p c := by
  unfold md_in
  rw [up_n _ _ (Ne.symm h1), up_n _ _ (Ne.symm h2)]
theorem md_in_no {g : md_R} {p c : Nat} (h : g (99 + p) = 0) : md_in g p c = false := by
  unfold md_in
  rw [h]
  rfl
theorem md_lN_cg {g h : md_R} {c : Nat} (e1 : h 1 = g 1) (e : ∀ p, p < md_n g → md_in h p c = md_in g p c ∧ h (63 + p) = g (63 + p)) : md_lN h c = md_lN g c := by
  have e2 : md_n h = md_n g := by unfold md_n; rw [e1]
  unfold md_lN
  rw [e2]
  refine md_sN_cg _ (fun i hi => ?_)
  rw [(e i hi).1, (e i hi).2]
theorem md_cN_cg {g h : md_R} {c : Nat} (e1 : h 1 = g 1) (e : ∀ p, p < md_n g → md_in h p c = md_in g p c) : md_cN h c = md_cN g c := by
  have e2 : md_n h = md_n g := by unfold md_n; rw [e1]
  unfold md_cN
  rw [e2]
  refine md_sN_cg _ (fun i hi => ?_)
  rw [e i hi]
/-- who waits is sent to another car, or to none: nothing rides otherwise -/
theorem md_in_car {g : md_R} {p q c : Nat} {v : Int32} (hp : p < 12) (hq : q < 12) (h : g (99 + p) = 0) : md_in (va_up g (87 + p) v) q c = md_in g q c := by
  by_cases e : q = p
  · subst e
    rw [md_in_no h, md_in_no (by rw [up_n _ _ (by omega)]; exact h)]
  · exact md_in_up (by omega) (by omega)
theorem md_lN_car {g : md_R} {p c : Nat} {v : Int32} (hp : p < 12) (hn : md_n g ≤ 12) (h : g (99 + p) = 0) : md_lN (va_up g (87 + p) v) c = md_lN g c :=
  md_lN_cg (up_n _ _ (by omega)) (fun q hq => ⟨md_in_car hp (by omega) h, up_n _ _ (by omega)⟩)
theorem md_cN_car {g : md_R} {p c : Nat} {v : Int32} (hp : p < 12) (hn : md_n g ≤ 12) (h : g (99 + p) = 0) : md_cN (va_up g (87 + p) v) c = md_cN g c :=
  md_cN_cg (up_n _ _ (by omega)) (fun q hq => md_in_car hp (by omega) h)
theorem md_wf_n {T : Nat} {g : md_R} (hw : md_wf T g) : md_n g ≤ 12 := by
  obtain ⟨⟨n, h0, hn⟩, -⟩ := hw
  rw [md_n_of hn h0]
  exact h0
theorem md_wf_car {T : Nat} {g : md_R} {p : Nat} {v : Int32} (hw : md_wf T g) (hp : p < md_n g) (h0 : g (99 + p) = 0) (hv : v = 0 ∨ ∃ c, c < 3 ∧ v = i3 c + 1 ∧ g (21 + c) = 0) : md_wf T (va_up g (87 + p) v) := by
  have h12 := md_wf_n hw
  obtain ⟨hn, hc, hP, ht, hr, hs⟩ := hw
  have eo : ∀ k, k ≠ 87 + p → va_up g (87 + p) v k = g k := fun k hk => up_n _ _ hk
  refine ⟨by rw [eo 1 (by omega)]; exact hn, fun c hc3 => md_wc_cg (fun k h1 h2 => eo k (by omega)) (Nat.le_of_eq (md_lN_car (by omega) h12 h0)) hc3 (hc c hc3), fun q hq => ?_, by rw [eo 0 (by omega)]; exact ht, by rw [eo 3 (by omega)]; exact hr, ?_⟩
  · rw [md_n_up (by omega)] at hq
    by_cases e : q = p
    · subst e
      obtain ⟨a1, a2, a3, a4, a5, a6, a7, a8⟩ := hP q hp
      unfold md_wp
      rw [eo (39 + q) (by omega), eo (51 + q) (by omega), eo (63 + q) (by omega), eo (75 + q) (by omega), eo (99 + q) (by omega), up_e]
      refine ⟨a1, a2, a3, a4, ?_, a6, fun z => ?_, fun c hc3 z1 z2 => ?_⟩
      · rcases hv with rfl | ⟨c, hc3, rfl, -⟩
        · exact ⟨0, by omega, rfl⟩
        · exact ⟨c + 1, by omega, i3_one c⟩
      · rw [h0] at z
        exact absurd z (by decide)
      · rw [eo (21 + c) (by omega)]
        rcases hv with rfl | ⟨c', hc3', rfl, hO⟩
        · rw [i3_one, show (0 : Int32) = i3 0 from rfl, i3_eq (by omega) (by omega)] at z2
          omega
        · rw [i3_one, i3_one, i3_eq (by omega) (by omega)] at z2
          rw [show c = c' by omega]
          exact hO
    · exact md_wp_cg (eo _ (by omega)) (eo _ (by omega)) (eo _ (by omega)) (eo _ (by omega)) (eo _ (by omega)) (eo _ (by omega)) (fun c hc3 => eo _ (by omega)) (hP q hq)
  · rw [eo 5 (by omega), eo 6 (by omega), eo 7 (by omega), eo 8 (by omega), eo 24 (by omega), eo 25 (by omega), eo 26 (by omega)]
    exact hs
/-- the car that is chosen serves -/
theorem md_be_out {g : md_R} {f w : Int32} {c : Nat} : ∀ k, k ≤ 3 → md_be g f w k = i3 c → c < 3 → g (21 + c) = 0
  | 0, _, h, hc => absurd h (by
      have : ∀ c : Fin 3, ¬ (-1 : Int32) = i3 c.1 := by decide
      exact this ⟨c, hc⟩)
  | k + 1, hk, h, hc => by
    rw [md_be] at h
    split at h
    · rename_i h1
      split at h
      · have := (i3_eq (by omega) (by omega)).mp h
        subst this
        exact h1.1
      · exact md_be_out k (by omega) h hc
    · exact md_be_out k (by omega) h hc
theorem md_be_dst {g : md_R} {f w : Int32} {g' : md_R} (e : ∀ c, c < 3 → g' (21 + c) = g (21 + c)) : md_be g f w 3 + 1 = 0 ∨ ∃ c, c < 3 ∧ md_be g f w 3 + 1 = i3 c + 1 ∧ g' (21 + c) = 0 := by
  rcases md_be_val g f w 3 (by omega) with h | ⟨c, hc, h⟩
  · rw [h]; exact .inl rfl
  · rw [h]; exact .inr ⟨c, hc, rfl, by rw [e c hc]; exact md_be_out 3 (by omega) h hc⟩
theorem md_wf_as {T : Nat} {g : md_R} {p : Nat} (hw : md_wf T g) (hp : p < md_n g) (h0 : g (99 + p) = 0) : md_wf T (md_as g p) :=
  md_wf_car hw hp h0 (md_be_dst (fun c hc => (up_n _ _ (by have := md_wf_n hw; omega)).symm))
/-- a car's single cells -/
theorem md_wf_cell {T : Nat} {g : md_R} {k c : Nat} {v : Int32} (hw : md_wf T g) (hc3 : c < 3) (hk : k = 12 + c ∨ k = 15 + c ∨ k = 18 + c) (hv : md_wc T (va_up g k v) c) : md_wf T (va_up g k v) := by
  have h12 := md_wf_n hw
  obtain ⟨hn, hc, hP, ht, hr, hs⟩ := hw
  have eo : ∀ j, j ≠ k → va_up g k v j = g j := fun j hj => up_n _ _ hj
  have el : ∀ c, md_lN (va_up g k v) c = md_lN g c := fun c' => md_lN_cg (eo 1 (by omega)) (fun q hq => ⟨md_in_up (by omega) (by omega), eo _ (by omega)⟩)
  refine ⟨by rw [eo 1 (by omega)]; exact hn, fun c' hc' => ?_, fun q hq => ?_, by rw [eo 0 (by omega)]; exact ht, by rw [eo 3 (by omega)]; exact hr, ?_⟩
  · by_cases e : c' = c
    · rw [e]; exact hv
    · unfold md_wc
      rw [eo (9 + c') (by omega), eo (12 + c') (by omega), eo (15 + c') (by omega), eo (18 + c') (by omega), eo (21 + c') (by omega), eo (24 + c') (by omega), el]
      exact hc c' hc'
  · rw [md_n_up (by omega)] at hq
    exact md_wp_cg (eo _ (by omega)) (eo _ (by omega)) (eo _ (by omega)) (eo _ (by omega)) (eo _ (by omega)) (eo _ (by omega)) (fun c hc3 => eo _ (by omega)) (hP q hq)
  · rw [eo 5 (by omega), eo 6 (by omega), eo 7 (by omega), eo 8 (by omega), eo 24 (by omega), eo 25 (by omega), eo 26 (by omega)]
    exact hs
theorem md_wf_doors {T : Nat} {g : md_R} {c q : Nat} (hw : md_wf T g) (hc : c < 3) (hq : q ≤ 3) : md_wf T (va_up g (18 + c) (i3 q)) := by
  refine md_wf_cell hw hc (by omega) ?_
  have h12 := md_wf_n hw
  obtain ⟨a1, a2, a3, a4, a5, a6⟩ := hw.2.1 c hc
  unfold md_wc
  rw [up_n _ _ (by omega), up_n _ _ (by omega), up_n _ _ (by omega), up_e, up_n _ _ (by omega), up_n _ _ (by omega), md_lN_cg (g := g) (up_n _ _ (by omega)) (fun p hp => ⟨md_in_up (by omega) (by omega), up_n _ _ (by omega)⟩)]
  exact ⟨a1, a2, a3, ⟨q, hq, rfl⟩, a5, a6⟩
theorem md_wf_cap {T : Nat} {g : md_R} {c k : Nat} (hw : md_wf T g) (hc : c < 3) (h1 : 100 ≤ k) (h2 : k ≤ 900) (h3 : md_lN g c ≤ k) : md_wf T (va_up g (15 + c) (i3 k)) := by
  refine md_wf_cell hw hc (by omega) ?_
  have h12 := md_wf_n hw
  obtain ⟨a1, a2, a3, a4, a5, a6⟩ := hw.2.1 c hc
  unfold md_wc
  rw [up_n _ _ (by omega), up_n _ _ (by omega), up_e, up_n _ _ (by omega), up_n _ _ (by omega), up_n _ _ (by omega), md_lN_cg (g := g) (up_n _ _ (by omega)) (fun p hp => ⟨md_in_up (by omega) (by omega), up_n _ _ (by omega)⟩)]
  exact ⟨a1, a2, ⟨k, h1, h2, rfl, h3⟩, a4, a5, a6⟩
