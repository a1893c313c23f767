/-! the rows stay in order: passengers leave and come -/
theorem md_sN_cg {f f' : Nat → Nat} : ∀ (n : Nat), (∀ i, i < n → f i = f' i) → md_sN f n = md_sN f' n
  | 0, _ => rfl
  | n + 1, h => by rw [md_sN, md_sN, md_sN_cg n (fun i hi => h i (by omega)), h n (by omega)]
/-- a sum without its p-th part -/
theorem md_sN_skip {f : Nat → Nat} {p : Nat} : ∀ n, p ≤ n → md_sN (fun q => f (if q < p then q else q + 1)) n + f p = md_sN f (n + 1)
  | 0, h => by
    have : p = 0 := by omega
    subst this
    simp [md_sN]
  | n + 1, h => by
    by_cases hp : p = n + 1
    · subst hp
      rw [md_sN_cg (f' := f) (n + 1) (fun i hi => by rw [if_pos hi])]
      rfl
    · have ih := md_sN_skip (f := f) n (show p ≤ n by omega)
      rw [md_sN, if_neg (by omega)]
      show _ = md_sN f (n + 1) + f (n + 1)
      omega
theorem md_dr_row {g : md_R} {p r q : Nat} (hr : r < 7) (hq : q < 11) : md_dr g p (27 + 12 * r + q) = g (27 + 12 * r + (if q < p then q else q + 1)) := by
  unfold md_dr
  rw [up_n _ _ (by omega)]
  unfold md_dP
  have e : (27 + 12 * r + q - 27) % 12 = q := by omega
  rw [e]
  by_cases h : q < p
  · rw [if_neg (by omega), if_pos h]
  · rw [if_pos (by omega), if_pos hq, if_neg h]
    rfl
theorem md_dr_out {g : md_R} {p k : Nat} (h1 : k ≠ 1) (h : k < 27 ∨ 111 ≤ k) : md_dr g p k = g k := by
  unfold md_dr
  rw [up_n _ _ h1]
  unfold md_dP
  rw [if_neg (by omega)]
theorem md_dr_n {g : md_R} {p n : Nat} (h : g 1 = i3 (n + 1)) : md_dr g p 1 = i3 n := by
  unfold md_dr
  rw [up_e, h]
  exact i3_sub n 1
theorem md_dr_in {g : md_R} {p q c : Nat} (hq : q < 11) : md_in (md_dr g p) q c = md_in g (if q < p then q else q + 1) c := by
  unfold md_in
  rw [show 99 + q = 27 + 12 * 6 + q by omega, show 87 + q = 27 + 12 * 5 + q by omega, md_dr_row (by omega) hq, md_dr_row (by omega) hq]
theorem md_lN_dr {g : md_R} {p n c : Nat} (hn : g 1 = i3 (n + 1)) (h12 : n + 1 ≤ 12) (hp : p ≤ n) : md_lN (md_dr g p) c + (if md_in g p c then (g (63 + p)).toNatClampNeg else 0) = md_lN g c := by
  unfold md_lN
  rw [md_n_of hn h12, md_n_of (md_dr_n hn) (by omega), ← md_sN_skip (f := fun q => if md_in g q c then (g (63 + q)).toNatClampNeg else 0) n hp]
  congr 1
  refine md_sN_cg n (fun i hi => ?_)
  rw [md_dr_in (by omega), show 63 + i = 27 + 12 * 3 + i by omega, md_dr_row (by omega) (by omega)]
theorem md_cN_dr {g : md_R} {p n c : Nat} (hn : g 1 = i3 (n + 1)) (h12 : n + 1 ≤ 12) (hp : p ≤ n) : md_cN (md_dr g p) c + (if md_in g p c then 1 else 0) = md_cN g c := by
  unfold md_cN
  rw [md_n_of hn h12, md_n_of (md_dr_n hn) (by omega), ← md_sN_skip (f := fun q => if md_in g q c then 1 else 0) n hp]
  congr 1
  refine md_sN_cg n (fun i hi => ?_)
  rw [md_dr_in (by omega)]
theorem md_wp_cg {T : Nat} {g h : md_R} {p q : Nat} (e1 : h (39 + q) = g (39 + p)) (e2 : h (51 + q) = g (51 + p)) (e3 : h (63 + q) = g (63 + p)) (e4 : h (75 + q) = g (75 + p)) (e5 : h (87 + q) = g (87 + p)) (e6 : h (99 + q) = g (99 + p)) (e7 : ∀ c, c < 3 → h (21 + c) = g (21 + c)) (hw : md_wp T g p) : md_wp T h q := by
  unfold md_wp
  rw [e1, e2, e3, e4, e5, e6]
  obtain ⟨a1, a2, a3, a4, a5, a6, a7, a8⟩ := hw
  exact ⟨a1, a2, a3, a4, a5, a6, a7, fun c hc h1 h2 => by rw [e7 c hc]; exact a8 c hc h1 h2⟩
theorem md_wp_mono {T U : Nat} {g : md_R} {p : Nat} (h : T ≤ U) (hw : md_wp T g p) : md_wp U g p := by
  obtain ⟨a1, a2, a3, ⟨q, b1, b2⟩, a5, a6, a7, a8⟩ := hw
  exact ⟨a1, a2, a3, ⟨q, by omega, b2⟩, a5, a6, a7, a8⟩
theorem md_wc_mono {T U : Nat} {g : md_R} {c : Nat} (h : T ≤ U) (hw : md_wc T g c) : md_wc U g c := by
  obtain ⟨a1, a2, a3, a4, a5, ⟨e, b1, b2⟩⟩ := hw
  exact ⟨a1, a2, a3, a4, a5, ⟨e, by omega, b2⟩⟩
theorem md_wf_mono {T U : Nat} {g : md_R} (h : T ≤ U) (hw : md_wf T g) : md_wf U g := by
  obtain ⟨a1, a2, a3, ⟨t, b1, b2⟩, ⟨s, c1, c2⟩, ⟨u, e, o, k, d1, d2, d3, d4, d5, d6, d7, d8, d9⟩⟩ := hw
  exact ⟨a1, fun c hc => md_wc_mono h (a2 c hc), fun p hp => md_wp_mono h (a3 p hp), ⟨t, by omega, b2⟩, ⟨s, by omega, c2⟩, ⟨u, e, o, k, d1, d2, d3, d4, by omega, by omega, by omega, by omega, d9⟩⟩
theorem md_wc_cg {T : Nat} {g h : md_R} {c : Nat} (e : ∀ k, 9 ≤ k → k < 27 → h k = g k) (hl : md_lN h c ≤ md_lN g c) (hc : c < 3) (hw : md_wc T g c) : md_wc T h c := by
  unfold md_wc
  rw [e (9 + c) (by omega) (by omega), e (12 + c) (by omega) (by omega), e (15 + c) (by omega) (by omega), e (18 + c) (by omega) (by omega), e (21 + c) (by omega) (by omega), e (24 + c) (by omega) (by omega)]
  obtain ⟨a1, a2, ⟨k, b1, b2, b3, b4⟩, a4, a5, a6⟩ := hw
  exact ⟨a1, a2, ⟨k, b1, b2, b3, by omega⟩, a4, a5, a6⟩
theorem md_wf_dr {T : Nat} {g : md_R} {p : Nat} (hp : p < md_n g) (hw : md_wf T g) : md_wf T (md_dr g p) := by
  obtain ⟨⟨n0, h0, hn0⟩, hc, hP, ht, hr, hs⟩ := hw
  have e0 := md_n_of hn0 h0
  obtain ⟨n, rfl⟩ : ∃ n, n0 = n + 1 := ⟨n0 - 1, by omega⟩
  have e1 := md_n_of (md_dr_n (p := p) hn0) (by omega)
  refine ⟨⟨n, by omega, md_dr_n hn0⟩, fun c hc3 => ?_, fun q hq => ?_, ?_, ?_, ?_⟩
  · refine md_wc_cg (fun k h1 h2 => md_dr_out (by omega) (by omega)) ?_ hc3 (hc c hc3)
    have := md_lN_dr (c := c) hn0 h0 (show p ≤ n by omega)
    omega
  · rw [e1] at hq
    have hq' : (if q < p then q else q + 1) < md_n g := by split <;> omega
    refine md_wp_cg ?_ ?_ ?_ ?_ ?_ ?_ (fun c hc3 => md_dr_out (by omega) (by omega)) (hP _ hq')
    · exact md_dr_row (r := 1) (by omega) (by omega)
    · exact md_dr_row (r := 2) (by omega) (by omega)
    · exact md_dr_row (r := 3) (by omega) (by omega)
    · exact md_dr_row (r := 4) (by omega) (by omega)
    · exact md_dr_row (r := 5) (by omega) (by omega)
    · exact md_dr_row (r := 6) (by omega) (by omega)
  · rw [md_dr_out (by omega) (by omega)]; exact ht
  · rw [md_dr_out (by omega) (by omega)]; exact hr
  · rw [md_dr_out (by omega) (by omega), md_dr_out (by omega) (by omega), md_dr_out (by omega) (by omega), md_dr_out (by omega) (by omega), md_dr_out (by omega) (by omega), md_dr_out (by omega) (by omega), md_dr_out (by omega) (by omega)]
    exact hs
