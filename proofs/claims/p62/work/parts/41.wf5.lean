/-! .. a whole step, and the commands -/
theorem md_wf_a1 {T p : Nat} {g : md_R} (hw : md_wf T g) (hp : p < md_n g) : md_wf T (md_a1 g p) ∧ md_a1 g p 1 = g 1 := by
  have h12 := md_wf_n hw
  unfold md_a1
  split
  · rename_i h
    have h0 : g (99 + p) = 0 := by
      obtain ⟨-, -, -, -, -, a6, a7, -⟩ := hw.2.2.1 p hp
      rcases a6 with z | z
      · exact z
      · exact absurd h (a7 z)
    exact ⟨md_wf_as hw hp h0, up_n _ _ (by omega)⟩
  · exact ⟨hw, rfl⟩
theorem md_wf_w1 {T p q : Nat} {g : md_R} (hw : md_wf T g) (hp : p < md_n g) (hq : g (75 + p) = i3 q) (hT : q + 1 ≤ T) : md_wf T (md_w1 g p) := by
  obtain ⟨-, -, -, -, -, a6, -⟩ := hw.2.2.1 p hp
  unfold md_w1
  rcases a6 with z | z
  · rw [z, hq, show (1 : Int32) - 0 = 1 from rfl, i3_one]
    exact md_wf_wait hw hp hT
  · rw [z, hq, show (1 : Int32) - 1 = 0 from rfl, Int32.add_zero]
    exact md_wf_wait hw hp (by omega)
theorem md_wf_c1 {T c : Nat} {g : md_R} (hw : md_wf T g) (hc : c < 3) (hT : T < 400000000) : md_wf (T + 20) (md_c1 g c) := by
  unfold md_c1
  split
  · exact md_wf_ac hw hc hT
  · exact md_wf_mono (by omega) hw
theorem md_as_far {g : md_R} {p k : Nat} (h : k ≠ 87 + p) : md_as g p k = g k := up_n _ _ h
theorem md_a1_far {g : md_R} {p k : Nat} (h : k ≠ 87 + p) : md_a1 g p k = g k := by
  unfold md_a1
  split
  · exact md_as_far h
  · rfl
/-- the row behind the assigning of the first k, and behind the waiting of the first k -/
theorem md_wf_fa {T : Nat} {g : md_R} (hw : md_wf T g) : ∀ k, k ≤ md_n g → md_wf T (md_fo md_a1 g k) ∧ ∀ j, (j < 87 ∨ 99 ≤ j) → md_fo md_a1 g k j = g j :=
  md_fo_ind (I := fun _ h => md_wf T h ∧ ∀ j, (j < 87 ∨ 99 ≤ j) → h j = g j) ⟨hw, fun j _ => rfl⟩ (fun k h hk ⟨h1, h2⟩ => by
    have h12 := md_wf_n hw
    have e1 := md_n_eq (h2 1 (by omega))
    exact ⟨(md_wf_a1 h1 (by omega)).1, fun j hj => by rw [md_a1_far (by omega), h2 j hj]⟩)
theorem md_w1_far {g : md_R} {p k : Nat} (h : k ≠ 75 + p) : md_w1 g p k = g k := up_n _ _ h
theorem md_wf_fw {T U : Nat} {g : md_R} (hw : md_wf U g) (hq : ∀ p, p < md_n g → ∃ q, q ≤ T ∧ g (75 + p) = i3 q) (hT : T + 1 ≤ U) : ∀ k, k ≤ md_n g → md_wf U (md_fo md_w1 g k) ∧ ∀ j, (j < 75 ∨ 75 + k ≤ j) → md_fo md_w1 g k j = g j :=
  md_fo_ind (I := fun k h => md_wf U h ∧ ∀ j, (j < 75 ∨ 75 + k ≤ j) → h j = g j) ⟨hw, fun j _ => rfl⟩ (fun k h hk ⟨h1, h2⟩ => by
    have e1 := md_n_eq (h2 1 (by omega))
    obtain ⟨q, q1, q2⟩ := hq k hk
    exact ⟨md_wf_w1 h1 (by omega) (by rw [h2 _ (by omega)]; exact q2) (by omega), fun j hj => by rw [md_w1_far (by omega), h2 j (by omega)]⟩)
theorem md_wf_time {T t : Nat} {g : md_R} (hw : md_wf T g) (ht : t ≤ T) : md_wf T (va_up g 0 (i3 t)) :=
  md_wf_far hw (fun k hk => up_n _ _ (by omega)) ⟨t, ht, up_e _ _ _⟩ (by rw [up_n _ _ (by omega)]; exact hw.2.2.2.2.1)
/-- the row before the cars act -/
def md_pre (g : md_R) : md_R := md_fo md_w1 (md_fo md_a1 (va_up g 0 (g 0 + 1)) (md_n g)) (md_n g)
theorem md_step_eq {g : md_R} {T : Nat} (hw : md_wf T g) : md_step g = md_c1 (md_c1 (md_c1 (md_pre g) 0) 1) 2 := by
  obtain ⟨t, t1, t2⟩ := hw.2.2.2.1
  have w0 : md_wf (T + 1) (va_up g 0 (g 0 + 1)) := by
    rw [t2, i3_one]
    exact md_wf_time (md_wf_mono (by omega) hw) (by omega)
  have e1 : md_n (md_fo md_a1 (va_up g 0 (g 0 + 1)) (md_n (va_up g 0 (g 0 + 1)))) = md_n g := by
    rw [md_n_eq ((md_wf_fa w0 _ (Nat.le_refl _)).2 1 (by omega)), md_n_up (by omega)]
  unfold md_step md_pre
  simp only [md_n_up (show (0 : Nat) ≠ 1 by omega)] at e1 ⊢
  first | rfl | (rw [e1]; rfl)
theorem md_wf_pre {T : Nat} {g : md_R} (hw : md_wf T g) : md_wf (T + 1) (md_pre g) := by
  obtain ⟨t, t1, t2⟩ := hw.2.2.2.1
  have w0 : md_wf (T + 1) (va_up g 0 (g 0 + 1)) := by
    rw [t2, i3_one]
    exact md_wf_time (md_wf_mono (by omega) hw) (by omega)
  have n0 : md_n (va_up g 0 (g 0 + 1)) = md_n g := md_n_up (by omega)
  obtain ⟨w1, e1⟩ := md_wf_fa w0 (md_n g) (by omega)
  have n1 : md_n (md_fo md_a1 (va_up g 0 (g 0 + 1)) (md_n g)) = md_n g := by rw [md_n_eq (e1 1 (by omega)), n0]
  have h12 := md_wf_n hw
  refine (md_wf_fw (T := T) w1 (fun p hp => ?_) (by omega) (md_n g) (by omega)).1
  rw [n1] at hp
  obtain ⟨-, -, -, ⟨q, q1, q2⟩, -⟩ := hw.2.2.1 p hp
  exact ⟨q, q1, by rw [e1 _ (by omega), up_n _ _ (by omega)]; exact q2⟩
theorem md_wf_step {T : Nat} {g : md_R} (hw : md_wf T g) (hT : T < 300000000) : md_wf (T + 61) (md_step g) := by
  rw [md_step_eq hw]
  exact md_wf_c1 (T := T + 1 + 20 + 20) (md_wf_c1 (T := T + 1 + 20) (md_wf_c1 (md_wf_pre hw) (by omega) (by omega)) (by omega) (by omega)) (by omega) (by omega)
theorem md_wf_it {T : Nat} {g : md_R} (hw : md_wf T g) : ∀ k, T + 61 * k < 300000000 → md_wf (T + 61 * k) (md_it g k)
  | 0, _ => hw
  | k + 1, h => by
    have := md_wf_step (md_wf_it hw k (by omega)) (by omega)
    exact md_wf_mono (by omega) this
/-- a passenger more -/
def md_nw (g : md_R) (s e w : Int32) : md_R :=
  va_up (va_up (va_up (va_up (va_up (va_up (va_up (va_up (va_up g (27 + md_n g) (g 2)) (39 + md_n g) s) (51 + md_n g) e) (63 + md_n g) w) (75 + md_n g) 0) (99 + md_n g) 0) (87 + md_n g) 0) 1 (g 1 + 1)) 2 (g 2 + 1)
theorem md_ad_nw (g : md_R) (s e w : Int32) : md_ad g s e w = md_as (md_nw g s e w) (md_n g) := rfl
theorem md_nw_far {g : md_R} {s e w : Int32} {k : Nat} (h1 : k ≠ 1) (h2 : k ≠ 2) (h : k < 27 ∨ 111 ≤ k ∨ (27 ≤ k ∧ k < 111 ∧ (k - 27) % 12 ≠ md_n g)) (h12 : md_n g < 12) : md_nw g s e w k = g k := by
  unfold md_nw
  rw [up_n _ _ h2, up_n _ _ h1, up_n _ _ (by omega), up_n _ _ (by omega), up_n _ _ (by omega), up_n _ _ (by omega), up_n _ _ (by omega), up_n _ _ (by omega), up_n _ _ (by omega)]
theorem md_wf_nw {T s e w : Nat} {g : md_R} (hw : md_wf T g) (hn : md_n g < 12) (hs : s < 10) (he : e < 10) (hw1 : 10 ≤ w) (hw2 : w ≤ 150) : md_wf T (md_nw g (i3 s) (i3 e) (i3 w)) ∧ md_n (md_nw g (i3 s) (i3 e) (i3 w)) = md_n g + 1 := by
  obtain ⟨⟨n, n0, n1⟩, hC, hP, ht, hr, hS⟩ := hw
  have en := md_n_of n1 n0
  have e1 : md_nw g (i3 s) (i3 e) (i3 w) 1 = i3 (n + 1) := by
    unfold md_nw
    rw [up_n _ _ (by omega), up_e, n1, i3_one]
  have n2 : md_n (md_nw g (i3 s) (i3 e) (i3 w)) = n + 1 := md_n_of e1 (by omega)
  have eo : ∀ k, k ≠ 1 → k ≠ 2 → (k < 27 ∨ 111 ≤ k ∨ (27 ≤ k ∧ k < 111 ∧ (k - 27) % 12 ≠ n)) → md_nw g (i3 s) (i3 e) (i3 w) k = g k := fun k k1 k2 k3 => md_nw_far k1 k2 (by rw [en]; exact k3) hn
  have new : md_nw g (i3 s) (i3 e) (i3 w) (99 + n) = 0 := by
    unfold md_nw
    rw [en, up_n _ _ (by omega), up_n _ _ (by omega), up_n _ _ (by omega), up_e]
  have eL : ∀ c, md_lN (md_nw g (i3 s) (i3 e) (i3 w)) c = md_lN g c := by
    intro c
    unfold md_lN
    rw [n2, en, md_sN, md_in_no new]
    show md_sN _ n + 0 = _
    rw [Nat.add_zero]
    refine md_sN_cg n (fun i hi => ?_)
    unfold md_in
    rw [eo (99 + i) (by omega) (by omega) (by omega), eo (87 + i) (by omega) (by omega) (by omega), eo (63 + i) (by omega) (by omega) (by omega)]
  refine ⟨⟨⟨n + 1, by omega, e1⟩, fun c hc => md_wc_cg (fun k k1 k2 => eo k (by omega) (by omega) (by omega)) (Nat.le_of_eq (eL c)) hc (hC c hc), fun p hp => ?_, by rw [eo 0 (by omega) (by omega) (by omega)]; exact ht, by rw [eo 3 (by omega) (by omega) (by omega)]; exact hr, ?_⟩, by rw [n2, en]⟩
  · rw [n2] at hp
    by_cases ep : p = n
    · subst ep
      unfold md_wp
      have x1 : md_nw g (i3 s) (i3 e) (i3 w) (39 + p) = i3 s := by unfold md_nw; rw [en, up_n _ _ (by omega), up_n _ _ (by omega), up_n _ _ (by omega), up_n _ _ (by omega), up_n _ _ (by omega), up_n _ _ (by omega), up_n _ _ (by omega), up_e]
      have x2 : md_nw g (i3 s) (i3 e) (i3 w) (51 + p) = i3 e := by unfold md_nw; rw [en, up_n _ _ (by omega), up_n _ _ (by omega), up_n _ _ (by omega), up_n _ _ (by omega), up_n _ _ (by omega), up_n _ _ (by omega), up_e]
      have x3 : md_nw g (i3 s) (i3 e) (i3 w) (63 + p) = i3 w := by unfold md_nw; rw [en, up_n _ _ (by omega), up_n _ _ (by omega), up_n _ _ (by omega), up_n _ _ (by omega), up_n _ _ (by omega), up_e]
      have x4 : md_nw g (i3 s) (i3 e) (i3 w) (75 + p) = 0 := by unfold md_nw; rw [en, up_n _ _ (by omega), up_n _ _ (by omega), up_n _ _ (by omega), up_n _ _ (by omega), up_e]
      have x5 : md_nw g (i3 s) (i3 e) (i3 w) (87 + p) = 0 := by unfold md_nw; rw [en, up_n _ _ (by omega), up_n _ _ (by omega), up_e]
      rw [x1, x2, x3, x4, x5, new]
      exact ⟨⟨s, hs, rfl⟩, ⟨e, he, rfl⟩, ⟨w, hw1, hw2, rfl⟩, ⟨0, by omega, rfl⟩, ⟨0, by omega, rfl⟩, .inl rfl, fun z => absurd z (by decide), fun c hc z1 z2 => by
        rw [i3_one, show (0 : Int32) = i3 0 from rfl, i3_eq (by omega) (by omega)] at z2
        omega⟩
    · exact md_wp_cg (eo _ (by omega) (by omega) (by omega)) (eo _ (by omega) (by omega) (by omega)) (eo _ (by omega) (by omega) (by omega)) (eo _ (by omega) (by omega) (by omega)) (eo _ (by omega) (by omega) (by omega)) (eo _ (by omega) (by omega) (by omega)) (fun c hc3 => eo _ (by omega) (by omega) (by omega)) (hP p (by omega))
  · rw [eo 5 (by omega) (by omega) (by omega), eo 6 (by omega) (by omega) (by omega), eo 7 (by omega) (by omega) (by omega), eo 8 (by omega) (by omega) (by omega), eo 24 (by omega) (by omega) (by omega), eo 25 (by omega) (by omega) (by omega), eo 26 (by omega) (by omega) (by omega)]
    exact hS
theorem md_wf_ad {T s e w : Nat} {g : md_R} (hw : md_wf T g) (hn : md_n g < 12) (hs : s < 10) (he : e < 10) (hw1 : 10 ≤ w) (hw2 : w ≤ 150) : md_wf T (md_ad g (i3 s) (i3 e) (i3 w)) := by
  obtain ⟨w1, w2⟩ := md_wf_nw hw hn hs he hw1 hw2
  rw [md_ad_nw]
  refine md_wf_as w1 (by omega) ?_
  unfold md_nw
  rw [up_n _ _ (by omega), up_n _ _ (by omega), up_n _ _ (by omega), up_e]
/-- a car leaves the service -/
def md_r1 (c : Nat) (g : md_R) (p : Nat) : md_R := if md_aw g p c then va_up g (87 + p) 0 else g
def md_so (g : md_R) (c : Nat) : md_R := va_up (md_fo (md_r1 c) g (md_n g)) (21 + c) 1
theorem md_wf_r1 {T c : Nat} {g : md_R} (hw : md_wf T g) (hc : c < 3) : ∀ k, k ≤ md_n g → md_wf T (md_fo (md_r1 c) g k) ∧ (∀ j, (j < 87 ∨ 87 + k ≤ j) → md_fo (md_r1 c) g k j = g j) ∧ ∀ p, p < k → md_aw (md_fo (md_r1 c) g k) p c = false :=
  md_fo_ind (I := fun k h => md_wf T h ∧ (∀ j, (j < 87 ∨ 87 + k ≤ j) → h j = g j) ∧ ∀ p, p < k → md_aw h p c = false) ⟨hw, fun j _ => rfl, fun p hp => by omega⟩ (fun k h hk ⟨h1, h2, h3⟩ => by
    have h12 := md_wf_n hw
    have e1 := md_n_eq (h2 1 (by omega))
    unfold md_r1
    split
    · rename_i ha
      have h0 : h (99 + k) = 0 := by
        unfold md_aw at ha
        rw [Bool.and_eq_true] at ha
        exact eq_of_beq ha.1
      refine ⟨md_wf_car h1 (by omega) h0 (.inl rfl), fun j hj => by rw [up_n _ _ (by omega), h2 j (by omega)], fun p hp => ?_⟩
      by_cases ep : p = k
      · subst ep
        unfold md_aw
        rw [up_e, up_n _ _ (by omega), h0, i3_one]
        have hz : ¬ (0 : Int32) = i3 (c + 1) := by
          rw [show (0 : Int32) = i3 0 from rfl, i3_eq (by omega) (by omega)]
          omega
        simp [hz]
      · have := h3 p (by omega)
        unfold md_aw at this ⊢
        rw [up_n _ _ (by omega), up_n _ _ (by omega)]
        exact this
    · rename_i ha
      refine ⟨h1, fun j hj => h2 j (by omega), fun p hp => ?_⟩
      by_cases ep : p = k
      · subst ep
        cases hz : md_aw h p c with
        | false => rfl
        | true => exact absurd hz ha
      · exact h3 p (by omega))
/-- .. in or out of service -/
theorem md_wf_out {T c : Nat} {g : md_R} {v : Int32} (hw : md_wf T g) (hc : c < 3) (hv : v = 0 ∨ v = 1) (ha : v = 0 ∨ ∀ p, p < md_n g → md_aw g p c = false) : md_wf T (va_up g (21 + c) v) := by
  have h12 := md_wf_n hw
  have eo : ∀ j, j ≠ 21 + c → va_up g (21 + c) v j = g j := fun j hj => up_n _ _ hj
  have eL : ∀ x, md_lN (va_up g (21 + c) v) x = md_lN g x := fun x => md_lN_cg (eo 1 (by omega)) (fun p hp => ⟨md_in_up (by omega) (by omega), eo _ (by omega)⟩)
  obtain ⟨hn, hC, hP, ht, hr, hs⟩ := hw
  refine ⟨by rw [eo 1 (by omega)]; exact hn, fun x hx => ?_, fun p hp => ?_, by rw [eo 0 (by omega)]; exact ht, by rw [eo 3 (by omega)]; exact hr, ?_⟩
  · obtain ⟨a1, a2, a3, a4, a5, a6⟩ := hC x hx
    unfold md_wc
    rw [eL x, eo (9 + x) (by omega), eo (12 + x) (by omega), eo (15 + x) (by omega), eo (18 + x) (by omega), eo (24 + x) (by omega)]
    refine ⟨a1, a2, a3, a4, ?_, a6⟩
    by_cases e : x = c
    · rw [e, up_e]; exact hv
    · rw [eo _ (by omega)]; exact a5
  · rw [md_n_up (by omega)] at hp
    obtain ⟨a1, a2, a3, a4, a5, a6, a7, a8⟩ := hP p hp
    unfold md_wp
    rw [eo (39 + p) (by omega), eo (51 + p) (by omega), eo (63 + p) (by omega), eo (75 + p) (by omega), eo (87 + p) (by omega), eo (99 + p) (by omega)]
    refine ⟨a1, a2, a3, a4, a5, a6, a7, fun x hx z1 z2 => ?_⟩
    by_cases e : x = c
    · subst e
      rcases ha with h | h
      · rw [up_e]; exact h
      · have := h p hp
        unfold md_aw at this
        rw [z1, z2] at this
        simp at this
    · rw [eo _ (by omega)]; exact a8 x hx z1 z2
  · rw [eo 5 (by omega), eo 6 (by omega), eo 7 (by omega), eo 8 (by omega), eo 24 (by omega), eo 25 (by omega), eo 26 (by omega)]
    exact hs
theorem md_wf_so {T c : Nat} {g : md_R} (hw : md_wf T g) (hc : c < 3) : md_wf T (md_so g c) := by
  obtain ⟨h1, h2, h3⟩ := md_wf_r1 hw hc (md_n g) (Nat.le_refl _)
  exact md_wf_out h1 hc (.inr rfl) (.inr (fun p hp => h3 p (by rw [md_n_eq (h2 1 (by omega))] at hp; exact hp)))
theorem md_wf_si {T c : Nat} {g : md_R} (hw : md_wf T g) (hc : c < 3) : md_wf T (va_up g (21 + c) 0) := md_wf_out hw hc (.inl rfl) (.inl rfl)
/-- a new row -/
def md_g0 : md_R := fun k => if k = 2 then 1 else if 15 ≤ k ∧ k < 18 then 400 else 0
theorem md_wf_g0 : md_wf 0 md_g0 := by
  refine ⟨⟨0, by omega, rfl⟩, fun c hc => ?_, fun p hp => absurd (show p < 0 from hp) (Nat.not_lt_zero p), ⟨0, by omega, rfl⟩, ⟨0, by omega, rfl⟩, ⟨0, 0, 0, 0, rfl, rfl, rfl, rfl, by omega, by omega, by omega, by omega, rfl⟩⟩
  rcases (by omega : c = 0 ∨ c = 1 ∨ c = 2) with rfl | rfl | rfl
  · exact ⟨⟨0, by omega, rfl⟩, .inl rfl, ⟨400, by omega, by omega, rfl, by decide⟩, ⟨0, by omega, rfl⟩, .inl rfl, ⟨0, by omega, rfl⟩⟩
  · exact ⟨⟨0, by omega, rfl⟩, .inl rfl, ⟨400, by omega, by omega, rfl, by decide⟩, ⟨0, by omega, rfl⟩, .inl rfl, ⟨0, by omega, rfl⟩⟩
  · exact ⟨⟨0, by omega, rfl⟩, .inl rfl, ⟨400, by omega, by omega, rfl, by decide⟩, ⟨0, by omega, rfl⟩, .inl rfl, ⟨0, by omega, rfl⟩⟩
