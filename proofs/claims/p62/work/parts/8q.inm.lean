/-! .. the constructor of the reference; rows that agree below 141 -/
def tA (i : Nat) : Nat := if i = 0 then 8 else if i = 6 ∨ i = 7 then 21 else 22
def fA (i : Nat) : Nat := if i = 1 then 140 else if i = 2 then 141 else if i = 3 then 142 else if i = 4 then 143 else if i = 5 then 145 else if i = 6 then 147 else if i = 7 then 151 else 156
def lA (i : Nat) : Nat := if i = 4 then 1128 else if i = 6 ∨ i = 7 then 60 else if i = 8 then 240 else 141
theorem fA_inj {i j : Nat} (hi : 1 ≤ i) (hi8 : i ≤ 8) (hj : 1 ≤ j) (hj8 : j ≤ 8) (h : fA i = fA j) : i = j := by
  have : ∀ i j : Fin 9, 1 ≤ i.1 → 1 ≤ j.1 → fA i.1 = fA j.1 → i.1 = j.1 := by decide +kernel
  exact this ⟨i, by omega⟩ ⟨j, by omega⟩ hi hj h
theorem tA_0 (i : Nat) : tA i ≠ 0 := by
  unfold tA
  split
  · decide
  · split <;> decide
/-- the reference's arrays made so far -/
def iA (n : Nat) (M0 M1 : am_Hp) (A : Nat → Nat) : Prop := (∀ i, i < n → A i ≠ 0 ∧ hp_T M1 (A i) = tA i) ∧ (∀ i j, i < n → j < n → A i = A j → i = j) ∧ (∀ i, 0 < i → i < n → hp_T M0 (A i) = 0) ∧ fr (fun x => x = A 0) M0 M1
  ∧ ∀ i, 1 ≤ i → i < n → hp_R M1 (fA i) (A 0) = A i ∧ hp_N M1 (A i) = lA i ∧ hp_E M1 (A i) = (fun _ => 0)
theorem iA_T {n : Nat} {M0 M1 : am_Hp} {A : Nat → Nat} (h : iA n M0 M1 A) {i : Nat} (hi : i < n) : hp_T M1 (A i) ≠ 0 := by rw [(h.1 i hi).2]; exact tA_0 i
theorem iA_add {n : Nat} {M0 M M8 M12 : am_Hp} {A : Nat → Nat} {p : Nat} (h : iA n M0 M A) (hn : 0 < n) (hn8 : n ≤ 8) (hp : hp_T M p = 0) (zp : p ≠ 0) (e8 : M8 = hp_a M p (tA n) (lA n)) (e12 : M12 = hp_sR M8 (fA n) (A 0) p) : iA (n + 1) M0 M12 (va_up A n p) ∧ ∀ v, hp_I M12 v (A 0) = hp_I M v (A 0) := by
  obtain ⟨x1, x2, x3, x4, x5, x6, x7, x8⟩ := sx_arr e8 e12 (iA_T h hn) hp
  obtain ⟨h1, h2, h3, h4, h5⟩ := h
  have hT : ∀ i, i < n → hp_T M (A i) ≠ 0 := fun i hi => by rw [(h1 i hi).2]; exact tA_0 i
  have e1 : ∀ i, i < n → va_up A n p i = A i := fun i hi => if_neg (by omega)
  have e2 : va_up A n p n = p := if_pos rfl
  have np : ∀ i, i < n → A i ≠ p := fun i hi => ne_fr (hT i hi) hp
  have n0 : ∀ i, 0 < i → i < n → A i ≠ A 0 := fun i hi0 hi z => by
    have := h2 i 0 hi hn z
    omega
  have fresh : hp_T M0 p = 0 := Classical.byContradiction (fun z => by
    have := (h4 p z (fun y => np 0 hn y.symm)).1
    rw [hp] at this
    exact z this.symm)
  refine ⟨⟨fun i hi => ?_, fun i j hi hj e => ?_, fun i h0 hi => ?_, ?_, fun i i1 hi => ?_⟩, x7⟩
  · by_cases c : i = n
    · rw [c, e2]; exact ⟨zp, x2⟩
    · rw [e1 i (by omega)]
      by_cases c0 : i = 0
      · subst c0; exact ⟨(h1 0 hn).1, x1.trans (h1 0 hn).2⟩
      · exact ⟨(h1 i (by omega)).1, (x8 _ (hT i (by omega)) (n0 i (by omega) (by omega))).1.trans (h1 i (by omega)).2⟩
  · by_cases c : i = n
    · by_cases c' : j = n
      · omega
      · rw [c, e2, e1 j (by omega)] at e
        exact absurd e.symm (np j (by omega))
    · by_cases c' : j = n
      · rw [c', e2, e1 i (by omega)] at e
        exact absurd e (np i (by omega))
      · rw [e1 i (by omega), e1 j (by omega)] at e
        exact h2 i j (by omega) (by omega) e
  · by_cases c : i = n
    · rw [c, e2]; exact fresh
    · rw [e1 i (by omega)]; exact h3 i h0 (by omega)
  · rw [e1 0 hn]
    exact fun x y1 y2 => (h4 x y1 y2).tr (x8 x (by rw [(h4 x y1 y2).1]; exact y1) y2)
  · rw [e1 0 hn]
    by_cases c : i = n
    · subst c
      rw [e2]
      exact ⟨x5, x3, x4⟩
    · rw [e1 i (by omega)]
      obtain ⟨q1, q2, q3⟩ := h5 i i1 (by omega)
      have s := x8 _ (hT i (by omega)) (n0 i (by omega) (by omega))
      exact ⟨(x6 _ (fun z => c (fA_inj i1 (by omega) hn hn8 z))).trans q1, s.2.1.trans q2, s.2.2.2.2.1.trans q3⟩
theorem iA_I {n u : Nat} {M0 M : am_Hp} {A : Nat → Nat} {v : Int32} (h : iA n M0 M A) : iA n M0 (hp_sI M u (A 0) v) A := by
  obtain ⟨h1, h2, h3, h4, h5⟩ := h
  exact ⟨h1, h2, h3, fun x y1 y2 => (h4 x y1 y2).tr (sm_sI y2), h5⟩
theorem iA_mL {M0 M : am_Hp} {A : Nat → Nat} (h : iA 9 M0 M A) : mL M A := by
  obtain ⟨h1, h2, h3, h4, h5⟩ := h
  have z := fun i (hi : i < 9) => (h1 i hi).1
  have t := fun i (hi : i < 9) => (h1 i hi).2
  exact ⟨t 0 (by omega), (h5 1 (by omega) (by omega)).1, (h5 2 (by omega) (by omega)).1, (h5 3 (by omega) (by omega)).1, (h5 4 (by omega) (by omega)).1, (h5 5 (by omega) (by omega)).1, (h5 6 (by omega) (by omega)).1, (h5 7 (by omega) (by omega)).1, (h5 8 (by omega) (by omega)).1, t 1 (by omega), t 2 (by omega), t 3 (by omega), t 4 (by omega), t 5 (by omega), t 6 (by omega), t 7 (by omega), t 8 (by omega), (h5 1 (by omega) (by omega)).2.1, (h5 2 (by omega) (by omega)).2.1, (h5 3 (by omega) (by omega)).2.1, (h5 4 (by omega) (by omega)).2.1, (h5 5 (by omega) (by omega)).2.1, (h5 6 (by omega) (by omega)).2.1, (h5 7 (by omega) (by omega)).2.1, (h5 8 (by omega) (by omega)).2.1, z 1 (by omega), z 2 (by omega), z 3 (by omega), z 4 (by omega), z 5 (by omega), z 6 (by omega), z 7 (by omega), z 8 (by omega), fun i j hi hj => h2 i j (by omega) (by omega)⟩
/-! rows that agree below 141 -/
theorem md_n_cg1 {g h : md_R} (e : ∀ k, k < 141 → h k = g k) : md_n h = md_n g := md_n_eq (e 1 (by omega))
theorem md_wf_cg1 {T : Nat} {g h : md_R} (e : ∀ k, k < 141 → h k = g k) (hw : md_wf T g) : md_wf T h := by
  have en := md_n_cg1 e
  have h12 := (md_wf_ok hw).2
  obtain ⟨⟨n, n12, e1⟩, hc, hp, ⟨t, t1, t2⟩, ⟨u, u1, u2⟩, ⟨a1, a2, a3, a4, b1, b2, b3, b4, b5, b6, b7, b8, b9⟩⟩ := hw
  refine ⟨⟨n, n12, (e 1 (by omega)).trans e1⟩, fun c hc3 => md_wc_cg (fun k k1 k2 => e k (by omega)) (Nat.le_of_eq ?_) hc3 (hc c hc3), fun p hp' => ?_, ⟨t, t1, (e 0 (by omega)).trans t2⟩, ⟨u, u1, (e 3 (by omega)).trans u2⟩, ⟨a1, a2, a3, a4, (e 5 (by omega)).trans b1, (e 6 (by omega)).trans b2, (e 7 (by omega)).trans b3, (e 8 (by omega)).trans b4, b5, b6, b7, b8, ?_⟩⟩
  · unfold md_lN
    rw [en]
    refine md_sN_cg _ (fun i hi => ?_)
    have i1 : md_in h i c = md_in g i c := by
      unfold md_in
      rw [e (99 + i) (by omega), e (87 + i) (by omega)]
    rw [i1, e (63 + i) (by omega)]
  · rw [en] at hp'
    have := hp p hp'
    obtain ⟨w1, w2, w3, w4, w5, w6, w7, w8⟩ := this
    unfold md_wp
    rw [e (39 + p) (by omega), e (51 + p) (by omega), e (63 + p) (by omega), e (75 + p) (by omega), e (87 + p) (by omega), e (99 + p) (by omega)]
    exact ⟨w1, w2, w3, w4, w5, w6, w7, fun c hc3 x y => (e (21 + c) (by omega)).trans (w8 c hc3 x y)⟩
  · rw [e 24 (by omega), e 25 (by omega), e 26 (by omega)]
    exact b9
theorem bR_cg1 {M : am_Hp} {B : Nat → Nat} {g h : md_R} (e : ∀ k, k < 141 → h k = g k) (h12 : md_n g ≤ 12) (hR : bR M B g) : bR M B h := by
  have en := md_n_cg1 e
  obtain ⟨r1, r2, r3, r4, r5, r6⟩ := hR
  refine ⟨r1, r2, iR_cg (fun _ _ _ => rfl) (fun k hk => e k (by omega)) r3, fun c hc => cR_cg hc (fun _ _ _ => rfl) (fun k hk => e k (by omega)) (md_ld_cg h12 (fun k hk => e k (by omega))) (md_is_cg h12 (fun k hk => e k (by omega))) (r4 c hc), fun p hp => ?_, tR_cg rfl rfl (fun _ _ _ => rfl) (fun k hk => e k (by omega)) r6⟩
  rw [en] at hp
  exact pR_cg (fun _ _ _ => rfl) (fun r hr => e _ (by omega)) (r5 p hp)
theorem gL_cg1 {T : Nat} {M : am_Hp} {a h E n c : Nat} {L : Nat → Nat → Nat} {g g' sn : md_R} {hist : Nat → md_R} (e : ∀ k, k < 141 → g' k = g k) (hg : gL T M a h E n c L g sn hist) : gL T M a h E n c L g' sn hist := by
  obtain ⟨ta, rr, ⟨hR, hw⟩, rest⟩ := hg
  exact ⟨ta, rr, ⟨bR_cg1 e (md_wf_ok hw).2 hR, md_wf_cg1 e hw⟩, rest⟩
theorem md_nu_cg1 {K : Nat} {g h : md_R} (h12 : md_n g ≤ 12) (e : ∀ k, k < 141 → h k = g k) (hn : md_nu K g) : md_nu K h := by
  have en := md_n_cg1 e
  obtain ⟨⟨m, m1, m2, m3⟩, m4⟩ := hn
  refine ⟨⟨m, m1, (e 2 (by omega)).trans m2, fun p hp => ?_⟩, fun p q hp hq x => ?_⟩
  · rw [en] at hp
    obtain ⟨x, y, z⟩ := m3 p hp
    exact ⟨x, y, (e _ (by omega)).trans z⟩
  · rw [en] at hp hq
    rw [e _ (by omega), e _ (by omega)] at x
    exact m4 p q hp hq x
