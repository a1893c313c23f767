/-! the reference's rows in order, and what follows for the sets of stops and the sums -/
def md_sN (f : Nat → Nat) : Nat → Nat
  | 0 => 0
  | n + 1 => md_sN f n + f n
theorem md_sN_le {f : Nat → Nat} {b : Nat} : ∀ n, (∀ i, i < n → f i ≤ b) → md_sN f n ≤ b * n
  | 0, _ => Nat.zero_le _
  | n + 1, h => by
    have h1 := md_sN_le n (fun i hi => h i (by omega))
    have h2 := h n (by omega)
    rw [md_sN, Nat.mul_succ]
    omega
theorem md_sum_N {f : Nat → Int32} {h : Nat → Nat} : ∀ n, (∀ i, i < n → f i = i3 (h i)) → md_sum f n = i3 (md_sN h n)
  | 0, _ => rfl
  | n + 1, e => by rw [md_sum, md_sN, md_sum_N n (fun i hi => e i (by omega)), e n (by omega), i3_add]
def md_lN (g : md_R) (c : Nat) : Nat := md_sN (fun p => if md_in g p c then (g (63 + p)).toNatClampNeg else 0) (md_n g)
def md_cN (g : md_R) (c : Nat) : Nat := md_sN (fun p => if md_in g p c then 1 else 0) (md_n g)
/-- a car's cells -/
def md_wc (T : Nat) (g : md_R) (c : Nat) : Prop := (∃ f, f < 10 ∧ g (9 + c) = i3 f) ∧ (g (12 + c) = 0 ∨ g (12 + c) = 1 ∨ g (12 + c) = -1) ∧ (∃ k, 100 ≤ k ∧ k ≤ 900 ∧ g (15 + c) = i3 k ∧ md_lN g c ≤ k) ∧ (∃ q, q ≤ 3 ∧ g (18 + c) = i3 q) ∧ (g (21 + c) = 0 ∨ g (21 + c) = 1) ∧ (∃ e, e ≤ T ∧ g (24 + c) = i3 e)
/-- a passenger's cells -/
def md_wp (T : Nat) (g : md_R) (p : Nat) : Prop := (∃ s, s < 10 ∧ g (39 + p) = i3 s) ∧ (∃ t, t < 10 ∧ g (51 + p) = i3 t) ∧ (∃ w, 10 ≤ w ∧ w ≤ 150 ∧ g (63 + p) = i3 w) ∧ (∃ q, q ≤ T ∧ g (75 + p) = i3 q) ∧ (∃ k, k ≤ 3 ∧ g (87 + p) = i3 k) ∧ (g (99 + p) = 0 ∨ g (99 + p) = 1) ∧ (g (99 + p) = 1 → g (87 + p) ≠ 0) ∧ (∀ c, c < 3 → g (99 + p) = 0 → g (87 + p) = i3 c + 1 → g (21 + c) = 0)
def md_wf (T : Nat) (g : md_R) : Prop := (∃ n, n ≤ 12 ∧ g 1 = i3 n) ∧ (∀ c, c < 3 → md_wc T g c) ∧ (∀ p, p < md_n g → md_wp T g p) ∧ (∃ t, t ≤ T ∧ g 0 = i3 t) ∧ (∃ t, t ≤ T ∧ g 3 = i3 t) ∧ (∃ u e o h : Nat, g 5 = i3 u ∧ g 6 = i3 e ∧ g 7 = i3 o ∧ g 8 = i3 h ∧ u ≤ T ∧ e ≤ T ∧ o ≤ T ∧ h ≤ T ∧ (g 24).toNatClampNeg + (g 25).toNatClampNeg + (g 26).toNatClampNeg = 2 * u + h + e + o)
theorem md_ld_N {T : Nat} {g : md_R} {c : Nat} (h : ∀ p, p < md_n g → md_wp T g p) : md_ld g c = i3 (md_lN g c) := by
  refine md_sum_N _ (fun i hi => ?_)
  obtain ⟨-, -, ⟨w, h1, h2, h3⟩, -⟩ := h i hi
  unfold md_ldf
  rw [h3, i3_toNat (by omega)]
  split <;> rfl
theorem md_is_N (g : md_R) (c : Nat) : md_is g c = i3 (md_cN g c) := by
  refine md_sum_N _ (fun i hi => ?_)
  unfold md_isf
  split <;> rfl
theorem md_cN_le (g : md_R) (c : Nat) : md_cN g c ≤ md_n g := by
  have := md_sN_le (f := fun p => if md_in g p c then 1 else 0) (b := 1) (md_n g) (fun i hi => by show (if _ then 1 else 0) ≤ 1; split <;> omega)
  unfold md_cN
  omega
theorem md_lN_le {T : Nat} {g : md_R} {c : Nat} (h : ∀ p, p < md_n g → md_wp T g p) : md_lN g c ≤ 150 * md_n g := by
  refine md_sN_le (md_n g) (fun i hi => ?_)
  obtain ⟨-, -, ⟨w, h1, h2, h3⟩, -⟩ := h i hi
  show (if _ then _ else 0) ≤ 150
  rw [h3, i3_toNat (by omega)]
  split <;> omega
def md_tg (g : md_R) (p : Nat) : Nat := (if g (99 + p) = 0 then g (39 + p) else g (51 + p)).toNatClampNeg
def md_mkf (g : md_R) (c p : Nat) : Nat := if g (87 + p) = i3 c + 1 then 2 ^ md_tg g p else 0
def md_mk (g : md_R) (c : Nat) : Nat := md_or (md_mkf g c) (md_n g)
theorem md_tg_lt {T : Nat} {g : md_R} {p : Nat} (h : md_wp T g p) : md_tg g p < 10 := by
  obtain ⟨⟨s, h1, h2⟩, ⟨t, h3, h4⟩, -⟩ := h
  unfold md_tg
  split
  · rw [h2, i3_toNat (by omega)]; exact h1
  · rw [h4, i3_toNat (by omega)]; exact h3
theorem md_mk_lt {T : Nat} {g : md_R} {c : Nat} (h : ∀ p, p < md_n g → md_wp T g p) : md_mk g c < 1024 := by
  refine md_or_lt (b := 10) (md_n g) (fun i hi => ?_)
  unfold md_mkf
  split
  · exact Nat.pow_lt_pow_right (by omega) (md_tg_lt (h i hi))
  · omega
theorem md_mk_bit {T : Nat} {g : md_R} {c f : Nat} (h : ∀ p, p < md_n g → md_wp T g p) (hf : f < 10) : (md_mk g c).testBit f = md_st g c (i3 f) := by
  unfold md_mk md_st
  rw [md_or_bit]
  refine md_any_congr _ (fun i hi => ?_)
  obtain ⟨⟨s, h1, h2⟩, ⟨t, h3, h4⟩, -, -, -, h5, -⟩ := h i hi
  unfold md_mkf md_stf md_in md_aw md_tg
  rw [h2, h4]
  by_cases hc : g (87 + i) = i3 c + 1
  · rcases h5 with h5 | h5
    · have e1 : ((0 : Int32) == 1) = false := by decide
      simp only [hc, h5, if_true, Nat.testBit_two_pow, i3_toNat (show s < 2147483648 by omega), e1, beq_self_eq_true, Bool.true_and, Bool.false_and, Bool.false_or]
      by_cases hs : s = f
      · simp [hs]
      · have : i3 s ≠ i3 f := fun z => hs ((i3_eq (by omega) (by omega)).mp z)
        simp [hs, this]
    · have e1 : ((1 : Int32) == 0) = false := by decide
      have e2 : ¬ (1 : Int32) = 0 := by decide
      simp only [hc, h5, if_true, if_neg e2, Nat.testBit_two_pow, i3_toNat (show t < 2147483648 by omega), e1, beq_self_eq_true, Bool.true_and, Bool.false_and, Bool.or_false]
      by_cases hs : t = f
      · simp [hs]
      · have : i3 t ≠ i3 f := fun z => hs ((i3_eq (by omega) (by omega)).mp z)
        simp [hs, this]
  · simp [hc]
