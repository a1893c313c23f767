/-! searching for the first and the last stop in a direction -/
theorem md_fl_iff {v : Int32} : md_fl v = true ↔ ∃ k, k < 10 ∧ v = i3 k := by
  unfold md_fl
  rw [Bool.and_eq_true, decide_eq_true_eq, decide_eq_true_eq]
  constructor
  · rintro ⟨h0, h1⟩
    obtain ⟨k, hk, e⟩ := i3_of (n := 10) h0 (by rw [Int32.lt_iff_toInt_lt]; rw [Int32.le_iff_toInt_le] at h1; have e1 : (9 : Int32).toInt = 9 := rfl; have e2 : (i3 10).toInt = 10 := rfl; omega) (by omega)
    exact ⟨k, hk, e⟩
  · rintro ⟨k, hk, rfl⟩
    exact ⟨(i3_le (a := 0) (by omega) (by omega)).mpr (by omega), (i3_le (b := 9) (by omega) (by omega)).mpr (by omega)⟩
theorem md_fl_up {f d : Nat} (hf : f < 10) (hd : d < 21) : i3 f + 1 * i3 d = i3 (f + d) ∧ md_fl (i3 f + 1 * i3 d) = decide (f + d < 10) := by
  have : ∀ f : Fin 10, ∀ d : Fin 21, i3 f.1 + 1 * i3 d.1 = i3 (f.1 + d.1) ∧ md_fl (i3 f.1 + 1 * i3 d.1) = decide (f.1 + d.1 < 10) := by decide +kernel
  exact this ⟨f, hf⟩ ⟨d, hd⟩
theorem md_fl_dn {f d : Nat} (hf : f < 10) (hd : d < 21) : (d ≤ f → i3 f + (-1) * i3 d = i3 (f - d)) ∧ md_fl (i3 f + (-1) * i3 d) = decide (d ≤ f) := by
  have : ∀ f : Fin 10, ∀ d : Fin 21, (d.1 ≤ f.1 → i3 f.1 + (-1) * i3 d.1 = i3 (f.1 - d.1)) ∧ md_fl (i3 f.1 + (-1) * i3 d.1) = decide (d.1 ≤ f.1) := by decide +kernel
  exact this ⟨f, hf⟩ ⟨d, hd⟩
theorem md_go_none {P : Nat → Bool} : ∀ (k a : Nat), (∀ d, a ≤ d → d < a + k → P d = false) → md_go P k a = 0
  | 0, _, _ => rfl
  | k + 1, a, h => by
    rw [md_go, h a (Nat.le_refl _) (by omega), if_neg (by decide)]
    exact md_go_none k (a + 1) (fun d h1 h2 => h d (by omega) (by omega))
theorem md_go_first {P : Nat → Bool} {d : Nat} (hP : P d = true) : ∀ (k a : Nat), a ≤ d → d < a + k → (∀ x, a ≤ x → x < d → P x = false) → md_go P k a = d
  | 0, a, h1, h2, _ => by omega
  | k + 1, a, h1, h2, h => by
    rw [md_go]
    by_cases e : a = d
    · rw [e, hP, if_pos rfl]
    · rw [h a (Nat.le_refl _) (by omega), if_neg (by decide)]
      exact md_go_first hP k (a + 1) (by omega) (by omega) (fun x h3 h4 => h x (by omega) h4)
theorem md_go_zero {P : Nat → Bool} : ∀ (k a : Nat), 1 ≤ a → md_go P k a = 0 → ∀ d, a ≤ d → d < a + k → P d = false
  | 0, _, _, _, d, h1, h2 => by omega
  | k + 1, a, ha, h, d, h1, h2 => by
    rw [md_go] at h
    cases hP : P a with
    | true => rw [hP, if_pos rfl] at h; omega
    | false =>
      rw [hP, if_neg (by decide)] at h
      by_cases e : a = d
      · rw [← e]; exact hP
      · exact md_go_zero k (a + 1) (by omega) h d (by omega) (by omega)
/-- what the class tests at a distance: the bit of the floor there -/
def md_hc (m f : Nat) (r : Int32) (d : Nat) : Bool := md_fl (i3 f + i3 d * r) && m.testBit (i3 f + i3 d * r).toNatClampNeg
theorem md_hc_hit {T : Nat} {g : md_R} {c f : Nat} {r : Int32} (h : ∀ p, p < md_n g → md_wp T g p) (hf : g (9 + c) = i3 f) : md_hc (md_mk g c) f r = md_hit g c r := by
  funext d
  unfold md_hc md_hit
  rw [hf, Int32.mul_comm (i3 d) r]
  cases hF : md_fl (i3 f + r * i3 d) with
  | false => rfl
  | true =>
    obtain ⟨k, hk, e⟩ := md_fl_iff.mp hF
    rw [e, i3_toNat (by omega), md_mk_bit h hk]
theorem md_hit_zero {T : Nat} {g : md_R} {c : Nat} {r : Int32} (h : ∀ p, p < md_n g → md_wp T g p) (h0 : md_mk g c = 0) (d : Nat) : md_hit g c r d = false := by
  unfold md_hit
  cases hF : md_fl (g (9 + c) + r * i3 d) with
  | false => rfl
  | true =>
    obtain ⟨k, hk, e⟩ := md_fl_iff.mp hF
    rw [e, ← md_mk_bit h hk, h0, Nat.zero_testBit]
    rfl
/-- the direction that the class chooses where the car's own floor is no stop -/
theorem md_ch_cls {T : Nat} {g : md_R} {c f : Nat} (h : ∀ p, p < md_n g → md_wp T g p) (hf : g (9 + c) = i3 f) (hf9 : f < 10) (hs : md_st g c (g (9 + c)) = false) :
    md_ch g c = if md_mk g c = 0 then 0 else if md_nr g c 1 = 0 then -1 else if md_nr g c (-1) = 0 then 1 else if g (12 + c) ≠ 0 then g (12 + c) else if md_nr g c 1 ≤ md_nr g c (-1) then 1 else -1 := by
  unfold md_ch
  by_cases h0 : md_mk g c = 0
  · have e1 : ∀ r, md_nr g c r = 0 := fun r => md_go_none 9 1 (fun d _ _ => md_hit_zero h h0 d)
    rw [if_pos h0, e1, e1]
    simp
  · rw [if_neg h0]
    by_cases h1 : md_nr g c 1 = 0
    · rw [if_pos (Or.inl h1), if_pos h1, h1, if_neg (by omega)]
      have h2 : md_nr g c (-1) ≠ 0 := by
        intro h2
        apply h0
        apply Nat.eq_of_testBit_eq
        intro k
        rw [Nat.zero_testBit]
        by_cases hk : k < 10
        · rw [md_mk_bit h hk]
          rcases Nat.lt_trichotomy k f with hq | hq | hq
          · have h3 := md_go_zero 9 1 (by omega) h2 (f - k) (by omega) (by omega)
            unfold md_hit at h3
            rw [hf, (md_fl_dn hf9 (by omega)).2, (md_fl_dn hf9 (by omega)).1 (by omega), decide_eq_true (by omega), show f - (f - k) = k by omega] at h3
            exact h3
          · rw [hq, ← hf]; exact hs
          · have h3 := md_go_zero 9 1 (by omega) h1 (k - f) (by omega) (by omega)
            unfold md_hit at h3
            rw [hf, (md_fl_up hf9 (by omega)).2, (md_fl_up hf9 (by omega)).1, decide_eq_true (by omega), show f + (k - f) = k by omega] at h3
            exact h3
        · have h9 := md_mk_lt (c := c) h
          exact Nat.testBit_lt_two_pow (Nat.lt_of_lt_of_le (show md_mk g c < 2 ^ 10 from h9) (Nat.pow_le_pow_right (show 0 < 2 by omega) (show 10 ≤ k by omega)))
      rw [if_pos (by omega)]
    · rw [if_neg h1]
      by_cases h2 : md_nr g c (-1) = 0
      · rw [if_pos (Or.inr h2), if_pos h2, if_pos (by omega)]
      · rw [if_neg (by omega), if_neg h2]
