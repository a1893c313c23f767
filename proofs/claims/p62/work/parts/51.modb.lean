/-! .. stops, estimates, the car that is chosen -/
theorem md_any_s (f : Nat → Bool) (n : Nat) : md_any f (n + 1) = (md_any f n || f n) := rfl
theorem md_fl_far {f d e : Nat} {r : Int32} (hf : f < 10) (hr : r = 1 ∨ r = -1) (hd : d < 21) (he : d ≤ e) (h2 : e < 21) (h : md_fl (i3 f + r * i3 d) = false) : md_fl (i3 f + r * i3 e) = false := by
  rcases hr with rfl | rfl
  · rw [(md_fl_up hf hd).2] at h
    rw [(md_fl_up hf h2).2]
    simp only [decide_eq_false_iff_not] at h ⊢
    omega
  · rw [(md_fl_dn hf hd).2] at h
    rw [(md_fl_dn hf h2).2]
    simp only [decide_eq_false_iff_not] at h ⊢
    omega
theorem md_fl_ten {f : Nat} {r : Int32} (hf : f < 10) (hr : r = 1 ∨ r = -1) : md_fl (i3 f + r * i3 10) = false := by
  rcases hr with rfl | rfl
  · rw [(md_fl_up hf (by omega)).2]
    simp
  · rw [(md_fl_dn hf (by omega)).2]
    simp only [decide_eq_false_iff_not]
    omega
theorem i3_mul (a b : Nat) : i3 a * i3 b = i3 (a * b) := (Int32.ofNat_mul a b).symm
theorem i3_z0 {k : Nat} (h : k < 2147483648) : (i3 k = 0) = (k = 0) := propext (i3_eq (b := 0) h (by omega))
theorem i3_zl {k : Nat} (h : k < 2147483648) : (i3 k ≤ 0) = (k ≤ 0) := propext (i3_le (b := 0) h (by omega))
