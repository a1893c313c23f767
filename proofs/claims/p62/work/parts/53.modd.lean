/-! .. a step of the reference -/
theorem md_ok_up {g : md_R} {k : Nat} {v : Int32} (h : k ≠ 1) (ok : md_ok g) : md_ok (va_up g k v) := by
  unfold md_ok
  rw [md_n_up h, up_n _ _ (Ne.symm h)]
  exact ok
theorem md_wf_fl {T : Nat} {g : md_R} {c : Nat} (h : md_wf T g) (hc : c < 3) : ∃ f, f < 10 ∧ g (9 + c) = i3 f := (h.2.1 c hc).1
theorem md_mv_u {g : md_R} {c : Nat} (h : md_ch g c = i3 1) : md_mv g c = va_up (va_up (va_up (va_up (va_up g (12 + c) (i3 1)) (9 + c) (g (9 + c) + i3 1)) (24 + c) (g (24 + c) + (i3 2 + md_ld g c / i3 100))) 8 (g 8 + md_ld g c / i3 100)) 5 (g 5 + i3 1) := by
  unfold md_mv
  rw [h]
  rfl
theorem md_mv_d {g : md_R} {c : Nat} (h : md_ch g c = -i3 1) : md_mv g c = va_up (va_up (va_up (va_up g (12 + c) (-i3 1)) (9 + c) (g (9 + c) + -i3 1)) (24 + c) (g (24 + c) + i3 1)) 6 (g 6 + i3 1) := by
  unfold md_mv
  rw [h]
  rfl
theorem md_mv_0 {g : md_R} {c : Nat} (h : ¬ md_ch g c = i3 1) (h2 : ¬ md_ch g c = -i3 1) : md_mv g c = va_up (va_up g (12 + c) (md_ch g c)) (9 + c) (g (9 + c) + md_ch g c) := by
  show (if md_ch g c = 1 then _ else if md_ch g c = -1 then _ else _) = _
  rw [if_neg (show ¬ md_ch g c = 1 from h), if_neg (show ¬ md_ch g c = -1 from h2)]
theorem md_ac_1 {g : md_R} {c : Nat} (h : ¬ g (18 + c) ≤ i3 0) : md_ac g c = va_up g (18 + c) (g (18 + c) - i3 1) := by
  unfold md_ac
  rw [if_pos (show 0 < g (18 + c) from Int32.not_le.mp h)]
  rfl
theorem md_ac_2 {g : md_R} {c : Nat} (h : g (18 + c) ≤ i3 0) (h2 : md_st g c (g (9 + c)) = false) : md_ac g c = md_mv g c := by
  unfold md_ac
  rw [if_neg (show ¬ 0 < g (18 + c) from Int32.not_lt.mpr h), if_neg (by rw [h2]; decide)]
theorem md_ac_3 {g : md_R} {c : Nat} (h : g (18 + c) ≤ i3 0) (h2 : md_st g c (g (9 + c)) = true) : md_ac g c = md_bo (md_al c (md_n g) 0 (md_op g c)) c := by
  unfold md_ac
  rw [if_neg (show ¬ 0 < g (18 + c) from Int32.not_lt.mpr h), if_pos h2]
theorem md_c1_p {g : md_R} {c : Nat} (h : g (21 + c) = i3 0) : md_c1 g c = md_ac g c := if_pos h
theorem md_c1_n {g : md_R} {c : Nat} (h : ¬ g (21 + c) = i3 0) : md_c1 g c = g := if_neg h
theorem md_a1_p {g : md_R} {p : Nat} (h : g (87 + p) = i3 0) : md_a1 g p = md_as g p := if_pos h
theorem md_a1_n {g : md_R} {p : Nat} (h : ¬ g (87 + p) = i3 0) : md_a1 g p = g := if_neg h
theorem md_a1_eq (g : md_R) (p : Nat) : md_a1 g p = if g (87 + p) = 0 then md_as g p else g := rfl
def md_bt (b v c : Int32) : Bool := decide (b ≤ v) && decide (v ≤ c)
theorem sp_adv_eq (g : md_R) (v : Int32) : sp_adv g v = if md_bt (i3 1) v (i3 30) = true then (0, md_it g v.toNatClampNeg 3 - g 3, md_it g v.toNatClampNeg) else (1, i3 0, g) := rfl
theorem md_it_s (g : md_R) (k : Nat) : md_it g (k + 1) = md_step (md_it g k) := rfl
