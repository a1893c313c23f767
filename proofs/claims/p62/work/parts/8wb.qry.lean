/-! .. and what the law asks of them (by gen/mk8w.py) -/
theorem it_add (g : md_R) (a : Nat) : ∀ b, md_it g (a + b) = md_it (md_it g a) b
  | 0 => rfl
  | b + 1 => by
    rw [← Nat.add_assoc, md_it_s, it_add g a b, md_it_s]
theorem it_1 (g : md_R) : md_it g 1 = md_step g := rfl
theorem it_U {f : Nat} {v : Int32} (hf : f < 6) : ∀ k, k ≤ f → md_it (zU f 0 0 0 v) k = zU f k k (if k = 0 then 0 else 1) v
  | 0, _ => rfl
  | k + 1, hk => by
    rw [md_it_s, it_U hf k (by omega), z_up hf (by omega) (by split; exact .inl rfl; exact .inr rfl), if_neg (Nat.succ_ne_zero k)]
theorem it_dn {f t : Nat} {cp v : Int32} (hf : f < 6) : ∀ j, j ≤ f → md_it (zB f t 0 cp 0 1 v) j = zB f (t + j) j cp 0 (if j = 0 then 1 else -1) v
  | 0, _ => rfl
  | j + 1, hj => by
    rw [md_it_s, it_dn hf j (by omega), z_dn hf (by omega) (by split; exact .inl rfl; exact .inr rfl), if_neg (Nat.succ_ne_zero j)]
    rfl
/-- the rows of the first passenger's way, by the time -/
def zI (f : Nat) (v : Int32) (s : Nat) : md_R := if s ≤ f then zU f s s (if s = 0 then 0 else 1) v else if s = f + 1 then zB f s 0 400 2 1 v else if s = f + 2 then zB f s 0 400 1 1 v else if s ≤ 2 * f + 3 then zB f s (s - (f + 3)) 400 0 (if s = f + 3 then 1 else -1) v else zE f s
theorem it_I {f : Nat} {v : Int32} (hf : f < 6) (h0 : 0 < f) (hv : v ≤ 400) (s : Nat) (hs : s ≤ 2 * f + 4) : md_it (zU f 0 0 0 v) s = zI f v s := by
  have e1 : md_it (zU f 0 0 0 v) (f + 1) = zB f (f + 1) 0 400 2 1 v := by
    rw [md_it_s, it_U hf f (Nat.le_refl _), z_bd hv, if_neg (by omega)]
  have e2 : md_it (zU f 0 0 0 v) (f + 2) = zB f (f + 2) 0 400 1 1 v := by
    rw [md_it_s, e1, z_dr (by decide)]
    rfl
  have e3 : md_it (zU f 0 0 0 v) (f + 3) = zB f (f + 3) 0 400 0 1 v := by
    rw [md_it_s, e2, z_dr (by decide)]
    rfl
  have e4 : ∀ j, j ≤ f → md_it (zU f 0 0 0 v) (f + 3 + j) = zB f (f + 3 + j) j 400 0 (if j = 0 then 1 else -1) v := fun j hj => by
    rw [it_add, e3, it_dn hf j hj]
  unfold zI
  by_cases a1 : s ≤ f
  · rw [if_pos a1, it_U hf s a1]
  rw [if_neg a1]
  by_cases a2 : s = f + 1
  · rw [if_pos a2, a2, e1]
  rw [if_neg a2]
  by_cases a3 : s = f + 2
  · rw [if_pos a3, a3, e2]
  rw [if_neg a3]
  by_cases a4 : s ≤ 2 * f + 3
  · rw [if_pos a4]
    obtain ⟨j, rfl⟩ : ∃ j, s = f + 3 + j := ⟨s - (f + 3), by omega⟩
    rw [e4 j (by omega), Nat.add_sub_cancel_left]
    by_cases j0 : j = 0
    · rw [if_pos j0, if_pos (by omega)]
    · rw [if_neg j0, if_neg (by omega)]
  · rw [if_neg a4]
    obtain rfl : s = f + 3 + f + 1 := by omega
    rw [md_it_s, e4 f (Nat.le_refl _), if_neg (by omega), z_al]
theorem fs_at {P : Nat → Bool} : ∀ (j s K : Nat), (∀ q, s ≤ q → q < s + j → P q = false) → P (s + j) = true → j < K → md_fs P K s = i3 (s + j)
  | 0, s, K + 1, _, h, _ => by
    rw [md_fs, if_pos (show P s = true from h)]
    rfl
  | j + 1, s, K + 1, h0, h, hj => by
    rw [md_fs, if_neg (by rw [h0 s (by omega) (by omega)]; decide), fs_at j (s + 1) K (fun q q1 q2 => h0 q (by omega) (by omega)) (by rw [show s + 1 + j = s + (j + 1) by omega]; exact h) (by omega)]
    congr 1
    omega
  | j, s, 0, _, _, hj => absurd hj (Nat.not_lt_zero _)
theorem rc_1 {g : md_R} {N : Int32} {b : Bool} (n : md_n g = 1) (h : g 27 = N) : md_rc g N b = (b && g 99 == i3 1) := by
  have e : md_ix g N (md_n g) 0 = i3 0 := by
    rw [n]
    show (if g 27 = N then i3 0 else _) = _
    rw [if_pos h]
  unfold md_rc
  rw [e, show (i3 0 == (-1 : Int32)) = false by decide, Bool.false_or]
  rfl
theorem rc_0 {g : md_R} {N : Int32} {b : Bool} (n : md_n g = 0) : md_rc g N b = true := by
  unfold md_rc
  rw [n]
  rfl
theorem zI_n {f s : Nat} {v : Int32} (hs : s ≤ 2 * f + 3) : md_n (zI f v s) = 1 ∧ zI f v s 27 = 1 ∧ zI f v s 99 = (if s ≤ f then 0 else 1) ∧ zI f v s 3 = 0 := by
  unfold zI
  by_cases a1 : s ≤ f
  · rw [if_pos a1, if_pos a1]
    exact ⟨nr1 rd_1, rd_27, rd_99, rd_3⟩
  rw [if_neg a1, if_neg a1]
  by_cases a2 : s = f + 1
  · rw [if_pos a2]
    exact ⟨nr1 rd_1, rd_27, rd_99, rd_3⟩
  rw [if_neg a2]
  by_cases a3 : s = f + 2
  · rw [if_pos a3]
    exact ⟨nr1 rd_1, rd_27, rd_99, rd_3⟩
  rw [if_neg a3, if_pos hs]
  exact ⟨nr1 rd_1, rd_27, rd_99, rd_3⟩
theorem zI_e {f : Nat} {v : Int32} : zI f v (2 * f + 4) = zE f (2 * f + 4) := by
  unfold zI
  rw [if_neg (by omega), if_neg (by omega), if_neg (by omega), if_neg (by omega)]
theorem v4 : ∀ i, i < 64 → i3 (60 + i) ≤ 400 := by decide +kernel
theorem n4 : ∀ m, m < 4 → i3 (2 + m) + 1 = i3 (2 + m + 1) ∧ (2 : Int32) * i3 (2 + m) + 4 = i3 (2 * (2 + m) + 4) ∧ (2 : Int32) * i3 (2 + m) + 3 = i3 (2 * (2 + m) + 3) := by decide +kernel
abbrev zA (m i : Nat) : md_R := zU (2 + m) 0 0 0 (i3 (60 + i))
theorem zq_pre {m i : Nat} : md_ip (zA m i) 0 = true := by
  unfold md_ip
  rw [show md_n (zA m i) = 1 from nr1 rd_1]
  decide
theorem zq_477 {m i : Nat} (hm : m < 4) (hi : i < 64) : sq_pred (zA m i) 0 true = (0, i3 (2 + m) + 1) := by
  have e : md_su (zA m i) (zA m i 27) true = i3 (2 + m + 1) := by
    rw [show zA m i 27 = (1 : Int32) from rd_27]
    unfold md_su
    refine (fs_at (2 + m + 1) 0 91 (fun q _ q2 => ?_) ?_ (by omega)).trans (by rw [Nat.zero_add])
    · rw [it_I (by omega) (by omega) (v4 i hi) q (by omega)]
      obtain ⟨a1, a2, a3, -⟩ := zI_n (f := 2 + m) (s := q) (v := i3 (60 + i)) (by omega)
      rw [rc_1 a1 a2, a3, if_pos (by omega)]
      rfl
    · rw [it_I (by omega) (by omega) (v4 i hi) _ (by omega)]
      obtain ⟨a1, a2, a3, -⟩ := zI_n (f := 2 + m) (s := 0 + (2 + m + 1)) (v := i3 (60 + i)) (by omega)
      rw [rc_1 a1 a2, a3, if_neg (by omega)]
      rfl
  unfold sq_pred
  rw [if_pos zq_pre]
  show (if md_su (zA m i) (zA m i 27) true = -1 then _ else (0, md_su (zA m i) (zA m i 27) true)) = _
  rw [e, if_neg (i3_nm1 (by omega)), (n4 m hm).1]
theorem zq_490 {m i : Nat} (hm : m < 4) (hi : i < 64) : sq_pred (zA m i) 0 false = (0, (2 : Int32) * i3 (2 + m) + 4) := by
  have e : md_su (zA m i) (zA m i 27) false = i3 (2 * (2 + m) + 4) := by
    rw [show zA m i 27 = (1 : Int32) from rd_27]
    unfold md_su
    refine (fs_at (2 * (2 + m) + 4) 0 91 (fun q _ q2 => ?_) ?_ (by omega)).trans (by rw [Nat.zero_add])
    · rw [it_I (by omega) (by omega) (v4 i hi) q (by omega)]
      obtain ⟨a1, a2, a3, -⟩ := zI_n (f := 2 + m) (s := q) (v := i3 (60 + i)) (by omega)
      rw [rc_1 a1 a2]
      rfl
    · rw [it_I (by omega) (by omega) (v4 i hi) _ (by omega), Nat.zero_add, zI_e]
      exact rc_0 (nr0 rd_1)
  unfold sq_pred
  rw [if_pos zq_pre]
  show (if md_su (zA m i) (zA m i 27) false = -1 then _ else (0, md_su (zA m i) (zA m i 27) false)) = _
  rw [e, if_neg (i3_nm1 (by omega)), (n4 m hm).2.1]
theorem bt4 : ∀ m, m < 4 → md_bt (i3 0) ((2 : Int32) * i3 (2 + m) + 3) (i3 90) = true ∧ md_bt (i3 0) ((2 : Int32) * i3 (2 + m) + 4) (i3 90) = true := by decide +kernel
theorem zq_529 {m i : Nat} (hm : m < 4) (hi : i < 64) : sq_trips (zA m i) ((2 : Int32) * i3 (2 + m) + 3) = (0, 0) := by
  unfold sq_trips
  rw [if_pos (bt4 m hm).1, (n4 m hm).2.2, i3_toNat (by omega), it_I (by omega) (by omega) (v4 i hi) _ (by omega), (zI_n (by omega)).2.2.2, show zA m i 3 = 0 from rd_3]
  rfl
theorem zq_543 {m i : Nat} (hm : m < 4) (hi : i < 64) : sq_trips (zA m i) ((2 : Int32) * i3 (2 + m) + 4) = (0, 1) := by
  unfold sq_trips
  rw [if_pos (bt4 m hm).2, (n4 m hm).2.1, i3_toNat (by omega), it_I (by omega) (by omega) (v4 i hi) _ (by omega), zI_e, show zA m i 3 = 0 from rd_3, show zE (2 + m) (2 * (2 + m) + 4) 3 = 1 from rd_3]
  rfl
theorem zq_391 : sq_trips md_g0 90 = (0, 0) := by
  unfold sq_trips
  rw [if_pos (by decide), show (90 : Int32).toNatClampNeg = 90 by decide, z_noI, show zN 90 3 = 0 from rd_3]
  rfl
theorem za_558 {m i : Nat} (hm : m < 4) (_ : i < 64) : md_it (zA m i) (i3 (2 + m)).toNatClampNeg = zU (2 + m) (2 + m) (2 + m) 1 (i3 (60 + i)) := by
  rw [i3_toNat (by omega), it_U (by omega) _ (Nat.le_refl _), if_neg (by omega)]
abbrev zV (m i : Nat) : md_R := zU (2 + m) (2 + m) (2 + m) 1 (i3 (60 + i))
abbrev zW (m i t j : Nat) (cp s di : Int32) : md_R := zB (2 + m) t j cp s di (i3 (60 + i))
theorem za_642 {m i : Nat} (_ : m < 4) (hi : i < 64) : md_it (zV m i) (1 : Int32).toNatClampNeg = zW m i (2 + m + 1) 0 400 2 1 := by
  rw [show (1 : Int32).toNatClampNeg = 1 by decide, it_1, z_bd (v4 i hi)]
theorem za_761 {m i t : Nat} (_ : m < 4) : md_it (zW m i t 0 400 1 1) (1 : Int32).toNatClampNeg = zW m i (t + 1) 0 400 0 1 := by
  rw [show (1 : Int32).toNatClampNeg = 1 by decide, it_1, z_dr (by decide)]
  rfl
theorem za_779 {m i t : Nat} (hm : m < 4) : md_it (zW m i t 0 400 0 1) (i3 (2 + m)).toNatClampNeg = zW m i (t + (2 + m)) (2 + m) 400 0 (-1) := by
  rw [i3_toNat (by omega), it_dn (by omega) _ (Nat.le_refl _), if_neg (by omega)]
theorem za_808 {m i t : Nat} : md_it (zW m i t (2 + m) 400 0 (-1)) (1 : Int32).toNatClampNeg = zE (2 + m) (t + 1) := by
  rw [show (1 : Int32).toNatClampNeg = 1 by decide, it_1, z_al]
theorem zw_cp {m i t j : Nat} {cp s di z : Int32} : va_up (zW m i t j cp s di) 15 z = zW m i t j z s di := ru_15
theorem zw_s {m i t j : Nat} {cp s di z : Int32} : va_up (zW m i t j cp s di) 18 z = zW m i t j cp z di := ru_18
theorem zq_379 : sq_best md_g0 5 150 = (0, 0) := by decide +kernel
theorem zq_401 : sq_ce md_g0 2 = (0, 2) := by decide +kernel
theorem zq_411 : aN md_g0 1 0 0 0 = 1 := by decide +kernel
theorem zq_425 : aN md_g0 2 0 1 0 = 3 := by decide +kernel
theorem zq_439 : aN md_g0 4 0 0 0 = 3 := by decide +kernel
theorem zq_455 : ∀ m, m < 4 → ∀ i, i < 64 → rf_add md_g0 (i3 (2 + m)) 0 (i3 (60 + i)) = 0 := by decide +kernel
theorem zq_468 : ∀ m, m < 4 → ∀ i, i < 64 → sq_carOf (zA m i) 0 = (0, 0) := by decide +kernel
theorem zq_505 : ∀ m, m < 4 → ∀ i, i < 64 → sq_next (zA m i) 0 = (0, i3 (2 + m)) := by decide +kernel
theorem zq_516 : ∀ m, m < 4 → ∀ i, i < 64 → sq_est (zA m i) 0 9 = (0, 9) := by decide +kernel
theorem zq_558 : ∀ m, m < 4 → rf_pass (i3 (2 + m)) = 0 := by decide +kernel
theorem zq_568 : ∀ m, m < 4 → ∀ i, i < 64 → sq_cell 9 (zV m i) 0 = (0, i3 (2 + m)) := by decide +kernel
theorem zq_579 : ∀ m, m < 4 → ∀ i, i < 64 → sq_cell 12 (zV m i) 0 = (0, 1) := by decide +kernel
theorem zq_589 : ∀ m, m < 4 → ∀ i, i < 64 → sq_cell 24 (zV m i) 0 = (0, (2 : Int32) * i3 (2 + m)) := by decide +kernel
theorem zq_602 : ∀ m, m < 4 → ∀ i, i < 64 → sq_est (zV m i) 0 (i3 (2 + m) + 1) = (0, 1) := by decide +kernel
theorem zq_616 : ∀ m, m < 4 → ∀ i, i < 64 → sq_est (zV m i) 0 0 = (0, i3 (2 + m)) := by decide +kernel
theorem zq_642 : rf_pass 1 = 0 := by decide +kernel
theorem zq_651 : ∀ m, m < 4 → ∀ i, i < 64 → sq_inside (zW m i (2 + m + 1) 0 400 2 1) 0 = (0, 1) := by decide +kernel
theorem zq_660 : ∀ m, m < 4 → ∀ i, i < 64 → sq_cell 18 (zW m i (2 + m + 1) 0 400 2 1) 0 = (0, 2) := by decide +kernel
theorem zq_670 : ∀ m, m < 4 → ∀ i, i < 64 → sq_pas 75 (zW m i (2 + m + 1) 0 400 2 1) 0 = (0, i3 (2 + m) + 1) := by decide +kernel
theorem zq_683 : ∀ m, m < 4 → ∀ i, i < 64 → sq_load (zW m i (2 + m + 1) 0 400 2 1) 0 = (0, i3 (60 + i)) := by decide +kernel
theorem zq_694 : ∀ m, m < 4 → ∀ i, i < 64 → aN (zW m i (2 + m + 1) 0 400 2 1) 1 0 0 0 = 3 := by decide +kernel
theorem zq_708 : ∀ m, m < 4 → ∀ i, i < 64 → aN (zW m i (2 + m + 1) 0 400 2 1) 5 0 100 0 = (if i3 (60 + i) ≤ 100 then 0 else 4) := by decide +kernel
theorem zq_736 : ∀ m, m < 4 → ∀ i, i < 64 → rf_limit (zW m i (2 + m + 1) 0 100 2 1) 0 400 = 0 ∧ rf_limit (zW m i (2 + m + 1) 0 400 2 1) 0 400 = 0 := by decide +kernel
theorem zq_750 : ∀ m, m < 4 → ∀ i, i < 64 → rf_hold (zW m i (2 + m + 1) 0 400 2 1) 0 1 = 0 := by decide +kernel
theorem zq_770 : ∀ m, m < 4 → ∀ i, i < 64 → sq_cell 18 (zW m i (2 + m + 2) 0 400 0 1) 0 = (0, 0) := by decide +kernel
theorem zq_789 : ∀ m, m < 4 → ∀ i, i < 64 → sq_cell 9 (zW m i (2 + m + 2 + (2 + m)) (2 + m) 400 0 (-1)) 0 = (0, 0) := by decide +kernel
theorem zq_798 : ∀ m, m < 4 → ∀ i, i < 64 → sq_cell 12 (zW m i (2 + m + 2 + (2 + m)) (2 + m) 400 0 (-1)) 0 = (0, -1) := by decide +kernel
abbrev zF' (m : Nat) : md_R := zE (2 + m) (2 + m + 2 + (2 + m) + 1)
theorem zq_820 : ∀ m, m < 4 → i3 (md_n (zF' m)) = 0 := by decide +kernel
theorem zq_828 : ∀ m, m < 4 → sq_trip 111 (zF' m) 0 = (0, 1) := by decide +kernel
theorem zq_838 : ∀ m, m < 4 → sq_trip 121 (zF' m) 0 = (0, 0) := by decide +kernel
theorem zq_847 : ∀ m, m < 4 → sq_trip 131 (zF' m) 0 = (0, i3 (2 + m) + 1) := by decide +kernel
theorem zq_860 : ∀ m, m < 4 → zF' m 5 = i3 (2 + m) ∧ zF' m 6 = i3 (2 + m) ∧ zF' m 7 = 2 := by decide +kernel
theorem zq_889 : ∀ m, m < 4 → md_te (zF' m) = (3 : Int64) * (i3 (2 + m)).toInt64 + 2 ∧ md_tm (zF' m) = (3 : Int64) * (i3 (2 + m)).toInt64 + 2 := by decide +kernel
theorem zq_929 : ∀ m, m < 4 → sq_mean (zF' m) = (0, FP.ddiv (FP.i2d (i3 (2 + m + 1))) (FP.i2d 1)) := fun m _ => by
  unfold sq_mean
  rw [show zF' m 3 = 1 from rd_3, show zF' m 4 = i3 (2 + m + 1) from rd_4, if_neg (show ¬ (1 : Int32) = i3 0 by decide)]
theorem zq_929b : ∀ m, m < 4 → Op.cmpValue (FP.dcmp (FP.ddiv (FP.i2d (i3 (2 + m + 1))) (FP.i2d 1)) (FP.i2d (i3 (2 + m) + 1))) CmpOp.l = 0 := by decide +kernel
theorem zq_943 : ∀ m, m < 4 → sq_ce (zF' m) 0 = (0, 0) := by decide +kernel
def zR0 (m : Nat) : md_R := zr (i3 (2 + m + 2 + (2 + m) + 1)) 0 2 1 (i3 (2 + m + 1)) (i3 (2 + m)) (i3 (2 + m)) 2 0 0 (-1) 400 400 2 0 0 0 0 (i3 (3 * (2 + m) + 2)) 0 0 0 0 0 0 0 0 0 1 (i3 (2 + m + 1))
def zR1 (m : Nat) : md_R := zr (i3 (2 + m + 2 + (2 + m) + 1)) 0 2 1 (i3 (2 + m + 1)) (i3 (2 + m)) (i3 (2 + m)) 2 0 0 (-1) 400 400 2 0 0 1 0 (i3 (3 * (2 + m) + 2)) 0 0 0 0 0 0 0 0 0 1 (i3 (2 + m + 1))
def zR2 (m : Nat) : md_R := zr (i3 (2 + m + 2 + (2 + m) + 1)) 1 3 1 (i3 (2 + m + 1)) (i3 (2 + m)) (i3 (2 + m)) 2 0 0 (-1) 400 400 2 0 0 1 0 (i3 (3 * (2 + m) + 2)) 0 0 2 0 9 150 0 2 0 1 (i3 (2 + m + 1))
def zR3 (m : Nat) : md_R := zr (i3 (2 + m + 2 + (2 + m) + 1)) 1 3 1 (i3 (2 + m + 1)) (i3 (2 + m)) (i3 (2 + m)) 2 0 0 (-1) 400 149 2 0 0 1 0 (i3 (3 * (2 + m) + 2)) 0 0 2 0 9 150 0 2 0 1 (i3 (2 + m + 1))
def zR4 (m : Nat) : md_R := zr (i3 (2 + m + 2 + (2 + m) + 1) + 1) 1 3 1 (i3 (2 + m + 1)) (i3 (2 + m)) (i3 (2 + m)) (2 + 1) 0 0 (-1) 400 149 2 2 0 1 0 (i3 (3 * (2 + m) + 2)) (0 + 1) 0 2 0 9 150 (0 + (1 - 0)) 0 0 1 (i3 (2 + m + 1))
def zR5 (m : Nat) : md_R := zr (i3 (2 + m + 2 + (2 + m) + 1) + 1 + 1) 1 3 1 (i3 (2 + m + 1)) (i3 (2 + m)) (i3 (2 + m)) (2 + 1 + 1) 0 0 (-1) 400 149 2 (2 - 1) 2 1 0 (i3 (3 * (2 + m) + 2)) (0 + 1) (0 + 1) 2 0 9 150 (0 + (1 - 0) + (1 - 0)) (i3 2 + 1) 1 1 (i3 (2 + m + 1))
def zR6 (m : Nat) : md_R := zr (i3 (2 + m + 2 + (2 + m) + 1) + 1 + 1) 1 3 1 (i3 (2 + m + 1)) (i3 (2 + m)) (i3 (2 + m)) (2 + 1 + 1) 0 0 (-1) 400 149 2 (2 - 1) 2 1 1 (i3 (3 * (2 + m) + 2)) (0 + 1) (0 + 1) 2 0 9 150 (0 + (1 - 0) + (1 - 0)) (i3 2 + 1) 1 1 (i3 (2 + m + 1))
def zR7 (m : Nat) : md_R := zr (i3 (2 + m + 2 + (2 + m) + 1) + 1 + 1) 1 3 1 (i3 (2 + m + 1)) (i3 (2 + m)) (i3 (2 + m)) (2 + 1 + 1) 0 0 (-1) 400 149 2 (2 - 1) 2 0 1 (i3 (3 * (2 + m) + 2)) (0 + 1) (0 + 1) 2 0 9 150 (0 + (1 - 0) + (1 - 0)) (i3 2 + 1) 1 1 (i3 (2 + m + 1))
theorem zR_0 (m : Nat) : zF' m = zR0 m := rfl
theorem zq_954 : ∀ m, m < 4 → rf_stop (zR0 m) 0 = 0 ∧ md_ca (zR0 m) 0 = 0 := by decide +kernel
theorem za_954 {m : Nat} : md_so (zR0 m) 0 = zR1 m := (so_0 (nr0 (show zR0 m 1 = 0 from rd_1))).trans ru_21
theorem zq_963 : ∀ m, m < 4 → rf_add (zR1 m) 0 9 150 = 0 ∧ i3 (md_n (zR1 m)) = 0 := by decide +kernel
theorem za_963a : ∀ m, m < 4 → md_be (zr (i3 (2 + m + 2 + (2 + m) + 1)) (0 + 1) (2 + 1) 1 (i3 (2 + m + 1)) (i3 (2 + m)) (i3 (2 + m)) 2 0 0 (-1) 400 400 2 0 0 1 0 (i3 (3 * (2 + m) + 2)) 0 0 2 0 9 150 0 0 0 1 (i3 (2 + m + 1))) 0 150 3 + 1 = 2 := by decide +kernel
set_option maxRecDepth 20000 in
theorem za_963 {m : Nat} (hm : m < 4) : md_ad (zR1 m) 0 9 150 = zR2 m := by
  unfold zR1 zR2
  rw [ad_0 (g := zr (i3 (2 + m + 2 + (2 + m) + 1)) 0 2 1 (i3 (2 + m + 1)) (i3 (2 + m)) (i3 (2 + m)) 2 0 0 (-1) 400 400 2 0 0 1 0 (i3 (3 * (2 + m) + 2)) 0 0 0 0 0 0 0 0 0 1 (i3 (2 + m + 1))) (b := 2) (nr0 (show _ = _ from rd_1)) (by
    simp only [Nat.reduceAdd, Nat.add_zero, rd_0, rd_1, rd_2, rd_3, rd_4, rd_5, rd_6, rd_7, rd_8, rd_9, rd_12, rd_15, rd_16, rd_18, rd_19, rd_20, rd_21, rd_23, rd_24, rd_25, rd_26, rd_27, rd_39, rd_51, rd_63, rd_75, rd_87, rd_99, rd_111, rd_131, rd_17, rd_10, rd_11, rd_13, rd_14, rd_22, ru_0, ru_1, ru_2, ru_3, ru_4, ru_5, ru_6, ru_7, ru_8, ru_9, ru_12, ru_15, ru_16, ru_18, ru_19, ru_20, ru_21, ru_23, ru_24, ru_25, ru_26, ru_27, ru_39, ru_51, ru_63, ru_75, ru_87, ru_99, ru_111, ru_131, ru_121]
    exact za_963a m hm)]
  simp only [Nat.reduceAdd, Nat.add_zero, rd_0, rd_1, rd_2, rd_3, rd_4, rd_5, rd_6, rd_7, rd_8, rd_9, rd_12, rd_15, rd_16, rd_18, rd_19, rd_20, rd_21, rd_23, rd_24, rd_25, rd_26, rd_27, rd_39, rd_51, rd_63, rd_75, rd_87, rd_99, rd_111, rd_131, rd_17, rd_10, rd_11, rd_13, rd_14, rd_22, ru_0, ru_1, ru_2, ru_3, ru_4, ru_5, ru_6, ru_7, ru_8, ru_9, ru_12, ru_15, ru_16, ru_18, ru_19, ru_20, ru_21, ru_23, ru_24, ru_25, ru_26, ru_27, ru_39, ru_51, ru_63, ru_75, ru_87, ru_99, ru_111, ru_131, ru_121]
  rfl
theorem zq_977 : ∀ m, m < 4 → sq_carOf (zR2 m) 0 = (0, 1) := by decide +kernel
theorem zq_987 : ∀ m, m < 4 → rf_limit (zR2 m) 1 149 = 0 ∧ zR2 m 16 = 400 := by decide +kernel
theorem za_987 {m : Nat} : va_up (zR2 m) 16 149 = zR3 m := ru_16
set_option maxRecDepth 20000 in
theorem za_1002 {m : Nat} : md_step (zR3 m) = zR4 m := by
  refine (zs_p1 (g := zR3 m) (nr1 (show zr (i3 (2 + m + 2 + (2 + m) + 1)) 1 3 1 (i3 (2 + m + 1)) (i3 (2 + m)) (i3 (2 + m)) 2 0 0 (-1) 400 149 2 0 0 1 0 (i3 (3 * (2 + m) + 2)) 0 0 2 0 9 150 0 2 0 1 (i3 (2 + m + 1)) 1 = 1 from rd_1)) (by unfold zR3; rw [rd_87]; decide)).trans ?_
  have a1 : va_up (va_up (zR3 m) 0 ((zR3 m) 0 + 1)) 75 ((zR3 m) 75 + (1 - (zR3 m) 99)) = zr (i3 (2 + m + 2 + (2 + m) + 1) + 1) 1 3 1 (i3 (2 + m + 1)) (i3 (2 + m)) (i3 (2 + m)) 2 0 0 (-1) 400 149 2 0 0 1 0 (i3 (3 * (2 + m) + 2)) 0 0 2 0 9 150 (0 + (1 - 0)) 2 0 1 (i3 (2 + m + 1)) := by
    unfold zR3
    simp only [Nat.reduceAdd, Nat.add_zero, rd_0, rd_1, rd_2, rd_3, rd_4, rd_5, rd_6, rd_7, rd_8, rd_9, rd_12, rd_15, rd_16, rd_18, rd_19, rd_20, rd_21, rd_23, rd_24, rd_25, rd_26, rd_27, rd_39, rd_51, rd_63, rd_75, rd_87, rd_99, rd_111, rd_131, rd_17, rd_10, rd_11, rd_13, rd_14, rd_22, ru_0, ru_1, ru_2, ru_3, ru_4, ru_5, ru_6, ru_7, ru_8, ru_9, ru_12, ru_15, ru_16, ru_18, ru_19, ru_20, ru_21, ru_23, ru_24, ru_25, ru_26, ru_27, ru_39, ru_51, ru_63, ru_75, ru_87, ru_99, ru_111, ru_131, ru_121]
  rw [a1]
  rw [c_out (g := zr (i3 (2 + m + 2 + (2 + m) + 1) + 1) 1 3 1 (i3 (2 + m + 1)) (i3 (2 + m)) (i3 (2 + m)) 2 0 0 (-1) 400 149 2 0 0 1 0 (i3 (3 * (2 + m) + 2)) 0 0 2 0 9 150 (0 + (1 - 0)) 2 0 1 (i3 (2 + m + 1))) (c := 0) (by rw [rd_21]; decide)]
  have s2 : md_c1 (zr (i3 (2 + m + 2 + (2 + m) + 1) + 1) 1 3 1 (i3 (2 + m + 1)) (i3 (2 + m)) (i3 (2 + m)) 2 0 0 (-1) 400 149 2 0 0 1 0 (i3 (3 * (2 + m) + 2)) 0 0 2 0 9 150 (0 + (1 - 0)) 2 0 1 (i3 (2 + m + 1))) 1 = zr (i3 (2 + m + 2 + (2 + m) + 1) + 1) 1 3 1 (i3 (2 + m + 1)) (i3 (2 + m)) (i3 (2 + m)) (2 + 1) 0 0 (-1) 400 149 2 2 0 1 0 (i3 (3 * (2 + m) + 2)) (0 + 1) 0 2 0 9 150 (0 + (1 - 0)) 0 0 1 (i3 (2 + m + 1)) := by
    have o1 : md_op (zr (i3 (2 + m + 2 + (2 + m) + 1) + 1) 1 3 1 (i3 (2 + m + 1)) (i3 (2 + m)) (i3 (2 + m)) 2 0 0 (-1) 400 149 2 0 0 1 0 (i3 (3 * (2 + m) + 2)) 0 0 2 0 9 150 (0 + (1 - 0)) 2 0 1 (i3 (2 + m + 1))) 1 = zr (i3 (2 + m + 2 + (2 + m) + 1) + 1) 1 3 1 (i3 (2 + m + 1)) (i3 (2 + m)) (i3 (2 + m)) (2 + 1) 0 0 (-1) 400 149 2 2 0 1 0 (i3 (3 * (2 + m) + 2)) (0 + 1) 0 2 0 9 150 (0 + (1 - 0)) 2 0 1 (i3 (2 + m + 1)) := by
      rw [op_e]
      simp only [Nat.reduceAdd, Nat.add_zero, rd_0, rd_1, rd_2, rd_3, rd_4, rd_5, rd_6, rd_7, rd_8, rd_9, rd_12, rd_15, rd_16, rd_18, rd_19, rd_20, rd_21, rd_23, rd_24, rd_25, rd_26, rd_27, rd_39, rd_51, rd_63, rd_75, rd_87, rd_99, rd_111, rd_131, rd_17, rd_10, rd_11, rd_13, rd_14, rd_22, ru_0, ru_1, ru_2, ru_3, ru_4, ru_5, ru_6, ru_7, ru_8, ru_9, ru_12, ru_15, ru_16, ru_18, ru_19, ru_20, ru_21, ru_23, ru_24, ru_25, ru_26, ru_27, ru_39, ru_51, ru_63, ru_75, ru_87, ru_99, ru_111, ru_131, ru_121]
    rw [c_stop (g := zr (i3 (2 + m + 2 + (2 + m) + 1) + 1) 1 3 1 (i3 (2 + m + 1)) (i3 (2 + m)) (i3 (2 + m)) 2 0 0 (-1) 400 149 2 0 0 1 0 (i3 (3 * (2 + m) + 2)) 0 0 2 0 9 150 (0 + (1 - 0)) 2 0 1 (i3 (2 + m + 1))) (c := 1) rd_22 (by rw [rd_19]; decide) (by rw [stx_W (nr1 rd_1) (by rw [rd_87]; decide) rd_99 rd_39, rd_10]; decide), nr1 (g := zr (i3 (2 + m + 2 + (2 + m) + 1) + 1) 1 3 1 (i3 (2 + m + 1)) (i3 (2 + m)) (i3 (2 + m)) 2 0 0 (-1) 400 149 2 0 0 1 0 (i3 (3 * (2 + m) + 2)) 0 0 2 0 9 150 (0 + (1 - 0)) 2 0 1 (i3 (2 + m + 1))) rd_1, o1, al_n (g := zr (i3 (2 + m + 2 + (2 + m) + 1) + 1) 1 3 1 (i3 (2 + m + 1)) (i3 (2 + m)) (i3 (2 + m)) (2 + 1) 0 0 (-1) 400 149 2 2 0 1 0 (i3 (3 * (2 + m) + 2)) (0 + 1) 0 2 0 9 150 (0 + (1 - 0)) 2 0 1 (i3 (2 + m + 1))) (c := 1) (md_in_no (p := 0) rd_99)]
    rw [bo_n (g := zr (i3 (2 + m + 2 + (2 + m) + 1) + 1) 1 3 1 (i3 (2 + m + 1)) (i3 (2 + m)) (i3 (2 + m)) (2 + 1) 0 0 (-1) 400 149 2 2 0 1 0 (i3 (3 * (2 + m) + 2)) (0 + 1) 0 2 0 9 150 (0 + (1 - 0)) 2 0 1 (i3 (2 + m + 1))) (c := 1) (nr1 rd_1) (aw_y rd_99 (by rw [rd_87]; decide)) (by rw [rd_39, rd_10]; decide) (by rw [ld_1 (nr1 rd_1) rd_99, rd_63, rd_16]; decide)]
    simp only [Nat.reduceAdd, Nat.add_zero, rd_0, rd_1, rd_2, rd_3, rd_4, rd_5, rd_6, rd_7, rd_8, rd_9, rd_12, rd_15, rd_16, rd_18, rd_19, rd_20, rd_21, rd_23, rd_24, rd_25, rd_26, rd_27, rd_39, rd_51, rd_63, rd_75, rd_87, rd_99, rd_111, rd_131, rd_17, rd_10, rd_11, rd_13, rd_14, rd_22, ru_0, ru_1, ru_2, ru_3, ru_4, ru_5, ru_6, ru_7, ru_8, ru_9, ru_12, ru_15, ru_16, ru_18, ru_19, ru_20, ru_21, ru_23, ru_24, ru_25, ru_26, ru_27, ru_39, ru_51, ru_63, ru_75, ru_87, ru_99, ru_111, ru_131, ru_121]
  rw [s2, c_idle (g := zr (i3 (2 + m + 2 + (2 + m) + 1) + 1) 1 3 1 (i3 (2 + m + 1)) (i3 (2 + m)) (i3 (2 + m)) (2 + 1) 0 0 (-1) 400 149 2 2 0 1 0 (i3 (3 * (2 + m) + 2)) (0 + 1) 0 2 0 9 150 (0 + (1 - 0)) 0 0 1 (i3 (2 + m + 1))) (c := 2) rd_23 rd_20 rd_14 (fun x => stx_N (nr1 rd_1) (by rw [rd_87]; decide))]
  rfl
theorem zq_1011 : ∀ m, m < 4 → sq_inside (zR4 m) 0 = (0, 0) := by decide +kernel
theorem zq_1020 : ∀ m, m < 4 → sq_cell 18 (zR4 m) 1 = (0, 2) := by decide +kernel
theorem zq_1030 : ∀ m, m < 4 → sq_best (zR4 m) 0 150 = (0, 2) := by decide +kernel
theorem za_1043a : ∀ m, m < 4 → md_be (zr (i3 (2 + m + 2 + (2 + m) + 1) + 1 + 1) 1 3 1 (i3 (2 + m + 1)) (i3 (2 + m)) (i3 (2 + m)) (2 + 1) 0 0 (-1) 400 149 2 2 0 1 0 (i3 (3 * (2 + m) + 2)) (0 + 1) 0 2 0 9 150 (0 + (1 - 0)) 0 0 1 (i3 (2 + m + 1))) 0 150 3 + 1 = 3 := by decide +kernel
set_option maxRecDepth 20000 in
theorem za_1043 {m : Nat} (hm : m < 4) : md_step (zR4 m) = zR5 m := by
  refine (zs_pA (g := zR4 m) (nr1 (show zR4 m 1 = 1 from rd_1)) (show zR4 m 87 = 0 from rd_87)).trans ?_
  have a0 : va_up (zR4 m) 0 (zR4 m 0 + 1) = zr (i3 (2 + m + 2 + (2 + m) + 1) + 1 + 1) 1 3 1 (i3 (2 + m + 1)) (i3 (2 + m)) (i3 (2 + m)) (2 + 1) 0 0 (-1) 400 149 2 2 0 1 0 (i3 (3 * (2 + m) + 2)) (0 + 1) 0 2 0 9 150 (0 + (1 - 0)) 0 0 1 (i3 (2 + m + 1)) := by
    unfold zR4
    simp only [Nat.reduceAdd, Nat.add_zero, rd_0, rd_1, rd_2, rd_3, rd_4, rd_5, rd_6, rd_7, rd_8, rd_9, rd_12, rd_15, rd_16, rd_18, rd_19, rd_20, rd_21, rd_23, rd_24, rd_25, rd_26, rd_27, rd_39, rd_51, rd_63, rd_75, rd_87, rd_99, rd_111, rd_131, rd_17, rd_10, rd_11, rd_13, rd_14, rd_22, ru_0, ru_1, ru_2, ru_3, ru_4, ru_5, ru_6, ru_7, ru_8, ru_9, ru_12, ru_15, ru_16, ru_18, ru_19, ru_20, ru_21, ru_23, ru_24, ru_25, ru_26, ru_27, ru_39, ru_51, ru_63, ru_75, ru_87, ru_99, ru_111, ru_131, ru_121]
  have a1 : md_as (zr (i3 (2 + m + 2 + (2 + m) + 1) + 1 + 1) 1 3 1 (i3 (2 + m + 1)) (i3 (2 + m)) (i3 (2 + m)) (2 + 1) 0 0 (-1) 400 149 2 2 0 1 0 (i3 (3 * (2 + m) + 2)) (0 + 1) 0 2 0 9 150 (0 + (1 - 0)) 0 0 1 (i3 (2 + m + 1))) 0 = zr (i3 (2 + m + 2 + (2 + m) + 1) + 1 + 1) 1 3 1 (i3 (2 + m + 1)) (i3 (2 + m)) (i3 (2 + m)) (2 + 1) 0 0 (-1) 400 149 2 2 0 1 0 (i3 (3 * (2 + m) + 2)) (0 + 1) 0 2 0 9 150 (0 + (1 - 0)) 3 0 1 (i3 (2 + m + 1)) := by
    unfold md_as
    simp only [Nat.reduceAdd, Nat.add_zero, rd_0, rd_1, rd_2, rd_3, rd_4, rd_5, rd_6, rd_7, rd_8, rd_9, rd_12, rd_15, rd_16, rd_18, rd_19, rd_20, rd_21, rd_23, rd_24, rd_25, rd_26, rd_27, rd_39, rd_51, rd_63, rd_75, rd_87, rd_99, rd_111, rd_131, rd_17, rd_10, rd_11, rd_13, rd_14, rd_22, ru_0, ru_1, ru_2, ru_3, ru_4, ru_5, ru_6, ru_7, ru_8, ru_9, ru_12, ru_15, ru_16, ru_18, ru_19, ru_20, ru_21, ru_23, ru_24, ru_25, ru_26, ru_27, ru_39, ru_51, ru_63, ru_75, ru_87, ru_99, ru_111, ru_131, ru_121]
    rw [za_1043a m hm]
  have a2 : md_w1 (zr (i3 (2 + m + 2 + (2 + m) + 1) + 1 + 1) 1 3 1 (i3 (2 + m + 1)) (i3 (2 + m)) (i3 (2 + m)) (2 + 1) 0 0 (-1) 400 149 2 2 0 1 0 (i3 (3 * (2 + m) + 2)) (0 + 1) 0 2 0 9 150 (0 + (1 - 0)) 3 0 1 (i3 (2 + m + 1))) 0 = zr (i3 (2 + m + 2 + (2 + m) + 1) + 1 + 1) 1 3 1 (i3 (2 + m + 1)) (i3 (2 + m)) (i3 (2 + m)) (2 + 1) 0 0 (-1) 400 149 2 2 0 1 0 (i3 (3 * (2 + m) + 2)) (0 + 1) 0 2 0 9 150 (0 + (1 - 0) + (1 - 0)) 3 0 1 (i3 (2 + m + 1)) := by
    unfold md_w1
    simp only [Nat.reduceAdd, Nat.add_zero, rd_0, rd_1, rd_2, rd_3, rd_4, rd_5, rd_6, rd_7, rd_8, rd_9, rd_12, rd_15, rd_16, rd_18, rd_19, rd_20, rd_21, rd_23, rd_24, rd_25, rd_26, rd_27, rd_39, rd_51, rd_63, rd_75, rd_87, rd_99, rd_111, rd_131, rd_17, rd_10, rd_11, rd_13, rd_14, rd_22, ru_0, ru_1, ru_2, ru_3, ru_4, ru_5, ru_6, ru_7, ru_8, ru_9, ru_12, ru_15, ru_16, ru_18, ru_19, ru_20, ru_21, ru_23, ru_24, ru_25, ru_26, ru_27, ru_39, ru_51, ru_63, ru_75, ru_87, ru_99, ru_111, ru_131, ru_121]
  rw [a0, a1, a2, c_out (g := zr (i3 (2 + m + 2 + (2 + m) + 1) + 1 + 1) 1 3 1 (i3 (2 + m + 1)) (i3 (2 + m)) (i3 (2 + m)) (2 + 1) 0 0 (-1) 400 149 2 2 0 1 0 (i3 (3 * (2 + m) + 2)) (0 + 1) 0 2 0 9 150 (0 + (1 - 0) + (1 - 0)) 3 0 1 (i3 (2 + m + 1))) (c := 0) (by rw [rd_21]; decide)]
  have a3 : md_c1 (zr (i3 (2 + m + 2 + (2 + m) + 1) + 1 + 1) 1 3 1 (i3 (2 + m + 1)) (i3 (2 + m)) (i3 (2 + m)) (2 + 1) 0 0 (-1) 400 149 2 2 0 1 0 (i3 (3 * (2 + m) + 2)) (0 + 1) 0 2 0 9 150 (0 + (1 - 0) + (1 - 0)) 3 0 1 (i3 (2 + m + 1))) 1 = zr (i3 (2 + m + 2 + (2 + m) + 1) + 1 + 1) 1 3 1 (i3 (2 + m + 1)) (i3 (2 + m)) (i3 (2 + m)) (2 + 1) 0 0 (-1) 400 149 2 (2 - 1) 0 1 0 (i3 (3 * (2 + m) + 2)) (0 + 1) 0 2 0 9 150 (0 + (1 - 0) + (1 - 0)) 3 0 1 (i3 (2 + m + 1)) := by
    rw [c_door (g := zr (i3 (2 + m + 2 + (2 + m) + 1) + 1 + 1) 1 3 1 (i3 (2 + m + 1)) (i3 (2 + m)) (i3 (2 + m)) (2 + 1) 0 0 (-1) 400 149 2 2 0 1 0 (i3 (3 * (2 + m) + 2)) (0 + 1) 0 2 0 9 150 (0 + (1 - 0) + (1 - 0)) 3 0 1 (i3 (2 + m + 1))) (c := 1) rd_22 (by rw [rd_19]; decide)]
    simp only [Nat.reduceAdd, Nat.add_zero, rd_0, rd_1, rd_2, rd_3, rd_4, rd_5, rd_6, rd_7, rd_8, rd_9, rd_12, rd_15, rd_16, rd_18, rd_19, rd_20, rd_21, rd_23, rd_24, rd_25, rd_26, rd_27, rd_39, rd_51, rd_63, rd_75, rd_87, rd_99, rd_111, rd_131, rd_17, rd_10, rd_11, rd_13, rd_14, rd_22, ru_0, ru_1, ru_2, ru_3, ru_4, ru_5, ru_6, ru_7, ru_8, ru_9, ru_12, ru_15, ru_16, ru_18, ru_19, ru_20, ru_21, ru_23, ru_24, ru_25, ru_26, ru_27, ru_39, ru_51, ru_63, ru_75, ru_87, ru_99, ru_111, ru_131, ru_121]
  rw [a3]
  have s2 : md_c1 (zr (i3 (2 + m + 2 + (2 + m) + 1) + 1 + 1) 1 3 1 (i3 (2 + m + 1)) (i3 (2 + m)) (i3 (2 + m)) (2 + 1) 0 0 (-1) 400 149 2 (2 - 1) 0 1 0 (i3 (3 * (2 + m) + 2)) (0 + 1) 0 2 0 9 150 (0 + (1 - 0) + (1 - 0)) 3 0 1 (i3 (2 + m + 1))) 2 = zr (i3 (2 + m + 2 + (2 + m) + 1) + 1 + 1) 1 3 1 (i3 (2 + m + 1)) (i3 (2 + m)) (i3 (2 + m)) (2 + 1 + 1) 0 0 (-1) 400 149 2 (2 - 1) 2 1 0 (i3 (3 * (2 + m) + 2)) (0 + 1) (0 + 1) 2 0 9 150 (0 + (1 - 0) + (1 - 0)) (i3 2 + 1) 1 1 (i3 (2 + m + 1)) := by
    have o1 : md_op (zr (i3 (2 + m + 2 + (2 + m) + 1) + 1 + 1) 1 3 1 (i3 (2 + m + 1)) (i3 (2 + m)) (i3 (2 + m)) (2 + 1) 0 0 (-1) 400 149 2 (2 - 1) 0 1 0 (i3 (3 * (2 + m) + 2)) (0 + 1) 0 2 0 9 150 (0 + (1 - 0) + (1 - 0)) 3 0 1 (i3 (2 + m + 1))) 2 = zr (i3 (2 + m + 2 + (2 + m) + 1) + 1 + 1) 1 3 1 (i3 (2 + m + 1)) (i3 (2 + m)) (i3 (2 + m)) (2 + 1 + 1) 0 0 (-1) 400 149 2 (2 - 1) 2 1 0 (i3 (3 * (2 + m) + 2)) (0 + 1) (0 + 1) 2 0 9 150 (0 + (1 - 0) + (1 - 0)) 3 0 1 (i3 (2 + m + 1)) := by
      rw [op_e]
      simp only [Nat.reduceAdd, Nat.add_zero, rd_0, rd_1, rd_2, rd_3, rd_4, rd_5, rd_6, rd_7, rd_8, rd_9, rd_12, rd_15, rd_16, rd_18, rd_19, rd_20, rd_21, rd_23, rd_24, rd_25, rd_26, rd_27, rd_39, rd_51, rd_63, rd_75, rd_87, rd_99, rd_111, rd_131, rd_17, rd_10, rd_11, rd_13, rd_14, rd_22, ru_0, ru_1, ru_2, ru_3, ru_4, ru_5, ru_6, ru_7, ru_8, ru_9, ru_12, ru_15, ru_16, ru_18, ru_19, ru_20, ru_21, ru_23, ru_24, ru_25, ru_26, ru_27, ru_39, ru_51, ru_63, ru_75, ru_87, ru_99, ru_111, ru_131, ru_121]
    rw [c_stop (g := zr (i3 (2 + m + 2 + (2 + m) + 1) + 1 + 1) 1 3 1 (i3 (2 + m + 1)) (i3 (2 + m)) (i3 (2 + m)) (2 + 1) 0 0 (-1) 400 149 2 (2 - 1) 0 1 0 (i3 (3 * (2 + m) + 2)) (0 + 1) 0 2 0 9 150 (0 + (1 - 0) + (1 - 0)) 3 0 1 (i3 (2 + m + 1))) (c := 2) rd_23 (by rw [rd_20]; decide) (by rw [stx_W (nr1 rd_1) (by rw [rd_87]; decide) rd_99 rd_39, rd_11]; decide), nr1 (g := zr (i3 (2 + m + 2 + (2 + m) + 1) + 1 + 1) 1 3 1 (i3 (2 + m + 1)) (i3 (2 + m)) (i3 (2 + m)) (2 + 1) 0 0 (-1) 400 149 2 (2 - 1) 0 1 0 (i3 (3 * (2 + m) + 2)) (0 + 1) 0 2 0 9 150 (0 + (1 - 0) + (1 - 0)) 3 0 1 (i3 (2 + m + 1))) rd_1, o1, al_n (g := zr (i3 (2 + m + 2 + (2 + m) + 1) + 1 + 1) 1 3 1 (i3 (2 + m + 1)) (i3 (2 + m)) (i3 (2 + m)) (2 + 1 + 1) 0 0 (-1) 400 149 2 (2 - 1) 2 1 0 (i3 (3 * (2 + m) + 2)) (0 + 1) (0 + 1) 2 0 9 150 (0 + (1 - 0) + (1 - 0)) 3 0 1 (i3 (2 + m + 1))) (c := 2) (md_in_no (p := 0) rd_99)]
    rw [bo_y (g := zr (i3 (2 + m + 2 + (2 + m) + 1) + 1 + 1) 1 3 1 (i3 (2 + m + 1)) (i3 (2 + m)) (i3 (2 + m)) (2 + 1 + 1) 0 0 (-1) 400 149 2 (2 - 1) 2 1 0 (i3 (3 * (2 + m) + 2)) (0 + 1) (0 + 1) 2 0 9 150 (0 + (1 - 0) + (1 - 0)) 3 0 1 (i3 (2 + m + 1))) (c := 2) (nr1 rd_1) (aw_y rd_99 (by rw [rd_87]; decide)) (by rw [rd_39, rd_11]; decide) (by rw [ld_1 (nr1 rd_1) rd_99, rd_63, rd_17]; decide)]
    simp only [Nat.reduceAdd, Nat.add_zero, rd_0, rd_1, rd_2, rd_3, rd_4, rd_5, rd_6, rd_7, rd_8, rd_9, rd_12, rd_15, rd_16, rd_18, rd_19, rd_20, rd_21, rd_23, rd_24, rd_25, rd_26, rd_27, rd_39, rd_51, rd_63, rd_75, rd_87, rd_99, rd_111, rd_131, rd_17, rd_10, rd_11, rd_13, rd_14, rd_22, ru_0, ru_1, ru_2, ru_3, ru_4, ru_5, ru_6, ru_7, ru_8, ru_9, ru_12, ru_15, ru_16, ru_18, ru_19, ru_20, ru_21, ru_23, ru_24, ru_25, ru_26, ru_27, ru_39, ru_51, ru_63, ru_75, ru_87, ru_99, ru_111, ru_131, ru_121]
  rw [s2]
  rfl
theorem zq_1052 : ∀ m, m < 4 → sq_inside (zR5 m) 0 = (0, 1) := by decide +kernel
theorem zq_1061 : ∀ m, m < 4 → sq_carOf (zR5 m) 0 = (0, 2) := by decide +kernel
theorem zq_1071 : ∀ m, m < 4 → sq_pas 27 (zR5 m) 0 = (0, 2) := by decide +kernel
theorem zq_1081 : ∀ m, m < 4 → rf_stop (zR5 m) 2 = 0 ∧ md_ca (zR5 m) 2 = 0 := by decide +kernel
theorem za_1081 {m : Nat} : md_so (zR5 m) 2 = zR6 m := (so_1 (nr1 (show zR5 m 1 = 1 from rd_1)) (aw_n (show zR5 m 99 = 1 from rd_99))).trans ru_23
theorem zq_1090 : ∀ m, m < 4 → sq_riders (zR6 m) 2 = (0, 1) := by decide +kernel
theorem zq_1100 : ∀ m, m < 4 → sq_next (zR6 m) 2 = (0, 9) := by decide +kernel
theorem zq_1111 : ∀ m, m < 4 → rf_start (zR6 m) 0 = 0 ∧ i3 3 - va_up (zR6 m) 21 0 21 - va_up (zR6 m) 21 0 22 - va_up (zR6 m) 21 0 23 = 2 := by decide +kernel
theorem za_1111 {m : Nat} : va_up (zR6 m) 21 0 = zR7 m := ru_21
