/-! .. its steps (by gen/mk8w.py) -/
/-- k steps up -/
def zU (f k t : Nat) (di v : Int32) : md_R := zr (i3 t) 1 2 0 0 (i3 k) 0 0 0 (i3 k) di 400 400 0 0 0 0 0 (i3 (2 * k)) 0 0 1 (i3 f) 0 v (i3 k) 1 0 0 0
/-- aboard, the doors for s more steps, j floors down -/
def zB (f t j : Nat) (cp s di v : Int32) : md_R := zr (i3 t) 1 2 0 0 (i3 f) (i3 j) 1 0 (i3 (f - j)) di cp 400 s 0 0 0 0 (i3 (2 * f + 1 + j)) 0 0 1 (i3 f) 0 v (i3 (f + 1)) 1 1 0 0
/-- arrived -/
def zE (f t : Nat) : md_R := zr (i3 t) 0 2 1 (i3 (f + 1)) (i3 f) (i3 f) 2 0 0 (-1) 400 400 2 0 0 0 0 (i3 (3 * f + 2)) 0 0 0 0 0 0 0 0 0 1 (i3 (f + 1))
theorem nr1 {g : md_R} (h : g 1 = 1) : md_n g = 1 := by
  unfold md_n
  rw [h]
  decide
theorem nr0 {g : md_R} (h : g 1 = 0) : md_n g = 0 := by
  unfold md_n
  rw [h]
  decide
theorem cH_u : ∀ f, f < 6 → ∀ k, k < f → cH (i3 f) (i3 k) 0 = 1 ∧ cH (i3 f) (i3 k) 1 = 1 ∧ (i3 f == i3 k) = false := by decide +kernel
theorem cH_d : ∀ k, k < 6 → 0 < k → cH 0 (i3 k) 1 = -1 ∧ cH 0 (i3 k) (-1) = -1 ∧ ((0 : Int32) == i3 k) = false := by decide +kernel
theorem z_up {f k t : Nat} {di v : Int32} (hf : f < 6) (hk : k < f) (hd : di = 0 ∨ di = 1) : md_step (zU f k t di v) = zU f (k + 1) (t + 1) 1 v := by
  obtain ⟨q1, q2, q3⟩ := cH_u f hf k hk
  have qc : cH (i3 f) (i3 k) di = 1 := by rcases hd with rfl | rfl; exact q1; exact q2
  refine (zs_p1 (g := zU f k t di v) (nr1 rfl) (show (1 : Int32) ≠ 0 by decide)).trans ?_
  have a1 : va_up (va_up (zU f k t di v) 0 (zU f k t di v 0 + 1)) 75 (zU f k t di v 75 + (1 - zU f k t di v 99)) = zr (i3 t + 1) 1 2 0 0 (i3 k) 0 0 0 (i3 k) di 400 400 0 0 0 0 0 (i3 (2 * k)) 0 0 1 (i3 f) 0 v (i3 k + (1 - 0)) 1 0 0 0 := by
    show va_up (va_up (zr (i3 t) 1 2 0 0 (i3 k) 0 0 0 (i3 k) di 400 400 0 0 0 0 0 (i3 (2 * k)) 0 0 1 (i3 f) 0 v (i3 k) 1 0 0 0) 0 (i3 t + 1)) 75 (i3 k + (1 - 0)) = _
    rw [ru_0, ru_75]
  rw [a1]
  have st : ∀ x, md_st (zr (i3 t + 1) 1 2 0 0 (i3 k) 0 0 0 (i3 k) di 400 400 0 0 0 0 0 (i3 (2 * k)) 0 0 1 (i3 f) 0 v (i3 k + (1 - 0)) 1 0 0 0) 0 x = (i3 f == x) := fun x => stx_W (nr1 rfl) (show ((1 : Int32) == i3 0 + 1) = true by decide) rfl
  have a2 : md_c1 (zr (i3 t + 1) 1 2 0 0 (i3 k) 0 0 0 (i3 k) di 400 400 0 0 0 0 0 (i3 (2 * k)) 0 0 1 (i3 f) 0 v (i3 k + (1 - 0)) 1 0 0 0) 0 = zr (i3 t + 1) 1 2 0 0 (i3 k + 1) 0 0 (0 + 0) (i3 k + 1) 1 400 400 0 0 0 0 0 (i3 (2 * k) + 2) 0 0 1 (i3 f) 0 v (i3 k + (1 - 0)) 1 0 0 0 := by
    rw [c_move rfl (show ¬ (0 : Int32) < 0 by decide) ((st _).trans q3), mv_u ((ch_t st).trans qc) rfl]
    show (va_up (va_up (va_up (va_up (va_up (zr (i3 t + 1) 1 2 0 0 (i3 k) 0 0 0 (i3 k) di 400 400 0 0 0 0 0 (i3 (2 * k)) 0 0 1 (i3 f) 0 v (i3 k + (1 - 0)) 1 0 0 0) 12 1) 9 (i3 k + 1)) 24 (i3 (2 * k) + 2)) 8 (0 + 0)) 5 (i3 k + 1)) = _
    rw [ru_12, ru_9, ru_24, ru_8, ru_5]
  rw [a2, c_idle rfl rfl rfl (fun x => stx_N (nr1 rfl) (show ((1 : Int32) == i3 1 + 1) = false by decide)), c_idle rfl rfl rfl (fun x => stx_N (nr1 rfl) (show ((1 : Int32) == i3 2 + 1) = false by decide))]
  unfold zU
  rw [show i3 t + 1 = i3 (t + 1) from i3_one t, show i3 k + 1 = i3 (k + 1) from i3_one k, show i3 k + (1 - 0) = i3 (k + 1) from i3_one k, show i3 (2 * k) + 2 = i3 (2 * (k + 1)) from by rw [i3_lit 2, i3_add, Nat.mul_add], show (0 : Int32) + 0 = 0 from rfl]
theorem z_bd {f t : Nat} {di v : Int32} (hv : v ≤ 400) : md_step (zU f f t di v) = zB f (t + 1) 0 400 2 di v := by
  refine (zs_p1 (g := zU f f t di v) (nr1 rfl) (show (1 : Int32) ≠ 0 by decide)).trans ?_
  have a1 : va_up (va_up (zU f f t di v) 0 (zU f f t di v 0 + 1)) 75 (zU f f t di v 75 + (1 - zU f f t di v 99)) = zr (i3 t + 1) 1 2 0 0 (i3 f) 0 0 0 (i3 f) di 400 400 0 0 0 0 0 (i3 (2 * f)) 0 0 1 (i3 f) 0 v (i3 f + (1 - 0)) 1 0 0 0 := by
    show va_up (va_up (zr (i3 t) 1 2 0 0 (i3 f) 0 0 0 (i3 f) di 400 400 0 0 0 0 0 (i3 (2 * f)) 0 0 1 (i3 f) 0 v (i3 f) 1 0 0 0) 0 (i3 t + 1)) 75 (i3 f + (1 - 0)) = _
    rw [ru_0, ru_75]
  rw [a1]
  have a2 : md_c1 (zr (i3 t + 1) 1 2 0 0 (i3 f) 0 0 0 (i3 f) di 400 400 0 0 0 0 0 (i3 (2 * f)) 0 0 1 (i3 f) 0 v (i3 f + (1 - 0)) 1 0 0 0) 0 = zr (i3 t + 1) 1 2 0 0 (i3 f) 0 (0 + 1) 0 (i3 f) di 400 400 2 0 0 0 0 (i3 (2 * f) + 1) 0 0 1 (i3 f) 0 v (i3 f + (1 - 0)) (i3 0 + 1) 1 0 0 := by
    rw [c_stop rfl (show ¬ (0 : Int32) < 0 by decide) ((stx_W (nr1 rfl) (show ((1 : Int32) == i3 0 + 1) = true by decide) rfl).trans (beq_self_eq_true (i3 f))), nr1 (show _ = _ from rfl), op_e]
    show md_bo (md_al 0 1 0 (va_up (va_up (va_up (zr (i3 t + 1) 1 2 0 0 (i3 f) 0 0 0 (i3 f) di 400 400 0 0 0 0 0 (i3 (2 * f)) 0 0 1 (i3 f) 0 v (i3 f + (1 - 0)) 1 0 0 0) 18 2) 24 (i3 (2 * f) + 1)) 7 (0 + 1))) 0 = _
    rw [ru_18, ru_24, ru_7, al_n (show md_in (zr (i3 t + 1) 1 2 0 0 (i3 f) 0 (0 + 1) 0 (i3 f) di 400 400 2 0 0 0 0 (i3 (2 * f) + 1) 0 0 1 (i3 f) 0 v (i3 f + (1 - 0)) 1 0 0 0) 0 0 = false from rfl), bo_y (nr1 rfl) rfl (beq_self_eq_true (i3 f)) (show (0 : Int32) + 0 + v ≤ 400 by rw [show (0 : Int32) + 0 = 0 from rfl, Int32.zero_add]; exact hv), ru_99, ru_87]
  rw [a2, c_idle rfl rfl rfl (fun x => stx_N (nr1 rfl) (show (i3 0 + 1 == i3 1 + 1) = false by decide)), c_idle rfl rfl rfl (fun x => stx_N (nr1 rfl) (show (i3 0 + 1 == i3 2 + 1) = false by decide))]
  unfold zB
  rw [show i3 t + 1 = i3 (t + 1) from i3_one t, show i3 f + (1 - 0) = i3 (f + 1) from i3_one f, show i3 (2 * f) + 1 = i3 (2 * f + 1) from i3_one _]
  rfl
theorem z_dr {f t j : Nat} {cp s di v : Int32} (hs : 0 < s) : md_step (zB f t j cp s di v) = zB f (t + 1) j cp (s - 1) di v := by
  refine (zs_p1 (g := zB f t j cp s di v) (nr1 rfl) (show (1 : Int32) ≠ 0 by decide)).trans ?_
  have a1 : va_up (va_up (zB f t j cp s di v) 0 (zB f t j cp s di v 0 + 1)) 75 (zB f t j cp s di v 75 + (1 - zB f t j cp s di v 99)) = zr (i3 t + 1) 1 2 0 0 (i3 f) (i3 j) 1 0 (i3 (f - j)) di cp 400 s 0 0 0 0 (i3 (2 * f + 1 + j)) 0 0 1 (i3 f) 0 v (i3 (f + 1) + (1 - 1)) 1 1 0 0 := by
    show va_up (va_up (zr (i3 t) 1 2 0 0 (i3 f) (i3 j) 1 0 (i3 (f - j)) di cp 400 s 0 0 0 0 (i3 (2 * f + 1 + j)) 0 0 1 (i3 f) 0 v (i3 (f + 1)) 1 1 0 0) 0 (i3 t + 1)) 75 (i3 (f + 1) + (1 - 1)) = _
    rw [ru_0, ru_75]
  rw [a1]
  have a2 : md_c1 (zr (i3 t + 1) 1 2 0 0 (i3 f) (i3 j) 1 0 (i3 (f - j)) di cp 400 s 0 0 0 0 (i3 (2 * f + 1 + j)) 0 0 1 (i3 f) 0 v (i3 (f + 1) + (1 - 1)) 1 1 0 0) 0 = zr (i3 t + 1) 1 2 0 0 (i3 f) (i3 j) 1 0 (i3 (f - j)) di cp 400 (s - 1) 0 0 0 0 (i3 (2 * f + 1 + j)) 0 0 1 (i3 f) 0 v (i3 (f + 1) + (1 - 1)) 1 1 0 0 := by
    rw [c_door rfl hs]
    show va_up (zr (i3 t + 1) 1 2 0 0 (i3 f) (i3 j) 1 0 (i3 (f - j)) di cp 400 s 0 0 0 0 (i3 (2 * f + 1 + j)) 0 0 1 (i3 f) 0 v (i3 (f + 1) + (1 - 1)) 1 1 0 0) 18 (s - 1) = _
    rw [ru_18]
  rw [a2, c_idle rfl rfl rfl (fun x => stx_N (nr1 rfl) (show ((1 : Int32) == i3 1 + 1) = false by decide)), c_idle rfl rfl rfl (fun x => stx_N (nr1 rfl) (show ((1 : Int32) == i3 2 + 1) = false by decide))]
  unfold zB
  rw [show i3 t + 1 = i3 (t + 1) from i3_one t, show i3 (f + 1) + (1 - 1) = i3 (f + 1) from Int32.add_zero _]
theorem z_dn {f t j : Nat} {cp di v : Int32} (hf : f < 6) (hj : j < f) (hd : di = 1 ∨ di = -1) : md_step (zB f t j cp 0 di v) = zB f (t + 1) (j + 1) cp 0 (-1) v := by
  obtain ⟨q1, q2, q3⟩ := cH_d (f - j) (by omega) (by omega)
  have qc : cH 0 (i3 (f - j)) di = -1 := by rcases hd with rfl | rfl; exact q1; exact q2
  refine (zs_p1 (g := zB f t j cp 0 di v) (nr1 rfl) (show (1 : Int32) ≠ 0 by decide)).trans ?_
  have a1 : va_up (va_up (zB f t j cp 0 di v) 0 (zB f t j cp 0 di v 0 + 1)) 75 (zB f t j cp 0 di v 75 + (1 - zB f t j cp 0 di v 99)) = zr (i3 t + 1) 1 2 0 0 (i3 f) (i3 j) 1 0 (i3 (f - j)) di cp 400 0 0 0 0 0 (i3 (2 * f + 1 + j)) 0 0 1 (i3 f) 0 v (i3 (f + 1) + (1 - 1)) 1 1 0 0 := by
    show va_up (va_up (zr (i3 t) 1 2 0 0 (i3 f) (i3 j) 1 0 (i3 (f - j)) di cp 400 0 0 0 0 0 (i3 (2 * f + 1 + j)) 0 0 1 (i3 f) 0 v (i3 (f + 1)) 1 1 0 0) 0 (i3 t + 1)) 75 (i3 (f + 1) + (1 - 1)) = _
    rw [ru_0, ru_75]
  rw [a1]
  have st : ∀ x, md_st (zr (i3 t + 1) 1 2 0 0 (i3 f) (i3 j) 1 0 (i3 (f - j)) di cp 400 0 0 0 0 0 (i3 (2 * f + 1 + j)) 0 0 1 (i3 f) 0 v (i3 (f + 1) + (1 - 1)) 1 1 0 0) 0 x = ((0 : Int32) == x) := fun x => stx_I (nr1 rfl) (show ((1 : Int32) == i3 0 + 1) = true by decide) rfl
  have a2 : md_c1 (zr (i3 t + 1) 1 2 0 0 (i3 f) (i3 j) 1 0 (i3 (f - j)) di cp 400 0 0 0 0 0 (i3 (2 * f + 1 + j)) 0 0 1 (i3 f) 0 v (i3 (f + 1) + (1 - 1)) 1 1 0 0) 0 = zr (i3 t + 1) 1 2 0 0 (i3 f) (i3 j + 1) 1 0 (i3 (f - j) + -1) (-1) cp 400 0 0 0 0 0 (i3 (2 * f + 1 + j) + 1) 0 0 1 (i3 f) 0 v (i3 (f + 1) + (1 - 1)) 1 1 0 0 := by
    rw [c_move rfl (show ¬ (0 : Int32) < 0 by decide) ((st _).trans q3), mv_d ((ch_t st).trans qc)]
    show (va_up (va_up (va_up (va_up (zr (i3 t + 1) 1 2 0 0 (i3 f) (i3 j) 1 0 (i3 (f - j)) di cp 400 0 0 0 0 0 (i3 (2 * f + 1 + j)) 0 0 1 (i3 f) 0 v (i3 (f + 1) + (1 - 1)) 1 1 0 0) 12 (-1)) 9 (i3 (f - j) + -1)) 24 (i3 (2 * f + 1 + j) + 1)) 6 (i3 j + 1)) = _
    rw [ru_12, ru_9, ru_24, ru_6]
  rw [a2, c_idle rfl rfl rfl (fun x => stx_N (nr1 rfl) (show ((1 : Int32) == i3 1 + 1) = false by decide)), c_idle rfl rfl rfl (fun x => stx_N (nr1 rfl) (show ((1 : Int32) == i3 2 + 1) = false by decide))]
  unfold zB
  rw [show i3 t + 1 = i3 (t + 1) from i3_one t, show i3 (f + 1) + (1 - 1) = i3 (f + 1) from Int32.add_zero _, show i3 j + 1 = i3 (j + 1) from i3_one j, show i3 (2 * f + 1 + j) + 1 = i3 (2 * f + 1 + (j + 1)) from i3_one _, show i3 (f - j) + -1 = i3 (f - (j + 1)) from (by rw [show f - j = f - (j + 1) + 1 by omega]; exact (Int32.sub_eq_add_neg _ _).symm.trans (i3_sub _ 1))]
theorem z_al {f t : Nat} {v : Int32} : md_step (zB f t f 400 0 (-1) v) = zE f (t + 1) := by
  refine (zs_p1 (g := zB f t f 400 0 (-1) v) (nr1 rfl) (show (1 : Int32) ≠ 0 by decide)).trans ?_
  have a1 : va_up (va_up (zB f t f 400 0 (-1) v) 0 (zB f t f 400 0 (-1) v 0 + 1)) 75 (zB f t f 400 0 (-1) v 75 + (1 - zB f t f 400 0 (-1) v 99)) = zr (i3 t + 1) 1 2 0 0 (i3 f) (i3 f) 1 0 (i3 (f - f)) (-1) 400 400 0 0 0 0 0 (i3 (2 * f + 1 + f)) 0 0 1 (i3 f) 0 v (i3 (f + 1) + (1 - 1)) 1 1 0 0 := by
    show va_up (va_up (zr (i3 t) 1 2 0 0 (i3 f) (i3 f) 1 0 (i3 (f - f)) (-1) 400 400 0 0 0 0 0 (i3 (2 * f + 1 + f)) 0 0 1 (i3 f) 0 v (i3 (f + 1)) 1 1 0 0) 0 (i3 t + 1)) 75 (i3 (f + 1) + (1 - 1)) = _
    rw [ru_0, ru_75]
  rw [a1]
  have q0 : ((0 : Int32) == i3 (f - f)) = true := by rw [Nat.sub_self]; decide
  have a2 : md_c1 (zr (i3 t + 1) 1 2 0 0 (i3 f) (i3 f) 1 0 (i3 (f - f)) (-1) 400 400 0 0 0 0 0 (i3 (2 * f + 1 + f)) 0 0 1 (i3 f) 0 v (i3 (f + 1) + (1 - 1)) 1 1 0 0) 0 = zr (i3 t + 1) (1 - 1) 2 (0 + 1) (0 + (i3 (f + 1) + (1 - 1))) (i3 f) (i3 f) (1 + 1) 0 (i3 (f - f)) (-1) 400 400 2 0 0 0 0 (i3 (2 * f + 1 + f) + 1) 0 0 0 0 0 0 0 0 0 1 (i3 (f + 1) + (1 - 1)) := by
    rw [c_stop rfl (show ¬ (0 : Int32) < 0 by decide) ((stx_I (nr1 rfl) (show ((1 : Int32) == i3 0 + 1) = true by decide) rfl).trans q0), nr1 (show _ = _ from rfl), op_e]
    show md_bo (md_al 0 1 0 (va_up (va_up (va_up (zr (i3 t + 1) 1 2 0 0 (i3 f) (i3 f) 1 0 (i3 (f - f)) (-1) 400 400 0 0 0 0 0 (i3 (2 * f + 1 + f)) 0 0 1 (i3 f) 0 v (i3 (f + 1) + (1 - 1)) 1 1 0 0) 18 2) 24 (i3 (2 * f + 1 + f) + 1)) 7 (1 + 1))) 0 = _
    rw [ru_18, ru_24, ru_7, al_y (show md_in (zr (i3 t + 1) 1 2 0 0 (i3 f) (i3 f) (1 + 1) 0 (i3 (f - f)) (-1) 400 400 2 0 0 0 0 (i3 (2 * f + 1 + f) + 1) 0 0 1 (i3 f) 0 v (i3 (f + 1) + (1 - 1)) 1 1 0 0) 0 0 = true from rfl) q0]
    have l1 : md_lg (zr (i3 t + 1) 1 2 0 0 (i3 f) (i3 f) (1 + 1) 0 (i3 (f - f)) (-1) 400 400 2 0 0 0 0 (i3 (2 * f + 1 + f) + 1) 0 0 1 (i3 f) 0 v (i3 (f + 1) + (1 - 1)) 1 1 0 0) 0 0 = zr (i3 t + 1) 1 2 (0 + 1) (0 + (i3 (f + 1) + (1 - 1))) (i3 f) (i3 f) (1 + 1) 0 (i3 (f - f)) (-1) 400 400 2 0 0 0 0 (i3 (2 * f + 1 + f) + 1) 0 0 1 (i3 f) 0 v (i3 (f + 1) + (1 - 1)) 1 1 1 (i3 (f + 1) + (1 - 1)) := by
      show (va_up (va_up (va_up (va_up (va_up (zr (i3 t + 1) 1 2 0 0 (i3 f) (i3 f) (1 + 1) 0 (i3 (f - f)) (-1) 400 400 2 0 0 0 0 (i3 (2 * f + 1 + f) + 1) 0 0 1 (i3 f) 0 v (i3 (f + 1) + (1 - 1)) 1 1 0 0) 111 1) 121 0) 131 (i3 (f + 1) + (1 - 1))) 4 (0 + (i3 (f + 1) + (1 - 1)))) 3 (0 + 1)) = _
      rw [ru_111, ru_121, ru_131, ru_4, ru_3]
    rw [l1]
    unfold md_dr
    rw [dP_z]
    show md_bo (va_up (zr (i3 t + 1) 1 2 (0 + 1) (0 + (i3 (f + 1) + (1 - 1))) (i3 f) (i3 f) (1 + 1) 0 (i3 (f - f)) (-1) 400 400 2 0 0 0 0 (i3 (2 * f + 1 + f) + 1) 0 0 0 0 0 0 0 0 0 1 (i3 (f + 1) + (1 - 1))) 1 (1 - 1)) 0 = _
    rw [ru_1, bo_0 (nr0 rfl)]
  rw [a2, c_idle rfl rfl rfl (fun x => stx_0 (nr0 rfl)), c_idle rfl rfl rfl (fun x => stx_0 (nr0 rfl))]
  unfold zE
  rw [show i3 t + 1 = i3 (t + 1) from i3_one t, show i3 (f + 1) + (1 - 1) = i3 (f + 1) from Int32.add_zero _, show i3 (2 * f + 1 + f) + 1 = i3 (3 * f + 2) from (i3_one _).trans (by congr 1; omega), Nat.sub_self, show 0 + i3 (f + 1) = i3 (f + 1) from Int32.zero_add _]
  rfl
/-- nobody there -/
def zN (t : Nat) : md_R := zr (i3 t) 0 1 0 0 0 0 0 0 0 0 400 400 0 0 0 0 0 0 0 0 0 0 0 0 0 0 0 0 0
theorem z_no {t : Nat} : md_step (zN t) = zN (t + 1) := by
  refine (zs_p0 (g := zN t) (nr0 rfl)).trans ?_
  have a1 : va_up (zN t) 0 (zN t 0 + 1) = zN (t + 1) := by
    show va_up (zr (i3 t) 0 1 0 0 0 0 0 0 0 0 400 400 0 0 0 0 0 0 0 0 0 0 0 0 0 0 0 0 0) 0 (i3 t + 1) = _
    rw [ru_0, i3_one]
    rfl
  rw [a1, c_idle rfl rfl rfl (fun x => stx_0 (nr0 rfl)), c_idle rfl rfl rfl (fun x => stx_0 (nr0 rfl)), c_idle rfl rfl rfl (fun x => stx_0 (nr0 rfl))]
theorem z_noI : ∀ k, md_it md_g0 k = zN k
  | 0 => g0_zr
  | k + 1 => by
    rw [md_it_s, z_noI k, z_no]
theorem z_ad {f : Nat} {v : Int32} (hv : v ≤ 400) : md_ad md_g0 (i3 f) 0 v = zU f 0 0 0 v := by
  rw [g0_zr]
  refine (ad_0 (b := 1) (nr0 rfl) ?_).trans ?_
  · show md_be (va_up (va_up (va_up (va_up (va_up (va_up (va_up (va_up (va_up (va_up (zr 0 0 1 0 0 0 0 0 0 0 0 400 400 0 0 0 0 0 0 0 0 0 0 0 0 0 0 0 0 0) 27 1) 39 (i3 f)) 51 0) 63 v) 75 0) 99 0) 87 0) 1 (0 + 1)) 2 (1 + 1)) 87 0) (i3 f) v 3 + 1 = 1
    rw [ru_27, ru_39, ru_51, ru_63, ru_75, ru_99, ru_87, ru_1, ru_2, ru_87]
    have l0 : ∀ c, c < 3 → md_ld (zr 0 (0 + 1) (1 + 1) 0 0 0 0 0 0 0 0 400 400 0 0 0 0 0 0 0 0 1 (i3 f) 0 v 0 0 0 0 0) c + v ≤ 400 := fun c hc => by
      rw [show md_ld (zr 0 (0 + 1) (1 + 1) 0 0 0 0 0 0 0 0 400 400 0 0 0 0 0 0 0 0 1 (i3 f) 0 v 0 0 0 0 0) c = 0 from rfl, Int32.zero_add]
      exact hv
    have b1 : md_be (zr 0 (0 + 1) (1 + 1) 0 0 0 0 0 0 0 0 400 400 0 0 0 0 0 0 0 0 1 (i3 f) 0 v 0 0 0 0 0) (i3 f) v 1 = i3 0 := by
      show (if _ then _ else _) = _
      rw [if_pos ⟨rfl, l0 0 (by omega)⟩, if_pos (Or.inl rfl)]
    have e : ∀ c, c < 3 → md_es (zr 0 (0 + 1) (1 + 1) 0 0 0 0 0 0 0 0 400 400 0 0 0 0 0 0 0 0 1 (i3 f) 0 v 0 0 0 0 0) c (i3 f) = md_es (zr 0 (0 + 1) (1 + 1) 0 0 0 0 0 0 0 0 400 400 0 0 0 0 0 0 0 0 1 (i3 f) 0 v 0 0 0 0 0) 0 (i3 f) := fun c hc => by
      rcases (by omega : c = 0 ∨ c = 1 ∨ c = 2) with rfl | rfl | rfl
      · rfl
      · unfold md_es
        show (0 : Int32) + 0 + md_abs (i3 f - 0) + (if (i3 f - 0) * 0 < 0 then _ else 0) = (0 : Int32) + 0 + md_abs (i3 f - 0) + (if (i3 f - 0) * 0 < 0 then _ else 0)
        rw [Int32.mul_zero, if_neg (show ¬ (0 : Int32) < 0 by decide), if_neg (show ¬ (0 : Int32) < 0 by decide)]
      · unfold md_es
        show (0 : Int32) + 0 + md_abs (i3 f - 0) + (if (i3 f - 0) * 0 < 0 then _ else 0) = (0 : Int32) + 0 + md_abs (i3 f - 0) + (if (i3 f - 0) * 0 < 0 then _ else 0)
        rw [Int32.mul_zero, if_neg (show ¬ (0 : Int32) < 0 by decide), if_neg (show ¬ (0 : Int32) < 0 by decide)]
    have b2 : md_be (zr 0 (0 + 1) (1 + 1) 0 0 0 0 0 0 0 0 400 400 0 0 0 0 0 0 0 0 1 (i3 f) 0 v 0 0 0 0 0) (i3 f) v 2 = i3 0 := by
      show (if _ then (if md_be (zr 0 (0 + 1) (1 + 1) 0 0 0 0 0 0 0 0 400 400 0 0 0 0 0 0 0 0 1 (i3 f) 0 v 0 0 0 0 0) (i3 f) v 1 = -1 ∨ md_es (zr 0 (0 + 1) (1 + 1) 0 0 0 0 0 0 0 0 400 400 0 0 0 0 0 0 0 0 1 (i3 f) 0 v 0 0 0 0 0) 1 (i3 f) < md_es (zr 0 (0 + 1) (1 + 1) 0 0 0 0 0 0 0 0 400 400 0 0 0 0 0 0 0 0 1 (i3 f) 0 v 0 0 0 0 0) (md_be (zr 0 (0 + 1) (1 + 1) 0 0 0 0 0 0 0 0 400 400 0 0 0 0 0 0 0 0 1 (i3 f) 0 v 0 0 0 0 0) (i3 f) v 1).toNatClampNeg (i3 f) then i3 1 else md_be (zr 0 (0 + 1) (1 + 1) 0 0 0 0 0 0 0 0 400 400 0 0 0 0 0 0 0 0 1 (i3 f) 0 v 0 0 0 0 0) (i3 f) v 1) else _) = _
      rw [if_pos ⟨rfl, l0 1 (by omega)⟩, b1, e 1 (by omega), show (i3 0).toNatClampNeg = 0 from rfl, if_neg (by rintro (z | z); exact absurd z (by decide); exact absurd z (Int32.lt_irrefl _))]
    have b3 : md_be (zr 0 (0 + 1) (1 + 1) 0 0 0 0 0 0 0 0 400 400 0 0 0 0 0 0 0 0 1 (i3 f) 0 v 0 0 0 0 0) (i3 f) v 3 = i3 0 := by
      show (if _ then (if md_be (zr 0 (0 + 1) (1 + 1) 0 0 0 0 0 0 0 0 400 400 0 0 0 0 0 0 0 0 1 (i3 f) 0 v 0 0 0 0 0) (i3 f) v 2 = -1 ∨ md_es (zr 0 (0 + 1) (1 + 1) 0 0 0 0 0 0 0 0 400 400 0 0 0 0 0 0 0 0 1 (i3 f) 0 v 0 0 0 0 0) 2 (i3 f) < md_es (zr 0 (0 + 1) (1 + 1) 0 0 0 0 0 0 0 0 400 400 0 0 0 0 0 0 0 0 1 (i3 f) 0 v 0 0 0 0 0) (md_be (zr 0 (0 + 1) (1 + 1) 0 0 0 0 0 0 0 0 400 400 0 0 0 0 0 0 0 0 1 (i3 f) 0 v 0 0 0 0 0) (i3 f) v 2).toNatClampNeg (i3 f) then i3 2 else md_be (zr 0 (0 + 1) (1 + 1) 0 0 0 0 0 0 0 0 400 400 0 0 0 0 0 0 0 0 1 (i3 f) 0 v 0 0 0 0 0) (i3 f) v 2) else _) = _
      rw [if_pos ⟨rfl, l0 2 (by omega)⟩, b2, e 2 (by omega), show (i3 0).toNatClampNeg = 0 from rfl, if_neg (by rintro (z | z); exact absurd z (by decide); exact absurd z (Int32.lt_irrefl _))]
    rw [b3]
    rfl
  · show va_up (va_up (va_up (va_up (va_up (va_up (va_up (va_up (va_up (va_up (zr 0 0 1 0 0 0 0 0 0 0 0 400 400 0 0 0 0 0 0 0 0 0 0 0 0 0 0 0 0 0) 27 1) 39 (i3 f)) 51 0) 63 v) 75 0) 99 0) 87 0) 1 (0 + 1)) 2 (1 + 1)) 87 1 = _
    rw [ru_27, ru_39, ru_51, ru_63, ru_75, ru_99, ru_87, ru_1, ru_2, ru_87]
    rfl
