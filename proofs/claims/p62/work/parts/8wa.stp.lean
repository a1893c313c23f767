/-! .. its steps (by gen/mk8w.py) -/
/-- k steps up -/
def zU (f k t : Nat) (di v : Int32) : md_R := zr (i3 t) 1 2 0 0 (i3 k) 0 0 0 (i3 k) di 400 400 0 0 0 0 0 (i3 (2 * k)) 0 0 1 (i3 f) 0 v (i3 k) 1 0 0 0
/-- aboard, the doors for s more steps, j floors down -/
def zB (f t j : Nat) (cp s di v : Int32) : md_R := zr (i3 t) 1 2 0 0 (i3 f) (i3 j) 1 0 (i3 (f - j)) di cp 400 s 0 0 0 0 (i3 (2 * f + 1 + j)) 0 0 1 (i3 f) 0 v (i3 (f + 1)) 1 1 0 0
/-- arrived -/
def zE (f t : Nat) : md_R := zr (i3 t) 0 2 1 (i3 (f + 1)) (i3 f) (i3 f) 2 0 0 (-1) 400 400 2 0 0 0 0 (i3 (3 * f + 2)) 0 0 0 0 0 0 0 0 0 1 (i3 (f + 1))
theorem cH_u : ∀ f, f < 6 → ∀ k, k < f → cH (i3 f) (i3 k) 0 = 1 ∧ cH (i3 f) (i3 k) 1 = 1 ∧ (i3 f == i3 k) = false := by decide +kernel
theorem cH_d : ∀ k, k < 6 → 0 < k → cH 0 (i3 k) 1 = -1 ∧ cH 0 (i3 k) (-1) = -1 ∧ ((0 : Int32) == i3 k) = false := by decide +kernel
set_option maxRecDepth 20000 in
theorem z_up {f k t : Nat} {di v : Int32} (hf : f < 6) (hk : k < f) (hd : di = 0 ∨ di = 1) : md_step (zU f k t di v) = zU f (k + 1) (t + 1) 1 v := by
  obtain ⟨q1, q2, q3⟩ := cH_u f hf k hk
  have qc : cH (i3 f) (i3 k) di = 1 := by
    rcases hd with rfl | rfl
    · exact q1
    · exact q2
  refine (zs_p1 (g := zU f k t di v) (nr1 (show zr (i3 t) 1 2 0 0 (i3 k) 0 0 0 (i3 k) di 400 400 0 0 0 0 0 (i3 (2 * k)) 0 0 1 (i3 f) 0 v (i3 k) 1 0 0 0 1 = 1 from rd_1)) (by unfold zU; rw [rd_87]; decide)).trans ?_
  have a1 : va_up (va_up (zU f k t di v) 0 ((zU f k t di v) 0 + 1)) 75 ((zU f k t di v) 75 + (1 - (zU f k t di v) 99)) = zr (i3 t + 1) 1 2 0 0 (i3 k) 0 0 0 (i3 k) di 400 400 0 0 0 0 0 (i3 (2 * k)) 0 0 1 (i3 f) 0 v (i3 k + (1 - 0)) 1 0 0 0 := by
    unfold zU
    simp only [Nat.reduceAdd, Nat.add_zero, rd_0, rd_1, rd_2, rd_3, rd_4, rd_5, rd_6, rd_7, rd_8, rd_9, rd_12, rd_15, rd_16, rd_18, rd_19, rd_20, rd_21, rd_23, rd_24, rd_25, rd_26, rd_27, rd_39, rd_51, rd_63, rd_75, rd_87, rd_99, rd_111, rd_131, rd_17, rd_10, rd_11, rd_13, rd_14, rd_22, ru_0, ru_1, ru_2, ru_3, ru_4, ru_5, ru_6, ru_7, ru_8, ru_9, ru_12, ru_15, ru_16, ru_18, ru_19, ru_20, ru_21, ru_23, ru_24, ru_25, ru_26, ru_27, ru_39, ru_51, ru_63, ru_75, ru_87, ru_99, ru_111, ru_131, ru_121]
  rw [a1]
  have st : ∀ x, md_st (zr (i3 t + 1) 1 2 0 0 (i3 k) 0 0 0 (i3 k) di 400 400 0 0 0 0 0 (i3 (2 * k)) 0 0 1 (i3 f) 0 v (i3 k + (1 - 0)) 1 0 0 0) 0 x = (i3 f == x) := fun x => stx_W (nr1 rd_1) (by rw [rd_87]; decide) rd_99 rd_39
  have a2 : md_c1 (zr (i3 t + 1) 1 2 0 0 (i3 k) 0 0 0 (i3 k) di 400 400 0 0 0 0 0 (i3 (2 * k)) 0 0 1 (i3 f) 0 v (i3 k + (1 - 0)) 1 0 0 0) 0 = zr (i3 t + 1) 1 2 0 0 (i3 k + 1) 0 0 (0 + 0) (i3 k + 1) 1 400 400 0 0 0 0 0 (i3 (2 * k) + 2) 0 0 1 (i3 f) 0 v (i3 k + (1 - 0)) 1 0 0 0 := by
    rw [c_move (g := zr (i3 t + 1) 1 2 0 0 (i3 k) 0 0 0 (i3 k) di 400 400 0 0 0 0 0 (i3 (2 * k)) 0 0 1 (i3 f) 0 v (i3 k + (1 - 0)) 1 0 0 0) (c := 0) rd_21 (by rw [rd_18]; decide) (by rw [st, rd_9]; exact q3), mv_u (g := zr (i3 t + 1) 1 2 0 0 (i3 k) 0 0 0 (i3 k) di 400 400 0 0 0 0 0 (i3 (2 * k)) 0 0 1 (i3 f) 0 v (i3 k + (1 - 0)) 1 0 0 0) (c := 0) (by rw [ch_t st, rd_9, rd_12]; exact qc) (ld_1 (nr1 rd_1) rd_99)]
    simp only [Nat.reduceAdd, Nat.add_zero, rd_0, rd_1, rd_2, rd_3, rd_4, rd_5, rd_6, rd_7, rd_8, rd_9, rd_12, rd_15, rd_16, rd_18, rd_19, rd_20, rd_21, rd_23, rd_24, rd_25, rd_26, rd_27, rd_39, rd_51, rd_63, rd_75, rd_87, rd_99, rd_111, rd_131, rd_17, rd_10, rd_11, rd_13, rd_14, rd_22, ru_0, ru_1, ru_2, ru_3, ru_4, ru_5, ru_6, ru_7, ru_8, ru_9, ru_12, ru_15, ru_16, ru_18, ru_19, ru_20, ru_21, ru_23, ru_24, ru_25, ru_26, ru_27, ru_39, ru_51, ru_63, ru_75, ru_87, ru_99, ru_111, ru_131, ru_121]
  rw [a2, c_idle (g := zr (i3 t + 1) 1 2 0 0 (i3 k + 1) 0 0 (0 + 0) (i3 k + 1) 1 400 400 0 0 0 0 0 (i3 (2 * k) + 2) 0 0 1 (i3 f) 0 v (i3 k + (1 - 0)) 1 0 0 0) (c := 1) rd_22 rd_19 rd_13 (fun x => stx_N (nr1 rd_1) (by rw [rd_87]; decide)), c_idle (g := zr (i3 t + 1) 1 2 0 0 (i3 k + 1) 0 0 (0 + 0) (i3 k + 1) 1 400 400 0 0 0 0 0 (i3 (2 * k) + 2) 0 0 1 (i3 f) 0 v (i3 k + (1 - 0)) 1 0 0 0) (c := 2) rd_23 rd_20 rd_14 (fun x => stx_N (nr1 rd_1) (by rw [rd_87]; decide))]
  unfold zU
  rw [show i3 t + 1 = i3 (t + 1) from i3_one t, show i3 k + 1 = i3 (k + 1) from i3_one k, show i3 k + (1 - 0) = i3 (k + 1) from i3_one k, show i3 (2 * k) + 2 = i3 (2 * (k + 1)) from by rw [i3_lit 2, i3_add, Nat.mul_add], show (0 : Int32) + 0 = 0 from rfl]
set_option maxRecDepth 20000 in
theorem z_bd {f t : Nat} {di v : Int32} (hv : v ≤ 400) : md_step (zU f f t di v) = zB f (t + 1) 0 400 2 di v := by
  refine (zs_p1 (g := zU f f t di v) (nr1 (show zr (i3 t) 1 2 0 0 (i3 f) 0 0 0 (i3 f) di 400 400 0 0 0 0 0 (i3 (2 * f)) 0 0 1 (i3 f) 0 v (i3 f) 1 0 0 0 1 = 1 from rd_1)) (by unfold zU; rw [rd_87]; decide)).trans ?_
  have a1 : va_up (va_up (zU f f t di v) 0 ((zU f f t di v) 0 + 1)) 75 ((zU f f t di v) 75 + (1 - (zU f f t di v) 99)) = zr (i3 t + 1) 1 2 0 0 (i3 f) 0 0 0 (i3 f) di 400 400 0 0 0 0 0 (i3 (2 * f)) 0 0 1 (i3 f) 0 v (i3 f + (1 - 0)) 1 0 0 0 := by
    unfold zU
    simp only [Nat.reduceAdd, Nat.add_zero, rd_0, rd_1, rd_2, rd_3, rd_4, rd_5, rd_6, rd_7, rd_8, rd_9, rd_12, rd_15, rd_16, rd_18, rd_19, rd_20, rd_21, rd_23, rd_24, rd_25, rd_26, rd_27, rd_39, rd_51, rd_63, rd_75, rd_87, rd_99, rd_111, rd_131, rd_17, rd_10, rd_11, rd_13, rd_14, rd_22, ru_0, ru_1, ru_2, ru_3, ru_4, ru_5, ru_6, ru_7, ru_8, ru_9, ru_12, ru_15, ru_16, ru_18, ru_19, ru_20, ru_21, ru_23, ru_24, ru_25, ru_26, ru_27, ru_39, ru_51, ru_63, ru_75, ru_87, ru_99, ru_111, ru_131, ru_121]
  rw [a1]
  have s2 : md_c1 (zr (i3 t + 1) 1 2 0 0 (i3 f) 0 0 0 (i3 f) di 400 400 0 0 0 0 0 (i3 (2 * f)) 0 0 1 (i3 f) 0 v (i3 f + (1 - 0)) 1 0 0 0) 0 = zr (i3 t + 1) 1 2 0 0 (i3 f) 0 (0 + 1) 0 (i3 f) di 400 400 2 0 0 0 0 (i3 (2 * f) + 1) 0 0 1 (i3 f) 0 v (i3 f + (1 - 0)) (i3 0 + 1) 1 0 0 := by
    have o1 : md_op (zr (i3 t + 1) 1 2 0 0 (i3 f) 0 0 0 (i3 f) di 400 400 0 0 0 0 0 (i3 (2 * f)) 0 0 1 (i3 f) 0 v (i3 f + (1 - 0)) 1 0 0 0) 0 = zr (i3 t + 1) 1 2 0 0 (i3 f) 0 (0 + 1) 0 (i3 f) di 400 400 2 0 0 0 0 (i3 (2 * f) + 1) 0 0 1 (i3 f) 0 v (i3 f + (1 - 0)) 1 0 0 0 := by
      rw [op_e]
      simp only [Nat.reduceAdd, Nat.add_zero, rd_0, rd_1, rd_2, rd_3, rd_4, rd_5, rd_6, rd_7, rd_8, rd_9, rd_12, rd_15, rd_16, rd_18, rd_19, rd_20, rd_21, rd_23, rd_24, rd_25, rd_26, rd_27, rd_39, rd_51, rd_63, rd_75, rd_87, rd_99, rd_111, rd_131, rd_17, rd_10, rd_11, rd_13, rd_14, rd_22, ru_0, ru_1, ru_2, ru_3, ru_4, ru_5, ru_6, ru_7, ru_8, ru_9, ru_12, ru_15, ru_16, ru_18, ru_19, ru_20, ru_21, ru_23, ru_24, ru_25, ru_26, ru_27, ru_39, ru_51, ru_63, ru_75, ru_87, ru_99, ru_111, ru_131, ru_121]
    rw [c_stop (g := zr (i3 t + 1) 1 2 0 0 (i3 f) 0 0 0 (i3 f) di 400 400 0 0 0 0 0 (i3 (2 * f)) 0 0 1 (i3 f) 0 v (i3 f + (1 - 0)) 1 0 0 0) (c := 0) rd_21 (by rw [rd_18]; decide) (by rw [stx_W (nr1 rd_1) (by rw [rd_87]; decide) rd_99 rd_39, rd_9]; exact beq_self_eq_true _), nr1 (g := zr (i3 t + 1) 1 2 0 0 (i3 f) 0 0 0 (i3 f) di 400 400 0 0 0 0 0 (i3 (2 * f)) 0 0 1 (i3 f) 0 v (i3 f + (1 - 0)) 1 0 0 0) rd_1, o1, al_n (g := zr (i3 t + 1) 1 2 0 0 (i3 f) 0 (0 + 1) 0 (i3 f) di 400 400 2 0 0 0 0 (i3 (2 * f) + 1) 0 0 1 (i3 f) 0 v (i3 f + (1 - 0)) 1 0 0 0) (c := 0) (md_in_no (p := 0) rd_99)]
    rw [bo_y (g := zr (i3 t + 1) 1 2 0 0 (i3 f) 0 (0 + 1) 0 (i3 f) di 400 400 2 0 0 0 0 (i3 (2 * f) + 1) 0 0 1 (i3 f) 0 v (i3 f + (1 - 0)) 1 0 0 0) (c := 0) (nr1 rd_1) (aw_y rd_99 (by rw [rd_87]; decide)) (by rw [rd_39, rd_9]; exact beq_self_eq_true _) (by rw [ld_1 (nr1 rd_1) rd_99, rd_63, rd_15, Int32.zero_add]; exact hv)]
    simp only [Nat.reduceAdd, Nat.add_zero, rd_0, rd_1, rd_2, rd_3, rd_4, rd_5, rd_6, rd_7, rd_8, rd_9, rd_12, rd_15, rd_16, rd_18, rd_19, rd_20, rd_21, rd_23, rd_24, rd_25, rd_26, rd_27, rd_39, rd_51, rd_63, rd_75, rd_87, rd_99, rd_111, rd_131, rd_17, rd_10, rd_11, rd_13, rd_14, rd_22, ru_0, ru_1, ru_2, ru_3, ru_4, ru_5, ru_6, ru_7, ru_8, ru_9, ru_12, ru_15, ru_16, ru_18, ru_19, ru_20, ru_21, ru_23, ru_24, ru_25, ru_26, ru_27, ru_39, ru_51, ru_63, ru_75, ru_87, ru_99, ru_111, ru_131, ru_121]
  rw [s2, c_idle (g := zr (i3 t + 1) 1 2 0 0 (i3 f) 0 (0 + 1) 0 (i3 f) di 400 400 2 0 0 0 0 (i3 (2 * f) + 1) 0 0 1 (i3 f) 0 v (i3 f + (1 - 0)) (i3 0 + 1) 1 0 0) (c := 1) rd_22 rd_19 rd_13 (fun x => stx_N (nr1 rd_1) (by rw [rd_87]; decide)), c_idle (g := zr (i3 t + 1) 1 2 0 0 (i3 f) 0 (0 + 1) 0 (i3 f) di 400 400 2 0 0 0 0 (i3 (2 * f) + 1) 0 0 1 (i3 f) 0 v (i3 f + (1 - 0)) (i3 0 + 1) 1 0 0) (c := 2) rd_23 rd_20 rd_14 (fun x => stx_N (nr1 rd_1) (by rw [rd_87]; decide))]
  unfold zB
  rw [show i3 t + 1 = i3 (t + 1) from i3_one t, show i3 f + (1 - 0) = i3 (f + 1) from i3_one f, show i3 (2 * f) + 1 = i3 (2 * f + 1) from i3_one _, show i3 0 + 1 = (1 : Int32) from rfl, show (0 : Int32) + 1 = 1 from rfl]
  rfl
set_option maxRecDepth 20000 in
theorem z_dr {f t j : Nat} {cp s di v : Int32} (hs : 0 < s) : md_step (zB f t j cp s di v) = zB f (t + 1) j cp (s - 1) di v := by
  refine (zs_p1 (g := zB f t j cp s di v) (nr1 (show zr (i3 t) 1 2 0 0 (i3 f) (i3 j) 1 0 (i3 (f - j)) di cp 400 s 0 0 0 0 (i3 (2 * f + 1 + j)) 0 0 1 (i3 f) 0 v (i3 (f + 1)) 1 1 0 0 1 = 1 from rd_1)) (by unfold zB; rw [rd_87]; decide)).trans ?_
  have a1 : va_up (va_up (zB f t j cp s di v) 0 ((zB f t j cp s di v) 0 + 1)) 75 ((zB f t j cp s di v) 75 + (1 - (zB f t j cp s di v) 99)) = zr (i3 t + 1) 1 2 0 0 (i3 f) (i3 j) 1 0 (i3 (f - j)) di cp 400 s 0 0 0 0 (i3 (2 * f + 1 + j)) 0 0 1 (i3 f) 0 v (i3 (f + 1) + (1 - 1)) 1 1 0 0 := by
    unfold zB
    simp only [Nat.reduceAdd, Nat.add_zero, rd_0, rd_1, rd_2, rd_3, rd_4, rd_5, rd_6, rd_7, rd_8, rd_9, rd_12, rd_15, rd_16, rd_18, rd_19, rd_20, rd_21, rd_23, rd_24, rd_25, rd_26, rd_27, rd_39, rd_51, rd_63, rd_75, rd_87, rd_99, rd_111, rd_131, rd_17, rd_10, rd_11, rd_13, rd_14, rd_22, ru_0, ru_1, ru_2, ru_3, ru_4, ru_5, ru_6, ru_7, ru_8, ru_9, ru_12, ru_15, ru_16, ru_18, ru_19, ru_20, ru_21, ru_23, ru_24, ru_25, ru_26, ru_27, ru_39, ru_51, ru_63, ru_75, ru_87, ru_99, ru_111, ru_131, ru_121]
  rw [a1]
  have a2 : md_c1 (zr (i3 t + 1) 1 2 0 0 (i3 f) (i3 j) 1 0 (i3 (f - j)) di cp 400 s 0 0 0 0 (i3 (2 * f + 1 + j)) 0 0 1 (i3 f) 0 v (i3 (f + 1) + (1 - 1)) 1 1 0 0) 0 = zr (i3 t + 1) 1 2 0 0 (i3 f) (i3 j) 1 0 (i3 (f - j)) di cp 400 (s - 1) 0 0 0 0 (i3 (2 * f + 1 + j)) 0 0 1 (i3 f) 0 v (i3 (f + 1) + (1 - 1)) 1 1 0 0 := by
    rw [c_door (g := zr (i3 t + 1) 1 2 0 0 (i3 f) (i3 j) 1 0 (i3 (f - j)) di cp 400 s 0 0 0 0 (i3 (2 * f + 1 + j)) 0 0 1 (i3 f) 0 v (i3 (f + 1) + (1 - 1)) 1 1 0 0) (c := 0) rd_21 (by rw [rd_18]; exact hs)]
    simp only [Nat.reduceAdd, Nat.add_zero, rd_0, rd_1, rd_2, rd_3, rd_4, rd_5, rd_6, rd_7, rd_8, rd_9, rd_12, rd_15, rd_16, rd_18, rd_19, rd_20, rd_21, rd_23, rd_24, rd_25, rd_26, rd_27, rd_39, rd_51, rd_63, rd_75, rd_87, rd_99, rd_111, rd_131, rd_17, rd_10, rd_11, rd_13, rd_14, rd_22, ru_0, ru_1, ru_2, ru_3, ru_4, ru_5, ru_6, ru_7, ru_8, ru_9, ru_12, ru_15, ru_16, ru_18, ru_19, ru_20, ru_21, ru_23, ru_24, ru_25, ru_26, ru_27, ru_39, ru_51, ru_63, ru_75, ru_87, ru_99, ru_111, ru_131, ru_121]
  rw [a2, c_idle (g := zr (i3 t + 1) 1 2 0 0 (i3 f) (i3 j) 1 0 (i3 (f - j)) di cp 400 (s - 1) 0 0 0 0 (i3 (2 * f + 1 + j)) 0 0 1 (i3 f) 0 v (i3 (f + 1) + (1 - 1)) 1 1 0 0) (c := 1) rd_22 rd_19 rd_13 (fun x => stx_N (nr1 rd_1) (by rw [rd_87]; decide)), c_idle (g := zr (i3 t + 1) 1 2 0 0 (i3 f) (i3 j) 1 0 (i3 (f - j)) di cp 400 (s - 1) 0 0 0 0 (i3 (2 * f + 1 + j)) 0 0 1 (i3 f) 0 v (i3 (f + 1) + (1 - 1)) 1 1 0 0) (c := 2) rd_23 rd_20 rd_14 (fun x => stx_N (nr1 rd_1) (by rw [rd_87]; decide))]
  unfold zB
  rw [show i3 t + 1 = i3 (t + 1) from i3_one t, show i3 (f + 1) + (1 - 1) = i3 (f + 1) from Int32.add_zero _]
set_option maxRecDepth 20000 in
theorem z_dn {f t j : Nat} {cp di v : Int32} (hf : f < 6) (hj : j < f) (hd : di = 1 ∨ di = -1) : md_step (zB f t j cp 0 di v) = zB f (t + 1) (j + 1) cp 0 (-1) v := by
  obtain ⟨q1, q2, q3⟩ := cH_d (f - j) (by omega) (by omega)
  have qc : cH 0 (i3 (f - j)) di = -1 := by
    rcases hd with rfl | rfl
    · exact q1
    · exact q2
  refine (zs_p1 (g := zB f t j cp 0 di v) (nr1 (show zr (i3 t) 1 2 0 0 (i3 f) (i3 j) 1 0 (i3 (f - j)) di cp 400 0 0 0 0 0 (i3 (2 * f + 1 + j)) 0 0 1 (i3 f) 0 v (i3 (f + 1)) 1 1 0 0 1 = 1 from rd_1)) (by unfold zB; rw [rd_87]; decide)).trans ?_
  have a1 : va_up (va_up (zB f t j cp 0 di v) 0 ((zB f t j cp 0 di v) 0 + 1)) 75 ((zB f t j cp 0 di v) 75 + (1 - (zB f t j cp 0 di v) 99)) = zr (i3 t + 1) 1 2 0 0 (i3 f) (i3 j) 1 0 (i3 (f - j)) di cp 400 0 0 0 0 0 (i3 (2 * f + 1 + j)) 0 0 1 (i3 f) 0 v (i3 (f + 1) + (1 - 1)) 1 1 0 0 := by
    unfold zB
    simp only [Nat.reduceAdd, Nat.add_zero, rd_0, rd_1, rd_2, rd_3, rd_4, rd_5, rd_6, rd_7, rd_8, rd_9, rd_12, rd_15, rd_16, rd_18, rd_19, rd_20, rd_21, rd_23, rd_24, rd_25, rd_26, rd_27, rd_39, rd_51, rd_63, rd_75, rd_87, rd_99, rd_111, rd_131, rd_17, rd_10, rd_11, rd_13, rd_14, rd_22, ru_0, ru_1, ru_2, ru_3, ru_4, ru_5, ru_6, ru_7, ru_8, ru_9, ru_12, ru_15, ru_16, ru_18, ru_19, ru_20, ru_21, ru_23, ru_24, ru_25, ru_26, ru_27, ru_39, ru_51, ru_63, ru_75, ru_87, ru_99, ru_111, ru_131, ru_121]
  rw [a1]
  have st : ∀ x, md_st (zr (i3 t + 1) 1 2 0 0 (i3 f) (i3 j) 1 0 (i3 (f - j)) di cp 400 0 0 0 0 0 (i3 (2 * f + 1 + j)) 0 0 1 (i3 f) 0 v (i3 (f + 1) + (1 - 1)) 1 1 0 0) 0 x = ((0 : Int32) == x) := fun x => stx_I (nr1 rd_1) (by rw [rd_87]; decide) rd_99 rd_51
  have a2 : md_c1 (zr (i3 t + 1) 1 2 0 0 (i3 f) (i3 j) 1 0 (i3 (f - j)) di cp 400 0 0 0 0 0 (i3 (2 * f + 1 + j)) 0 0 1 (i3 f) 0 v (i3 (f + 1) + (1 - 1)) 1 1 0 0) 0 = zr (i3 t + 1) 1 2 0 0 (i3 f) (i3 j + 1) 1 0 (i3 (f - j) + -1) (-1) cp 400 0 0 0 0 0 (i3 (2 * f + 1 + j) + 1) 0 0 1 (i3 f) 0 v (i3 (f + 1) + (1 - 1)) 1 1 0 0 := by
    rw [c_move (g := zr (i3 t + 1) 1 2 0 0 (i3 f) (i3 j) 1 0 (i3 (f - j)) di cp 400 0 0 0 0 0 (i3 (2 * f + 1 + j)) 0 0 1 (i3 f) 0 v (i3 (f + 1) + (1 - 1)) 1 1 0 0) (c := 0) rd_21 (by rw [rd_18]; decide) (by rw [st, rd_9]; exact q3), mv_d (g := zr (i3 t + 1) 1 2 0 0 (i3 f) (i3 j) 1 0 (i3 (f - j)) di cp 400 0 0 0 0 0 (i3 (2 * f + 1 + j)) 0 0 1 (i3 f) 0 v (i3 (f + 1) + (1 - 1)) 1 1 0 0) (c := 0) (by rw [ch_t st, rd_9, rd_12]; exact qc)]
    simp only [Nat.reduceAdd, Nat.add_zero, rd_0, rd_1, rd_2, rd_3, rd_4, rd_5, rd_6, rd_7, rd_8, rd_9, rd_12, rd_15, rd_16, rd_18, rd_19, rd_20, rd_21, rd_23, rd_24, rd_25, rd_26, rd_27, rd_39, rd_51, rd_63, rd_75, rd_87, rd_99, rd_111, rd_131, rd_17, rd_10, rd_11, rd_13, rd_14, rd_22, ru_0, ru_1, ru_2, ru_3, ru_4, ru_5, ru_6, ru_7, ru_8, ru_9, ru_12, ru_15, ru_16, ru_18, ru_19, ru_20, ru_21, ru_23, ru_24, ru_25, ru_26, ru_27, ru_39, ru_51, ru_63, ru_75, ru_87, ru_99, ru_111, ru_131, ru_121]
  rw [a2, c_idle (g := zr (i3 t + 1) 1 2 0 0 (i3 f) (i3 j + 1) 1 0 (i3 (f - j) + -1) (-1) cp 400 0 0 0 0 0 (i3 (2 * f + 1 + j) + 1) 0 0 1 (i3 f) 0 v (i3 (f + 1) + (1 - 1)) 1 1 0 0) (c := 1) rd_22 rd_19 rd_13 (fun x => stx_N (nr1 rd_1) (by rw [rd_87]; decide)), c_idle (g := zr (i3 t + 1) 1 2 0 0 (i3 f) (i3 j + 1) 1 0 (i3 (f - j) + -1) (-1) cp 400 0 0 0 0 0 (i3 (2 * f + 1 + j) + 1) 0 0 1 (i3 f) 0 v (i3 (f + 1) + (1 - 1)) 1 1 0 0) (c := 2) rd_23 rd_20 rd_14 (fun x => stx_N (nr1 rd_1) (by rw [rd_87]; decide))]
  unfold zB
  rw [show i3 t + 1 = i3 (t + 1) from i3_one t, show i3 (f + 1) + (1 - 1) = i3 (f + 1) from Int32.add_zero _, show i3 j + 1 = i3 (j + 1) from i3_one j, show i3 (2 * f + 1 + j) + 1 = i3 (2 * f + 1 + (j + 1)) from i3_one _, show i3 (f - j) + -1 = i3 (f - (j + 1)) from (by rw [show f - j = f - (j + 1) + 1 by omega]; exact (Int32.sub_eq_add_neg _ _).symm.trans (i3_sub _ 1))]
set_option maxRecDepth 20000 in
theorem z_al {f t : Nat} {v : Int32} : md_step (zB f t f 400 0 (-1) v) = zE f (t + 1) := by
  refine (zs_p1 (g := zB f t f 400 0 (-1) v) (nr1 (show zr (i3 t) 1 2 0 0 (i3 f) (i3 f) 1 0 (i3 (f - f)) (-1) 400 400 0 0 0 0 0 (i3 (2 * f + 1 + f)) 0 0 1 (i3 f) 0 v (i3 (f + 1)) 1 1 0 0 1 = 1 from rd_1)) (by unfold zB; rw [rd_87]; decide)).trans ?_
  have a1 : va_up (va_up (zB f t f 400 0 (-1) v) 0 ((zB f t f 400 0 (-1) v) 0 + 1)) 75 ((zB f t f 400 0 (-1) v) 75 + (1 - (zB f t f 400 0 (-1) v) 99)) = zr (i3 t + 1) 1 2 0 0 (i3 f) (i3 f) 1 0 (i3 (f - f)) (-1) 400 400 0 0 0 0 0 (i3 (2 * f + 1 + f)) 0 0 1 (i3 f) 0 v (i3 (f + 1) + (1 - 1)) 1 1 0 0 := by
    unfold zB
    simp only [Nat.reduceAdd, Nat.add_zero, rd_0, rd_1, rd_2, rd_3, rd_4, rd_5, rd_6, rd_7, rd_8, rd_9, rd_12, rd_15, rd_16, rd_18, rd_19, rd_20, rd_21, rd_23, rd_24, rd_25, rd_26, rd_27, rd_39, rd_51, rd_63, rd_75, rd_87, rd_99, rd_111, rd_131, rd_17, rd_10, rd_11, rd_13, rd_14, rd_22, ru_0, ru_1, ru_2, ru_3, ru_4, ru_5, ru_6, ru_7, ru_8, ru_9, ru_12, ru_15, ru_16, ru_18, ru_19, ru_20, ru_21, ru_23, ru_24, ru_25, ru_26, ru_27, ru_39, ru_51, ru_63, ru_75, ru_87, ru_99, ru_111, ru_131, ru_121]
  rw [a1]
  have q0 : ((0 : Int32) == i3 (f - f)) = true := by rw [Nat.sub_self]; decide
  have l1 : md_dr (md_lg (zr (i3 t + 1) 1 2 0 0 (i3 f) (i3 f) (1 + 1) 0 (i3 (f - f)) (-1) 400 400 2 0 0 0 0 (i3 (2 * f + 1 + f) + 1) 0 0 1 (i3 f) 0 v (i3 (f + 1) + (1 - 1)) 1 1 0 0) 0 0) 0 = zr (i3 t + 1) (1 - 1) 2 (0 + 1) (0 + (i3 (f + 1) + (1 - 1))) (i3 f) (i3 f) (1 + 1) 0 (i3 (f - f)) (-1) 400 400 2 0 0 0 0 (i3 (2 * f + 1 + f) + 1) 0 0 0 0 0 0 0 0 0 1 (i3 (f + 1) + (1 - 1)) := by
    have l0 : md_lg (zr (i3 t + 1) 1 2 0 0 (i3 f) (i3 f) (1 + 1) 0 (i3 (f - f)) (-1) 400 400 2 0 0 0 0 (i3 (2 * f + 1 + f) + 1) 0 0 1 (i3 f) 0 v (i3 (f + 1) + (1 - 1)) 1 1 0 0) 0 0 = zr (i3 t + 1) 1 2 (0 + 1) (0 + (i3 (f + 1) + (1 - 1))) (i3 f) (i3 f) (1 + 1) 0 (i3 (f - f)) (-1) 400 400 2 0 0 0 0 (i3 (2 * f + 1 + f) + 1) 0 0 1 (i3 f) 0 v (i3 (f + 1) + (1 - 1)) 1 1 1 (i3 (f + 1) + (1 - 1)) := by
      unfold md_lg
      simp only [rd_3, show (0 : Int32).toNatClampNeg % 10 = 0 by decide, Nat.add_zero, rd_27, rd_75, rd_4]
      rw [show i3 0 = (0 : Int32) from rfl]
      simp only [Nat.reduceAdd, Nat.add_zero, rd_0, rd_1, rd_2, rd_3, rd_4, rd_5, rd_6, rd_7, rd_8, rd_9, rd_12, rd_15, rd_16, rd_18, rd_19, rd_20, rd_21, rd_23, rd_24, rd_25, rd_26, rd_27, rd_39, rd_51, rd_63, rd_75, rd_87, rd_99, rd_111, rd_131, rd_17, rd_10, rd_11, rd_13, rd_14, rd_22, ru_0, ru_1, ru_2, ru_3, ru_4, ru_5, ru_6, ru_7, ru_8, ru_9, ru_12, ru_15, ru_16, ru_18, ru_19, ru_20, ru_21, ru_23, ru_24, ru_25, ru_26, ru_27, ru_39, ru_51, ru_63, ru_75, ru_87, ru_99, ru_111, ru_131, ru_121]
    rw [l0]
    unfold md_dr
    rw [dP_z]
    simp only [Nat.reduceAdd, Nat.add_zero, rd_0, rd_1, rd_2, rd_3, rd_4, rd_5, rd_6, rd_7, rd_8, rd_9, rd_12, rd_15, rd_16, rd_18, rd_19, rd_20, rd_21, rd_23, rd_24, rd_25, rd_26, rd_27, rd_39, rd_51, rd_63, rd_75, rd_87, rd_99, rd_111, rd_131, rd_17, rd_10, rd_11, rd_13, rd_14, rd_22, ru_0, ru_1, ru_2, ru_3, ru_4, ru_5, ru_6, ru_7, ru_8, ru_9, ru_12, ru_15, ru_16, ru_18, ru_19, ru_20, ru_21, ru_23, ru_24, ru_25, ru_26, ru_27, ru_39, ru_51, ru_63, ru_75, ru_87, ru_99, ru_111, ru_131, ru_121]
  have s2 : md_c1 (zr (i3 t + 1) 1 2 0 0 (i3 f) (i3 f) 1 0 (i3 (f - f)) (-1) 400 400 0 0 0 0 0 (i3 (2 * f + 1 + f)) 0 0 1 (i3 f) 0 v (i3 (f + 1) + (1 - 1)) 1 1 0 0) 0 = zr (i3 t + 1) (1 - 1) 2 (0 + 1) (0 + (i3 (f + 1) + (1 - 1))) (i3 f) (i3 f) (1 + 1) 0 (i3 (f - f)) (-1) 400 400 2 0 0 0 0 (i3 (2 * f + 1 + f) + 1) 0 0 0 0 0 0 0 0 0 1 (i3 (f + 1) + (1 - 1)) := by
    have o1 : md_op (zr (i3 t + 1) 1 2 0 0 (i3 f) (i3 f) 1 0 (i3 (f - f)) (-1) 400 400 0 0 0 0 0 (i3 (2 * f + 1 + f)) 0 0 1 (i3 f) 0 v (i3 (f + 1) + (1 - 1)) 1 1 0 0) 0 = zr (i3 t + 1) 1 2 0 0 (i3 f) (i3 f) (1 + 1) 0 (i3 (f - f)) (-1) 400 400 2 0 0 0 0 (i3 (2 * f + 1 + f) + 1) 0 0 1 (i3 f) 0 v (i3 (f + 1) + (1 - 1)) 1 1 0 0 := by
      rw [op_e]
      simp only [Nat.reduceAdd, Nat.add_zero, rd_0, rd_1, rd_2, rd_3, rd_4, rd_5, rd_6, rd_7, rd_8, rd_9, rd_12, rd_15, rd_16, rd_18, rd_19, rd_20, rd_21, rd_23, rd_24, rd_25, rd_26, rd_27, rd_39, rd_51, rd_63, rd_75, rd_87, rd_99, rd_111, rd_131, rd_17, rd_10, rd_11, rd_13, rd_14, rd_22, ru_0, ru_1, ru_2, ru_3, ru_4, ru_5, ru_6, ru_7, ru_8, ru_9, ru_12, ru_15, ru_16, ru_18, ru_19, ru_20, ru_21, ru_23, ru_24, ru_25, ru_26, ru_27, ru_39, ru_51, ru_63, ru_75, ru_87, ru_99, ru_111, ru_131, ru_121]
    rw [c_stop (g := zr (i3 t + 1) 1 2 0 0 (i3 f) (i3 f) 1 0 (i3 (f - f)) (-1) 400 400 0 0 0 0 0 (i3 (2 * f + 1 + f)) 0 0 1 (i3 f) 0 v (i3 (f + 1) + (1 - 1)) 1 1 0 0) (c := 0) rd_21 (by rw [rd_18]; decide) (by rw [stx_I (nr1 rd_1) (by rw [rd_87]; decide) rd_99 rd_51, rd_9]; exact q0), nr1 (g := zr (i3 t + 1) 1 2 0 0 (i3 f) (i3 f) 1 0 (i3 (f - f)) (-1) 400 400 0 0 0 0 0 (i3 (2 * f + 1 + f)) 0 0 1 (i3 f) 0 v (i3 (f + 1) + (1 - 1)) 1 1 0 0) rd_1, o1, al_y (g := zr (i3 t + 1) 1 2 0 0 (i3 f) (i3 f) (1 + 1) 0 (i3 (f - f)) (-1) 400 400 2 0 0 0 0 (i3 (2 * f + 1 + f) + 1) 0 0 1 (i3 f) 0 v (i3 (f + 1) + (1 - 1)) 1 1 0 0) (c := 0) (in_y rd_99 (by rw [rd_87]; decide)) (by rw [rd_51, rd_9]; exact q0), l1, bo_0 (g := zr (i3 t + 1) (1 - 1) 2 (0 + 1) (0 + (i3 (f + 1) + (1 - 1))) (i3 f) (i3 f) (1 + 1) 0 (i3 (f - f)) (-1) 400 400 2 0 0 0 0 (i3 (2 * f + 1 + f) + 1) 0 0 0 0 0 0 0 0 0 1 (i3 (f + 1) + (1 - 1))) (c := 0) (nr0 (show _ = _ from rd_1))]
  rw [s2, c_idle (g := zr (i3 t + 1) (1 - 1) 2 (0 + 1) (0 + (i3 (f + 1) + (1 - 1))) (i3 f) (i3 f) (1 + 1) 0 (i3 (f - f)) (-1) 400 400 2 0 0 0 0 (i3 (2 * f + 1 + f) + 1) 0 0 0 0 0 0 0 0 0 1 (i3 (f + 1) + (1 - 1))) (c := 1) rd_22 rd_19 rd_13 (fun x => stx_0 (nr0 rd_1)), c_idle (g := zr (i3 t + 1) (1 - 1) 2 (0 + 1) (0 + (i3 (f + 1) + (1 - 1))) (i3 f) (i3 f) (1 + 1) 0 (i3 (f - f)) (-1) 400 400 2 0 0 0 0 (i3 (2 * f + 1 + f) + 1) 0 0 0 0 0 0 0 0 0 1 (i3 (f + 1) + (1 - 1))) (c := 2) rd_23 rd_20 rd_14 (fun x => stx_0 (nr0 rd_1))]
  unfold zE
  rw [show i3 t + 1 = i3 (t + 1) from i3_one t, show i3 (f + 1) + (1 - 1) = i3 (f + 1) from Int32.add_zero _, show i3 (2 * f + 1 + f) + 1 = i3 (3 * f + 2) from (i3_one _).trans (by congr 1; omega), Nat.sub_self, show 0 + i3 (f + 1) = i3 (f + 1) from Int32.zero_add _]
  rfl
/-- nobody there -/
def zN (t : Nat) : md_R := zr (i3 t) 0 1 0 0 0 0 0 0 0 0 400 400 0 0 0 0 0 0 0 0 0 0 0 0 0 0 0 0 0
theorem z_no {t : Nat} : md_step (zN t) = zN (t + 1) := by
  refine (zs_p0 (g := zN t) (nr0 (show zN t 1 = 0 from rd_1))).trans ?_
  have a1 : va_up (zN t) 0 (zN t 0 + 1) = zN (t + 1) := by
    unfold zN
    simp only [rd_0, ru_0, i3_one]
  have n1 : zN (t + 1) 1 = 0 := rd_1
  rw [a1, c_idle (g := zN (t + 1)) (c := 0) rd_21 rd_18 rd_12 (fun x => stx_0 (nr0 n1)), c_idle (g := zN (t + 1)) (c := 1) rd_22 rd_19 rd_13 (fun x => stx_0 (nr0 n1)), c_idle (g := zN (t + 1)) (c := 2) rd_23 rd_20 rd_14 (fun x => stx_0 (nr0 n1))]
theorem z_noI : ∀ k, md_it md_g0 k = zN k
  | 0 => g0_zr
  | k + 1 => by
    rw [md_it_s, z_noI k, z_no]
theorem be_1 : ∀ m, m < 4 → ∀ i, i < 64 → md_be (zr 0 (0 + 1) (1 + 1) 0 0 0 0 0 0 0 0 400 400 0 0 0 0 0 0 0 0 1 (i3 (2 + m)) 0 (i3 (60 + i)) 0 0 0 0 0) (i3 (2 + m)) (i3 (60 + i)) 3 + 1 = 1 := by decide +kernel
set_option maxRecDepth 20000 in
theorem z_ad {m i : Nat} (hm : m < 4) (hi : i < 64) : md_ad md_g0 (i3 (2 + m)) 0 (i3 (60 + i)) = zU (2 + m) 0 0 0 (i3 (60 + i)) := by
  rw [g0_zr]
  rw [ad_0 (g := zr 0 0 1 0 0 0 0 0 0 0 0 400 400 0 0 0 0 0 0 0 0 0 0 0 0 0 0 0 0 0) (b := 1) (nr0 (show _ = _ from rd_1)) (by
    simp only [Nat.reduceAdd, Nat.add_zero, rd_0, rd_1, rd_2, rd_3, rd_4, rd_5, rd_6, rd_7, rd_8, rd_9, rd_12, rd_15, rd_16, rd_18, rd_19, rd_20, rd_21, rd_23, rd_24, rd_25, rd_26, rd_27, rd_39, rd_51, rd_63, rd_75, rd_87, rd_99, rd_111, rd_131, rd_17, rd_10, rd_11, rd_13, rd_14, rd_22, ru_0, ru_1, ru_2, ru_3, ru_4, ru_5, ru_6, ru_7, ru_8, ru_9, ru_12, ru_15, ru_16, ru_18, ru_19, ru_20, ru_21, ru_23, ru_24, ru_25, ru_26, ru_27, ru_39, ru_51, ru_63, ru_75, ru_87, ru_99, ru_111, ru_131, ru_121]
    exact be_1 m hm i hi)]
  simp only [Nat.reduceAdd, Nat.add_zero, rd_0, rd_1, rd_2, rd_3, rd_4, rd_5, rd_6, rd_7, rd_8, rd_9, rd_12, rd_15, rd_16, rd_18, rd_19, rd_20, rd_21, rd_23, rd_24, rd_25, rd_26, rd_27, rd_39, rd_51, rd_63, rd_75, rd_87, rd_99, rd_111, rd_131, rd_17, rd_10, rd_11, rd_13, rd_14, rd_22, ru_0, ru_1, ru_2, ru_3, ru_4, ru_5, ru_6, ru_7, ru_8, ru_9, ru_12, ru_15, ru_16, ru_18, ru_19, ru_20, ru_21, ru_23, ru_24, ru_25, ru_26, ru_27, ru_39, ru_51, ru_63, ru_75, ru_87, ru_99, ru_111, ru_131, ru_121]
  rfl
