/-! .. who leaves, and a whole step -/
theorem k_append {G : am_Gx} {d t : Nat} {M : am_Hp} {B : Nat → Nat} {N w : Int32} {c : Nat} (hL : bL M B) (h3 : hp_I M 103 (B 3) = i3 t) (ht : t < 2147483648) : am_CT G (d + 1) rX5_append [.ref (B 3), .int N, .int (i3 c), .int w] M 0 0 (qv (hp_sI (hp_sI (hp_sA (hp_sA (hp_sA M (B 4) (va_up (hp_E M (B 4)) (t % 10) N)) (B 5) (va_up (hp_E M (B 5)) (t % 10) (i3 c))) (B 6) (va_up (hp_E M (B 6)) (t % 10) w)) 103 (B 3) (i3 (t + 1))) 104 (B 3) (hp_I M 104 (B 3) + w))) := by
  obtain ⟨⟨a0, a1, a2, a3, a4, a5, a6, a7, a8, a9, a10, a11, a12, a13, a14, a15, a16, a17⟩, ht2, hk, hz, hJ⟩ := hL
  have hm : t % 10 < 10 := Nat.mod_lt _ (by omega)
  have n54 : B 5 ≠ B 4 := fun z => absurd (hJ _ _ (by omega) (by omega) z) (by omega)
  have n64 : B 6 ≠ B 4 := fun z => absurd (hJ _ _ (by omega) (by omega) z) (by omega)
  have n65 : B 6 ≠ B 5 := fun z => absurd (hJ _ _ (by omega) (by omega) z) (by omega)
  have z4 := hz 4 (by omega)
  have z5 := hz 5 (by omega)
  have z6 := hz 6 (by omega)
  refine am_intro mkX5_append rfl (Nat.le_of_ble_eq_true rfl) rfl (fun X hX hM => ?_)
  refine vX5_append_0 hX hM ?_
  simp (disch := omega) only [a8, a9, a10, a11, a12, a13, a14, a15, a16, a17, z4, z5, z6, h3, forall_eq, Nat.reduceAdd, Nat.reduceMul, Nat.reduceEqDiff, Nat.reduceLeDiff, Nat.reduceSub, ne_eq, not_false_eq_true, not_true_eq_false, false_implies, true_implies, implies_true, true_and, and_true, eq_self, li0, li1, li2, li3, li4, li5, li6, li7, li8, li9, li10, li11, li12, li15, li18, li21, li22, li23, li24, li27, li30, li32, li39, li50, li51, li59, li60, li63, li75, li87, li90, li99, li100, li111, li121, li126, li131, li141, li150, li400, li900, li987, li1128, li240, i3_add, i3_toNat, vpt, bI_0, bI_1, bI_bo, Bool.not_eq_false, Bool.true_eq_false, Bool.false_eq_true, Bool.not_eq_true, i3_le', i3_lt', i3_eq', hp_T_sI, hp_N_sI, hp_R_sI, hp_E_sI, hp_Q_sI, hp_I_sI, hp_I_sIu, hp_T_sQ, hp_N_sQ, hp_R_sQ, hp_E_sQ, hp_I_sQ, hp_T_sA, hp_N_sA, hp_R_sA, hp_I_sA, hp_Q_sA, hp_E_sA, hp_sE_sA, i3_mod ht (show 10 < 2147483648 by omega), hp_E_sA' _ _ n54, hp_E_sA' _ _ n64, hp_E_sA' _ _ n65]
  exact ⟨rfl, rfl⟩
theorem md_sum_skip {f : Nat → Int32} {p : Nat} : ∀ n, p ≤ n → md_sum (fun q => f (if q < p then q else q + 1)) n + f p = md_sum f (n + 1)
  | 0, h => by
    have : p = 0 := by omega
    subst this
    rfl
  | n + 1, h => by
    by_cases hp : p = n + 1
    · subst hp
      rw [md_sum_congr (f' := f) (n + 1) (fun i hi => by rw [if_pos hi])]
      rfl
    · have ih := md_sum_skip (f := f) n (show p ≤ n by omega)
      rw [md_sum_s, if_neg (by omega), md_sum_s, ← ih, Int32.add_assoc, Int32.add_comm (f (n + 1)), ← Int32.add_assoc]
theorem md_ld_dr {g : md_R} {p n c : Nat} (hn : g 1 = i3 (n + 1)) (h12 : n + 1 ≤ 12) (hp : p ≤ n) : md_ld (md_dr g p) c = md_ld g c - md_ldf g c p := by
  have h := md_sum_skip (f := md_ldf g c) n hp
  have e : md_ld (md_dr g p) c = md_sum (fun q => md_ldf g c (if q < p then q else q + 1)) n := by
    unfold md_ld
    rw [md_n_of (md_dr_n hn) (by omega)]
    refine md_sum_congr n (fun i hi => ?_)
    unfold md_ldf
    rw [md_dr_in (by omega), show 63 + i = 27 + 12 * 3 + i by omega, md_dr_row (by omega) (by omega)]
  rw [e]
  unfold md_ld
  rw [md_n_of hn h12, ← h]
  exact (Int32.add_sub_cancel _ _).symm
theorem md_is_dr {g : md_R} {p n c : Nat} (hn : g 1 = i3 (n + 1)) (h12 : n + 1 ≤ 12) (hp : p ≤ n) : md_is (md_dr g p) c = md_is g c - md_isf g c p := by
  have h := md_sum_skip (f := md_isf g c) n hp
  have e : md_is (md_dr g p) c = md_sum (fun q => md_isf g c (if q < p then q else q + 1)) n := by
    unfold md_is
    rw [md_n_of (md_dr_n hn) (by omega)]
    refine md_sum_congr n (fun i hi => ?_)
    unfold md_isf
    rw [md_dr_in (by omega)]
  rw [e]
  unfold md_is
  rw [md_n_of hn h12, ← h]
  exact (Int32.add_sub_cancel _ _).symm
/-- in the middle of letOut: x is the row, n the old count, the first s of the row's passengers stand at the first s places, the others from i on -/
def iR0 (M : am_Hp) (b : Nat) (g : md_R) : Prop := hp_I M 4 b = g 2 - i3 1 ∧ hp_I M 5 b = g 0 ∧ hp_I M 6 b = g 5 ∧ hp_I M 7 b = g 6 ∧ hp_I M 8 b = g 8 ∧ hp_I M 9 b = g 7
def lR (M : am_Hp) (B : Nat → Nat) (x : md_R) (n i s : Nat) : Prop := bL M B ∧ bQ M B ∧ hp_I M 3 (B 0) = i3 n ∧ iR0 M (B 0) x ∧ (∀ c, c < 3 → cR M (B (7 + c)) x c) ∧ (∀ p, p < s → pR M (hp_Q M (B 2) p) x p) ∧ (∀ q, i ≤ q → q < n → pR M (hp_Q M (B 2) q) x (s + (q - i))) ∧ tR M B x
theorem iR0_cg {M M' : am_Hp} {b : Nat} {g g' : md_R} (e : ∀ u, 3 ≤ u → u < 10 → hp_I M' u b = hp_I M u b) (eg : ∀ k, k ≠ 1 → k ≠ 3 → k ≠ 4 → k < 9 → g' k = g k) (h : iR0 M b g) : iR0 M' b g' := by
  obtain ⟨h2, h3, h4, h5, h6, h7⟩ := h
  unfold iR0
  rw [e 4 (by omega) (by omega), e 5 (by omega) (by omega), e 6 (by omega) (by omega), e 7 (by omega) (by omega), e 8 (by omega) (by omega), e 9 (by omega) (by omega), eg 0 (by omega) (by omega) (by omega) (by omega), eg 2 (by omega) (by omega) (by omega) (by omega), eg 5 (by omega) (by omega) (by omega) (by omega), eg 6 (by omega) (by omega) (by omega) (by omega), eg 7 (by omega) (by omega) (by omega) (by omega), eg 8 (by omega) (by omega) (by omega) (by omega)]
  exact ⟨h2, h3, h4, h5, h6, h7⟩
theorem lR_stay {M : am_Hp} {B : Nat → Nat} {x : md_R} {n i s : Nat} (h : lR M B x n i s) (hs : s ≤ i) (hi : i < n) (hn : n ≤ 12) : lR (hp_sQ (hp_sQ M (B 2) i (hp_Q M (B 2) s)) (B 2) s (hp_Q M (B 2) i)) B x n (i + 1) (s + 1) := by
  obtain ⟨r1, r2, r3, r4, r5, r6, r7, r8⟩ := h
  have hJ := r1.2.2.2.2
  have n12 : B 1 ≠ B 2 := fun z => absurd (hJ _ _ (by omega) (by omega) z) (by omega)
  obtain ⟨q1, q2, q3⟩ := r2
  have eQ : hp_Q (hp_sQ (hp_sQ M (B 2) i (hp_Q M (B 2) s)) (B 2) s (hp_Q M (B 2) i)) (B 2) = va_up (va_up (hp_Q M (B 2)) i (hp_Q M (B 2) s)) s (hp_Q M (B 2) i) := by rw [hp_Q_sQ, hp_Q_sQ]
  have eJ : ∀ j, va_up (va_up (hp_Q M (B 2)) i (hp_Q M (B 2) s)) s (hp_Q M (B 2) i) j = hp_Q M (B 2) (if j = s then i else if j = i then s else j) := by
    intro j
    unfold va_up
    by_cases h1 : j = s
    · rw [if_pos h1, if_pos h1]
    · rw [if_neg h1, if_neg h1]
      by_cases h2 : j = i
      · rw [if_pos h2, if_pos h2]
      · rw [if_neg h2, if_neg h2]
  refine ⟨r1, ⟨fun c hc => ?_, fun j hj => ?_, fun j k hj hk e => ?_⟩, r3, r4, r5, fun p hp => ?_, fun q h1 h2 => ?_, r8⟩
  · rw [hp_Q_sQ' _ _ n12, hp_Q_sQ' _ _ n12]; exact q1 c hc
  · rw [eQ, eJ]
    refine q2 _ ?_
    split
    · omega
    · split <;> omega
  · rw [eQ, eJ, eJ] at e
    have := q3 _ _ (by split <;> (try split) <;> omega) (by split <;> (try split) <;> omega) e
    split at this <;> split at this <;> (try split at this) <;> (try split at this) <;> omega
  · rw [eQ, eJ]
    by_cases h1 : p = s
    · rw [if_pos h1]
      have := r7 i (by omega) hi
      rw [show s + (i - i) = p by omega] at this
      exact this
    · rw [if_neg h1, if_neg (by omega)]
      exact r6 p (by omega)
  · rw [eQ, eJ, if_neg (by omega), if_neg (by omega)]
    have := r7 q (by omega) h2
    rw [show s + (q - i) = s + 1 + (q - (i + 1)) by omega] at this
    exact this
theorem lR_leave {M : am_Hp} {B : Nat → Nat} {x : md_R} {n i s c t : Nat} (h : lR M B x n i s) (hs : s ≤ i) (hi : i < n) (hn : n ≤ 12) (hx : md_n x = s + (n - i)) (ok : md_ok x) (hc : c < 3) (h3 : x 3 = i3 t) (ht : t < 2147483648) (hin : md_in x s c = true) : lR (hp_sI (hp_sI (hp_sA (hp_sA (hp_sA (hp_sI (hp_sI M 23 (B (7 + c)) (md_ld x c - x (63 + s))) 24 (B (7 + c)) (md_is x c - i3 1)) (B 4) (va_up (hp_E M (B 4)) (t % 10) (x (27 + s)))) (B 5) (va_up (hp_E M (B 5)) (t % 10) (i3 c))) (B 6) (va_up (hp_E M (B 6)) (t % 10) (x (75 + s)))) 103 (B 3) (i3 (t + 1))) 104 (B 3) (x 4 + x (75 + s))) B (md_dr (md_lg x s c) s) n (i + 1) s := by
  obtain ⟨r1, r2, r3, r4, r5, r6, r7, r8⟩ := h
  have hJ := r1.2.2.2.2
  have n54 : B 5 ≠ B 4 := fun z => absurd (hJ _ _ (by omega) (by omega) z) (by omega)
  have n64 : B 6 ≠ B 4 := fun z => absurd (hJ _ _ (by omega) (by omega) z) (by omega)
  have n65 : B 6 ≠ B 5 := fun z => absurd (hJ _ _ (by omega) (by omega) z) (by omega)
  have hm : t % 10 < 10 := Nat.mod_lt _ (by omega)
  obtain ⟨m, hm1⟩ : ∃ m, s + (n - i) = m + 1 := ⟨s + (n - i) - 1, by omega⟩
  have l1 : md_lg x s c 1 = i3 (m + 1) := by rw [md_lg_far x s c 1 (by omega), ok.1, hx, hm1]
  have lin : ∀ c', md_in (md_lg x s c) s c' = md_in x s c' := fun c' => md_lg_in x s c s c' (by omega)
  have lld : ∀ c', md_ld (md_lg x s c) c' = md_ld x c' := fun c' => md_ld_cg ok.2 (fun k hk => md_lg_far x s c k (by omega))
  have lis : ∀ c', md_is (md_lg x s c) c' = md_is x c' := fun c' => md_is_cg ok.2 (fun k hk => md_lg_far x s c k (by omega))
  have out : ∀ k, k ≠ 1 → k ≠ 3 → k ≠ 4 → k < 27 → md_dr (md_lg x s c) s k = x k := fun k k1 k3 k4 k5 => by rw [md_dr_out k1 (by omega), md_lg_far x s c k (by omega)]
  have row : ∀ r q, r < 7 → q < 11 → md_dr (md_lg x s c) s (27 + 12 * r + q) = x (27 + 12 * r + (if q < s then q else q + 1)) := fun r q hr hq => by
    rw [md_dr_row hr hq, md_lg_far x s c _ (by split <;> omega)]
  have oth : ∀ c', c' < 3 → c' ≠ c → md_in x s c' = false := fun c' hc' hne => by
    rw [Bool.eq_false_iff]
    intro z
    have z1 := (md_in_iff.mp z).2
    rw [(md_in_iff.mp hin).2, i3_eq (by omega) (by omega)] at z1
    omega
  refine ⟨r1, r2, r3, iR0_cg (fun u h1 h2 => ?_) (fun k k1 k3 k4 k5 => out k k1 k3 k4 (by omega)) r4, fun c' hc' => ?_, fun p hp => ?_, fun q h1 h2 => ?_, ?_⟩
  · simp (disch := omega) only [hp_I_sIu, hp_I_sA]
  · have w := r5 c' hc'
    obtain ⟨w1, w2, w3, w4, w5, w6, w7, w8⟩ := w
    unfold cR
    rw [md_ld_dr l1 (by omega) (by omega), md_is_dr l1 (by omega) (by omega), lld, lis, out _ (by omega) (by omega) (by omega) (by omega), out _ (by omega) (by omega) (by omega) (by omega), out _ (by omega) (by omega) (by omega) (by omega), out _ (by omega) (by omega) (by omega) (by omega), out _ (by omega) (by omega) (by omega) (by omega), out _ (by omega) (by omega) (by omega) (by omega)]
    unfold md_ldf md_isf
    rw [lin, md_lg_far x s c _ (by omega)]
    by_cases e : c' = c
    · subst e
      rw [if_pos hin, if_pos hin]
      simp (disch := omega) only [hp_T_sI, hp_N_sI, hp_R_sI, hp_E_sI, hp_Q_sI, hp_I_sI, hp_I_sIu, hp_T_sQ, hp_N_sQ, hp_R_sQ, hp_E_sQ, hp_I_sQ, hp_T_sA, hp_N_sA, hp_R_sA, hp_I_sA, hp_Q_sA, hp_E_sA, hp_sE_sA, w1, w2, w3, w4, w5, w6, w7, w8, true_and, and_true, eq_self, li1]
    · have ne : B (7 + c') ≠ B (7 + c) := fun z => e (by have := hJ _ _ (by omega) (by omega) z; omega)
      rw [oth c' hc' e, if_neg (by decide), if_neg (by decide), Int32.sub_zero, Int32.sub_zero]
      simp (disch := omega) only [hp_T_sI, hp_N_sI, hp_R_sI, hp_E_sI, hp_Q_sI, hp_I_sI, hp_I_sIu, hp_T_sQ, hp_N_sQ, hp_R_sQ, hp_E_sQ, hp_I_sQ, hp_T_sA, hp_N_sA, hp_R_sA, hp_I_sA, hp_Q_sA, hp_E_sA, hp_sE_sA, w1, w2, w3, w4, w5, w6, w7, w8, true_and, and_true, eq_self, hp_I_sIa _ _ _ _ ne]
  · refine pR_cg (fun u h1 h2 => ?_) (fun r hr => ?_) (r6 p hp)
    · simp (disch := omega) only [hp_I_sIu, hp_I_sA, hp_Q_sI, hp_Q_sA]
    · rw [row r p hr (by omega), if_pos hp]
  · refine pR_cg (p := s + (q - i)) (fun u h1 h2 => ?_) (fun r hr => ?_) (r7 q (by omega) h2)
    · simp (disch := omega) only [hp_I_sIu, hp_I_sA, hp_Q_sI, hp_Q_sA]
    · rw [row r _ hr (by omega), if_neg (by omega)]
      congr 1
      omega
  · obtain ⟨v1, v2, v3, v4, v5⟩ := r8
    have o : ∀ k, 111 ≤ k ∨ k = 3 ∨ k = 4 → md_dr (md_lg x s c) s k = md_lg x s c k := fun k hk => md_dr_out (by omega) (by omega)
    unfold tR
    rw [o 3 (by omega), o 4 (by omega)]
    unfold md_lg
    rw [h3, i3_toNat ht]
    refine ⟨?_, ?_, fun k hk => ?_, fun k hk => ?_, fun k hk => ?_⟩
    · simp (disch := omega) only [hp_T_sI, hp_N_sI, hp_R_sI, hp_E_sI, hp_Q_sI, hp_I_sI, hp_I_sIu, hp_T_sQ, hp_N_sQ, hp_R_sQ, hp_E_sQ, hp_I_sQ, hp_T_sA, hp_N_sA, hp_R_sA, hp_I_sA, hp_Q_sA, hp_E_sA, hp_sE_sA, up_e, up_n', i3_one]
    · simp (disch := omega) only [hp_T_sI, hp_N_sI, hp_R_sI, hp_E_sI, hp_Q_sI, hp_I_sI, hp_I_sIu, hp_T_sQ, hp_N_sQ, hp_R_sQ, hp_E_sQ, hp_I_sQ, hp_T_sA, hp_N_sA, hp_R_sA, hp_I_sA, hp_Q_sA, hp_E_sA, hp_sE_sA, up_e, up_n']
    · rw [md_dr_out (by omega) (by omega)]
      simp (disch := omega) only [hp_T_sI, hp_N_sI, hp_R_sI, hp_E_sI, hp_Q_sI, hp_I_sI, hp_I_sIu, hp_T_sQ, hp_N_sQ, hp_R_sQ, hp_E_sQ, hp_I_sQ, hp_T_sA, hp_N_sA, hp_R_sA, hp_I_sA, hp_Q_sA, hp_E_sA, hp_sE_sA, up_n', hp_E_sA' _ _ n54.symm, hp_E_sA' _ _ n64.symm]
      by_cases e : k = t % 10
      · rw [e, up_e, up_e]
      · rw [up_n _ _ e, up_n _ _ (by omega)]
        exact v3 k hk
    · rw [md_dr_out (by omega) (by omega)]
      simp (disch := omega) only [hp_T_sI, hp_N_sI, hp_R_sI, hp_E_sI, hp_Q_sI, hp_I_sI, hp_I_sIu, hp_T_sQ, hp_N_sQ, hp_R_sQ, hp_E_sQ, hp_I_sQ, hp_T_sA, hp_N_sA, hp_R_sA, hp_I_sA, hp_Q_sA, hp_E_sA, hp_sE_sA, up_n', hp_E_sA' _ _ n54, hp_E_sA' _ _ n65.symm]
      by_cases e : k = t % 10
      · rw [e, up_e, up_e]
      · rw [up_n _ _ e, up_n _ _ (by omega), up_n _ _ (by omega)]
        exact v4 k hk
    · rw [md_dr_out (by omega) (by omega)]
      simp (disch := omega) only [hp_T_sI, hp_N_sI, hp_R_sI, hp_E_sI, hp_Q_sI, hp_I_sI, hp_I_sIu, hp_T_sQ, hp_N_sQ, hp_R_sQ, hp_E_sQ, hp_I_sQ, hp_T_sA, hp_N_sA, hp_R_sA, hp_I_sA, hp_Q_sA, hp_E_sA, hp_sE_sA, up_n', hp_E_sA' _ _ n64, hp_E_sA' _ _ n65]
      by_cases e : k = t % 10
      · rw [e, up_e, up_e]
      · rw [up_n _ _ e, up_n _ _ (by omega), up_n _ _ (by omega), up_n _ _ (by omega)]
        exact v5 k hk
