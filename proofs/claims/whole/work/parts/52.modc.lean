/-! .. what changes the row -/
theorem hp_sA_nd {M : am_Hp} {a : Nat} {g : md_R} (h : hp_E M a = g) : hp_sA M a g = M := by rw [← h]; exact hp_sA_id M a
/-- 141 cells copied from s on to t on (the first j of them) -/
def md_cq (s t j : Nat) (src dst : md_R) : md_R := fun k => if t ≤ k ∧ k < t + j then src (s + (k - t)) else dst k
theorem md_cq_0 (s t : Nat) (src dst : md_R) : md_cq s t 0 src dst = dst := by
  funext k
  unfold md_cq
  rw [if_neg (by omega)]
theorem md_cq_s (s t j : Nat) (src dst : md_R) : va_up (md_cq s t j src dst) (t + j) (src (s + j)) = md_cq s t (j + 1) src dst := by
  funext k
  unfold va_up md_cq
  by_cases h : k = t + j
  · subst h
    rw [if_pos rfl, if_pos (by omega), show t + j - t = j by omega]
  · rw [if_neg h]
    by_cases h2 : t ≤ k ∧ k < t + j
    · rw [if_pos h2, if_pos (by omega)]
    · rw [if_neg h2, if_neg (by omega)]
theorem c_copy {G : am_Gx} {d : Nat} {M : am_Hp} {a b s t na nb : Nat} (ta : hp_T M a = 22) (tb : hp_T M b = 22) (hab : a ≠ b) (hna : hp_N M a = na) (hnb : hp_N M b = nb) (hs : s + 141 ≤ na) (ht : t + 141 ≤ nb) (h1 : na < 100000) (h2 : nb < 100000) : am_CT G (d + 1) rX7_copy [.ref a, .int (i3 s), .ref b, .int (i3 t)] M 0 0 (qv (hp_sA M b (md_cq s t 141 (hp_E M a) (hp_E M b)))) := by
  refine am_intro mkX7_copy rfl (Nat.le_of_ble_eq_true rfl) rfl (fun X hX hM => ?_)
  have L : ∀ k j, j + k = 141 → am_J X 3 [(0, .ref a), (1, .int (i3 s)), (2, .ref b), (3, .int (i3 t)), (4, .int (i3 j))] [] (hp_sA M b (md_cq s t j (hp_E M a) (hp_E M b))) 0 0 := by
    intro k
    induction k with
    | zero =>
      intro j hj
      have e : j = 141 := by omega
      subst e
      refine vX7_copy_3 hX hM (fun x0 x1 x2 x3 x4 M => am_J X 3 [(0, .ref x0), (1, .int x1), (2, .ref x2), (3, .int x3), (4, .int x4)] [] M 0 0) (fun _ _ _ _ _ _ h => h) ⟨fun _ => ⟨rfl, rfl⟩, fun z => absurd (Int32.le_refl _) z⟩
    | succ k ih =>
      intro j hj
      have I := ih (j + 1) (by omega)
      rw [← md_cq_s] at I
      refine vX7_copy_3 hX hM (fun x0 x1 x2 x3 x4 M => am_J X 3 [(0, .ref x0), (1, .int x1), (2, .ref x2), (3, .int x3), (4, .int x4)] [] M 0 0) (fun _ _ _ _ _ _ h => h) ?_
      simp (disch := omega) only [forall_eq, Nat.reduceAdd, Nat.reduceMul, Nat.reduceEqDiff, Nat.reduceLeDiff, Nat.reduceSub, ne_eq, not_false_eq_true, not_true_eq_false, false_implies, true_implies, implies_true, true_and, and_true, eq_self, li0, li1, li2, li3, li4, li5, li6, li7, li8, li9, li10, li11, li12, li15, li18, li21, li22, li23, li24, li27, li30, li32, li39, li50, li51, li59, li60, li63, li75, li87, li90, li99, li100, li111, li121, li126, li131, li141, li150, li400, li900, li987, li1128, li240, i3_add, i3_toNat, vpt, bI_0, bI_1, bI_bo, Bool.not_eq_false, Bool.true_eq_false, Bool.false_eq_true, Bool.not_eq_true, i3_le', i3_lt', i3_eq', hp_sE_sA, hp_sA_sA, hp_E_sA, hp_T_sA, hp_N_sA, hp_R_sA, hp_I_sA, hp_T_sI, hp_N_sI, hp_R_sI, hp_E_sI, hp_I_sI, hp_sA_sI, hp_sI_sI, ta, tb, hna, hnb, hp_E_sA' M _ hab]
      exact ⟨fun z => absurd z (by omega), fun _ => I⟩
  refine vX7_copy_0 hX hM (fun x0 x1 x2 x3 x4 M => am_J X 3 [(0, .ref x0), (1, .int x1), (2, .ref x2), (3, .int x3), (4, .int x4)] [] M 0 0) (fun _ _ _ _ _ _ h => h) ?_
  have I := L 141 0 (by omega)
  rw [md_cq_0, hp_sA_id] at I
  exact I
theorem md_dP_0 (g : md_R) (p : Nat) : md_dP g p 27 = g := by
  funext k
  unfold md_dP
  rw [if_neg (by omega)]
theorem md_dP_row (g : md_R) {p i : Nat} (hp : p < 12) : md_dP g p (27 + 12 * i + p) = md_dP g p (27 + 12 * i) := by
  funext k
  unfold md_dP
  by_cases h : 27 ≤ k ∧ k < 27 + 12 * i ∧ p ≤ (k - 27) % 12
  · rw [if_pos h, if_pos (by omega)]
  · rw [if_neg h, if_neg]
    rintro ⟨h1, h2, h3⟩
    exact h ⟨h1, by omega, h3⟩
theorem md_dP_s (g : md_R) {p i q : Nat} (hp : p ≤ q) (hq : q < 12) : va_up (md_dP g p (27 + 12 * i + q)) (27 + 12 * i + q) (if q < 11 then g (27 + 12 * i + q + 1) else 0) = md_dP g p (27 + 12 * i + (q + 1)) := by
  funext k
  unfold va_up md_dP
  by_cases h : k = 27 + 12 * i + q
  · subst h
    have e : (27 + 12 * i + q - 27) % 12 = q := by omega
    have C : 27 ≤ 27 + 12 * i + q ∧ 27 + 12 * i + q < 27 + 12 * i + (q + 1) ∧ p ≤ (27 + 12 * i + q - 27) % 12 := by omega
    rw [if_pos rfl, if_pos C, e]
  · rw [if_neg h]
    by_cases h2 : 27 ≤ k ∧ k < 27 + 12 * i + q ∧ p ≤ (k - 27) % 12
    · rw [if_pos h2, if_pos (show 27 ≤ k ∧ k < 27 + 12 * i + (q + 1) ∧ p ≤ (k - 27) % 12 from ⟨h2.1, by omega, h2.2.2⟩)]
    · rw [if_neg h2, if_neg (show ¬ (27 ≤ k ∧ k < 27 + 12 * i + (q + 1) ∧ p ≤ (k - 27) % 12) from fun z => h2 ⟨z.1, by omega, z.2.2⟩)]
theorem md_dP_out (g : md_R) {p e k : Nat} (h : k < 27 ∨ e ≤ k) : md_dP g p e k = g k := by
  unfold md_dP
  rw [if_neg (by omega)]
theorem c_drops {G : am_Gx} {d : Nat} {M : am_Hp} {A : Nat → Nat} {g : md_R} {p : Nat} (h : mL M A) (hg : hp_E M (A 1) = g) (hp : p < 12) : am_CT G (d + 1) rX7_drops [.ref (A 0), .int (i3 p)] M 0 0 (qv (hp_sA M (A 1) (md_dr g p))) := by
  obtain ⟨t0, r1, r2, r3, r4, r5, r6, r7, r8, t1, t2, t3, t4, t5, t6, t7, t8, n1, n2, n3, n4, n5, n6, n7, n8, z1, z2, z3, z4, z5, z6, z7, z8, hJ⟩ := h
  refine am_intro mkX7_drops rfl (Nat.le_of_ble_eq_true rfl) rfl (fun X hX hM => ?_)
  have K : ∀ k i, i + k = 7 → am_J X 3 [(0, .ref (A 0)), (1, .int (i3 p)), (2, .int (i3 (27 + 12 * i)))] [] (hp_sA M (A 1) (md_dP g p (27 + 12 * i))) 0 0 := by
    intro k
    induction k with
    | zero =>
      intro i hi
      have e : i = 7 := by omega
      subst e
      refine vX7_drops_3 hX hM (fun x0 x1 x2 x3 M => am_J X 11 [(0, .ref x0), (1, .int x1), (2, .int x2), (3, .int x3)] [] M 0 0) (fun _ _ _ _ _ h => h) ?_
      simp (disch := omega) only [t0, r1, r2, r3, r4, r5, r6, r7, r8, t1, t2, t3, t4, t5, t6, t7, t8, n1, n2, n3, n4, n5, n6, n7, n8, z1, z2, z3, z4, z5, z6, z7, z8, forall_eq, Nat.reduceAdd, Nat.reduceMul, Nat.reduceEqDiff, Nat.reduceLeDiff, Nat.reduceSub, ne_eq, not_false_eq_true, not_true_eq_false, false_implies, true_implies, implies_true, true_and, and_true, eq_self, li0, li1, li2, li3, li4, li5, li6, li7, li8, li9, li10, li11, li12, li15, li18, li21, li22, li23, li24, li27, li30, li32, li39, li50, li51, li59, li60, li63, li75, li87, li90, li99, li100, li111, li121, li126, li131, li141, li150, li400, li900, li987, li1128, li240, i3_add, i3_toNat, vpt, bI_0, bI_1, bI_bo, Bool.not_eq_false, Bool.true_eq_false, Bool.false_eq_true, Bool.not_eq_true, i3_le', i3_lt', i3_eq', hp_sE_sA, hp_sA_sA, hp_E_sA, hp_T_sA, hp_N_sA, hp_R_sA, hp_I_sA, hp_T_sI, hp_N_sI, hp_R_sI, hp_E_sI, hp_I_sI, hp_sA_sI, hp_sI_sI, md_dP_out]
      exact ⟨rfl, rfl⟩
    | succ k ih =>
      intro i hi
      have I := ih (i + 1) (by omega)
      refine vX7_drops_3 hX hM (fun x0 x1 x2 x3 M => am_J X 11 [(0, .ref x0), (1, .int x1), (2, .int x2), (3, .int x3)] [] M 0 0) (fun _ _ _ _ _ h => h) ⟨fun z => absurd z (by rw [show (111 : Int32) = i3 111 from rfl, i3_le (by omega) (by omega)]; omega), fun _ => ?_⟩
      have L : ∀ k q, p ≤ q → q + k = 12 → am_J X 11 [(0, .ref (A 0)), (1, .int (i3 p)), (2, .int (i3 (27 + 12 * i))), (3, .int (i3 q))] [] (hp_sA M (A 1) (md_dP g p (27 + 12 * i + q))) 0 0 := by
        intro k
        induction k with
        | zero =>
          intro q _ hq
          have e : q = 12 := by omega
          subst e
          refine vX7_drops_11 hX hM (fun x0 x1 x2 M => am_J X 3 [(0, .ref x0), (1, .int x1), (2, .int x2)] [] M 0 0) (fun _ _ _ _ h => h) (fun x0 x1 x2 x3 M => am_J X 11 [(0, .ref x0), (1, .int x1), (2, .int x2), (3, .int x3)] [] M 0 0) (fun _ _ _ _ _ h => h) ?_
          simp (disch := omega) only [t0, r1, r2, r3, r4, r5, r6, r7, r8, t1, t2, t3, t4, t5, t6, t7, t8, n1, n2, n3, n4, n5, n6, n7, n8, z1, z2, z3, z4, z5, z6, z7, z8, forall_eq, Nat.reduceAdd, Nat.reduceMul, Nat.reduceEqDiff, Nat.reduceLeDiff, Nat.reduceSub, ne_eq, not_false_eq_true, not_true_eq_false, false_implies, true_implies, implies_true, true_and, and_true, eq_self, li0, li1, li2, li3, li4, li5, li6, li7, li8, li9, li10, li11, li12, li15, li18, li21, li22, li23, li24, li27, li30, li32, li39, li50, li51, li59, li60, li63, li75, li87, li90, li99, li100, li111, li121, li126, li131, li141, li150, li400, li900, li987, li1128, li240, i3_add, i3_toNat, vpt, bI_0, bI_1, bI_bo, Bool.not_eq_false, Bool.true_eq_false, Bool.false_eq_true, Bool.not_eq_true, i3_le', i3_lt', i3_eq', hp_sE_sA, hp_sA_sA, hp_E_sA, hp_T_sA, hp_N_sA, hp_R_sA, hp_I_sA, hp_T_sI, hp_N_sI, hp_R_sI, hp_E_sI, hp_I_sI, hp_sA_sI, hp_sI_sI]
          exact I
        | succ k ih2 =>
          intro q hpq hq
          have I2 := ih2 (q + 1) (by omega) (by omega)
          rw [← md_dP_s g hpq (by omega)] at I2
          refine vX7_drops_11 hX hM (fun x0 x1 x2 M => am_J X 3 [(0, .ref x0), (1, .int x1), (2, .int x2)] [] M 0 0) (fun _ _ _ _ h => h) (fun x0 x1 x2 x3 M => am_J X 11 [(0, .ref x0), (1, .int x1), (2, .int x2), (3, .int x3)] [] M 0 0) (fun _ _ _ _ _ h => h) ?_
          simp (disch := omega) only [t0, r1, r2, r3, r4, r5, r6, r7, r8, t1, t2, t3, t4, t5, t6, t7, t8, n1, n2, n3, n4, n5, n6, n7, n8, z1, z2, z3, z4, z5, z6, z7, z8, forall_eq, Nat.reduceAdd, Nat.reduceMul, Nat.reduceEqDiff, Nat.reduceLeDiff, Nat.reduceSub, ne_eq, not_false_eq_true, not_true_eq_false, false_implies, true_implies, implies_true, true_and, and_true, eq_self, li0, li1, li2, li3, li4, li5, li6, li7, li8, li9, li10, li11, li12, li15, li18, li21, li22, li23, li24, li27, li30, li32, li39, li50, li51, li59, li60, li63, li75, li87, li90, li99, li100, li111, li121, li126, li131, li141, li150, li400, li900, li987, li1128, li240, i3_add, i3_toNat, vpt, bI_0, bI_1, bI_bo, Bool.not_eq_false, Bool.true_eq_false, Bool.false_eq_true, Bool.not_eq_true, i3_le', i3_lt', i3_eq', hp_sE_sA, hp_sA_sA, hp_E_sA, hp_T_sA, hp_N_sA, hp_R_sA, hp_I_sA, hp_T_sI, hp_N_sI, hp_R_sI, hp_E_sI, hp_I_sI, hp_sA_sI, hp_sI_sI, md_dP_out]
          refine ⟨fun z => absurd z (by omega), fun _ => ⟨fun z => ?_, fun z => ?_⟩⟩
          · rw [if_neg (by omega)] at I2
            exact I2
          · rw [if_pos (by omega)] at I2
            exact I2
      have I3 := L (12 - p) p (Nat.le_refl _) (by omega)
      rw [md_dP_row g hp] at I3
      exact I3
  have I := K 7 0 (by omega)
  rw [show 27 + 12 * 0 = 27 from rfl, md_dP_0, hp_sA_nd hg] at I
  exact vX7_drops_0 hX hM (fun x0 x1 x2 M => am_J X 3 [(0, .ref x0), (1, .int x1), (2, .int x2)] [] M 0 0) (fun _ _ _ _ h => h) I
theorem i3_div {a b : Nat} (ha : a < 2147483648) (hb : b < 2147483648) : i3 a / i3 b = i3 (a / b) := (Int32.ofNat_div ha hb).symm
theorem i3_sub' {a b : Nat} (h : b ≤ a) : i3 a - i3 b = i3 (a - b) := (Int32.ofNat_sub a b h).symm
theorem i3_mod {a b : Nat} (ha : a < 2147483648) (hb : b < 2147483648) : i3 a - i3 a / i3 b * i3 b = i3 (a % b) := by
  rw [i3_div ha hb, i3_mul, i3_sub' (Nat.div_mul_le_self a b)]
  congr 1
  have e := Nat.div_add_mod a b
  rw [Nat.mul_comm] at e
  omega
theorem c_logs {G : am_Gx} {d : Nat} {M : am_Hp} {A : Nat → Nat} {g : md_R} {p c t : Nat} (h : mL M A) (hg : hp_E M (A 1) = g) (hp : p < 12) (h3 : g 3 = i3 t) (ht : t < 2147483648) : am_CT G (d + 1) rX7_logs [.ref (A 0), .int (i3 p), .int (i3 c)] M 0 0 (qv (hp_sA M (A 1) (md_lg g p c))) := by
  obtain ⟨t0, r1, r2, r3, r4, r5, r6, r7, r8, t1, t2, t3, t4, t5, t6, t7, t8, n1, n2, n3, n4, n5, n6, n7, n8, z1, z2, z3, z4, z5, z6, z7, z8, hJ⟩ := h
  have hm : t % 10 < 10 := Nat.mod_lt _ (by omega)
  refine am_intro mkX7_logs rfl (Nat.le_of_ble_eq_true rfl) rfl (fun X hX hM => ?_)
  refine vX7_logs_0 hX hM ?_
  simp (disch := omega) only [t0, r1, r2, r3, r4, r5, r6, r7, r8, t1, t2, t3, t4, t5, t6, t7, t8, n1, n2, n3, n4, n5, n6, n7, n8, z1, z2, z3, z4, z5, z6, z7, z8, forall_eq, Nat.reduceAdd, Nat.reduceMul, Nat.reduceEqDiff, Nat.reduceLeDiff, Nat.reduceSub, ne_eq, not_false_eq_true, not_true_eq_false, false_implies, true_implies, implies_true, true_and, and_true, eq_self, li0, li1, li2, li3, li4, li5, li6, li7, li8, li9, li10, li11, li12, li15, li18, li21, li22, li23, li24, li27, li30, li32, li39, li50, li51, li59, li60, li63, li75, li87, li90, li99, li100, li111, li121, li126, li131, li141, li150, li400, li900, li987, li1128, li240, i3_add, i3_toNat, vpt, bI_0, bI_1, bI_bo, Bool.not_eq_false, Bool.true_eq_false, Bool.false_eq_true, Bool.not_eq_true, i3_le', i3_lt', i3_eq', hp_sE_sA, hp_sA_sA, hp_E_sA, hp_T_sA, hp_N_sA, hp_R_sA, hp_I_sA, hp_T_sI, hp_N_sI, hp_R_sI, hp_E_sI, hp_I_sI, hp_sA_sI, hp_sI_sI, hg, h3, i3_mod ht (show 10 < 2147483648 by omega), up_n']
  refine ⟨rfl, ?_⟩
  unfold md_lg
  rw [h3, i3_toNat ht, i3_one]
/-! specifications of the commands: what is thrown (0: nothing), the answer, the row -/
abbrev md_Sp : Type := Nat × Int32 × md_R
def md_iw (w : Int32) : Bool := decide (i3 10 ≤ w) && decide (w ≤ i3 150)
def sp_add (g : md_R) (s e w : Int32) : md_Sp := if md_fl s = true ∧ md_fl e = true ∧ s ≠ e ∧ md_iw w = true then (if md_n g = 12 then (2, i3 0, g) else (0, i3 (md_n g), md_ad g s e w)) else (1, i3 0, g)
def sp_rem (g : md_R) (v : Int32) : md_Sp := if md_ip g v = true then (if g (99 + v.toNatClampNeg) = i3 1 then (2, i3 0, g) else (0, g (27 + v.toNatClampNeg), md_dr g v.toNatClampNeg)) else (1, i3 0, g)
def sp_hold (g : md_R) (v s : Int32) : md_Sp := if md_ic v = true then (if (decide (i3 1 ≤ s) && decide (s ≤ i3 3)) = true then (if g (18 + v.toNatClampNeg) = i3 0 then (3, i3 0, g) else (0, g (18 + v.toNatClampNeg), va_up g (18 + v.toNatClampNeg) s)) else (2, i3 0, g)) else (1, i3 0, g)
def md_ca (g : md_R) (c : Nat) : Int32 := md_sum (fun p => if md_aw g p c then 1 else 0) (md_n g)
def sp_stop (g : md_R) (v : Int32) : md_Sp := if md_ic v = true then (if g (21 + v.toNatClampNeg) = i3 1 then (2, i3 0, g) else (0, md_ca g v.toNatClampNeg, md_so g v.toNatClampNeg)) else (1, i3 0, g)
def sp_start (g : md_R) (v : Int32) : md_Sp := if md_ic v = true then (if g (21 + v.toNatClampNeg) = i3 0 then (2, i3 0, g) else (0, i3 3 - va_up g (21 + v.toNatClampNeg) 0 21 - va_up g (21 + v.toNatClampNeg) 0 22 - va_up g (21 + v.toNatClampNeg) 0 23, va_up g (21 + v.toNatClampNeg) 0)) else (1, i3 0, g)
def sp_limit (g : md_R) (v k : Int32) : md_Sp := if md_ic v = true then (if (decide (i3 100 ≤ k) && decide (k ≤ i3 900)) = true then (if md_ld g v.toNatClampNeg ≤ k then (0, g (15 + v.toNatClampNeg), va_up g (15 + v.toNatClampNeg) k) else (3, i3 0, g)) else (2, i3 0, g)) else (1, i3 0, g)
def sp_adv (g : md_R) (v : Int32) : md_Sp := if (decide (i3 1 ≤ v) && decide (v ≤ i3 30)) = true then (0, md_it g v.toNatClampNeg 3 - g 3, md_it g v.toNatClampNeg) else (1, i3 0, g)
abbrev qs (sp : md_Sp) (M : am_Hp) (A : Nat → Nat) : am_Q := qi sp.2.1 (hp_sI (hp_sA M (A 1) sp.2.2) 153 (A 0) (i3 sp.1))
theorem qs_f {sp : md_Sp} {M : am_Hp} {A : Nat → Nat} {g : md_R} {k : Nat} (hg : hp_E M (A 1) = g) (e : sp = (k, i3 0, g)) : qs sp M A (.inl (some (.int (i3 0)))) (hp_sI M 153 (A 0) (i3 k)) := by
  rw [e]
  refine ⟨rfl, ?_⟩
  show _ = hp_sI (hp_sA M (A 1) g) 153 (A 0) (i3 k)
  rw [hp_sA_nd hg]
theorem qs_t {sp : md_Sp} {M : am_Hp} {A : Nat → Nat} {g' : md_R} {v : Int32} (e : sp = (0, v, g')) : qs sp M A (.inl (some (.int v))) (hp_sI (hp_sA M (A 1) g') 153 (A 0) (i3 0)) := by
  rw [e]
  exact ⟨rfl, rfl⟩
theorem c_adds {G : am_Gx} {d : Nat} {M : am_Hp} {A : Nat → Nat} {g : md_R} {s e w : Int32} (h : mL M A) (hg : hp_E M (A 1) = g) (ok : md_ok g) : am_CT G (d + 7) rX7_adds [.ref (A 0), .int s, .int e, .int w] M 0 0 (qs (sp_add g s e w) M A) := by
  have h0 := h
  have ok0 := ok
  obtain ⟨t0, r1, r2, r3, r4, r5, r6, r7, r8, t1, t2, t3, t4, t5, t6, t7, t8, n1, n2, n3, n4, n5, n6, n7, n8, z1, z2, z3, z4, z5, z6, z7, z8, hJ⟩ := h
  obtain ⟨e1, h12⟩ := ok
  refine am_intro mkX7_adds rfl (Nat.le_of_ble_eq_true rfl) rfl (fun X hX hM => ?_)
  refine vX7_adds_0 hX hM ?_
  refine ct_i c_isFloor ?_
  simp (disch := omega) only [t0, r1, r2, r3, r4, r5, r6, r7, r8, t1, t2, t3, t4, t5, t6, t7, t8, n1, n2, n3, n4, n5, n6, n7, n8, z1, z2, z3, z4, z5, z6, z7, z8, forall_eq, Nat.reduceAdd, Nat.reduceMul, Nat.reduceEqDiff, Nat.reduceLeDiff, Nat.reduceSub, ne_eq, not_false_eq_true, not_true_eq_false, false_implies, true_implies, implies_true, true_and, and_true, eq_self, li0, li1, li2, li3, li4, li5, li6, li7, li8, li9, li10, li11, li12, li15, li18, li21, li22, li23, li24, li27, li30, li32, li39, li50, li51, li59, li60, li63, li75, li87, li90, li99, li100, li111, li121, li126, li131, li141, li150, li400, li900, li987, li1128, li240, i3_add, i3_toNat, vpt, bI_0, bI_1, bI_bo, Bool.not_eq_false, Bool.true_eq_false, Bool.false_eq_true, Bool.not_eq_true, i3_le', i3_lt', i3_eq', hp_sE_sA, hp_sA_sA, hp_E_sA, hp_T_sA, hp_N_sA, hp_R_sA, hp_I_sA, hp_T_sI, hp_N_sI, hp_R_sI, hp_E_sI, hp_I_sI, hp_sA_sI, hp_sI_sI, hg]
  refine ⟨fun a1 => ct_i (c_fails h0) (qs_f hg (by unfold sp_add; rw [if_neg (by rw [a1]; simp)])), fun a1 => ct_i c_isFloor ?_⟩
  simp (disch := omega) only [t0, r1, r2, r3, r4, r5, r6, r7, r8, t1, t2, t3, t4, t5, t6, t7, t8, n1, n2, n3, n4, n5, n6, n7, n8, z1, z2, z3, z4, z5, z6, z7, z8, forall_eq, Nat.reduceAdd, Nat.reduceMul, Nat.reduceEqDiff, Nat.reduceLeDiff, Nat.reduceSub, ne_eq, not_false_eq_true, not_true_eq_false, false_implies, true_implies, implies_true, true_and, and_true, eq_self, li0, li1, li2, li3, li4, li5, li6, li7, li8, li9, li10, li11, li12, li15, li18, li21, li22, li23, li24, li27, li30, li32, li39, li50, li51, li59, li60, li63, li75, li87, li90, li99, li100, li111, li121, li126, li131, li141, li150, li400, li900, li987, li1128, li240, i3_add, i3_toNat, vpt, bI_0, bI_1, bI_bo, Bool.not_eq_false, Bool.true_eq_false, Bool.false_eq_true, Bool.not_eq_true, i3_le', i3_lt', i3_eq', hp_sE_sA, hp_sA_sA, hp_E_sA, hp_T_sA, hp_N_sA, hp_R_sA, hp_I_sA, hp_T_sI, hp_N_sI, hp_R_sI, hp_E_sI, hp_I_sI, hp_sA_sI, hp_sI_sI, hg]
  refine ⟨fun a2 => ct_i (c_fails h0) (qs_f hg (by unfold sp_add; rw [if_neg (by rw [a2]; simp)])), fun a2 => ?_⟩
  refine ⟨fun a3 => ct_i (c_fails h0) (qs_f hg (by unfold sp_add; rw [if_neg (fun z => z.2.2.1 a3)])), fun a3 => ct_i c_in ?_⟩
  simp (disch := omega) only [t0, r1, r2, r3, r4, r5, r6, r7, r8, t1, t2, t3, t4, t5, t6, t7, t8, n1, n2, n3, n4, n5, n6, n7, n8, z1, z2, z3, z4, z5, z6, z7, z8, forall_eq, Nat.reduceAdd, Nat.reduceMul, Nat.reduceEqDiff, Nat.reduceLeDiff, Nat.reduceSub, ne_eq, not_false_eq_true, not_true_eq_false, false_implies, true_implies, implies_true, true_and, and_true, eq_self, li0, li1, li2, li3, li4, li5, li6, li7, li8, li9, li10, li11, li12, li15, li18, li21, li22, li23, li24, li27, li30, li32, li39, li50, li51, li59, li60, li63, li75, li87, li90, li99, li100, li111, li121, li126, li131, li141, li150, li400, li900, li987, li1128, li240, i3_add, i3_toNat, vpt, bI_0, bI_1, bI_bo, Bool.not_eq_false, Bool.true_eq_false, Bool.false_eq_true, Bool.not_eq_true, i3_le', i3_lt', i3_eq', hp_sE_sA, hp_sA_sA, hp_E_sA, hp_T_sA, hp_N_sA, hp_R_sA, hp_I_sA, hp_T_sI, hp_N_sI, hp_R_sI, hp_E_sI, hp_I_sI, hp_sA_sI, hp_sI_sI, hg, e1]
  refine ⟨fun a4 => ct_i (c_fails h0) (qs_f hg (by unfold sp_add md_iw; rw [if_neg (by rw [a4]; simp)])), fun a4 => ⟨fun a5 => ct_i (c_fails h0) (qs_f hg (by unfold sp_add; rw [if_pos ⟨a1, a2, a3, a4⟩, if_pos a5])), fun a5 => ?_⟩⟩
  simp (disch := omega) only [t0, r1, r2, r3, r4, r5, r6, r7, r8, t1, t2, t3, t4, t5, t6, t7, t8, n1, n2, n3, n4, n5, n6, n7, n8, z1, z2, z3, z4, z5, z6, z7, z8, forall_eq, Nat.reduceAdd, Nat.reduceMul, Nat.reduceEqDiff, Nat.reduceLeDiff, Nat.reduceSub, ne_eq, not_false_eq_true, not_true_eq_false, false_implies, true_implies, implies_true, true_and, and_true, eq_self, li0, li1, li2, li3, li4, li5, li6, li7, li8, li9, li10, li11, li12, li15, li18, li21, li22, li23, li24, li27, li30, li32, li39, li50, li51, li59, li60, li63, li75, li87, li90, li99, li100, li111, li121, li126, li131, li141, li150, li400, li900, li987, li1128, li240, i3_add, i3_toNat, vpt, bI_0, bI_1, bI_bo, Bool.not_eq_false, Bool.true_eq_false, Bool.false_eq_true, Bool.not_eq_true, i3_le', i3_lt', i3_eq', hp_sE_sA, hp_sA_sA, hp_E_sA, hp_T_sA, hp_N_sA, hp_R_sA, hp_I_sA, hp_T_sI, hp_N_sI, hp_R_sI, hp_E_sI, hp_I_sI, hp_sA_sI, hp_sI_sI, hg, e1, up_n']
  refine ct_v (c_assigns (M := hp_sA M (A 1) _) h0 (hp_E_sA _ _ _) ?_ (by omega)) ?_
  · have q : va_up (va_up (va_up (va_up (va_up (va_up (va_up (va_up (va_up g (27 + md_n g) (g 2)) (39 + md_n g) s) (51 + md_n g) e) (63 + md_n g) w) (75 + md_n g) (i3 0)) (99 + md_n g) (i3 0)) (87 + md_n g) (i3 0)) 1 (i3 (md_n g + 1))) 2 (g 2 + i3 1) 1 = i3 (md_n g + 1) := by rw [up_n _ _ (by omega), up_e]
    unfold md_ok
    rw [md_n_of q (by omega)]
    exact ⟨q, by omega⟩
  · simp (disch := omega) only [t0, r1, r2, r3, r4, r5, r6, r7, r8, t1, t2, t3, t4, t5, t6, t7, t8, n1, n2, n3, n4, n5, n6, n7, n8, z1, z2, z3, z4, z5, z6, z7, z8, forall_eq, Nat.reduceAdd, Nat.reduceMul, Nat.reduceEqDiff, Nat.reduceLeDiff, Nat.reduceSub, ne_eq, not_false_eq_true, not_true_eq_false, false_implies, true_implies, implies_true, true_and, and_true, eq_self, li0, li1, li2, li3, li4, li5, li6, li7, li8, li9, li10, li11, li12, li15, li18, li21, li22, li23, li24, li27, li30, li32, li39, li50, li51, li59, li60, li63, li75, li87, li90, li99, li100, li111, li121, li126, li131, li141, li150, li400, li900, li987, li1128, li240, i3_add, i3_toNat, vpt, bI_0, bI_1, bI_bo, Bool.not_eq_false, Bool.true_eq_false, Bool.false_eq_true, Bool.not_eq_true, i3_le', i3_lt', i3_eq', hp_sE_sA, hp_sA_sA, hp_E_sA, hp_T_sA, hp_N_sA, hp_R_sA, hp_I_sA, hp_T_sI, hp_N_sI, hp_R_sI, hp_E_sI, hp_I_sI, hp_sA_sI, hp_sI_sI, hg]
    refine ct_i (c_done (M := hp_sA M (A 1) _) h0) ?_
    refine qs_t ?_
    unfold sp_add md_ad
    rw [if_pos ⟨a1, a2, a3, a4⟩, if_neg a5, e1, i3_one]
    rfl
theorem c_removes {G : am_Gx} {d : Nat} {M : am_Hp} {A : Nat → Nat} {g : md_R} {v : Int32} (h : mL M A) (hg : hp_E M (A 1) = g) (ok : md_ok g) : am_CT G (d + 3) rX7_removes [.ref (A 0), .int v] M 0 0 (qs (sp_rem g v) M A) := by
  have h0 := h
  have ok0 := ok
  obtain ⟨t0, r1, r2, r3, r4, r5, r6, r7, r8, t1, t2, t3, t4, t5, t6, t7, t8, n1, n2, n3, n4, n5, n6, n7, n8, z1, z2, z3, z4, z5, z6, z7, z8, hJ⟩ := h
  obtain ⟨e1, h12⟩ := ok
  refine am_intro mkX7_removes rfl (Nat.le_of_ble_eq_true rfl) rfl (fun X hX hM => ?_)
  refine vX7_removes_0 hX hM ?_
  refine ⟨t0, ct_i (c_isPassenger h0 hg ok0) ?_⟩
  simp (disch := omega) only [t0, r1, r2, r3, r4, r5, r6, r7, r8, t1, t2, t3, t4, t5, t6, t7, t8, n1, n2, n3, n4, n5, n6, n7, n8, z1, z2, z3, z4, z5, z6, z7, z8, forall_eq, Nat.reduceAdd, Nat.reduceMul, Nat.reduceEqDiff, Nat.reduceLeDiff, Nat.reduceSub, ne_eq, not_false_eq_true, not_true_eq_false, false_implies, true_implies, implies_true, true_and, and_true, eq_self, li0, li1, li2, li3, li4, li5, li6, li7, li8, li9, li10, li11, li12, li15, li18, li21, li22, li23, li24, li27, li30, li32, li39, li50, li51, li59, li60, li63, li75, li87, li90, li99, li100, li111, li121, li126, li131, li141, li150, li400, li900, li987, li1128, li240, i3_add, i3_toNat, vpt, bI_0, bI_1, bI_bo, Bool.not_eq_false, Bool.true_eq_false, Bool.false_eq_true, Bool.not_eq_true, i3_le', i3_lt', i3_eq', hp_sE_sA, hp_sA_sA, hp_E_sA, hp_T_sA, hp_N_sA, hp_R_sA, hp_I_sA, hp_T_sI, hp_N_sI, hp_R_sI, hp_E_sI, hp_I_sI, hp_sA_sI, hp_sI_sI, hg]
  refine ⟨fun a1 => ct_i (c_fails h0) (qs_f hg (by unfold sp_rem; rw [if_neg (by rw [a1]; decide)])), fun a1 => ?_⟩
  obtain ⟨p, hp, rfl⟩ := (md_ip_iff ok0).mp a1
  simp (disch := omega) only [t0, r1, r2, r3, r4, r5, r6, r7, r8, t1, t2, t3, t4, t5, t6, t7, t8, n1, n2, n3, n4, n5, n6, n7, n8, z1, z2, z3, z4, z5, z6, z7, z8, forall_eq, Nat.reduceAdd, Nat.reduceMul, Nat.reduceEqDiff, Nat.reduceLeDiff, Nat.reduceSub, ne_eq, not_false_eq_true, not_true_eq_false, false_implies, true_implies, implies_true, true_and, and_true, eq_self, li0, li1, li2, li3, li4, li5, li6, li7, li8, li9, li10, li11, li12, li15, li18, li21, li22, li23, li24, li27, li30, li32, li39, li50, li51, li59, li60, li63, li75, li87, li90, li99, li100, li111, li121, li126, li131, li141, li150, li400, li900, li987, li1128, li240, i3_add, i3_toNat, vpt, bI_0, bI_1, bI_bo, Bool.not_eq_false, Bool.true_eq_false, Bool.false_eq_true, Bool.not_eq_true, i3_le', i3_lt', i3_eq', hp_sE_sA, hp_sA_sA, hp_E_sA, hp_T_sA, hp_N_sA, hp_R_sA, hp_I_sA, hp_T_sI, hp_N_sI, hp_R_sI, hp_E_sI, hp_I_sI, hp_sA_sI, hp_sI_sI, hg]
  refine ⟨fun a2 => ct_i (c_fails h0) (qs_f hg (by unfold sp_rem; rw [if_pos a1, i3_toNat (by omega), if_pos a2])), fun a2 => ct_v (c_drops h0 hg (by omega)) ?_⟩
  simp (disch := omega) only [t0, r1, r2, r3, r4, r5, r6, r7, r8, t1, t2, t3, t4, t5, t6, t7, t8, n1, n2, n3, n4, n5, n6, n7, n8, z1, z2, z3, z4, z5, z6, z7, z8, forall_eq, Nat.reduceAdd, Nat.reduceMul, Nat.reduceEqDiff, Nat.reduceLeDiff, Nat.reduceSub, ne_eq, not_false_eq_true, not_true_eq_false, false_implies, true_implies, implies_true, true_and, and_true, eq_self, li0, li1, li2, li3, li4, li5, li6, li7, li8, li9, li10, li11, li12, li15, li18, li21, li22, li23, li24, li27, li30, li32, li39, li50, li51, li59, li60, li63, li75, li87, li90, li99, li100, li111, li121, li126, li131, li141, li150, li400, li900, li987, li1128, li240, i3_add, i3_toNat, vpt, bI_0, bI_1, bI_bo, Bool.not_eq_false, Bool.true_eq_false, Bool.false_eq_true, Bool.not_eq_true, i3_le', i3_lt', i3_eq', hp_sE_sA, hp_sA_sA, hp_E_sA, hp_T_sA, hp_N_sA, hp_R_sA, hp_I_sA, hp_T_sI, hp_N_sI, hp_R_sI, hp_E_sI, hp_I_sI, hp_sA_sI, hp_sI_sI, hg]
  refine ct_i (c_done (M := hp_sA M (A 1) _) h0) (qs_t ?_)
  unfold sp_rem
  rw [if_pos a1, i3_toNat (by omega), if_neg a2]
theorem c_holds {G : am_Gx} {d : Nat} {M : am_Hp} {A : Nat → Nat} {g : md_R} {v s : Int32} (h : mL M A) (hg : hp_E M (A 1) = g) : am_CT G (d + 3) rX7_holds [.ref (A 0), .int v, .int s] M 0 0 (qs (sp_hold g v s) M A) := by
  have h0 := h
  obtain ⟨t0, r1, r2, r3, r4, r5, r6, r7, r8, t1, t2, t3, t4, t5, t6, t7, t8, n1, n2, n3, n4, n5, n6, n7, n8, z1, z2, z3, z4, z5, z6, z7, z8, hJ⟩ := h
  refine am_intro mkX7_holds rfl (Nat.le_of_ble_eq_true rfl) rfl (fun X hX hM => ?_)
  refine vX7_holds_0 hX hM ?_
  refine ct_i c_isCar ?_
  simp (disch := omega) only [t0, r1, r2, r3, r4, r5, r6, r7, r8, t1, t2, t3, t4, t5, t6, t7, t8, n1, n2, n3, n4, n5, n6, n7, n8, z1, z2, z3, z4, z5, z6, z7, z8, forall_eq, Nat.reduceAdd, Nat.reduceMul, Nat.reduceEqDiff, Nat.reduceLeDiff, Nat.reduceSub, ne_eq, not_false_eq_true, not_true_eq_false, false_implies, true_implies, implies_true, true_and, and_true, eq_self, li0, li1, li2, li3, li4, li5, li6, li7, li8, li9, li10, li11, li12, li15, li18, li21, li22, li23, li24, li27, li30, li32, li39, li50, li51, li59, li60, li63, li75, li87, li90, li99, li100, li111, li121, li126, li131, li141, li150, li400, li900, li987, li1128, li240, i3_add, i3_toNat, vpt, bI_0, bI_1, bI_bo, Bool.not_eq_false, Bool.true_eq_false, Bool.false_eq_true, Bool.not_eq_true, i3_le', i3_lt', i3_eq', hp_sE_sA, hp_sA_sA, hp_E_sA, hp_T_sA, hp_N_sA, hp_R_sA, hp_I_sA, hp_T_sI, hp_N_sI, hp_R_sI, hp_E_sI, hp_I_sI, hp_sA_sI, hp_sI_sI, hg]
  refine ⟨fun a1 => ct_i (c_fails h0) (qs_f hg (by unfold sp_hold; rw [if_neg (by rw [a1]; decide)])), fun a1 => ct_i c_in ?_⟩
  obtain ⟨c, hc, rfl⟩ := md_ic_iff.mp a1
  simp (disch := omega) only [t0, r1, r2, r3, r4, r5, r6, r7, r8, t1, t2, t3, t4, t5, t6, t7, t8, n1, n2, n3, n4, n5, n6, n7, n8, z1, z2, z3, z4, z5, z6, z7, z8, forall_eq, Nat.reduceAdd, Nat.reduceMul, Nat.reduceEqDiff, Nat.reduceLeDiff, Nat.reduceSub, ne_eq, not_false_eq_true, not_true_eq_false, false_implies, true_implies, implies_true, true_and, and_true, eq_self, li0, li1, li2, li3, li4, li5, li6, li7, li8, li9, li10, li11, li12, li15, li18, li21, li22, li23, li24, li27, li30, li32, li39, li50, li51, li59, li60, li63, li75, li87, li90, li99, li100, li111, li121, li126, li131, li141, li150, li400, li900, li987, li1128, li240, i3_add, i3_toNat, vpt, bI_0, bI_1, bI_bo, Bool.not_eq_false, Bool.true_eq_false, Bool.false_eq_true, Bool.not_eq_true, i3_le', i3_lt', i3_eq', hp_sE_sA, hp_sA_sA, hp_E_sA, hp_T_sA, hp_N_sA, hp_R_sA, hp_I_sA, hp_T_sI, hp_N_sI, hp_R_sI, hp_E_sI, hp_I_sI, hp_sA_sI, hp_sI_sI, hg]
  refine ⟨fun a2 => ct_i (c_fails h0) (qs_f hg (by unfold sp_hold; rw [if_pos a1, if_neg (by rw [a2]; decide)])), fun a2 => ⟨fun a3 => ct_i (c_fails h0) (qs_f hg (by unfold sp_hold; rw [if_pos a1, if_pos a2, i3_toNat (by omega), if_pos a3])), fun a3 => ?_⟩⟩
  refine ct_i (c_done (M := hp_sA M (A 1) _) h0) (qs_t ?_)
  unfold sp_hold
  rw [if_pos a1, if_pos a2, i3_toNat (by omega), if_neg a3]
theorem c_limits {G : am_Gx} {d : Nat} {M : am_Hp} {A : Nat → Nat} {g : md_R} {v s : Int32} (h : mL M A) (hg : hp_E M (A 1) = g) (ok : md_ok g) : am_CT G (d + 3) rX7_limits [.ref (A 0), .int v, .int s] M 0 0 (qs (sp_limit g v s) M A) := by
  have h0 := h
  obtain ⟨t0, r1, r2, r3, r4, r5, r6, r7, r8, t1, t2, t3, t4, t5, t6, t7, t8, n1, n2, n3, n4, n5, n6, n7, n8, z1, z2, z3, z4, z5, z6, z7, z8, hJ⟩ := h
  refine am_intro mkX7_limits rfl (Nat.le_of_ble_eq_true rfl) rfl (fun X hX hM => ?_)
  refine vX7_limits_0 hX hM ?_
  refine ct_i c_isCar ?_
  simp (disch := omega) only [t0, r1, r2, r3, r4, r5, r6, r7, r8, t1, t2, t3, t4, t5, t6, t7, t8, n1, n2, n3, n4, n5, n6, n7, n8, z1, z2, z3, z4, z5, z6, z7, z8, forall_eq, Nat.reduceAdd, Nat.reduceMul, Nat.reduceEqDiff, Nat.reduceLeDiff, Nat.reduceSub, ne_eq, not_false_eq_true, not_true_eq_false, false_implies, true_implies, implies_true, true_and, and_true, eq_self, li0, li1, li2, li3, li4, li5, li6, li7, li8, li9, li10, li11, li12, li15, li18, li21, li22, li23, li24, li27, li30, li32, li39, li50, li51, li59, li60, li63, li75, li87, li90, li99, li100, li111, li121, li126, li131, li141, li150, li400, li900, li987, li1128, li240, i3_add, i3_toNat, vpt, bI_0, bI_1, bI_bo, Bool.not_eq_false, Bool.true_eq_false, Bool.false_eq_true, Bool.not_eq_true, i3_le', i3_lt', i3_eq', hp_sE_sA, hp_sA_sA, hp_E_sA, hp_T_sA, hp_N_sA, hp_R_sA, hp_I_sA, hp_T_sI, hp_N_sI, hp_R_sI, hp_E_sI, hp_I_sI, hp_sA_sI, hp_sI_sI, hg]
  refine ⟨fun a1 => ct_i (c_fails h0) (qs_f hg (by unfold sp_limit; rw [if_neg (by rw [a1]; decide)])), fun a1 => ct_i c_in ?_⟩
  obtain ⟨c, hc, rfl⟩ := md_ic_iff.mp a1
  simp (disch := omega) only [t0, r1, r2, r3, r4, r5, r6, r7, r8, t1, t2, t3, t4, t5, t6, t7, t8, n1, n2, n3, n4, n5, n6, n7, n8, z1, z2, z3, z4, z5, z6, z7, z8, forall_eq, Nat.reduceAdd, Nat.reduceMul, Nat.reduceEqDiff, Nat.reduceLeDiff, Nat.reduceSub, ne_eq, not_false_eq_true, not_true_eq_false, false_implies, true_implies, implies_true, true_and, and_true, eq_self, li0, li1, li2, li3, li4, li5, li6, li7, li8, li9, li10, li11, li12, li15, li18, li21, li22, li23, li24, li27, li30, li32, li39, li50, li51, li59, li60, li63, li75, li87, li90, li99, li100, li111, li121, li126, li131, li141, li150, li400, li900, li987, li1128, li240, i3_add, i3_toNat, vpt, bI_0, bI_1, bI_bo, Bool.not_eq_false, Bool.true_eq_false, Bool.false_eq_true, Bool.not_eq_true, i3_le', i3_lt', i3_eq', hp_sE_sA, hp_sA_sA, hp_E_sA, hp_T_sA, hp_N_sA, hp_R_sA, hp_I_sA, hp_T_sI, hp_N_sI, hp_R_sI, hp_E_sI, hp_I_sI, hp_sA_sI, hp_sI_sI, hg]
  refine ⟨fun a2 => ct_i (c_fails h0) (qs_f hg (by unfold sp_limit; rw [if_pos a1, if_neg (by rw [a2]; decide)])), fun a2 => ct_i (c_loadOf h0 hg ok) ?_⟩
  simp (disch := omega) only [t0, r1, r2, r3, r4, r5, r6, r7, r8, t1, t2, t3, t4, t5, t6, t7, t8, n1, n2, n3, n4, n5, n6, n7, n8, z1, z2, z3, z4, z5, z6, z7, z8, forall_eq, Nat.reduceAdd, Nat.reduceMul, Nat.reduceEqDiff, Nat.reduceLeDiff, Nat.reduceSub, ne_eq, not_false_eq_true, not_true_eq_false, false_implies, true_implies, implies_true, true_and, and_true, eq_self, li0, li1, li2, li3, li4, li5, li6, li7, li8, li9, li10, li11, li12, li15, li18, li21, li22, li23, li24, li27, li30, li32, li39, li50, li51, li59, li60, li63, li75, li87, li90, li99, li100, li111, li121, li126, li131, li141, li150, li400, li900, li987, li1128, li240, i3_add, i3_toNat, vpt, bI_0, bI_1, bI_bo, Bool.not_eq_false, Bool.true_eq_false, Bool.false_eq_true, Bool.not_eq_true, i3_le', i3_lt', i3_eq', hp_sE_sA, hp_sA_sA, hp_E_sA, hp_T_sA, hp_N_sA, hp_R_sA, hp_I_sA, hp_T_sI, hp_N_sI, hp_R_sI, hp_E_sI, hp_I_sI, hp_sA_sI, hp_sI_sI, hg]
  refine ⟨fun a3 => ?_, fun a3 => ct_i (c_fails h0) (qs_f hg (by unfold sp_limit; rw [if_pos a1, if_pos a2, i3_toNat (by omega), if_neg a3]))⟩
  refine ct_i (c_done (M := hp_sA M (A 1) _) h0) (qs_t ?_)
  unfold sp_limit
  rw [if_pos a1, if_pos a2, i3_toNat (by omega), if_pos a3]
theorem c_starts {G : am_Gx} {d : Nat} {M : am_Hp} {A : Nat → Nat} {g : md_R} {v : Int32} (h : mL M A) (hg : hp_E M (A 1) = g) : am_CT G (d + 3) rX7_starts [.ref (A 0), .int v] M 0 0 (qs (sp_start g v) M A) := by
  have h0 := h
  obtain ⟨t0, r1, r2, r3, r4, r5, r6, r7, r8, t1, t2, t3, t4, t5, t6, t7, t8, n1, n2, n3, n4, n5, n6, n7, n8, z1, z2, z3, z4, z5, z6, z7, z8, hJ⟩ := h
  refine am_intro mkX7_starts rfl (Nat.le_of_ble_eq_true rfl) rfl (fun X hX hM => ?_)
  refine vX7_starts_0 hX hM ?_
  refine ct_i c_isCar ?_
  simp (disch := omega) only [t0, r1, r2, r3, r4, r5, r6, r7, r8, t1, t2, t3, t4, t5, t6, t7, t8, n1, n2, n3, n4, n5, n6, n7, n8, z1, z2, z3, z4, z5, z6, z7, z8, forall_eq, Nat.reduceAdd, Nat.reduceMul, Nat.reduceEqDiff, Nat.reduceLeDiff, Nat.reduceSub, ne_eq, not_false_eq_true, not_true_eq_false, false_implies, true_implies, implies_true, true_and, and_true, eq_self, li0, li1, li2, li3, li4, li5, li6, li7, li8, li9, li10, li11, li12, li15, li18, li21, li22, li23, li24, li27, li30, li32, li39, li50, li51, li59, li60, li63, li75, li87, li90, li99, li100, li111, li121, li126, li131, li141, li150, li400, li900, li987, li1128, li240, i3_add, i3_toNat, vpt, bI_0, bI_1, bI_bo, Bool.not_eq_false, Bool.true_eq_false, Bool.false_eq_true, Bool.not_eq_true, i3_le', i3_lt', i3_eq', hp_sE_sA, hp_sA_sA, hp_E_sA, hp_T_sA, hp_N_sA, hp_R_sA, hp_I_sA, hp_T_sI, hp_N_sI, hp_R_sI, hp_E_sI, hp_I_sI, hp_sA_sI, hp_sI_sI, hg]
  refine ⟨fun a1 => ct_i (c_fails h0) (qs_f hg (by unfold sp_start; rw [if_neg (by rw [a1]; decide)])), fun a1 => ?_⟩
  obtain ⟨c, hc, rfl⟩ := md_ic_iff.mp a1
  simp (disch := omega) only [t0, r1, r2, r3, r4, r5, r6, r7, r8, t1, t2, t3, t4, t5, t6, t7, t8, n1, n2, n3, n4, n5, n6, n7, n8, z1, z2, z3, z4, z5, z6, z7, z8, forall_eq, Nat.reduceAdd, Nat.reduceMul, Nat.reduceEqDiff, Nat.reduceLeDiff, Nat.reduceSub, ne_eq, not_false_eq_true, not_true_eq_false, false_implies, true_implies, implies_true, true_and, and_true, eq_self, li0, li1, li2, li3, li4, li5, li6, li7, li8, li9, li10, li11, li12, li15, li18, li21, li22, li23, li24, li27, li30, li32, li39, li50, li51, li59, li60, li63, li75, li87, li90, li99, li100, li111, li121, li126, li131, li141, li150, li400, li900, li987, li1128, li240, i3_add, i3_toNat, vpt, bI_0, bI_1, bI_bo, Bool.not_eq_false, Bool.true_eq_false, Bool.false_eq_true, Bool.not_eq_true, i3_le', i3_lt', i3_eq', hp_sE_sA, hp_sA_sA, hp_E_sA, hp_T_sA, hp_N_sA, hp_R_sA, hp_I_sA, hp_T_sI, hp_N_sI, hp_R_sI, hp_E_sI, hp_I_sI, hp_sA_sI, hp_sI_sI, hg]
  refine ⟨fun a2 => ct_i (c_fails h0) (qs_f hg (by unfold sp_start; rw [if_pos a1, i3_toNat (by omega), if_pos a2])), fun a2 => ?_⟩
  refine ct_i (c_done (M := hp_sA M (A 1) _) h0) (qs_t ?_)
  unfold sp_start
  rw [if_pos a1, i3_toNat (by omega), if_neg a2]
  rfl
theorem md_fo_s (F : md_R → Nat → md_R) (g : md_R) (k : Nat) : md_fo F g (k + 1) = F (md_fo F g k) k := rfl
theorem md_r1_eq (c : Nat) (g : md_R) (p : Nat) : md_r1 c g p = if md_aw g p c then va_up g (87 + p) 0 else g := rfl
theorem md_r1_far {c : Nat} {g : md_R} {p k : Nat} (h : k ≠ 87 + p) : md_r1 c g p k = g k := by
  unfold md_r1
  split
  · exact up_n _ _ h
  · rfl
theorem md_fr_far {c : Nat} {g : md_R} : ∀ (n k : Nat), (k < 87 ∨ 87 + n ≤ k) → md_fo (md_r1 c) g n k = g k
  | 0, _, _ => rfl
  | n + 1, k, h => by rw [md_fo_s, md_r1_far (by omega), md_fr_far n k (by omega)]
theorem c_stops {G : am_Gx} {d : Nat} {M : am_Hp} {A : Nat → Nat} {g : md_R} {v : Int32} (h : mL M A) (hg : hp_E M (A 1) = g) (ok : md_ok g) : am_CT G (d + 3) rX7_stops [.ref (A 0), .int v] M 0 0 (qs (sp_stop g v) M A) := by
  have h0 := h
  obtain ⟨t0, r1, r2, r3, r4, r5, r6, r7, r8, t1, t2, t3, t4, t5, t6, t7, t8, n1, n2, n3, n4, n5, n6, n7, n8, z1, z2, z3, z4, z5, z6, z7, z8, hJ⟩ := h
  obtain ⟨e1, h12⟩ := ok
  refine am_intro mkX7_stops rfl (Nat.le_of_ble_eq_true rfl) rfl (fun X hX hM => ?_)
  refine vX7_stops_0 hX hM (fun x0 x1 x2 x3 M => am_J X 36 [(0, .ref x0), (1, .int x1), (2, .int x2), (3, .int x3)] [] M 0 0) (fun _ _ _ _ _ h => h) ?_
  refine ct_i c_isCar ?_
  simp (disch := omega) only [t0, r1, r2, r3, r4, r5, r6, r7, r8, t1, t2, t3, t4, t5, t6, t7, t8, n1, n2, n3, n4, n5, n6, n7, n8, z1, z2, z3, z4, z5, z6, z7, z8, forall_eq, Nat.reduceAdd, Nat.reduceMul, Nat.reduceEqDiff, Nat.reduceLeDiff, Nat.reduceSub, ne_eq, not_false_eq_true, not_true_eq_false, false_implies, true_implies, implies_true, true_and, and_true, eq_self, li0, li1, li2, li3, li4, li5, li6, li7, li8, li9, li10, li11, li12, li15, li18, li21, li22, li23, li24, li27, li30, li32, li39, li50, li51, li59, li60, li63, li75, li87, li90, li99, li100, li111, li121, li126, li131, li141, li150, li400, li900, li987, li1128, li240, i3_add, i3_toNat, vpt, bI_0, bI_1, bI_bo, Bool.not_eq_false, Bool.true_eq_false, Bool.false_eq_true, Bool.not_eq_true, i3_le', i3_lt', i3_eq', hp_sE_sA, hp_sA_sA, hp_E_sA, hp_T_sA, hp_N_sA, hp_R_sA, hp_I_sA, hp_T_sI, hp_N_sI, hp_R_sI, hp_E_sI, hp_I_sI, hp_sA_sI, hp_sI_sI, hg]
  refine ⟨fun a1 => ct_i (c_fails h0) (qs_f hg (by unfold sp_stop; rw [if_neg (by rw [a1]; decide)])), fun a1 => ?_⟩
  obtain ⟨c, hc, rfl⟩ := md_ic_iff.mp a1
  simp (disch := omega) only [t0, r1, r2, r3, r4, r5, r6, r7, r8, t1, t2, t3, t4, t5, t6, t7, t8, n1, n2, n3, n4, n5, n6, n7, n8, z1, z2, z3, z4, z5, z6, z7, z8, forall_eq, Nat.reduceAdd, Nat.reduceMul, Nat.reduceEqDiff, Nat.reduceLeDiff, Nat.reduceSub, ne_eq, not_false_eq_true, not_true_eq_false, false_implies, true_implies, implies_true, true_and, and_true, eq_self, li0, li1, li2, li3, li4, li5, li6, li7, li8, li9, li10, li11, li12, li15, li18, li21, li22, li23, li24, li27, li30, li32, li39, li50, li51, li59, li60, li63, li75, li87, li90, li99, li100, li111, li121, li126, li131, li141, li150, li400, li900, li987, li1128, li240, i3_add, i3_toNat, vpt, bI_0, bI_1, bI_bo, Bool.not_eq_false, Bool.true_eq_false, Bool.false_eq_true, Bool.not_eq_true, i3_le', i3_lt', i3_eq', hp_sE_sA, hp_sA_sA, hp_E_sA, hp_T_sA, hp_N_sA, hp_R_sA, hp_I_sA, hp_T_sI, hp_N_sI, hp_R_sI, hp_E_sI, hp_I_sI, hp_sA_sI, hp_sI_sI, hg]
  refine ⟨fun a2 => ct_i (c_fails h0) (qs_f hg (by unfold sp_stop; rw [if_pos a1, i3_toNat (by omega), if_pos a2])), fun a2 => ?_⟩
  have L : ∀ k j, j + k = md_n g → am_J X 36 [(0, .ref (A 0)), (1, .int (i3 c)), (2, .int (md_sum (fun p => if md_aw g p c then 1 else 0) j)), (3, .int (i3 j))] [] (hp_sA M (A 1) (md_fo (md_r1 c) g j)) 0 0 := by
    intro k
    induction k with
    | zero =>
      intro j hj
      have e : j = md_n g := by omega
      subst e
      refine vX7_stops_36 hX hM (fun x0 x1 x2 x3 M => am_J X 36 [(0, .ref x0), (1, .int x1), (2, .int x2), (3, .int x3)] [] M 0 0) (fun _ _ _ _ _ h => h) ?_
      simp (disch := omega) only [t0, r1, r2, r3, r4, r5, r6, r7, r8, t1, t2, t3, t4, t5, t6, t7, t8, n1, n2, n3, n4, n5, n6, n7, n8, z1, z2, z3, z4, z5, z6, z7, z8, forall_eq, Nat.reduceAdd, Nat.reduceMul, Nat.reduceEqDiff, Nat.reduceLeDiff, Nat.reduceSub, ne_eq, not_false_eq_true, not_true_eq_false, false_implies, true_implies, implies_true, true_and, and_true, eq_self, li0, li1, li2, li3, li4, li5, li6, li7, li8, li9, li10, li11, li12, li15, li18, li21, li22, li23, li24, li27, li30, li32, li39, li50, li51, li59, li60, li63, li75, li87, li90, li99, li100, li111, li121, li126, li131, li141, li150, li400, li900, li987, li1128, li240, i3_add, i3_toNat, vpt, bI_0, bI_1, bI_bo, Bool.not_eq_false, Bool.true_eq_false, Bool.false_eq_true, Bool.not_eq_true, i3_le', i3_lt', i3_eq', hp_sE_sA, hp_sA_sA, hp_E_sA, hp_T_sA, hp_N_sA, hp_R_sA, hp_I_sA, hp_T_sI, hp_N_sI, hp_R_sI, hp_E_sI, hp_I_sI, hp_sA_sI, hp_sI_sI, md_fr_far, e1]
      refine ⟨fun _ => ct_i (c_done (M := hp_sA M (A 1) _) h0) (qs_t ?_), fun z => absurd (Nat.le_refl _) z⟩
      unfold sp_stop
      rw [if_pos a1, i3_toNat (by omega), if_neg a2]
      rfl
    | succ k ih =>
      intro j hj
      have I := ih (j + 1) (by omega)
      rw [md_sum_s, md_fo_s] at I
      have ea : md_aw (md_fo (md_r1 c) g j) j c = md_aw g j c := by unfold md_aw; rw [md_fr_far _ _ (by omega), md_fr_far _ _ (by omega)]
      rw [md_r1_eq, ea] at I
      refine vX7_stops_36 hX hM (fun x0 x1 x2 x3 M => am_J X 36 [(0, .ref x0), (1, .int x1), (2, .int x2), (3, .int x3)] [] M 0 0) (fun _ _ _ _ _ h => h) ?_
      simp (disch := omega) only [t0, r1, r2, r3, r4, r5, r6, r7, r8, t1, t2, t3, t4, t5, t6, t7, t8, n1, n2, n3, n4, n5, n6, n7, n8, z1, z2, z3, z4, z5, z6, z7, z8, forall_eq, Nat.reduceAdd, Nat.reduceMul, Nat.reduceEqDiff, Nat.reduceLeDiff, Nat.reduceSub, ne_eq, not_false_eq_true, not_true_eq_false, false_implies, true_implies, implies_true, true_and, and_true, eq_self, li0, li1, li2, li3, li4, li5, li6, li7, li8, li9, li10, li11, li12, li15, li18, li21, li22, li23, li24, li27, li30, li32, li39, li50, li51, li59, li60, li63, li75, li87, li90, li99, li100, li111, li121, li126, li131, li141, li150, li400, li900, li987, li1128, li240, i3_add, i3_toNat, vpt, bI_0, bI_1, bI_bo, Bool.not_eq_false, Bool.true_eq_false, Bool.false_eq_true, Bool.not_eq_true, i3_le', i3_lt', i3_eq', hp_sE_sA, hp_sA_sA, hp_E_sA, hp_T_sA, hp_N_sA, hp_R_sA, hp_I_sA, hp_T_sI, hp_N_sI, hp_R_sI, hp_E_sI, hp_I_sI, hp_sA_sI, hp_sI_sI, md_fr_far, e1]
      refine ⟨fun z => absurd z (by omega), fun _ => ct_i (c_awaits (M := hp_sA M (A 1) _) h0 (hp_E_sA _ _ _) (by omega)) ?_⟩
      rw [ea]
      simp (disch := omega) only [t0, r1, r2, r3, r4, r5, r6, r7, r8, t1, t2, t3, t4, t5, t6, t7, t8, n1, n2, n3, n4, n5, n6, n7, n8, z1, z2, z3, z4, z5, z6, z7, z8, forall_eq, Nat.reduceAdd, Nat.reduceMul, Nat.reduceEqDiff, Nat.reduceLeDiff, Nat.reduceSub, ne_eq, not_false_eq_true, not_true_eq_false, false_implies, true_implies, implies_true, true_and, and_true, eq_self, li0, li1, li2, li3, li4, li5, li6, li7, li8, li9, li10, li11, li12, li15, li18, li21, li22, li23, li24, li27, li30, li32, li39, li50, li51, li59, li60, li63, li75, li87, li90, li99, li100, li111, li121, li126, li131, li141, li150, li400, li900, li987, li1128, li240, i3_add, i3_toNat, vpt, bI_0, bI_1, bI_bo, Bool.not_eq_false, Bool.true_eq_false, Bool.false_eq_true, Bool.not_eq_true, i3_le', i3_lt', i3_eq', hp_sE_sA, hp_sA_sA, hp_E_sA, hp_T_sA, hp_N_sA, hp_R_sA, hp_I_sA, hp_T_sI, hp_N_sI, hp_R_sI, hp_E_sI, hp_I_sI, hp_sA_sI, hp_sI_sI, md_fr_far]
      refine ⟨fun z => ?_, fun z => ?_⟩
      · rw [if_neg (by rw [z]; decide), if_neg (by rw [z]; decide)] at I
        rw [Int32.add_zero] at I
        exact I
      · rw [if_pos z, if_pos z] at I
        exact I
  have I := L (md_n g) 0 (by omega)
  rw [show md_fo (md_r1 c) g 0 = g from rfl, hp_sA_nd hg] at I
  exact I
