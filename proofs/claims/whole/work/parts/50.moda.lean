/-! THE REFERENCE'S METHODS: each answers what the md_ functions say of the row g (first those that read) -/
def bI (b : Bool) : Int32 := if b then i3 1 else i3 0
theorem bI_0 (b : Bool) : (bI b = i3 0) = (b = false) := by cases b <;> simp [bI, i3_eq]
theorem bI_1 (b : Bool) : (bI b = i3 1) = (b = true) := by cases b <;> simp [bI, i3_eq]
theorem bI_bo (b : Bool) : am_bo (bI b) = True := by cases b <;> simp [bI, am_bo, i3]
theorem qT {b : Bool} {M : am_Hp} (h : b = true) : qi (bI b) M (.inl (some (.int (i3 1)))) M := ⟨by rw [h]; rfl, rfl⟩
theorem qF {b : Bool} {M : am_Hp} (h : ¬ b = true) : qi (bI b) M (.inl (some (.int (i3 0)))) M := ⟨by rw [Bool.eq_false_iff.mpr h]; rfl, rfl⟩
theorem vpt {k n : Nat} (h : k < n) (hk : k < 2147483648) : vp_in (i3 k) n = True := eq_true (vp_in_i3 h hk)
theorem i3_le' {a b : Nat} (ha : a < 2147483648) (hb : b < 2147483648) : (i3 a ≤ i3 b) = (a ≤ b) := propext (i3_le ha hb)
theorem i3_lt' {a b : Nat} (ha : a < 2147483648) (hb : b < 2147483648) : (i3 a < i3 b) = (a < b) := propext (i3_lt ha hb)
theorem i3_eq' {a b : Nat} (ha : a < 2147483648) (hb : b < 2147483648) : (i3 a = i3 b) = (a = b) := propext (i3_eq ha hb)
theorem up_n' {α : Type} (f : Nat → α) (k j : Nat) (v : α) (h : j ≠ k) : va_up f k v j = f j := if_neg h
theorem li0 : (0 : Int32) = i3 0 := rfl
theorem li1 : (1 : Int32) = i3 1 := rfl
theorem li2 : (2 : Int32) = i3 2 := rfl
theorem li3 : (3 : Int32) = i3 3 := rfl
theorem li4 : (4 : Int32) = i3 4 := rfl
theorem li5 : (5 : Int32) = i3 5 := rfl
theorem li6 : (6 : Int32) = i3 6 := rfl
theorem li7 : (7 : Int32) = i3 7 := rfl
theorem li8 : (8 : Int32) = i3 8 := rfl
theorem li9 : (9 : Int32) = i3 9 := rfl
theorem li10 : (10 : Int32) = i3 10 := rfl
theorem li11 : (11 : Int32) = i3 11 := rfl
theorem li12 : (12 : Int32) = i3 12 := rfl
theorem li15 : (15 : Int32) = i3 15 := rfl
theorem li18 : (18 : Int32) = i3 18 := rfl
theorem li21 : (21 : Int32) = i3 21 := rfl
theorem li22 : (22 : Int32) = i3 22 := rfl
theorem li23 : (23 : Int32) = i3 23 := rfl
theorem li24 : (24 : Int32) = i3 24 := rfl
theorem li27 : (27 : Int32) = i3 27 := rfl
theorem li30 : (30 : Int32) = i3 30 := rfl
theorem li32 : (32 : Int32) = i3 32 := rfl
theorem li39 : (39 : Int32) = i3 39 := rfl
theorem li50 : (50 : Int32) = i3 50 := rfl
theorem li51 : (51 : Int32) = i3 51 := rfl
theorem li59 : (59 : Int32) = i3 59 := rfl
theorem li60 : (60 : Int32) = i3 60 := rfl
theorem li63 : (63 : Int32) = i3 63 := rfl
theorem li75 : (75 : Int32) = i3 75 := rfl
theorem li87 : (87 : Int32) = i3 87 := rfl
theorem li90 : (90 : Int32) = i3 90 := rfl
theorem li99 : (99 : Int32) = i3 99 := rfl
theorem li100 : (100 : Int32) = i3 100 := rfl
theorem li111 : (111 : Int32) = i3 111 := rfl
theorem li121 : (121 : Int32) = i3 121 := rfl
theorem li126 : (126 : Int32) = i3 126 := rfl
theorem li131 : (131 : Int32) = i3 131 := rfl
theorem li141 : (141 : Int32) = i3 141 := rfl
theorem li150 : (150 : Int32) = i3 150 := rfl
theorem li400 : (400 : Int32) = i3 400 := rfl
theorem li900 : (900 : Int32) = i3 900 := rfl
theorem li987 : (987 : Int32) = i3 987 := rfl
theorem li1128 : (1128 : Int32) = i3 1128 := rfl
theorem li240 : (240 : Int32) = i3 240 := rfl
theorem hp_sI_nd (M : am_Hp) (u a : Nat) (v : Int32) (h : hp_I M u a = v) : hp_sI M u a v = M := by
  have : hp_u (hp_I M) u a v = hp_I M := by
    funext x y
    unfold hp_u
    split
    · rename_i q; rw [q.1, q.2, h]
    · rfl
  unfold hp_sI
  rw [this]
  rfl
/-- the reference's object and its arrays: A 0 the object; A 1 g, A 2 before, A 3 ahead, A 4 history, A 5 savedState, A 6 buffer, A 7 letters, A 8 parsed -/
def mL (M : am_Hp) (A : Nat → Nat) : Prop := hp_T M (A 0) = 8 ∧ hp_R M 140 (A 0) = A 1 ∧ hp_R M 141 (A 0) = A 2 ∧ hp_R M 142 (A 0) = A 3 ∧ hp_R M 143 (A 0) = A 4 ∧ hp_R M 145 (A 0) = A 5 ∧ hp_R M 147 (A 0) = A 6 ∧ hp_R M 151 (A 0) = A 7 ∧ hp_R M 156 (A 0) = A 8
  ∧ hp_T M (A 1) = 22 ∧ hp_T M (A 2) = 22 ∧ hp_T M (A 3) = 22 ∧ hp_T M (A 4) = 22 ∧ hp_T M (A 5) = 22 ∧ hp_T M (A 6) = 21 ∧ hp_T M (A 7) = 21 ∧ hp_T M (A 8) = 22
  ∧ hp_N M (A 1) = 141 ∧ hp_N M (A 2) = 141 ∧ hp_N M (A 3) = 141 ∧ hp_N M (A 4) = 1128 ∧ hp_N M (A 5) = 141 ∧ hp_N M (A 6) = 60 ∧ hp_N M (A 7) = 60 ∧ hp_N M (A 8) = 240
  ∧ A 1 ≠ 0 ∧ A 2 ≠ 0 ∧ A 3 ≠ 0 ∧ A 4 ≠ 0 ∧ A 5 ≠ 0 ∧ A 6 ≠ 0 ∧ A 7 ≠ 0 ∧ A 8 ≠ 0 ∧ ∀ i j, i ≤ 8 → j ≤ 8 → A i = A j → i = j
theorem mL_E {M M' : am_Hp} {A : Nat → Nat} {i j : Nat} {f : md_R} (h : mL M A) (hi : i ≤ 8) (hj : j ≤ 8) (hij : i ≠ j) : hp_E (hp_sA M' (A i) f) (A j) = hp_E M' (A j) := hp_E_sA' _ _ (fun z => hij (h.2.2.2.2.2.2.2.2.2.2.2.2.2.2.2.2.2.2.2.2.2.2.2.2.2.2.2.2.2.2.2.2.2 _ _ hi hj z.symm))
theorem c_in {G : am_Gx} {d : Nat} {M : am_Hp} {a b c : Int32} : am_CT G (d + 1) rX7_in [.int a, .int b, .int c] M 0 0 (qi (bI (decide (b ≤ a) && decide (a ≤ c))) M) := by
  refine am_intro mkX7_in rfl (Nat.le_of_ble_eq_true rfl) rfl (fun X hX hM => ?_)
  refine vX7_in_0 hX hM ?_
  refine ⟨fun h1 => ?_, fun h1 => ⟨fun h2 => ?_, fun h2 => ?_⟩⟩
  · refine qF (fun z => ?_)
    simp only [Bool.and_eq_true, decide_eq_true_eq] at z
    exact absurd h1 (Int32.not_lt.mpr z.1)
  · refine qF (fun z => ?_)
    simp only [Bool.and_eq_true, decide_eq_true_eq] at z
    exact absurd h2 (Int32.not_lt.mpr z.2)
  · refine qT ?_
    simp only [Bool.and_eq_true, decide_eq_true_eq]
    exact ⟨Int32.not_lt.mp h1, Int32.not_lt.mp h2⟩
theorem c_size {G : am_Gx} {d : Nat} {M : am_Hp} {a : Int32} : am_CT G (d + 1) rX7_size [.int a] M 0 0 (qi (md_abs a) M) := by
  refine am_intro mkX7_size rfl (Nat.le_of_ble_eq_true rfl) rfl (fun X hX hM => ?_)
  refine vX7_size_0 hX hM ?_
  refine ⟨fun h1 => ⟨?_, rfl⟩, fun h1 => ⟨?_, rfl⟩⟩
  · unfold md_abs; rw [if_neg (Int32.not_lt.mpr h1)]
  · unfold md_abs; rw [if_pos (Int32.not_le.mp h1)]
theorem c_done {G : am_Gx} {d : Nat} {M : am_Hp} {A : Nat → Nat} {v : Int32} (h : mL M A) : am_CT G (d + 1) rX7_done [.ref (A 0), .int v] M 0 0 (qi v (hp_sI M 153 (A 0) (i3 0))) := by
  refine am_intro mkX7_done rfl (Nat.le_of_ble_eq_true rfl) rfl (fun X hX hM => ?_)
  refine vX7_done_0 hX hM ?_
  exact ⟨h.1, fun _ e => ⟨rfl, e⟩⟩
theorem c_fails {G : am_Gx} {d : Nat} {M : am_Hp} {A : Nat → Nat} {v : Int32} (h : mL M A) : am_CT G (d + 1) rX7_fails [.ref (A 0), .int v] M 0 0 (qi (i3 0) (hp_sI M 153 (A 0) v)) := by
  refine am_intro mkX7_fails rfl (Nat.le_of_ble_eq_true rfl) rfl (fun X hX hM => ?_)
  refine vX7_fails_0 hX hM ?_
  exact ⟨h.1, fun _ e => ⟨rfl, e⟩⟩
theorem c_thrown {G : am_Gx} {d : Nat} {M : am_Hp} {A : Nat → Nat} (h : mL M A) : am_CT G (d + 1) rX7_thrown [.ref (A 0)] M 0 0 (qi (hp_I M 153 (A 0)) M) := by
  refine am_intro mkX7_thrown rfl (Nat.le_of_ble_eq_true rfl) rfl (fun X hX hM => ?_)
  refine vX7_thrown_0 hX hM ?_
  exact ⟨h.1, rfl, rfl⟩
def md_ic (v : Int32) : Bool := decide (i3 0 ≤ v) && decide (v ≤ i3 2)
theorem md_ic_iff {v : Int32} : md_ic v = true ↔ ∃ k, k < 3 ∧ v = i3 k := by
  unfold md_ic
  rw [Bool.and_eq_true, decide_eq_true_eq, decide_eq_true_eq]
  constructor
  · rintro ⟨h0, h1⟩
    obtain ⟨k, hk, e⟩ := i3_of (n := 3) h0 (by rw [Int32.lt_iff_toInt_lt]; rw [Int32.le_iff_toInt_le] at h1; have e1 : (i3 2).toInt = 2 := rfl; have e2 : (i3 3).toInt = 3 := rfl; omega) (by omega)
    exact ⟨k, hk, e⟩
  · rintro ⟨k, hk, rfl⟩
    exact ⟨(i3_le (by omega) (by omega)).mpr (by omega), (i3_le (by omega) (by omega)).mpr (by omega)⟩
theorem c_isCar {G : am_Gx} {d : Nat} {M : am_Hp} {a : Int32} : am_CT G (d + 2) rX7_isCar [.int a] M 0 0 (qi (bI (md_ic a)) M) := by
  refine am_intro mkX7_isCar rfl (Nat.le_of_ble_eq_true rfl) rfl (fun X hX hM => ?_)
  refine vX7_isCar_0 hX hM ?_
  refine ct_i c_in ?_
  simp (disch := omega) only [forall_eq, Nat.reduceAdd, Nat.reduceMul, Nat.reduceEqDiff, Nat.reduceLeDiff, Nat.reduceSub, ne_eq, not_false_eq_true, not_true_eq_false, false_implies, true_implies, implies_true, true_and, and_true, eq_self, li0, li1, li2, li3, li4, li5, li6, li7, li8, li9, li10, li11, li12, li15, li18, li21, li22, li23, li24, li27, li30, li32, li39, li50, li51, li59, li60, li63, li75, li87, li90, li99, li100, li111, li121, li126, li131, li141, li150, li400, li900, li987, li1128, li240, i3_add, i3_toNat, vpt, bI_0, bI_1, bI_bo, Bool.not_eq_false, Bool.true_eq_false, Bool.false_eq_true, Bool.not_eq_true, i3_le', i3_lt', i3_eq', hp_sE_sA, hp_sA_sA, hp_E_sA, hp_T_sA, hp_N_sA, hp_R_sA, hp_I_sA, hp_T_sI, hp_N_sI, hp_R_sI, hp_E_sI, hp_I_sI, hp_sA_sI, hp_sI_sI]
  exact ⟨rfl, rfl⟩
theorem c_isFloor {G : am_Gx} {d : Nat} {M : am_Hp} {a : Int32} : am_CT G (d + 2) rX7_isFloor [.int a] M 0 0 (qi (bI (md_fl a)) M) := by
  refine am_intro mkX7_isFloor rfl (Nat.le_of_ble_eq_true rfl) rfl (fun X hX hM => ?_)
  refine vX7_isFloor_0 hX hM ?_
  refine ct_i c_in ?_
  simp (disch := omega) only [forall_eq, Nat.reduceAdd, Nat.reduceMul, Nat.reduceEqDiff, Nat.reduceLeDiff, Nat.reduceSub, ne_eq, not_false_eq_true, not_true_eq_false, false_implies, true_implies, implies_true, true_and, and_true, eq_self, li0, li1, li2, li3, li4, li5, li6, li7, li8, li9, li10, li11, li12, li15, li18, li21, li22, li23, li24, li27, li30, li32, li39, li50, li51, li59, li60, li63, li75, li87, li90, li99, li100, li111, li121, li126, li131, li141, li150, li400, li900, li987, li1128, li240, i3_add, i3_toNat, vpt, bI_0, bI_1, bI_bo, Bool.not_eq_false, Bool.true_eq_false, Bool.false_eq_true, Bool.not_eq_true, i3_le', i3_lt', i3_eq', hp_sE_sA, hp_sA_sA, hp_E_sA, hp_T_sA, hp_N_sA, hp_R_sA, hp_I_sA, hp_T_sI, hp_N_sI, hp_R_sI, hp_E_sI, hp_I_sI, hp_sA_sI, hp_sI_sI]
  exact ⟨rfl, rfl⟩
/-- so many passengers -/
def md_ok (g : md_R) : Prop := g 1 = i3 (md_n g) ∧ md_n g ≤ 12
theorem md_wf_ok {T : Nat} {g : md_R} (h : md_wf T g) : md_ok g := by
  obtain ⟨⟨n, h0, hn⟩, -⟩ := h
  unfold md_ok
  rw [md_n_of hn h0]
  exact ⟨hn, h0⟩
def md_ip (g : md_R) (v : Int32) : Bool := decide (i3 0 ≤ v) && decide (v < i3 (md_n g))
theorem md_ip_iff {g : md_R} {v : Int32} (h : md_ok g) : md_ip g v = true ↔ ∃ k, k < md_n g ∧ v = i3 k := by
  have := h.2
  unfold md_ip
  rw [Bool.and_eq_true, decide_eq_true_eq, decide_eq_true_eq]
  constructor
  · rintro ⟨h0, h1⟩
    exact i3_of (n := md_n g) h0 h1 (by omega)
  · rintro ⟨k, hk, rfl⟩
    exact ⟨(i3_le (by omega) (by omega)).mpr (by omega), (i3_lt (by omega) (by omega)).mpr (by omega)⟩
theorem md_ip_le {n : Nat} {v : Int32} (h : n ≤ 12) : (v ≤ i3 n - i3 1) = (v < i3 n) := by
  have e : ∀ n : Fin 13, (i3 n.1 - i3 1).toInt = (n.1 : Int) - 1 := by decide +kernel
  have := e ⟨n, by omega⟩
  rw [Int32.le_iff_toInt_le, Int32.lt_iff_toInt_lt, this, i3_toInt (by omega)]
  simp only [eq_iff_iff]
  omega
theorem c_isPassenger {G : am_Gx} {d : Nat} {M : am_Hp} {A : Nat → Nat} {g : md_R} {a : Int32} (h : mL M A) (hg : hp_E M (A 1) = g) (ok : md_ok g) : am_CT G (d + 2) rX7_isPassenger [.ref (A 0), .int a] M 0 0 (qi (bI (md_ip g a)) M) := by
  obtain ⟨t0, r1, r2, r3, r4, r5, r6, r7, r8, t1, t2, t3, t4, t5, t6, t7, t8, n1, n2, n3, n4, n5, n6, n7, n8, z1, z2, z3, z4, z5, z6, z7, z8, hJ⟩ := h
  obtain ⟨e1, h12⟩ := ok
  refine am_intro mkX7_isPassenger rfl (Nat.le_of_ble_eq_true rfl) rfl (fun X hX hM => ?_)
  refine vX7_isPassenger_0 hX hM ?_
  simp (disch := omega) only [t0, r1, r2, r3, r4, r5, r6, r7, r8, t1, t2, t3, t4, t5, t6, t7, t8, n1, n2, n3, n4, n5, n6, n7, n8, z1, z2, z3, z4, z5, z6, z7, z8, forall_eq, Nat.reduceAdd, Nat.reduceMul, Nat.reduceEqDiff, Nat.reduceLeDiff, Nat.reduceSub, ne_eq, not_false_eq_true, not_true_eq_false, false_implies, true_implies, implies_true, true_and, and_true, eq_self, li0, li1, li2, li3, li4, li5, li6, li7, li8, li9, li10, li11, li12, li15, li18, li21, li22, li23, li24, li27, li30, li32, li39, li50, li51, li59, li60, li63, li75, li87, li90, li99, li100, li111, li121, li126, li131, li141, li150, li400, li900, li987, li1128, li240, i3_add, i3_toNat, vpt, bI_0, bI_1, bI_bo, Bool.not_eq_false, Bool.true_eq_false, Bool.false_eq_true, Bool.not_eq_true, i3_le', i3_lt', i3_eq', hp_sE_sA, hp_sA_sA, hp_E_sA, hp_T_sA, hp_N_sA, hp_R_sA, hp_I_sA, hp_T_sI, hp_N_sI, hp_R_sI, hp_E_sI, hp_I_sI, hp_sA_sI, hp_sI_sI, hg, e1]
  refine ct_i c_in ?_
  simp (disch := omega) only [t0, r1, r2, r3, r4, r5, r6, r7, r8, t1, t2, t3, t4, t5, t6, t7, t8, n1, n2, n3, n4, n5, n6, n7, n8, z1, z2, z3, z4, z5, z6, z7, z8, forall_eq, Nat.reduceAdd, Nat.reduceMul, Nat.reduceEqDiff, Nat.reduceLeDiff, Nat.reduceSub, ne_eq, not_false_eq_true, not_true_eq_false, false_implies, true_implies, implies_true, true_and, and_true, eq_self, li0, li1, li2, li3, li4, li5, li6, li7, li8, li9, li10, li11, li12, li15, li18, li21, li22, li23, li24, li27, li30, li32, li39, li50, li51, li59, li60, li63, li75, li87, li90, li99, li100, li111, li121, li126, li131, li141, li150, li400, li900, li987, li1128, li240, i3_add, i3_toNat, vpt, bI_0, bI_1, bI_bo, Bool.not_eq_false, Bool.true_eq_false, Bool.false_eq_true, Bool.not_eq_true, i3_le', i3_lt', i3_eq', hp_sE_sA, hp_sA_sA, hp_E_sA, hp_T_sA, hp_N_sA, hp_R_sA, hp_I_sA, hp_T_sI, hp_N_sI, hp_R_sI, hp_E_sI, hp_I_sI, hp_sA_sI, hp_sI_sI, hg, e1, md_ip_le h12]
  exact ⟨rfl, rfl⟩
theorem md_in_iff {g : md_R} {p c : Nat} : md_in g p c = true ↔ g (99 + p) = i3 1 ∧ g (87 + p) = i3 (c + 1) := by
  unfold md_in
  rw [Bool.and_eq_true, beq_iff_eq, beq_iff_eq, i3_one]
  exact Iff.rfl
theorem md_aw_iff {g : md_R} {p c : Nat} : md_aw g p c = true ↔ g (99 + p) = i3 0 ∧ g (87 + p) = i3 (c + 1) := by
  unfold md_aw
  rw [Bool.and_eq_true, beq_iff_eq, beq_iff_eq, i3_one]
  exact Iff.rfl
theorem c_isIn {G : am_Gx} {d : Nat} {M : am_Hp} {A : Nat → Nat} {g : md_R} {p c : Nat} (h : mL M A) (hg : hp_E M (A 1) = g) (hp : p < 12) : am_CT G (d + 1) rX7_isIn [.ref (A 0), .int (i3 p), .int (i3 c)] M 0 0 (qi (bI (md_in g p c)) M) := by
  obtain ⟨t0, r1, r2, r3, r4, r5, r6, r7, r8, t1, t2, t3, t4, t5, t6, t7, t8, n1, n2, n3, n4, n5, n6, n7, n8, z1, z2, z3, z4, z5, z6, z7, z8, hJ⟩ := h
  refine am_intro mkX7_isIn rfl (Nat.le_of_ble_eq_true rfl) rfl (fun X hX hM => ?_)
  refine vX7_isIn_0 hX hM ?_
  simp (disch := omega) only [t0, r1, r2, r3, r4, r5, r6, r7, r8, t1, t2, t3, t4, t5, t6, t7, t8, n1, n2, n3, n4, n5, n6, n7, n8, z1, z2, z3, z4, z5, z6, z7, z8, forall_eq, Nat.reduceAdd, Nat.reduceMul, Nat.reduceEqDiff, Nat.reduceLeDiff, Nat.reduceSub, ne_eq, not_false_eq_true, not_true_eq_false, false_implies, true_implies, implies_true, true_and, and_true, eq_self, li0, li1, li2, li3, li4, li5, li6, li7, li8, li9, li10, li11, li12, li15, li18, li21, li22, li23, li24, li27, li30, li32, li39, li50, li51, li59, li60, li63, li75, li87, li90, li99, li100, li111, li121, li126, li131, li141, li150, li400, li900, li987, li1128, li240, i3_add, i3_toNat, vpt, bI_0, bI_1, bI_bo, Bool.not_eq_false, Bool.true_eq_false, Bool.false_eq_true, Bool.not_eq_true, i3_le', i3_lt', i3_eq', hp_sE_sA, hp_sA_sA, hp_E_sA, hp_T_sA, hp_N_sA, hp_R_sA, hp_I_sA, hp_T_sI, hp_N_sI, hp_R_sI, hp_E_sI, hp_I_sI, hp_sA_sI, hp_sI_sI, hg]
  refine ⟨fun c1 => ⟨fun c2 => qT (md_in_iff.mpr ⟨c1, c2⟩), fun c2 => qF (fun z => c2 (md_in_iff.mp z).2)⟩, fun c1 => qF (fun z => c1 (md_in_iff.mp z).1)⟩
theorem c_awaits {G : am_Gx} {d : Nat} {M : am_Hp} {A : Nat → Nat} {g : md_R} {p c : Nat} (h : mL M A) (hg : hp_E M (A 1) = g) (hp : p < 12) : am_CT G (d + 1) rX7_awaits [.ref (A 0), .int (i3 p), .int (i3 c)] M 0 0 (qi (bI (md_aw g p c)) M) := by
  obtain ⟨t0, r1, r2, r3, r4, r5, r6, r7, r8, t1, t2, t3, t4, t5, t6, t7, t8, n1, n2, n3, n4, n5, n6, n7, n8, z1, z2, z3, z4, z5, z6, z7, z8, hJ⟩ := h
  refine am_intro mkX7_awaits rfl (Nat.le_of_ble_eq_true rfl) rfl (fun X hX hM => ?_)
  refine vX7_awaits_0 hX hM ?_
  simp (disch := omega) only [t0, r1, r2, r3, r4, r5, r6, r7, r8, t1, t2, t3, t4, t5, t6, t7, t8, n1, n2, n3, n4, n5, n6, n7, n8, z1, z2, z3, z4, z5, z6, z7, z8, forall_eq, Nat.reduceAdd, Nat.reduceMul, Nat.reduceEqDiff, Nat.reduceLeDiff, Nat.reduceSub, ne_eq, not_false_eq_true, not_true_eq_false, false_implies, true_implies, implies_true, true_and, and_true, eq_self, li0, li1, li2, li3, li4, li5, li6, li7, li8, li9, li10, li11, li12, li15, li18, li21, li22, li23, li24, li27, li30, li32, li39, li50, li51, li59, li60, li63, li75, li87, li90, li99, li100, li111, li121, li126, li131, li141, li150, li400, li900, li987, li1128, li240, i3_add, i3_toNat, vpt, bI_0, bI_1, bI_bo, Bool.not_eq_false, Bool.true_eq_false, Bool.false_eq_true, Bool.not_eq_true, i3_le', i3_lt', i3_eq', hp_sE_sA, hp_sA_sA, hp_E_sA, hp_T_sA, hp_N_sA, hp_R_sA, hp_I_sA, hp_T_sI, hp_N_sI, hp_R_sI, hp_E_sI, hp_I_sI, hp_sA_sI, hp_sI_sI, hg]
  refine ⟨fun c1 => ⟨fun c2 => qT (md_aw_iff.mpr ⟨c1, c2⟩), fun c2 => qF (fun z => c2 (md_aw_iff.mp z).2)⟩, fun c1 => qF (fun z => c1 (md_aw_iff.mp z).1)⟩
theorem md_sum_s (f : Nat → Int32) (n : Nat) : md_sum f (n + 1) = md_sum f n + f n := rfl
theorem c_loadOf {G : am_Gx} {d : Nat} {M : am_Hp} {A : Nat → Nat} {g : md_R} {c : Nat} (h : mL M A) (hg : hp_E M (A 1) = g) (ok : md_ok g) : am_CT G (d + 2) rX7_loadOf [.ref (A 0), .int (i3 c)] M 0 0 (qi (md_ld g c) M) := by
  have h0 := h
  obtain ⟨t0, r1, r2, r3, r4, r5, r6, r7, r8, t1, t2, t3, t4, t5, t6, t7, t8, n1, n2, n3, n4, n5, n6, n7, n8, z1, z2, z3, z4, z5, z6, z7, z8, hJ⟩ := h
  obtain ⟨e1, h12⟩ := ok
  refine am_intro mkX7_loadOf rfl (Nat.le_of_ble_eq_true rfl) rfl (fun X hX hM => ?_)
  have L : ∀ k j, j + k = md_n g → am_J X 4 [(0, .ref (A 0)), (1, .int (i3 c)), (2, .int (md_sum (md_ldf g c) j)), (3, .int (i3 j))] [] M 0 0 := by
    intro k
    induction k with
    | zero =>
      intro j hj
      refine vX7_loadOf_4 hX hM (fun x0 x1 x2 x3 M => am_J X 4 [(0, .ref x0), (1, .int x1), (2, .int x2), (3, .int x3)] [] M 0 0) (fun _ _ _ _ _ h => h) ?_
      simp (disch := omega) only [t0, r1, r2, r3, r4, r5, r6, r7, r8, t1, t2, t3, t4, t5, t6, t7, t8, n1, n2, n3, n4, n5, n6, n7, n8, z1, z2, z3, z4, z5, z6, z7, z8, forall_eq, Nat.reduceAdd, Nat.reduceMul, Nat.reduceEqDiff, Nat.reduceLeDiff, Nat.reduceSub, ne_eq, not_false_eq_true, not_true_eq_false, false_implies, true_implies, implies_true, true_and, and_true, eq_self, li0, li1, li2, li3, li4, li5, li6, li7, li8, li9, li10, li11, li12, li15, li18, li21, li22, li23, li24, li27, li30, li32, li39, li50, li51, li59, li60, li63, li75, li87, li90, li99, li100, li111, li121, li126, li131, li141, li150, li400, li900, li987, li1128, li240, i3_add, i3_toNat, vpt, bI_0, bI_1, bI_bo, Bool.not_eq_false, Bool.true_eq_false, Bool.false_eq_true, Bool.not_eq_true, i3_le', i3_lt', i3_eq', hp_sE_sA, hp_sA_sA, hp_E_sA, hp_T_sA, hp_N_sA, hp_R_sA, hp_I_sA, hp_T_sI, hp_N_sI, hp_R_sI, hp_E_sI, hp_I_sI, hp_sA_sI, hp_sI_sI, hg, e1]
      exact ⟨fun _ => ⟨by rw [show j = md_n g by omega]; rfl, rfl⟩, fun z => absurd (show md_n g ≤ j by omega) z⟩
    | succ k ih =>
      intro j hj
      refine vX7_loadOf_4 hX hM (fun x0 x1 x2 x3 M => am_J X 4 [(0, .ref x0), (1, .int x1), (2, .int x2), (3, .int x3)] [] M 0 0) (fun _ _ _ _ _ h => h) ?_
      simp (disch := omega) only [t0, r1, r2, r3, r4, r5, r6, r7, r8, t1, t2, t3, t4, t5, t6, t7, t8, n1, n2, n3, n4, n5, n6, n7, n8, z1, z2, z3, z4, z5, z6, z7, z8, forall_eq, Nat.reduceAdd, Nat.reduceMul, Nat.reduceEqDiff, Nat.reduceLeDiff, Nat.reduceSub, ne_eq, not_false_eq_true, not_true_eq_false, false_implies, true_implies, implies_true, true_and, and_true, eq_self, li0, li1, li2, li3, li4, li5, li6, li7, li8, li9, li10, li11, li12, li15, li18, li21, li22, li23, li24, li27, li30, li32, li39, li50, li51, li59, li60, li63, li75, li87, li90, li99, li100, li111, li121, li126, li131, li141, li150, li400, li900, li987, li1128, li240, i3_add, i3_toNat, vpt, bI_0, bI_1, bI_bo, Bool.not_eq_false, Bool.true_eq_false, Bool.false_eq_true, Bool.not_eq_true, i3_le', i3_lt', i3_eq', hp_sE_sA, hp_sA_sA, hp_E_sA, hp_T_sA, hp_N_sA, hp_R_sA, hp_I_sA, hp_T_sI, hp_N_sI, hp_R_sI, hp_E_sI, hp_I_sI, hp_sA_sI, hp_sI_sI, hg, e1]
      refine ⟨fun z => absurd z (by omega), fun _ => ct_i (c_isIn h0 hg (by omega)) ?_⟩
      simp (disch := omega) only [t0, r1, r2, r3, r4, r5, r6, r7, r8, t1, t2, t3, t4, t5, t6, t7, t8, n1, n2, n3, n4, n5, n6, n7, n8, z1, z2, z3, z4, z5, z6, z7, z8, forall_eq, Nat.reduceAdd, Nat.reduceMul, Nat.reduceEqDiff, Nat.reduceLeDiff, Nat.reduceSub, ne_eq, not_false_eq_true, not_true_eq_false, false_implies, true_implies, implies_true, true_and, and_true, eq_self, li0, li1, li2, li3, li4, li5, li6, li7, li8, li9, li10, li11, li12, li15, li18, li21, li22, li23, li24, li27, li30, li32, li39, li50, li51, li59, li60, li63, li75, li87, li90, li99, li100, li111, li121, li126, li131, li141, li150, li400, li900, li987, li1128, li240, i3_add, i3_toNat, vpt, bI_0, bI_1, bI_bo, Bool.not_eq_false, Bool.true_eq_false, Bool.false_eq_true, Bool.not_eq_true, i3_le', i3_lt', i3_eq', hp_sE_sA, hp_sA_sA, hp_E_sA, hp_T_sA, hp_N_sA, hp_R_sA, hp_I_sA, hp_T_sI, hp_N_sI, hp_R_sI, hp_E_sI, hp_I_sI, hp_sA_sI, hp_sI_sI, hg]
      have := ih (j + 1) (by omega)
      rw [md_sum_s, md_ldf] at this
      refine ⟨fun z => ?_, fun z => ?_⟩
      · rw [if_neg (by rw [z]; decide)] at this
        exact this
      · rw [if_pos z] at this
        exact this
  exact vX7_loadOf_0 hX hM (fun x0 x1 x2 x3 M => am_J X 4 [(0, .ref x0), (1, .int x1), (2, .int x2), (3, .int x3)] [] M 0 0) (fun _ _ _ _ _ h => h) (L (md_n g) 0 (Nat.zero_add _))
theorem c_inside {G : am_Gx} {d : Nat} {M : am_Hp} {A : Nat → Nat} {g : md_R} {c : Nat} (h : mL M A) (hg : hp_E M (A 1) = g) (ok : md_ok g) : am_CT G (d + 2) rX7_inside [.ref (A 0), .int (i3 c)] M 0 0 (qi (md_is g c) M) := by
  have h0 := h
  obtain ⟨t0, r1, r2, r3, r4, r5, r6, r7, r8, t1, t2, t3, t4, t5, t6, t7, t8, n1, n2, n3, n4, n5, n6, n7, n8, z1, z2, z3, z4, z5, z6, z7, z8, hJ⟩ := h
  obtain ⟨e1, h12⟩ := ok
  refine am_intro mkX7_inside rfl (Nat.le_of_ble_eq_true rfl) rfl (fun X hX hM => ?_)
  have L : ∀ k j, j + k = md_n g → am_J X 4 [(0, .ref (A 0)), (1, .int (i3 c)), (2, .int (md_sum (md_isf g c) j)), (3, .int (i3 j))] [] M 0 0 := by
    intro k
    induction k with
    | zero =>
      intro j hj
      refine vX7_inside_4 hX hM (fun x0 x1 x2 x3 M => am_J X 4 [(0, .ref x0), (1, .int x1), (2, .int x2), (3, .int x3)] [] M 0 0) (fun _ _ _ _ _ h => h) ?_
      simp (disch := omega) only [t0, r1, r2, r3, r4, r5, r6, r7, r8, t1, t2, t3, t4, t5, t6, t7, t8, n1, n2, n3, n4, n5, n6, n7, n8, z1, z2, z3, z4, z5, z6, z7, z8, forall_eq, Nat.reduceAdd, Nat.reduceMul, Nat.reduceEqDiff, Nat.reduceLeDiff, Nat.reduceSub, ne_eq, not_false_eq_true, not_true_eq_false, false_implies, true_implies, implies_true, true_and, and_true, eq_self, li0, li1, li2, li3, li4, li5, li6, li7, li8, li9, li10, li11, li12, li15, li18, li21, li22, li23, li24, li27, li30, li32, li39, li50, li51, li59, li60, li63, li75, li87, li90, li99, li100, li111, li121, li126, li131, li141, li150, li400, li900, li987, li1128, li240, i3_add, i3_toNat, vpt, bI_0, bI_1, bI_bo, Bool.not_eq_false, Bool.true_eq_false, Bool.false_eq_true, Bool.not_eq_true, i3_le', i3_lt', i3_eq', hp_sE_sA, hp_sA_sA, hp_E_sA, hp_T_sA, hp_N_sA, hp_R_sA, hp_I_sA, hp_T_sI, hp_N_sI, hp_R_sI, hp_E_sI, hp_I_sI, hp_sA_sI, hp_sI_sI, hg, e1]
      exact ⟨fun _ => ⟨by rw [show j = md_n g by omega]; rfl, rfl⟩, fun z => absurd (show md_n g ≤ j by omega) z⟩
    | succ k ih =>
      intro j hj
      refine vX7_inside_4 hX hM (fun x0 x1 x2 x3 M => am_J X 4 [(0, .ref x0), (1, .int x1), (2, .int x2), (3, .int x3)] [] M 0 0) (fun _ _ _ _ _ h => h) ?_
      simp (disch := omega) only [t0, r1, r2, r3, r4, r5, r6, r7, r8, t1, t2, t3, t4, t5, t6, t7, t8, n1, n2, n3, n4, n5, n6, n7, n8, z1, z2, z3, z4, z5, z6, z7, z8, forall_eq, Nat.reduceAdd, Nat.reduceMul, Nat.reduceEqDiff, Nat.reduceLeDiff, Nat.reduceSub, ne_eq, not_false_eq_true, not_true_eq_false, false_implies, true_implies, implies_true, true_and, and_true, eq_self, li0, li1, li2, li3, li4, li5, li6, li7, li8, li9, li10, li11, li12, li15, li18, li21, li22, li23, li24, li27, li30, li32, li39, li50, li51, li59, li60, li63, li75, li87, li90, li99, li100, li111, li121, li126, li131, li141, li150, li400, li900, li987, li1128, li240, i3_add, i3_toNat, vpt, bI_0, bI_1, bI_bo, Bool.not_eq_false, Bool.true_eq_false, Bool.false_eq_true, Bool.not_eq_true, i3_le', i3_lt', i3_eq', hp_sE_sA, hp_sA_sA, hp_E_sA, hp_T_sA, hp_N_sA, hp_R_sA, hp_I_sA, hp_T_sI, hp_N_sI, hp_R_sI, hp_E_sI, hp_I_sI, hp_sA_sI, hp_sI_sI, hg, e1]
      refine ⟨fun z => absurd z (by omega), fun _ => ct_i (c_isIn h0 hg (by omega)) ?_⟩
      simp (disch := omega) only [t0, r1, r2, r3, r4, r5, r6, r7, r8, t1, t2, t3, t4, t5, t6, t7, t8, n1, n2, n3, n4, n5, n6, n7, n8, z1, z2, z3, z4, z5, z6, z7, z8, forall_eq, Nat.reduceAdd, Nat.reduceMul, Nat.reduceEqDiff, Nat.reduceLeDiff, Nat.reduceSub, ne_eq, not_false_eq_true, not_true_eq_false, false_implies, true_implies, implies_true, true_and, and_true, eq_self, li0, li1, li2, li3, li4, li5, li6, li7, li8, li9, li10, li11, li12, li15, li18, li21, li22, li23, li24, li27, li30, li32, li39, li50, li51, li59, li60, li63, li75, li87, li90, li99, li100, li111, li121, li126, li131, li141, li150, li400, li900, li987, li1128, li240, i3_add, i3_toNat, vpt, bI_0, bI_1, bI_bo, Bool.not_eq_false, Bool.true_eq_false, Bool.false_eq_true, Bool.not_eq_true, i3_le', i3_lt', i3_eq', hp_sE_sA, hp_sA_sA, hp_E_sA, hp_T_sA, hp_N_sA, hp_R_sA, hp_I_sA, hp_T_sI, hp_N_sI, hp_R_sI, hp_E_sI, hp_I_sI, hp_sA_sI, hp_sI_sI, hg]
      have := ih (j + 1) (by omega)
      rw [md_sum_s, md_isf] at this
      refine ⟨fun z => ?_, fun z => ?_⟩
      · rw [if_neg (by rw [z]; decide)] at this
        exact this
      · rw [if_pos z] at this
        exact this
  exact vX7_inside_0 hX hM (fun x0 x1 x2 x3 M => am_J X 4 [(0, .ref x0), (1, .int x1), (2, .int x2), (3, .int x3)] [] M 0 0) (fun _ _ _ _ _ h => h) (L (md_n g) 0 (Nat.zero_add _))
