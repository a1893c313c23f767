/-! THE REFERENCE'S METHODS: each answers what the md_ functions say of the row g (first those that read) -/
def bI (b : Bool) : Int32 := if b then i3 1 else i3 0
theorem bI_0 (b : Bool) : (bI b = i3 0) = (b = false) := by cases b <;> simp [bI, i3_eq]
theorem bI_1 (b : Bool) : (bI b = i3 1) = (b = true) := by cases b <;> simp [bI, i3_eq]
theorem bI_bo (b : Bool) : am_bo (bI b) = True := by cases b <;> simp [bI, am_bo, i3]
theorem qT {b : Bool} {M : am_Hp} (h : b = true) : qi (bI b) M (.inl (some (.int (i3 1)))) M := ⟨by rw [h]; rfl, rfl⟩
theorem qF {b : Bool} {M : am_Hp} (h : ¬ b = true) : qi (bI b) M (.inl (some (.int (i3 0)))) M := ⟨by rw [Bool.eq_false_iff.mpr h]; rfl, rfl⟩
theorem vpt {k n : Nat} (h : k < n) (hk : k < 2147483648) : vp_in (i3 k) n = True := eq_true (vp_in_i3 h hk)
theorem i3_le' {a b : Nat} (ha : a < 2147483648) (hb : b < 2147483648) : (i3 a ≤ i3 b) = (a ≤ b) := propext (i3_le ha hb)
theorem i3_lt' {a b : Nat} (ha : a < 2147483648) (hb : b < 2147483648) : (i3 a < i3 b) = (a < b) := propext (i3_lt ha hb)
theorem i3_eq' {a b : Nat} (ha : a < 2147483648) (hb : b < 2147483648) : (i3 a = i3 b) = (a = b) := propext (i3_eq ha hb)
theorem up_n' {α : Type} (f : Nat → α) (k j : Nat) (v : α) (h : j ≠ k) : va_up f k v j = f j := if_neg h
theorem li0 : (0 : Int32) = i3 0 := rfl
theorem li1 : (1 : Int32) = i3 1 := rfl
theorem li2 : (2 : Int32) = i3 2 := rfl
theorem li3 : (3 : Int32) = i3 3 := rfl
theorem li4 : (4 : Int32) = i3 4 := rfl
theorem li5 : (5 : Int32) = i3 5 := rfl
theorem li6 : (6 : Int32) = i3 6 := rfl
theorem li7 : (7 : Int32) = i3 7 := rfl
theorem li8 : (8 : Int32) = i3 8 := rfl
theorem li9 : (9 : Int32) = i3 9 := rfl
theorem li10 : (10 : Int32) = i3 10 := rfl
theorem li11 : (11 : Int32) = i3 11 := rfl
theorem li12 : (12 : Int32) = i3 12 := rfl
theorem li15 : (15 : Int32) = i3 15 := rfl
theorem li18 : (18 : Int32) = i3 18 := rfl
theorem li21 : (21 : Int32) = i3 21 := rfl
theorem li22 : (22 : Int32) = i3 22 := rfl
theorem li23 : (23 : Int32) = i3 23 := rfl
theorem li24 : (24 : Int32) = i3 24 := rfl
theorem li27 : (27 : Int32) = i3 27 := rfl
theorem li30 : (30 : Int32) = i3 30 := rfl
theorem li32 : (32 : Int32) = i3 32 := rfl
theorem li39 : (39 : Int32) = i3 39 := rfl
theorem li50 : (50 : Int32) = i3 50 := rfl
theorem li51 : (51 : Int32) = i3 51 := rfl
theorem li59 : (59 : Int32) = i3 59 := rfl
theorem li60 : (60 : Int32) = i3 60 := rfl
theorem li63 : (63 : Int32) = i3 63 := rfl
theorem li75 : (75 : Int32) = i3 75 := rfl
theorem li87 : (87 : Int32) = i3 87 := rfl
theorem li90 : (90 : Int32) = i3 90 := rfl
theorem li99 : (99 : Int32) = i3 99 := rfl
theorem li100 : (100 : Int32) = i3 100 := rfl
theorem li111 : (111 : Int32) = i3 111 := rfl
theorem li121 : (121 : Int32) = i3 121 := rfl
theorem li126 : (126 : Int32) = i3 126 := rfl
theorem li131 : (131 : Int32) = i3 131 := rfl
theorem li141 : (141 : Int32) = i3 141 := rfl
theorem li150 : (150 : Int32) = i3 150 := rfl
theorem li400 : (400 : Int32) = i3 400 := rfl
theorem li900 : (900 : Int32) = i3 900 := rfl
theorem li987 : (987 : Int32) = i3 987 := rfl
theorem li1128 : (1128 : Int32) = i3 1128 := rfl
theorem li240 : (240 : Int32) = i3 240 := rfl
theorem hp_sI_nd (M : am_Hp) (u a : Nat) (v : Int32) (h : hp_I M u a = v) : hp_sI M u a v = M := by
  have : hp_u (hp_I M) u a v = hp_I M := by
    funext x y
    unfold hp_u
    split
    · rename_i q; rw [q.1, q.2, h]
    · rfl
  unfold hp_sI
  rw [this]
  rfl
/-- the reference's object and its arrays: A 0 the object; A 1 g, A 2 before, A 3 ahead, A 4 history, A 5 savedState, A 6 buffer, A 7 letters, A 8 parsed -/
def mL (M : am_Hp) (A : Nat → Nat) : Prop := hp_T M (A 0) = 8 ∧ hp_R M 140 (A 0) = A 1 ∧ hp_R M 141 (A 0) = A 2 ∧ hp_R M 142 (A 0) = A 3 ∧ hp_R M 143 (A 0) = A 4 ∧ hp_R M 145 (A 0) = A 5 ∧ hp_R M 147 (A 0) = A 6 ∧ hp_R M 151 (A 0) = A 7 ∧ hp_R M 156 (A 0) = A 8
  ∧ hp_T M (A 1) = 22 ∧ hp_T M (A 2) = 22 ∧ hp_T M (A 3) = 22 ∧ hp_T M (A 4) = 22 ∧ hp_T M (A 5) = 22 ∧ hp_T M (A 6) = 21 ∧ hp_T M (A 7) = 21 ∧ hp_T M (A 8) = 22
  ∧ hp_N M (A 1) = 141 ∧ hp_N M (A 2) = 141 ∧ hp_N M (A 3) = 141 ∧ hp_N M (A 4) = 1128 ∧ hp_N M (A 5) = 141 ∧ hp_N M (A 6) = 60 ∧ hp_N M (A 7) = 60 ∧ hp_N M (A 8) = 240
  ∧ A 1 ≠ 0 ∧ A 2 ≠ 0 ∧ A 3 ≠ 0 ∧ A 4 ≠ 0 ∧ A 5 ≠ 0 ∧ A 6 ≠ 0 ∧ A 7 ≠ 0 ∧ A 8 ≠ 0 ∧ ∀ i j, i ≤ 8 → j ≤ 8 → A i = A j → i = j
theorem mL_E {M M' : am_Hp} {A : Nat → Nat} {i j : Nat} {f : md_R} (h : mL M A) (hi : i ≤ 8) (hj : j ≤ 8) (hij : i ≠ j) : hp_E (hp_sA M' (A i) f) (A j) = hp_E M' (A j) := hp_E_sA' _ _ (fun z => hij (h.2.2.2.2.2.2.2.2.2.2.2.2.2.2.2.2.2.2.2.2.2.2.2.2.2.2.2.2.2.2.2.2.2 _ _ hi hj z.symm))
def md_ic (v : Int32) : Bool := decide (i3 0 ≤ v) && decide (v ≤ i3 2)
theorem md_ic_iff {v : Int32} : md_ic v = true ↔ ∃ k, k < 3 ∧ v = i3 k := by
  unfold md_ic
  rw [Bool.and_eq_true, decide_eq_true_eq, decide_eq_true_eq]
  constructor
  · rintro ⟨h0, h1⟩
    obtain ⟨k, hk, e⟩ := i3_of (n := 3) h0 (by rw [Int32.lt_iff_toInt_lt]; rw [Int32.le_iff_toInt_le] at h1; have e1 : (i3 2).toInt = 2 := rfl; have e2 : (i3 3).toInt = 3 := rfl; omega) (by omega)
    exact ⟨k, hk, e⟩
  · rintro ⟨k, hk, rfl⟩
    exact ⟨(i3_le (by omega) (by omega)).mpr (by omega), (i3_le (by omega) (by omega)).mpr (by omega)⟩
/-- so many passengers -/
def md_ok (g : md_R) : Prop := g 1 = i3 (md_n g) ∧ md_n g ≤ 12
theorem md_wf_ok {T : Nat} {g : md_R} (h : md_wf T g) : md_ok g := by
  obtain ⟨⟨n, h0, hn⟩, -⟩ := h
  unfold md_ok
  rw [md_n_of hn h0]
  exact ⟨hn, h0⟩
def md_ip (g : md_R) (v : Int32) : Bool := decide (i3 0 ≤ v) && decide (v < i3 (md_n g))
theorem md_ip_iff {g : md_R} {v : Int32} (h : md_ok g) : md_ip g v = true ↔ ∃ k, k < md_n g ∧ v = i3 k := by
  have := h.2
  unfold md_ip
  rw [Bool.and_eq_true, decide_eq_true_eq, decide_eq_true_eq]
  constructor
  · rintro ⟨h0, h1⟩
    exact i3_of (n := md_n g) h0 h1 (by omega)
  · rintro ⟨k, hk, rfl⟩
    exact ⟨(i3_le (by omega) (by omega)).mpr (by omega), (i3_lt (by omega) (by omega)).mpr (by omega)⟩
theorem md_ip_le {n : Nat} {v : Int32} (h : n ≤ 12) : (v ≤ i3 n - i3 1) = (v < i3 n) := by
  have e : ∀ n : Fin 13, (i3 n.1 - i3 1).toInt = (n.1 : Int) - 1 := by decide +kernel
  have := e ⟨n, by omega⟩
  rw [Int32.le_iff_toInt_le, Int32.lt_iff_toInt_lt, this, i3_toInt (by omega)]
  simp only [eq_iff_iff]
  omega
theorem md_in_iff {g : md_R} {p c : Nat} : md_in g p c = true ↔ g (99 + p) = i3 1 ∧ g (87 + p) = i3 (c + 1) := by
  unfold md_in
  rw [Bool.and_eq_true, beq_iff_eq, beq_iff_eq, i3_one]
  exact Iff.rfl
theorem md_aw_iff {g : md_R} {p c : Nat} : md_aw g p c = true ↔ g (99 + p) = i3 0 ∧ g (87 + p) = i3 (c + 1) := by
  unfold md_aw
  rw [Bool.and_eq_true, beq_iff_eq, beq_iff_eq, i3_one]
  exact Iff.rfl
theorem md_sum_s (f : Nat → Int32) (n : Nat) : md_sum f (n + 1) = md_sum f n + f n := rfl
