/-! THE CLASS: a building in the heap and the row that it stands for. B 0 the Building; B 1 its cars' row, B 2 its passengers' row, B 3 its TripLog; B 4, B 5, B 6 the log's rows; B 7 .. B 9 the cars; B 10 .. B 21 the passengers' objects, in any order -/
theorem hp_T_sQ (M : am_Hp) (a k v : Nat) : hp_T (hp_sQ M a k v) = hp_T M := rfl
theorem hp_N_sQ (M : am_Hp) (a k v : Nat) : hp_N (hp_sQ M a k v) = hp_N M := rfl
theorem hp_R_sQ (M : am_Hp) (a k v : Nat) : hp_R (hp_sQ M a k v) = hp_R M := rfl
theorem hp_E_sQ (M : am_Hp) (a k v : Nat) : hp_E (hp_sQ M a k v) = hp_E M := rfl
theorem hp_I_sQ (M : am_Hp) (a k v : Nat) : hp_I (hp_sQ M a k v) = hp_I M := rfl
theorem hp_Q_sQ (M : am_Hp) (a k v : Nat) : hp_Q (hp_sQ M a k v) a = va_up (hp_Q M a) k v := hp_u_row _ _ _ _
theorem hp_Q_sQ' (M : am_Hp) {a b k : Nat} (v : Nat) (h : b ≠ a) : hp_Q (hp_sQ M a k v) b = hp_Q M b := hp_u_row' _ _ h
def bL (M : am_Hp) (B : Nat → Nat) : Prop := (hp_T M (B 0) = 1 ∧ hp_R M 0 (B 0) = B 1 ∧ hp_R M 1 (B 0) = B 2 ∧ hp_R M 2 (B 0) = B 3 ∧ hp_T M (B 1) = 26 ∧ hp_N M (B 1) = 3 ∧ hp_T M (B 2) = 27 ∧ hp_N M (B 2) = 12 ∧ hp_T M (B 3) = 6 ∧ hp_R M 100 (B 3) = B 4 ∧ hp_R M 101 (B 3) = B 5 ∧ hp_R M 102 (B 3) = B 6 ∧ hp_T M (B 4) = 22 ∧ hp_T M (B 5) = 22 ∧ hp_T M (B 6) = 22 ∧ hp_N M (B 4) = 10 ∧ hp_N M (B 5) = 10 ∧ hp_N M (B 6) = 10)
  ∧ (∀ c, c < 3 → hp_T M (B (7 + c)) = 2) ∧ (∀ k, k < 12 → hp_T M (B (10 + k)) = 4) ∧ (∀ i, i < 22 → B i ≠ 0) ∧ (∀ i j, i < 22 → j < 22 → B i = B j → i = j)
def bQ (M : am_Hp) (B : Nat → Nat) : Prop := (∀ c, c < 3 → hp_Q M (B 1) c = B (7 + c)) ∧ (∀ i, i < 12 → ∃ k, k < 12 ∧ hp_Q M (B 2) i = B (10 + k)) ∧ (∀ i j, i < 12 → j < 12 → hp_Q M (B 2) i = hp_Q M (B 2) j → i = j)
def iR (M : am_Hp) (b : Nat) (g : md_R) : Prop := hp_I M 3 b = g 1 ∧ hp_I M 4 b = g 2 - i3 1 ∧ hp_I M 5 b = g 0 ∧ hp_I M 6 b = g 5 ∧ hp_I M 7 b = g 6 ∧ hp_I M 8 b = g 8 ∧ hp_I M 9 b = g 7
def cR (M : am_Hp) (a : Nat) (g : md_R) (c : Nat) : Prop := hp_I M 20 a = g (9 + c) ∧ hp_I M 21 a = g (12 + c) ∧ hp_I M 22 a = g (15 + c) ∧ hp_I M 23 a = md_ld g c ∧ hp_I M 24 a = md_is g c ∧ hp_I M 25 a = g (18 + c) ∧ hp_I M 26 a = g (24 + c) ∧ hp_I M 27 a = bI (decide (g (21 + c) = i3 0))
def pR (M : am_Hp) (a : Nat) (g : md_R) (p : Nat) : Prop := hp_I M 60 a = g (27 + p) ∧ hp_I M 61 a = g (39 + p) ∧ hp_I M 62 a = g (51 + p) ∧ hp_I M 63 a = g (63 + p) ∧ hp_I M 64 a = g (75 + p) ∧ hp_I M 65 a = g (87 + p) - i3 1 ∧ hp_I M 66 a = g (99 + p)
def tR (M : am_Hp) (B : Nat → Nat) (g : md_R) : Prop := hp_I M 103 (B 3) = g 3 ∧ hp_I M 104 (B 3) = g 4 ∧ (∀ k, k < 10 → hp_E M (B 4) k = g (111 + k)) ∧ (∀ k, k < 10 → hp_E M (B 5) k = g (121 + k)) ∧ ∀ k, k < 10 → hp_E M (B 6) k = g (131 + k)
def bR (M : am_Hp) (B : Nat → Nat) (g : md_R) : Prop := bL M B ∧ bQ M B ∧ iR M (B 0) g ∧ (∀ c, c < 3 → cR M (B (7 + c)) g c) ∧ (∀ p, p < md_n g → pR M (hp_Q M (B 2) p) g p) ∧ tR M B g
theorem bQ_t {M : am_Hp} {B : Nat → Nat} (h : bL M B) (hq : bQ M B) {p : Nat} (hp : p < 12) : hp_T M (hp_Q M (B 2) p) = 4 ∧ hp_Q M (B 2) p ≠ 0 := by
  obtain ⟨k, hk, e⟩ := hq.2.1 p hp
  rw [e]
  exact ⟨h.2.2.1 k hk, h.2.2.2.1 _ (by omega)⟩
theorem bR_f {M : am_Hp} {B : Nat → Nat} {g : md_R} (h : bR M B g) (ok : md_ok g) : hp_T M (B 0) = 1 ∧ hp_R M 0 (B 0) = B 1 ∧ hp_R M 1 (B 0) = B 2 ∧ hp_R M 2 (B 0) = B 3 ∧ hp_T M (B 1) = 26 ∧ hp_N M (B 1) = 3 ∧ hp_T M (B 2) = 27 ∧ hp_N M (B 2) = 12 ∧ hp_T M (B 3) = 6 ∧ hp_R M 100 (B 3) = B 4 ∧ hp_R M 101 (B 3) = B 5 ∧ hp_R M 102 (B 3) = B 6 ∧ hp_T M (B 4) = 22 ∧ hp_T M (B 5) = 22 ∧ hp_T M (B 6) = 22 ∧ hp_N M (B 4) = 10 ∧ hp_N M (B 5) = 10 ∧ hp_N M (B 6) = 10
  ∧ B 0 ≠ 0 ∧ B 1 ≠ 0 ∧ B 2 ≠ 0 ∧ B 3 ≠ 0 ∧ B 4 ≠ 0 ∧ B 5 ≠ 0 ∧ B 6 ≠ 0 ∧ (∀ c, c < 3 → hp_Q M (B 1) c = B (7 + c)) ∧ (∀ c, c < 3 → hp_T M (B (7 + c)) = 2) ∧ (∀ c, c < 3 → B (7 + c) ≠ 0) ∧ (∀ p, p < 12 → hp_T M (hp_Q M (B 2) p) = 4) ∧ (∀ p, p < 12 → hp_Q M (B 2) p ≠ 0)
  ∧ hp_I M 3 (B 0) = i3 (md_n g) ∧ hp_I M 4 (B 0) = g 2 - i3 1 ∧ hp_I M 5 (B 0) = g 0 ∧ hp_I M 6 (B 0) = g 5 ∧ hp_I M 7 (B 0) = g 6 ∧ hp_I M 8 (B 0) = g 8 ∧ hp_I M 9 (B 0) = g 7
  ∧ (∀ c, c < 3 → hp_I M 20 (B (7 + c)) = g (9 + c)) ∧ (∀ c, c < 3 → hp_I M 21 (B (7 + c)) = g (12 + c)) ∧ (∀ c, c < 3 → hp_I M 22 (B (7 + c)) = g (15 + c)) ∧ (∀ c, c < 3 → hp_I M 23 (B (7 + c)) = md_ld g c) ∧ (∀ c, c < 3 → hp_I M 24 (B (7 + c)) = md_is g c) ∧ (∀ c, c < 3 → hp_I M 25 (B (7 + c)) = g (18 + c)) ∧ (∀ c, c < 3 → hp_I M 26 (B (7 + c)) = g (24 + c)) ∧ (∀ c, c < 3 → hp_I M 27 (B (7 + c)) = bI (decide (g (21 + c) = i3 0)))
  ∧ (∀ p, p < md_n g → hp_I M 60 (hp_Q M (B 2) p) = g (27 + p)) ∧ (∀ p, p < md_n g → hp_I M 61 (hp_Q M (B 2) p) = g (39 + p)) ∧ (∀ p, p < md_n g → hp_I M 62 (hp_Q M (B 2) p) = g (51 + p)) ∧ (∀ p, p < md_n g → hp_I M 63 (hp_Q M (B 2) p) = g (63 + p)) ∧ (∀ p, p < md_n g → hp_I M 64 (hp_Q M (B 2) p) = g (75 + p)) ∧ (∀ p, p < md_n g → hp_I M 65 (hp_Q M (B 2) p) = g (87 + p) - i3 1) ∧ (∀ p, p < md_n g → hp_I M 66 (hp_Q M (B 2) p) = g (99 + p))
  ∧ hp_I M 103 (B 3) = g 3 ∧ hp_I M 104 (B 3) = g 4 ∧ (∀ k, k < 10 → hp_E M (B 4) k = g (111 + k)) ∧ (∀ k, k < 10 → hp_E M (B 5) k = g (121 + k)) ∧ (∀ k, k < 10 → hp_E M (B 6) k = g (131 + k)) := by
  obtain ⟨hL, hq, hI, hC, hP, hT⟩ := h
  obtain ⟨⟨a0, a1, a2, a3, a4, a5, a6, a7, a8, a9, a10, a11, a12, a13, a14, a15, a16, a17⟩, ht, hk, hz, hJ⟩ := hL
  obtain ⟨x1, x2, x3, x4, x5, x6, x7⟩ := hI
  obtain ⟨v1, v2, v3, v4, v5⟩ := hT
  have hp : ∀ p, p < 12 → hp_T M (hp_Q M (B 2) p) = 4 ∧ hp_Q M (B 2) p ≠ 0 := fun p hp => by
    obtain ⟨k, hk1, e⟩ := hq.2.1 p hp
    rw [e]
    exact ⟨hk k hk1, hz _ (by omega)⟩
  exact ⟨a0, a1, a2, a3, a4, a5, a6, a7, a8, a9, a10, a11, a12, a13, a14, a15, a16, a17, hz 0 (by omega), hz 1 (by omega), hz 2 (by omega), hz 3 (by omega), hz 4 (by omega), hz 5 (by omega), hz 6 (by omega), hq.1, ht, fun c hc => hz _ (by omega), fun p h => (hp p h).1, fun p h => (hp p h).2, x1.trans ok.1, x2, x3, x4, x5, x6, x7, fun c hc => (hC c hc).1, fun c hc => (hC c hc).2.1, fun c hc => (hC c hc).2.2.1, fun c hc => (hC c hc).2.2.2.1, fun c hc => (hC c hc).2.2.2.2.1, fun c hc => (hC c hc).2.2.2.2.2.1, fun c hc => (hC c hc).2.2.2.2.2.2.1, fun c hc => (hC c hc).2.2.2.2.2.2.2, fun p hp => (hP p hp).1, fun p hp => (hP p hp).2.1, fun p hp => (hP p hp).2.2.1, fun p hp => (hP p hp).2.2.2.1, fun p hp => (hP p hp).2.2.2.2.1, fun p hp => (hP p hp).2.2.2.2.2.1, fun p hp => (hP p hp).2.2.2.2.2.2, v1, v2, v3, v4, v5⟩
theorem sb1 {x : Int32} {k : Nat} : (x - i3 1 = i3 k) = (x = i3 (k + 1)) := by
  apply propext
  constructor
  · intro h
    rw [← i3_add, ← h]
    exact (Int32.sub_add_cancel x (i3 1)).symm
  · rintro rfl
    exact i3_sub k 1
theorem sb0 {x : Int32} : (x - i3 1 = -i3 1) = (x = i3 0) := by
  apply propext
  constructor
  · intro h
    have : x = x - i3 1 + i3 1 := (Int32.sub_add_cancel x (i3 1)).symm
    rw [this, h]
    rfl
  · rintro rfl
    rfl
theorem k_isCar {G : am_Gx} {d : Nat} {M : am_Hp} {v : Int32} : am_CT G (d + 1) rX6_isCar [.int v] M 0 0 (qi (bI (md_ic v)) M) := by
  refine am_intro mkX6_isCar rfl (Nat.le_of_ble_eq_true rfl) rfl (fun X hX hM => ?_)
  refine vX6_isCar_0 hX hM ?_
  have e : md_ic v = true ↔ ¬ v < 0 ∧ ¬ (3 : Int32) ≤ v := by
    unfold md_ic
    rw [Bool.and_eq_true, decide_eq_true_eq, decide_eq_true_eq, Int32.lt_iff_toInt_lt, Int32.le_iff_toInt_le, Int32.le_iff_toInt_le, Int32.le_iff_toInt_le]
    have e1 : (i3 0).toInt = 0 := rfl
    have e2 : (i3 2).toInt = 2 := rfl
    have e3 : (3 : Int32).toInt = 3 := rfl
    have e4 : (0 : Int32).toInt = 0 := rfl
    omega
  exact ⟨fun a => qF (fun z => (e.mp z).1 a), fun a => ⟨fun b => qF (fun z => (e.mp z).2 b), fun b => qT (e.mpr ⟨a, b⟩)⟩⟩
theorem k_isFloor {G : am_Gx} {d : Nat} {M : am_Hp} {v : Int32} : am_CT G (d + 1) rX6_isFloor [.int v] M 0 0 (qi (bI (md_fl v)) M) := by
  refine am_intro mkX6_isFloor rfl (Nat.le_of_ble_eq_true rfl) rfl (fun X hX hM => ?_)
  refine vX6_isFloor_0 hX hM ?_
  have e : md_fl v = true ↔ ¬ v < 0 ∧ ¬ (10 : Int32) ≤ v := by
    unfold md_fl
    rw [Bool.and_eq_true, decide_eq_true_eq, decide_eq_true_eq, Int32.lt_iff_toInt_lt, Int32.le_iff_toInt_le, Int32.le_iff_toInt_le, Int32.le_iff_toInt_le]
    have e2 : (9 : Int32).toInt = 9 := rfl
    have e3 : (10 : Int32).toInt = 10 := rfl
    have e4 : (0 : Int32).toInt = 0 := rfl
    omega
  exact ⟨fun a => qF (fun z => (e.mp z).1 a), fun a => ⟨fun b => qF (fun z => (e.mp z).2 b), fun b => qT (e.mpr ⟨a, b⟩)⟩⟩
theorem k_isWeight {G : am_Gx} {d : Nat} {M : am_Hp} {v : Int32} : am_CT G (d + 1) rX6_isWeight [.int v] M 0 0 (qi (bI (md_iw v)) M) := by
  refine am_intro mkX6_isWeight rfl (Nat.le_of_ble_eq_true rfl) rfl (fun X hX hM => ?_)
  refine vX6_isWeight_0 hX hM ?_
  have e : md_iw v = true ↔ ¬ v < 10 ∧ ¬ (150 : Int32) < v := by
    unfold md_iw
    rw [Bool.and_eq_true, decide_eq_true_eq, decide_eq_true_eq, Int32.lt_iff_toInt_lt, Int32.le_iff_toInt_le, Int32.le_iff_toInt_le, Int32.lt_iff_toInt_lt]
    have e1 : (i3 10).toInt = 10 := rfl
    have e2 : (i3 150).toInt = 150 := rfl
    have e3 : (10 : Int32).toInt = 10 := rfl
    have e4 : (150 : Int32).toInt = 150 := rfl
    omega
  first
    | exact ⟨fun a => qF (fun z => (e.mp z).1 a), fun a => ⟨fun b => qF (fun z => (e.mp z).2 b), fun b => qT (e.mpr ⟨a, b⟩)⟩⟩
    | (refine ⟨fun a => qF (fun z => (e.mp z).1 a), fun a => ⟨fun b => ?_, fun b => ?_⟩⟩
       · exact qT (e.mpr ⟨a, Int32.not_lt.mpr b⟩)
       · exact qF (fun z => (e.mp z).2 (Int32.not_le.mp b)))
/-- the sets of stops -/
theorem k_holds {G : am_Gx} {d : Nat} {M : am_Hp} {m : Nat} {v : Int32} (hm : m < 1024) : am_CT G (d + 2) rX6_holds [.int (i3 m), .int v] M 0 0 (qi (bI (md_fl v && m.testBit v.toNatClampNeg)) M) := by
  refine am_intro mkX6_holds rfl (Nat.le_of_ble_eq_true rfl) rfl (fun X hX hM => ?_)
  refine vX6_holds_0 hX hM ?_
  refine ct_i k_isFloor ?_
  simp (disch := omega) only [forall_eq, Nat.reduceAdd, Nat.reduceMul, Nat.reduceEqDiff, Nat.reduceLeDiff, Nat.reduceSub, ne_eq, not_false_eq_true, not_true_eq_false, false_implies, true_implies, implies_true, true_and, and_true, eq_self, li0, li1, li2, li3, li4, li5, li6, li7, li8, li9, li10, li11, li12, li15, li18, li21, li22, li23, li24, li27, li30, li32, li39, li50, li51, li59, li60, li63, li75, li87, li90, li99, li100, li111, li121, li126, li131, li141, li150, li400, li900, li987, li1128, li240, i3_add, i3_toNat, vpt, bI_0, bI_1, bI_bo, Bool.not_eq_false, Bool.true_eq_false, Bool.false_eq_true, Bool.not_eq_true, i3_le', i3_lt', i3_eq', hp_sE_sA, hp_sA_sA, hp_E_sA, hp_T_sA, hp_N_sA, hp_R_sA, hp_I_sA, hp_T_sI, hp_N_sI, hp_R_sI, hp_E_sI, hp_I_sI, hp_sA_sI, hp_sI_sI, forall_eq, Nat.reduceAdd, Nat.reduceMul, Nat.reduceEqDiff, Nat.reduceLeDiff, Nat.reduceSub, ne_eq, not_false_eq_true, not_true_eq_false, false_implies, true_implies, implies_true, true_and, and_true, eq_self, li0, li1, li2, li3, li4, li5, li6, li7, li8, li9, li10, li11, li12, li15, li18, li21, li22, li23, li24, li27, li30, li32, li39, li50, li51, li59, li60, li63, li75, li87, li90, li99, li100, li111, li121, li126, li131, li141, li150, li400, li900, li987, li1128, li240, i3_add, i3_toNat, vpt, bI_0, bI_1, bI_bo, Bool.not_eq_false, Bool.true_eq_false, Bool.false_eq_true, Bool.not_eq_true, i3_le', i3_lt', i3_eq']
  refine ⟨fun a => qF (by rw [a]; simp), fun a => ?_⟩
  obtain ⟨f, hf, rfl⟩ := md_fl_iff.mp a
  have e := i3_bit hm hf
  rw [show (1 : Int32) = i3 1 from rfl, show (31 : Int32) = i3 31 from rfl] at e
  rw [i3_toNat (by omega)]
  refine ⟨fun b => qT ?_, fun b => qF ?_⟩
  · rw [a, Bool.true_and]
    cases hb : m.testBit f with
    | true => rfl
    | false =>
      rw [hb] at e
      rw [show i3 f &&& (31 : Int32) = i3 f &&& i3 31 from rfl, e] at b
      exact absurd b (by decide)
  · rw [a, Bool.true_and]
    intro hb
    rw [hb] at e
    exact b e
theorem md_hc_test {m f : Nat} {r : Int32} {k : Nat} (hm : m < 1024) : (¬ (i3 f + i3 k * r) < 0 ∧ ¬ (10 : Int32) ≤ i3 f + i3 k * r ∧ ((i3 m >>> ((i3 f + i3 k * r) &&& 31)) &&& 1) = (1 : Int32)) ↔ md_hc m f r k = true := by
  unfold md_hc
  rw [Bool.and_eq_true]
  have e : md_fl (i3 f + i3 k * r) = true ↔ ¬ (i3 f + i3 k * r) < 0 ∧ ¬ (10 : Int32) ≤ i3 f + i3 k * r := by
    generalize i3 f + i3 k * r = v
    unfold md_fl
    rw [Bool.and_eq_true, decide_eq_true_eq, decide_eq_true_eq, Int32.lt_iff_toInt_lt, Int32.le_iff_toInt_le, Int32.le_iff_toInt_le, Int32.le_iff_toInt_le]
    have e2 : (9 : Int32).toInt = 9 := rfl
    have e3 : (10 : Int32).toInt = 10 := rfl
    have e4 : (0 : Int32).toInt = 0 := rfl
    omega
  rw [e, and_assoc]
  refine and_congr_right (fun h1 => and_congr_right (fun h2 => ?_))
  obtain ⟨q, hq, hv⟩ := md_fl_iff.mp (e.mpr ⟨h1, h2⟩)
  rw [hv, i3_toNat (by omega), i3_bit hm hq]
  cases m.testBit q <;> simp
theorem k_first {G : am_Gx} {d : Nat} {M : am_Hp} {m f : Nat} {r : Int32} (hm : m < 1024) : am_CT G (d + 1) rX6_distanceToFirst [.int (i3 m), .int (i3 f), .int r] M 0 0 (qi (i3 (md_go (md_hc m f r) 9 1)) M) := by
  refine am_intro mkX6_distanceToFirst rfl (Nat.le_of_ble_eq_true rfl) rfl (fun X hX hM => ?_)
  have L : ∀ k e, e + k = 10 → md_go (md_hc m f r) k e = md_go (md_hc m f r) 9 1 → am_J X 2 [(0, .int (i3 m)), (1, .int (i3 f)), (2, .int r), (3, .int (i3 e))] [] M 0 0 := by
    intro k
    induction k with
    | zero =>
      intro e he hn
      have e10 : e = 10 := by omega
      subst e10
      exact vX6_distanceToFirst_2 hX hM (fun x0 x1 x2 x3 M => am_J X 2 [(0, .int x0), (1, .int x1), (2, .int x2), (3, .int x3)] [] M 0 0) (fun _ _ _ _ _ h => h) ⟨fun _ => ⟨by rw [← hn]; rfl, rfl⟩, fun z => absurd (Int32.le_refl _) z⟩
    | succ k ih =>
      intro e he hn
      rw [md_go] at hn
      have N : md_hc m f r e = false → am_J X 2 [(0, .int (i3 m)), (1, .int (i3 f)), (2, .int r), (3, .int (i3 e + 1))] [] M 0 0 := fun z => by
        rw [z, if_neg (by decide)] at hn
        rw [i3_one]
        exact ih (e + 1) (by omega) hn
      refine vX6_distanceToFirst_2 hX hM (fun x0 x1 x2 x3 M => am_J X 2 [(0, .int x0), (1, .int x1), (2, .int x2), (3, .int x3)] [] M 0 0) (fun _ _ _ _ _ h => h) ⟨fun z => absurd z (by rw [show (10 : Int32) = i3 10 from rfl, i3_le (by omega) (by omega)]; omega), fun _ => ?_⟩
      rintro v rfl
      refine ⟨fun a1 => ?_, fun a1 => ⟨fun a2 => ?_, fun a2 => ⟨fun a3 => ?_, fun a3 => ?_⟩⟩⟩
      · rintro v rfl
        exact N (by rw [Bool.eq_false_iff]; exact fun z => ((md_hc_test hm).mpr z).1 a1)
      · rintro v rfl
        exact N (by rw [Bool.eq_false_iff]; exact fun z => ((md_hc_test hm).mpr z).2.1 a2)
      · rw [(md_hc_test hm).mp ⟨a1, a2, a3⟩, if_pos rfl] at hn
        exact ⟨by rw [hn], rfl⟩
      · rintro v rfl
        exact N (by rw [Bool.eq_false_iff]; exact fun z => a3 ((md_hc_test hm).mpr z).2.2)
  exact vX6_distanceToFirst_0 hX hM (fun x0 x1 x2 x3 M => am_J X 2 [(0, .int x0), (1, .int x1), (2, .int x2), (3, .int x3)] [] M 0 0) (fun _ _ _ _ _ h => h) (L 9 1 (by omega) rfl)
theorem k_last {G : am_Gx} {d : Nat} {M : am_Hp} {m f : Nat} {r : Int32} (hm : m < 1024) : am_CT G (d + 1) rX6_distanceToLast [.int (i3 m), .int (i3 f), .int r] M 0 0 (qi (i3 (md_la (md_hc m f r) 9)) M) := by
  refine am_intro mkX6_distanceToLast rfl (Nat.le_of_ble_eq_true rfl) rfl (fun X hX hM => ?_)
  have L : ∀ e, e < 10 → md_la (md_hc m f r) e = md_la (md_hc m f r) 9 → am_J X 3 [(0, .int (i3 m)), (1, .int (i3 f)), (2, .int r), (3, .int (i3 e))] [] M 0 0 := by
    intro e
    induction e with
    | zero =>
      intro _ hn
      exact vX6_distanceToLast_3 hX hM (fun x0 x1 x2 x3 M => am_J X 3 [(0, .int x0), (1, .int x1), (2, .int x2), (3, .int x3)] [] M 0 0) (fun _ _ _ _ _ h => h) ⟨fun _ => ⟨by rw [← hn]; rfl, rfl⟩, fun z => absurd (Int32.le_refl _) z⟩
    | succ e ih =>
      intro he hn
      rw [md_la] at hn
      have N : md_hc m f r (e + 1) = false → am_J X 3 [(0, .int (i3 m)), (1, .int (i3 f)), (2, .int r), (3, .int (i3 (e + 1) + (-1)))] [] M 0 0 := fun z => by
        rw [z, if_neg (by decide)] at hn
        rw [show i3 (e + 1) + (-1) = i3 e by rw [← i3_add, Int32.add_assoc]; exact Int32.add_zero _]
        exact ih (by omega) hn
      refine vX6_distanceToLast_3 hX hM (fun x0 x1 x2 x3 M => am_J X 3 [(0, .int x0), (1, .int x1), (2, .int x2), (3, .int x3)] [] M 0 0) (fun _ _ _ _ _ h => h) ⟨fun z => absurd z (by rw [show (0 : Int32) = i3 0 from rfl, i3_le (by omega) (by omega)]; omega), fun _ => ?_⟩
      rintro v rfl
      refine ⟨fun a1 => ?_, fun a1 => ⟨fun a2 => ?_, fun a2 => ⟨fun a3 => ?_, fun a3 => ?_⟩⟩⟩
      · rintro v rfl
        exact N (by rw [Bool.eq_false_iff]; exact fun z => ((md_hc_test hm).mpr z).1 a1)
      · rintro v rfl
        exact N (by rw [Bool.eq_false_iff]; exact fun z => ((md_hc_test hm).mpr z).2.1 a2)
      · rw [(md_hc_test hm).mp ⟨a1, a2, a3⟩, if_pos rfl] at hn
        exact ⟨by rw [← hn], rfl⟩
      · rintro v rfl
        exact N (by rw [Bool.eq_false_iff]; exact fun z => a3 ((md_hc_test hm).mpr z).2.2)
  exact vX6_distanceToLast_0 hX hM (fun x0 x1 x2 x3 M => am_J X 3 [(0, .int x0), (1, .int x1), (2, .int x2), (3, .int x3)] [] M 0 0) (fun _ _ _ _ _ h => h) (L 9 (by omega) rfl)
