/-! .. what changes the row -/
theorem hp_sA_nd {M : am_Hp} {a : Nat} {g : md_R} (h : hp_E M a = g) : hp_sA M a g = M := by rw [← h]; exact hp_sA_id M a
/-- 141 cells copied from s on to t on (the first j of them) -/
def md_cq (s t j : Nat) (src dst : md_R) : md_R := fun k => if t ≤ k ∧ k < t + j then src (s + (k - t)) else dst k
theorem md_cq_0 (s t : Nat) (src dst : md_R) : md_cq s t 0 src dst = dst := by
  funext k
  unfold md_cq
  rw [if_neg (by omega)]
theorem md_cq_s (s t j : Nat) (src dst : md_R) : va_up (md_cq s t j src dst) (t + j) (src (s + j)) = md_cq s t (j + 1) src dst := by
  funext k
  unfold va_up md_cq
  by_cases h : k = t + j
  · subst h
    rw [if_pos rfl, if_pos (by omega), show t + j - t = j by omega]
  · rw [if_neg h]
    by_cases h2 : t ≤ k ∧ k < t + j
    · rw [if_pos h2, if_pos (by omega)]
    · rw [if_neg h2, if_neg (by omega)]
theorem md_dP_0 (g : md_R) (p : Nat) : md_dP g p 27 = g := by
  funext k
  unfold md_dP
  rw [if_neg (by omega)]
theorem md_dP_row (g : md_R) {p i : Nat} (hp : p < 12) : md_dP g p (27 + 12 * i + p) = md_dP g p (27 + 12 * i) := by
  funext k
  unfold md_dP
  by_cases h : 27 ≤ k ∧ k < 27 + 12 * i ∧ p ≤ (k - 27) % 12
  · rw [if_pos h, if_pos (by omega)]
  · rw [if_neg h, if_neg]
    rintro ⟨h1, h2, h3⟩
    exact h ⟨h1, by omega, h3⟩
theorem md_dP_s (g : md_R) {p i q : Nat} (hp : p ≤ q) (hq : q < 12) : va_up (md_dP g p (27 + 12 * i + q)) (27 + 12 * i + q) (if q < 11 then g (27 + 12 * i + q + 1) else 0) = md_dP g p (27 + 12 * i + (q + 1)) := by
  funext k
  unfold va_up md_dP
  by_cases h : k = 27 + 12 * i + q
  · subst h
    have e : (27 + 12 * i + q - 27) % 12 = q := by omega
    have C : 27 ≤ 27 + 12 * i + q ∧ 27 + 12 * i + q < 27 + 12 * i + (q + 1) ∧ p ≤ (27 + 12 * i + q - 27) % 12 := by omega
    rw [if_pos rfl, if_pos C, e]
  · rw [if_neg h]
    by_cases h2 : 27 ≤ k ∧ k < 27 + 12 * i + q ∧ p ≤ (k - 27) % 12
    · rw [if_pos h2, if_pos (show 27 ≤ k ∧ k < 27 + 12 * i + (q + 1) ∧ p ≤ (k - 27) % 12 from ⟨h2.1, by omega, h2.2.2⟩)]
    · rw [if_neg h2, if_neg (show ¬ (27 ≤ k ∧ k < 27 + 12 * i + (q + 1) ∧ p ≤ (k - 27) % 12) from fun z => h2 ⟨z.1, by omega, z.2.2⟩)]
theorem md_dP_out (g : md_R) {p e k : Nat} (h : k < 27 ∨ e ≤ k) : md_dP g p e k = g k := by
  unfold md_dP
  rw [if_neg (by omega)]
theorem i3_div {a b : Nat} (ha : a < 2147483648) (hb : b < 2147483648) : i3 a / i3 b = i3 (a / b) := (Int32.ofNat_div ha hb).symm
theorem i3_sub' {a b : Nat} (h : b ≤ a) : i3 a - i3 b = i3 (a - b) := (Int32.ofNat_sub a b h).symm
theorem i3_mod {a b : Nat} (ha : a < 2147483648) (hb : b < 2147483648) : i3 a - i3 a / i3 b * i3 b = i3 (a % b) := by
  rw [i3_div ha hb, i3_mul, i3_sub' (Nat.div_mul_le_self a b)]
  congr 1
  have e := Nat.div_add_mod a b
  rw [Nat.mul_comm] at e
  omega
/-! specifications of the commands: what is thrown (0: nothing), the answer, the row -/
abbrev md_Sp : Type := Nat × Int32 × md_R
def md_iw (w : Int32) : Bool := decide (i3 10 ≤ w) && decide (w ≤ i3 150)
def sp_add (g : md_R) (s e w : Int32) : md_Sp := if md_fl s = true ∧ md_fl e = true ∧ s ≠ e ∧ md_iw w = true then (if md_n g = 12 then (2, i3 0, g) else (0, i3 (md_n g), md_ad g s e w)) else (1, i3 0, g)
def sp_rem (g : md_R) (v : Int32) : md_Sp := if md_ip g v = true then (if g (99 + v.toNatClampNeg) = i3 1 then (2, i3 0, g) else (0, g (27 + v.toNatClampNeg), md_dr g v.toNatClampNeg)) else (1, i3 0, g)
def sp_hold (g : md_R) (v s : Int32) : md_Sp := if md_ic v = true then (if (decide (i3 1 ≤ s) && decide (s ≤ i3 3)) = true then (if g (18 + v.toNatClampNeg) = i3 0 then (3, i3 0, g) else (0, g (18 + v.toNatClampNeg), va_up g (18 + v.toNatClampNeg) s)) else (2, i3 0, g)) else (1, i3 0, g)
def md_ca (g : md_R) (c : Nat) : Int32 := md_sum (fun p => if md_aw g p c then 1 else 0) (md_n g)
def sp_stop (g : md_R) (v : Int32) : md_Sp := if md_ic v = true then (if g (21 + v.toNatClampNeg) = i3 1 then (2, i3 0, g) else (0, md_ca g v.toNatClampNeg, md_so g v.toNatClampNeg)) else (1, i3 0, g)
def sp_start (g : md_R) (v : Int32) : md_Sp := if md_ic v = true then (if g (21 + v.toNatClampNeg) = i3 0 then (2, i3 0, g) else (0, i3 3 - va_up g (21 + v.toNatClampNeg) 0 21 - va_up g (21 + v.toNatClampNeg) 0 22 - va_up g (21 + v.toNatClampNeg) 0 23, va_up g (21 + v.toNatClampNeg) 0)) else (1, i3 0, g)
def sp_limit (g : md_R) (v k : Int32) : md_Sp := if md_ic v = true then (if (decide (i3 100 ≤ k) && decide (k ≤ i3 900)) = true then (if md_ld g v.toNatClampNeg ≤ k then (0, g (15 + v.toNatClampNeg), va_up g (15 + v.toNatClampNeg) k) else (3, i3 0, g)) else (2, i3 0, g)) else (1, i3 0, g)
def sp_adv (g : md_R) (v : Int32) : md_Sp := if (decide (i3 1 ≤ v) && decide (v ≤ i3 30)) = true then (0, md_it g v.toNatClampNeg 3 - g 3, md_it g v.toNatClampNeg) else (1, i3 0, g)
abbrev qs (sp : md_Sp) (M : am_Hp) (A : Nat → Nat) : am_Q := qi sp.2.1 (hp_sI (hp_sA M (A 1) sp.2.2) 153 (A 0) (i3 sp.1))
theorem qs_f {sp : md_Sp} {M : am_Hp} {A : Nat → Nat} {g : md_R} {k : Nat} (hg : hp_E M (A 1) = g) (e : sp = (k, i3 0, g)) : qs sp M A (.inl (some (.int (i3 0)))) (hp_sI M 153 (A 0) (i3 k)) := by
  rw [e]
  refine ⟨rfl, ?_⟩
  show _ = hp_sI (hp_sA M (A 1) g) 153 (A 0) (i3 k)
  rw [hp_sA_nd hg]
theorem qs_t {sp : md_Sp} {M : am_Hp} {A : Nat → Nat} {g' : md_R} {v : Int32} (e : sp = (0, v, g')) : qs sp M A (.inl (some (.int v))) (hp_sI (hp_sA M (A 1) g') 153 (A 0) (i3 0)) := by
  rw [e]
  exact ⟨rfl, rfl⟩
theorem md_fo_s (F : md_R → Nat → md_R) (g : md_R) (k : Nat) : md_fo F g (k + 1) = F (md_fo F g k) k := rfl
theorem md_r1_eq (c : Nat) (g : md_R) (p : Nat) : md_r1 c g p = if md_aw g p c then va_up g (87 + p) 0 else g := rfl
theorem md_r1_far {c : Nat} {g : md_R} {p k : Nat} (h : k ≠ 87 + p) : md_r1 c g p k = g k := by
  unfold md_r1
  split
  · exact up_n _ _ h
  · rfl
theorem md_fr_far {c : Nat} {g : md_R} : ∀ (n k : Nat), (k < 87 ∨ 87 + n ≤ k) → md_fo (md_r1 c) g n k = g k
  | 0, _, _ => rfl
  | n + 1, k, h => by rw [md_fo_s, md_r1_far (by omega), md_fr_far n k (by omega)]
