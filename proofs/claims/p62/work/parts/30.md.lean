theorem up_e {α : Type} (f : Nat → α) (k : Nat) (v : α) : va_up f k v k = v := if_pos rfl
theorem up_n {α : Type} (f : Nat → α) {k j : Nat} (v : α) (h : j ≠ k) : va_up f k v j = f j := if_neg h
theorem up_up {α : Type} (f : Nat → α) (k : Nat) (v w : α) : va_up (va_up f k v) k w = va_up f k w := by
  funext j
  unfold va_up
  split <;> rfl
theorem up_id {α : Type} (f : Nat → α) (k : Nat) : va_up f k (f k) = f := by
  funext j
  unfold va_up
  split
  · rename_i h; rw [h]
  · rfl
/-! numbers -/
def i3 (k : Nat) : Int32 := Int32.ofNat k
theorem i3_toNat {k : Nat} (h : k < 2147483648) : (i3 k).toNatClampNeg = k := by
  unfold i3 Int32.toNatClampNeg
  rw [Int32.toInt_ofNat_of_lt (by omega)]
  exact Int.toNat_natCast k
theorem i3_toInt {k : Nat} (h : k < 2147483648) : (i3 k).toInt = k := Int32.toInt_ofNat_of_lt (by omega)
theorem i3_add (a b : Nat) : i3 a + i3 b = i3 (a + b) := (Int32.ofNat_add a b).symm
theorem i3_lit (n : Nat) : (OfNat.ofNat n : Int32) = i3 n := rfl
theorem i3_eq {a b : Nat} (ha : a < 2147483648) (hb : b < 2147483648) : i3 a = i3 b ↔ a = b := by
  constructor
  · intro h
    have := congrArg Int32.toNatClampNeg h
    rwa [i3_toNat ha, i3_toNat hb] at this
  · rintro rfl; rfl
theorem i3_le {a b : Nat} (ha : a < 2147483648) (hb : b < 2147483648) : i3 a ≤ i3 b ↔ a ≤ b := by
  rw [Int32.le_iff_toInt_le, i3_toInt ha, i3_toInt hb]; omega
theorem i3_lt {a b : Nat} (ha : a < 2147483648) (hb : b < 2147483648) : i3 a < i3 b ↔ a < b := by
  rw [Int32.lt_iff_toInt_lt, i3_toInt ha, i3_toInt hb]; omega
theorem i3_of {v : Int32} {n : Nat} (h0 : (0 : Int32) ≤ v) (h1 : v < i3 n) (hn : n < 2147483648) : ∃ k, k < n ∧ v = i3 k := by
  rw [Int32.le_iff_toInt_le] at h0
  rw [Int32.lt_iff_toInt_lt, i3_toInt hn] at h1
  refine ⟨v.toInt.toNat, ?_, ?_⟩
  · have : (0 : Int32).toInt = 0 := rfl
    omega
  · apply Int32.toInt_inj.mp
    have : (0 : Int32).toInt = 0 := rfl
    rw [i3_toInt (by omega)]; omega
theorem i3_one (k : Nat) : i3 k + 1 = i3 (k + 1) := i3_add k 1
theorem i3_sub (a b : Nat) : i3 (a + b) - i3 b = i3 a := by
  rw [← i3_add]; exact Int32.add_sub_cancel _ _
example (k : Nat) : (9 : Int32) + i3 k = i3 (9 + k) := by rw [i3_lit 9, i3_add]
abbrev md_R : Type := Nat → Int32
def md_sum (f : Nat → Int32) : Nat → Int32
  | 0 => 0
  | n + 1 => md_sum f n + f n
theorem md_sum_congr {f f' : Nat → Int32} : ∀ (n : Nat), (∀ i, i < n → f i = f' i) → md_sum f n = md_sum f' n
  | 0, _ => rfl
  | n + 1, h => by rw [md_sum, md_sum, md_sum_congr n (fun i hi => h i (by omega)), h n (by omega)]
def md_any (f : Nat → Bool) : Nat → Bool
  | 0 => false
  | n + 1 => md_any f n || f n
theorem md_any_iff {f : Nat → Bool} : ∀ (n : Nat), md_any f n = true ↔ ∃ i, i < n ∧ f i = true
  | 0 => by simp [md_any]
  | n + 1 => by
    rw [md_any, Bool.or_eq_true, md_any_iff n]
    constructor
    · rintro (⟨i, h, h1⟩ | h)
      · exact ⟨i, by omega, h1⟩
      · exact ⟨n, by omega, h⟩
    · rintro ⟨i, h, h1⟩
      by_cases hi : i = n
      · exact .inr (hi ▸ h1)
      · exact .inl ⟨i, by omega, h1⟩
theorem md_any_congr {f f' : Nat → Bool} : ∀ (n : Nat), (∀ i, i < n → f i = f' i) → md_any f n = md_any f' n
  | 0, _ => rfl
  | n + 1, h => by rw [md_any, md_any, md_any_congr n (fun i hi => h i (by omega)), h n (by omega)]
/-- the first d of k from d on with P, or 0 -/
def md_go (P : Nat → Bool) : Nat → Nat → Nat
  | 0, _ => 0
  | k + 1, d => if P d then d else md_go P k (d + 1)
/-- the last d ≤ k (from 1 on) with P, or 0 -/
def md_la (P : Nat → Bool) : Nat → Nat
  | 0 => 0
  | k + 1 => if P (k + 1) then k + 1 else md_la P k
theorem md_la_le (P : Nat → Bool) : ∀ k, md_la P k ≤ k
  | 0 => Nat.le_refl _
  | k + 1 => by
    rw [md_la]
    split
    · exact Nat.le_refl _
    · exact Nat.le_succ_of_le (md_la_le P k)
theorem md_go_le (P : Nat → Bool) : ∀ k d, md_go P k d = 0 ∨ (d ≤ md_go P k d ∧ md_go P k d < d + k ∧ P (md_go P k d) = true)
  | 0, d => .inl rfl
  | k + 1, d => by
    rw [md_go]
    split
    · exact .inr ⟨Nat.le_refl _, by omega, by assumption⟩
    · rcases md_go_le P k (d + 1) with h | ⟨h1, h2, h3⟩
      · exact .inl h
      · exact .inr ⟨by omega, by omega, h3⟩
/-- passengers: there are so many -/
def md_n (g : md_R) : Nat := (g 1).toNatClampNeg
def md_in (g : md_R) (p c : Nat) : Bool := g (99 + p) == 1 && g (87 + p) == i3 c + 1
def md_aw (g : md_R) (p c : Nat) : Bool := g (99 + p) == 0 && g (87 + p) == i3 c + 1
def md_ldf (g : md_R) (c p : Nat) : Int32 := if md_in g p c then g (63 + p) else 0
def md_ld (g : md_R) (c : Nat) : Int32 := md_sum (md_ldf g c) (md_n g)
def md_isf (g : md_R) (c p : Nat) : Int32 := if md_in g p c then 1 else 0
def md_is (g : md_R) (c : Nat) : Int32 := md_sum (md_isf g c) (md_n g)
def md_stf (g : md_R) (c : Nat) (f : Int32) (p : Nat) : Bool := (md_in g p c && g (51 + p) == f) || (md_aw g p c && g (39 + p) == f)
def md_st (g : md_R) (c : Nat) (f : Int32) : Bool := md_any (md_stf g c f) (md_n g)
def md_fl (v : Int32) : Bool := decide ((0 : Int32) ≤ v) && decide (v ≤ 9)
def md_hit (g : md_R) (c : Nat) (r : Int32) (d : Nat) : Bool := md_fl (g (9 + c) + r * i3 d) && md_st g c (g (9 + c) + r * i3 d)
def md_nr (g : md_R) (c : Nat) (r : Int32) : Nat := md_go (md_hit g c r) 9 1
def md_fr (g : md_R) (c : Nat) (r : Int32) : Nat := md_la (md_hit g c r) 9
def md_abs (v : Int32) : Int32 := if v < 0 then -v else v
def md_es (g : md_R) (c : Nat) (f : Int32) : Int32 := md_is g c + md_abs (f - g (9 + c)) + (if (f - g (9 + c)) * g (12 + c) < 0 then 2 * i3 (md_fr g c (g (12 + c))) else 0)
/-- a car for floor f and weight w among the first k, or -1 -/
def md_be (g : md_R) (f w : Int32) : Nat → Int32
  | 0 => -1
  | k + 1 => if g (21 + k) = 0 ∧ md_ld g k + w ≤ g (15 + k) then (if md_be g f w k = -1 ∨ md_es g k f < md_es g (md_be g f w k).toNatClampNeg f then i3 k else md_be g f w k) else md_be g f w k
def md_as (g : md_R) (p : Nat) : md_R := va_up g (87 + p) (md_be (va_up g (87 + p) 0) (g (39 + p)) (g (63 + p)) 3 + 1)
/-- the row with the cells from 27 to e shifted -/
def md_dP (g : md_R) (p e : Nat) : md_R := fun j => if 27 ≤ j ∧ j < e ∧ p ≤ (j - 27) % 12 then (if (j - 27) % 12 < 11 then g (j + 1) else 0) else g j
def md_dr (g : md_R) (p : Nat) : md_R := va_up (md_dP g p 111) 1 (g 1 - 1)
def md_ad (g : md_R) (s d w : Int32) : md_R :=
  let n := md_n g
  let g1 := va_up (va_up (va_up (va_up (va_up (va_up (va_up g (27 + n) (g 2)) (39 + n) s) (51 + n) d) (63 + n) w) (75 + n) 0) (99 + n) 0) (87 + n) 0
  md_as (va_up (va_up g1 1 (g 1 + 1)) 2 (g 2 + 1)) n
def md_lg (g : md_R) (p c : Nat) : md_R :=
  let t := (g 3).toNatClampNeg % 10
  va_up (va_up (va_up (va_up (va_up g (111 + t) (g (27 + p))) (121 + t) (i3 c)) (131 + t) (g (75 + p))) 4 (g 4 + g (75 + p))) 3 (g 3 + 1)
def md_al (c : Nat) : Nat → Nat → md_R → md_R
  | 0, _, g => g
  | k + 1, p, g => if md_in g p c && g (51 + p) == g (9 + c) then md_al c k p (md_dr (md_lg g p c) p) else md_al c k (p + 1) g
def md_bd (c : Nat) (h : md_R) (k : Nat) : md_R :=
  if md_aw h k c && h (39 + k) == h (9 + c) then (if md_ld h c + h (63 + k) ≤ h (15 + c) then va_up (va_up h (99 + k) 1) (87 + k) (i3 c + 1) else va_up (va_up h (99 + k) 0) (87 + k) 0) else h
def md_fo (F : md_R → Nat → md_R) (g : md_R) : Nat → md_R
  | 0 => g
  | k + 1 => F (md_fo F g k) k
def md_bo (g : md_R) (c : Nat) : md_R := md_fo (md_bd c) g (md_n g)
def md_ch (g : md_R) (c : Nat) : Int32 :=
  if md_nr g c 1 = 0 ∨ md_nr g c (-1) = 0 then (if 0 < md_nr g c 1 then 1 else if 0 < md_nr g c (-1) then -1 else 0)
  else if g (12 + c) ≠ 0 then g (12 + c) else if md_nr g c 1 ≤ md_nr g c (-1) then 1 else -1
def md_mv (g : md_R) (c : Nat) : md_R :=
  let r := md_ch g c
  let g1 := va_up (va_up g (12 + c) r) (9 + c) (g (9 + c) + r)
  if r = 1 then va_up (va_up (va_up g1 (24 + c) (g (24 + c) + (2 + md_ld g c / 100))) 8 (g 8 + md_ld g c / 100)) 5 (g 5 + 1)
  else if r = -1 then va_up (va_up g1 (24 + c) (g (24 + c) + 1)) 6 (g 6 + 1) else g1
def md_op (g : md_R) (c : Nat) : md_R := va_up (va_up (va_up g (18 + c) 2) (24 + c) (g (24 + c) + 1)) 7 (g 7 + 1)
def md_ac (g : md_R) (c : Nat) : md_R :=
  if 0 < g (18 + c) then va_up g (18 + c) (g (18 + c) - 1)
  else if md_st g c (g (9 + c)) then md_bo (md_al c (md_n g) 0 (md_op g c)) c
  else md_mv g c
def md_a1 (g : md_R) (p : Nat) : md_R := if g (87 + p) = 0 then md_as g p else g
def md_w1 (g : md_R) (p : Nat) : md_R := va_up g (75 + p) (g (75 + p) + (1 - g (99 + p)))
def md_c1 (g : md_R) (c : Nat) : md_R := if g (21 + c) = 0 then md_ac g c else g
def md_step (g : md_R) : md_R :=
  let g0 := va_up g 0 (g 0 + 1)
  let g1 := md_fo md_a1 g0 (md_n g)
  let g2 := md_fo md_w1 g1 (md_n g)
  md_fo md_c1 g2 3
def md_it (g : md_R) : Nat → md_R
  | 0 => g
  | k + 1 => md_step (md_it g k)
