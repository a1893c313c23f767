/-! .. ranks, the log, totals, shares. (FP.Core's laws of division stand in the library's JvmDerived.FloatLaws2, which the short library lacks) -/
theorem nn64 {a b : Int32} (hb : b ≠ 0) : vf_n64 (FP.ddiv (FP.i2d a) (FP.i2d b)) := by
  have h1 : FP.Core.dIsNaN (FP.Core.i2d a) = false := by
    rw [Bool.eq_false_iff]
    intro z
    have z1 := (FP.Core.isNaN_bits _).mp z
    have := FP.Core.i2d_mag a
    omega
  have h2 := FP.Core.ddiv_out h1 (FP.Core.i2d_fin b) (fun z => FP.Core.i2d_ne_zero hb ((FP.Core.zero_bits2 _).mp z))
  have h3 : ¬ 9218868437227405312 < (FP.Core.ddiv (FP.Core.i2d a) (FP.Core.i2d b)).toNat % 2 ^ 63 := fun z => by
    rw [(FP.Core.isNaN_bits _).mpr z] at h2
    cases h2
  show FP.Core.ddiv (FP.Core.i2d a) (FP.Core.i2d b) &&& 0x7fffffffffffffff ≤ 0x7ff0000000000000
  rw [UInt64.le_iff_toNat_le, UInt64.toNat_and]
  have e : (FP.Core.ddiv (FP.Core.i2d a) (FP.Core.i2d b)).toNat &&& (0x7fffffffffffffff : UInt64).toNat = (FP.Core.ddiv (FP.Core.i2d a) (FP.Core.i2d b)).toNat % 2 ^ 63 := Nat.and_two_pow_sub_one_eq_mod _ 63
  rw [e]
  exact Nat.le_of_not_lt h3
theorem nn32 {a b : Int32} (hb : b ≠ 0) : vf_n32 (FP.fdiv (FP.i2f a) (FP.i2f b)) := by
  have h1 : FP.Core.fIsNaN (FP.Core.i2f a) = false := by
    rw [Bool.eq_false_iff]
    intro z
    have z1 := (FP.Core.isNaN_bits32 _).mp z
    have := FP.Core.i2f_mag a
    omega
  have h2 := FP.Core.fdiv_out h1 (FP.Core.i2f_fin b) (fun z => FP.Core.i2f_ne_zero hb ((FP.Core.zero_bits232 _).mp z))
  have h3 : ¬ 2139095040 < (FP.Core.fdiv (FP.Core.i2f a) (FP.Core.i2f b)).toNat % 2 ^ 31 := fun z => by
    rw [(FP.Core.isNaN_bits32 _).mpr z] at h2
    cases h2
  show FP.Core.fdiv (FP.Core.i2f a) (FP.Core.i2f b) &&& 0x7fffffff ≤ 0x7f800000
  rw [UInt32.le_iff_toNat_le, UInt32.toNat_and]
  have e : (FP.Core.fdiv (FP.Core.i2f a) (FP.Core.i2f b)).toNat &&& (0x7fffffff : UInt32).toNat = (FP.Core.fdiv (FP.Core.i2f a) (FP.Core.i2f b)).toNat % 2 ^ 31 := Nat.and_two_pow_sub_one_eq_mod _ 31
  rw [e]
  exact Nat.le_of_not_lt h3
abbrev qd (v : UInt64) (M1 : am_Hp) : am_Q := fun o M' => o = .inl (some (.double v)) ∧ M' = M1
abbrev qf (v : UInt32) (M1 : am_Hp) : am_Q := fun o M' => o = .inl (some (.float v)) ∧ M' = M1
def sq_mean (g : md_R) : Nat × UInt64 := if g 3 = i3 0 then (1, FP.dconst0) else (0, FP.ddiv (FP.i2d (g 4)) (FP.i2d (g 3)))
def sq_share (g : md_R) (v : Int32) : Nat × UInt32 := if md_ic v = true then (0, FP.fdiv (FP.i2f (md_ld g v.toNatClampNeg)) (FP.i2f (g (15 + v.toNatClampNeg)))) else (1, FP.fconst0)
theorem li25 : (25 : Int32) = i3 25 := rfl
theorem li26 : (26 : Int32) = i3 26 := rfl
def md_te (g : md_R) : Int64 := (g 24).toInt64 + (g 25).toInt64 + (g 26).toInt64
def md_tm (g : md_R) : Int64 := 2 * (g 5).toInt64 + (g 8).toInt64 + (g 6).toInt64 + (g 7).toInt64
/-- the log -/
def sq_trip (k : Nat) (g : md_R) (v : Int32) : md_Sq := if md_bt (i3 0) v (i3 9) = true ∧ v < g 3 then (0, g (k + ((g 3).toNatClampNeg - 1 - v.toNatClampNeg) % 10)) else (1, i3 0)
theorem md_bt_9 {v : Int32} (h : md_bt (i3 0) v (i3 9) = true) : ∃ k, k < 10 ∧ v = i3 k := by
  unfold md_bt at h
  rw [Bool.and_eq_true, decide_eq_true_eq, decide_eq_true_eq] at h
  exact i3_of (v := v) (n := 10) h.1 (by have := h.2; rw [Int32.lt_iff_toInt_lt]; rw [Int32.le_iff_toInt_le] at this; have e1 : (i3 9).toInt = 9 := rfl; have e2 : (i3 10).toInt = 10 := rfl; omega) (by omega)
/-- ranks -/
def md_ff (P : Nat → Bool) : Nat → Nat → md_Sq
  | 0, _ => (1, i3 0)
  | k + 1, j => if P j = true then (0, i3 j) else md_ff P k (j + 1)
def md_ah (g : md_R) (o p : Nat) : Bool := decide (i3 0 < g (75 + o) - g (75 + p)) || (decide (g (75 + o) - g (75 + p) = i3 0) && (decide (i3 0 < g (99 + p) - g (99 + o)) || (decide (g (99 + p) - g (99 + o) = i3 0) && decide (o < p))))
def md_cw (g : md_R) (p : Nat) : Int32 := md_sum (fun o => bI (md_ah g o p)) (md_n g)
def sq_pw (g : md_R) (v : Int32) : md_Sq := md_ff (fun p => decide (md_cw g p = v)) (md_n g) 0
def md_eh (g : md_R) (o c : Nat) : Bool := decide (i3 0 < g (24 + o) - g (24 + c)) || (decide (g (24 + o) - g (24 + c) = i3 0) && (decide (i3 0 < md_ld g o - md_ld g c) || (decide (md_ld g o - md_ld g c = i3 0) && decide (o < c))))
def md_ce (g : md_R) (c : Nat) : Int32 := md_sum (fun o => bI (md_eh g o c)) 3
def sq_ce (g : md_R) (v : Int32) : md_Sq := md_ff (fun c => decide (md_ce g c = v)) 3 0
