/-! sets of stops as bits -/
def md_or (f : Nat → Nat) : Nat → Nat
  | 0 => 0
  | n + 1 => md_or f n ||| f n
theorem md_or_lt {f : Nat → Nat} {b : Nat} : ∀ n, (∀ i, i < n → f i < 2 ^ b) → md_or f n < 2 ^ b
  | 0, _ => Nat.two_pow_pos b
  | n + 1, h => Nat.or_lt_two_pow (md_or_lt n (fun i hi => h i (by omega))) (h n (by omega))
theorem md_or_bit {f : Nat → Nat} {j : Nat} : ∀ n, (md_or f n).testBit j = md_any (fun i => (f i).testBit j) n
  | 0 => Nat.zero_testBit j
  | n + 1 => by rw [md_or, md_any, Nat.testBit_or, md_or_bit n]
theorem i3_bv (k : Nat) : (i3 k).toBitVec = BitVec.ofNat 32 k := rfl
theorem i3_or (a b : Nat) : i3 a ||| i3 b = i3 (a ||| b) := by
  apply Int32.toBitVec_inj.mp
  rw [Int32.toBitVec_or, i3_bv, i3_bv, i3_bv]
  apply BitVec.eq_of_toNat_eq
  simp [Nat.or_mod_two_pow]
theorem i3_and31 {f : Nat} (hf : f < 32) : i3 f &&& 31 = i3 f := by
  apply Int32.toBitVec_inj.mp
  rw [Int32.toBitVec_and, i3_bv]
  apply BitVec.eq_of_toNat_eq
  simp
  have e : f % 4294967296 &&& 31 = f % 4294967296 % 32 := Nat.and_two_pow_sub_one_eq_mod _ 5
  rw [e]
  omega
theorem i3_shl {f : Nat} (hf : f < 10) : (1 : Int32) <<< (i3 f &&& 31) = i3 (2 ^ f) := by
  have : ∀ f : Fin 10, (1 : Int32) <<< (i3 f.1 &&& 31) = i3 (2 ^ f.1) := by decide +kernel
  exact this ⟨f, hf⟩
theorem i3_bit {m f : Nat} (hm : m < 1024) (hf : f < 10) : ((i3 m >>> (i3 f &&& 31)) &&& 1) = if m.testBit f then 1 else 0 := by
  have : ∀ f : Fin 10, ∀ m : Fin 1024, ((i3 m.1 >>> (i3 f.1 &&& 31)) &&& 1) = if m.1.testBit f.1 then 1 else 0 := by decide +kernel
  exact this ⟨f, hf⟩ ⟨m, hm⟩
