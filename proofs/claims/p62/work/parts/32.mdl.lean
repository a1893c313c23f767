/-! the reference's numbers: what the functions read -/
theorem md_n_of {g : md_R} {n : Nat} (h : g 1 = i3 n) (hn : n ≤ 12) : md_n g = n := by
  unfold md_n
  rw [h, i3_toNat (by omega)]
theorem md_n_up {g : md_R} {k : Nat} {v : Int32} (h : k ≠ 1) : md_n (va_up g k v) = md_n g := by
  unfold md_n
  rw [up_n _ _ (Ne.symm h)]
theorem md_ld_cg {g h : md_R} {c : Nat} (hn : md_n g ≤ 12) (e : ∀ k, (k = 1 ∨ (63 ≤ k ∧ k < 75) ∨ (87 ≤ k ∧ k < 111)) → h k = g k) : md_ld h c = md_ld g c := by
  have e1 : md_n h = md_n g := by unfold md_n; rw [e 1 (by omega)]
  unfold md_ld
  rw [e1]
  refine md_sum_congr _ (fun i hi => ?_)
  unfold md_ldf md_in
  rw [e (63 + i) (by omega), e (87 + i) (by omega), e (99 + i) (by omega)]
theorem md_is_cg {g h : md_R} {c : Nat} (hn : md_n g ≤ 12) (e : ∀ k, (k = 1 ∨ (87 ≤ k ∧ k < 111)) → h k = g k) : md_is h c = md_is g c := by
  have e1 : md_n h = md_n g := by unfold md_n; rw [e 1 (by omega)]
  unfold md_is
  rw [e1]
  refine md_sum_congr _ (fun i hi => ?_)
  unfold md_isf md_in
  rw [e (87 + i) (by omega), e (99 + i) (by omega)]
theorem md_st_cg {g h : md_R} {c : Nat} {f : Int32} (hn : md_n g ≤ 12) (e : ∀ k, (k = 1 ∨ (39 ≤ k ∧ k < 63) ∨ (87 ≤ k ∧ k < 111)) → h k = g k) : md_st h c f = md_st g c f := by
  have e1 : md_n h = md_n g := by unfold md_n; rw [e 1 (by omega)]
  unfold md_st
  rw [e1]
  refine md_any_congr _ (fun i hi => ?_)
  unfold md_stf md_in md_aw
  rw [e (39 + i) (by omega), e (51 + i) (by omega), e (87 + i) (by omega), e (99 + i) (by omega)]
theorem md_hit_cg {g h : md_R} {c : Nat} {r : Int32} (hn : md_n g ≤ 12) (e : ∀ k, (k = 1 ∨ k = 9 + c ∨ (39 ≤ k ∧ k < 63) ∨ (87 ≤ k ∧ k < 111)) → h k = g k) : md_hit h c r = md_hit g c r := by
  funext d
  unfold md_hit
  rw [e (9 + c) (by omega), md_st_cg hn (fun k hk => e k (by omega))]
theorem md_es_cg {g h : md_R} {c : Nat} {f : Int32} (hn : md_n g ≤ 12) (e : ∀ k, (k = 1 ∨ k = 9 + c ∨ k = 12 + c ∨ (39 ≤ k ∧ k < 63) ∨ (87 ≤ k ∧ k < 111)) → h k = g k) : md_es h c f = md_es g c f := by
  unfold md_es md_fr
  rw [e (9 + c) (by omega), e (12 + c) (by omega), md_is_cg hn (fun k hk => e k (by omega)), md_hit_cg hn (fun k hk => e k (by omega))]
theorem md_be_val (g : md_R) (f w : Int32) : ∀ k, k < 1000 → md_be g f w k = -1 ∨ ∃ c, c < k ∧ md_be g f w k = i3 c
  | 0, _ => .inl rfl
  | k + 1, hk => by
    rw [md_be]
    rcases md_be_val g f w k (by omega) with h | ⟨c, hc, h⟩
    · rw [h]
      split
      · exact .inr ⟨k, by omega, by simp⟩
      · exact .inl rfl
    · split
      · split
        · exact .inr ⟨k, by omega, rfl⟩
        · exact .inr ⟨c, by omega, h⟩
      · exact .inr ⟨c, by omega, h⟩
theorem md_be_cg {g h : md_R} {f w : Int32} (hn : md_n g ≤ 12) (e : ∀ k, (k = 1 ∨ (9 ≤ k ∧ k < 18) ∨ (21 ≤ k ∧ k < 24) ∨ (39 ≤ k ∧ k < 75) ∨ (87 ≤ k ∧ k < 111)) → h k = g k) : ∀ k, k ≤ 3 → md_be h f w k = md_be g f w k
  | 0, _ => rfl
  | k + 1, hk => by
    have ih := md_be_cg (f := f) (w := w) hn e k (by omega)
    have hb : (md_be g f w k).toNatClampNeg < 3 := by
      rcases md_be_val g f w k (by omega) with q | ⟨c, hc, q⟩
      · rw [q]; decide
      · rw [q, i3_toNat (by omega)]; omega
    rw [md_be, md_be, ih, e (21 + k) (by omega), e (15 + k) (by omega), md_ld_cg hn (fun j hj => e j (by omega)), md_es_cg hn (fun j hj => e j (by omega)), md_es_cg hn (fun j hj => e j (by omega))]
