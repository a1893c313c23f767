/-! checkIndex, the formatter being null (made by gen/mk/mk89z.py) -/
set_option maxHeartbeats 4000000 in
set_option maxRecDepth 20000 in
theorem vJ3_checkIndexN_0 {X : am_Cx} {G : am_Gx} {d : Nat} {Q : am_Q} (hX : am_ok X rJ3_checkIndex_8e157 G (d + 1)) (hM : am_me X rJ3_checkIndex_8e157 Q) {bc bs : Nat}  {a0 : Int32} {a1 : Int32} {M : am_Hp} (h : ((a0 < 0) → (False)) ∧ (¬ (a0 < 0) → (((a0 < a1) → (Q (.inl (some (.int a0))) M)) ∧ (¬ (a0 < a1) → (False))))) : am_J X 0 [(0, .int a0), (1, .int a1), (2, .null)] [] M bc bs := by
  refine j_iload_n hX eJ3_checkIndex_8e157_0 0 rfl ?_
  refine j_if_lt hX 9 eJ3_checkIndex_8e157_1 (by decide) (fun c1 => ?_) (fun c1 => ?_)
  · replace h := h.1 c1
    exact h.elim
  · replace h := h.2 c1
    refine j_iload_n hX eJ3_checkIndex_8e157_4 0 rfl ?_
    refine j_iload_n hX eJ3_checkIndex_8e157_5 1 rfl ?_
    refine j_icmp_lt hX 16 eJ3_checkIndex_8e157_6 (by decide) (fun c2 => ?_) (fun c2 => ?_)
    · replace h := h.1 c2
      refine j_iload_n hX eJ3_checkIndex_8e157_16 0 rfl ?_
      exact j_iret hX hM eJ3_checkIndex_8e157_17 rfl h
    · replace h := h.2 c2
      exact h.elim
set_option maxHeartbeats 4000000 in
set_option maxRecDepth 20000 in
theorem vJ0_checkIndexN_0 {X : am_Cx} {G : am_Gx} {d : Nat} {Q : am_Q} (hX : am_ok X rJ0_checkIndex_df160 G (d + 1)) (hM : am_me X rJ0_checkIndex_df160 Q) {bc bs : Nat}  {a0 : Int32} {a1 : Int32} {M : am_Hp} (h : ("jdk/internal/util/Preconditions", "SIOOBE_FORMATTER", "Ljava/util/function/BiFunction;", .null) ∈ gx_z G ∧ (am_CT G d rJ3_checkIndex_8e157 [.int a0, .int a1, .null] M 0 0 (fun oz9 M3 => ∃ v4 : Int32, oz9 = .inl (some (.int v4)) ∧ (Q (.inl none) M3)))) : am_J X 0 [(0, .int a0), (1, .int a1)] [] M bc bs := by
  refine j_iload_n hX eJ0_checkIndex_df160_0 0 rfl ?_
  refine j_iload_n hX eJ0_checkIndex_df160_1 1 rfl ?_
  obtain ⟨z1, h⟩ := h
  refine j_gets hX eJ0_checkIndex_df160_2 z1 tw_896 ?_
  refine j_callS (r' := rJ3_checkIndex_8e157) (As := [.int a0, .int a1, .null]) (rest := []) (d1 := d) hX eJ0_checkIndex_df160_5 mm_java_lang_String_1059 rfl rfl h rfl (Nat.le_refl _) (Nat.zero_le _) (Nat.zero_le _) (Nat.le_of_ble_eq_true rfl) (fun vz9 Mz9 qz9 => ?_) (fun Ez9 Mz9 qz9 => ?_)
  · obtain ⟨M3, eMz9⟩ : ∃ M3, M3 = Mz9 := ⟨_, rfl⟩; subst eMz9
    obtain ⟨v4, hxz9, h⟩ := qz9
    cases hxz9
    refine j_pop hX eJ0_checkIndex_df160_8 rfl ?_
    exact j_vret hX hM eJ0_checkIndex_df160_9 rfl h
  · obtain ⟨v4, hxz9, h⟩ := qz9
    cases hxz9
