set_option maxHeartbeats 4000000 in
set_option maxRecDepth 20000 in
theorem vL_addPassenger_0 {X : am_Cx} {G : am_Gx} {d : Nat} {Q : am_Q} (hX : am_ok X rL_addPassenger G (d + 1)) (hM : am_me X rL_addPassenger Q) {bc bs : Nat}  {a0 : Nat} {a1 : Int32} {a2 : Int32} {a3 : Int32} {a4 : Nat} {M : am_Hp} (h : hp_T M (a0) = 7 ∧ (1 ≤ bc ∧ (6 ≤ bs ∧ (am_CT G d rX6_addPassenger [.ref a0, .int a1, .int a2, .int a3] M 1 6 (fun oz9 M1 => (∃ v2 : Int32, oz9 = .inl (some (.int v2)) ∧ (hp_T M1 (a4) = 23 ∧ (vp_in (0 : Int32) (hp_N M1 a4) ∧ (∀ M8 : am_Hp, M8 = hp_sL M1 a4 ((0 : Int32)).toNatClampNeg ((v2).toInt64) → (Q (.inl (some (.int (0 : Int32)))) M8))))) ∨ ((oz9 = .inr "java/lang/IllegalArgumentException" ∧ ∀ p10 : Nat, Q (.inl (some (.int (1 : Int32)))) M1)) ∨ ((oz9 = .inr "java/lang/IllegalStateException" ∧ ∀ p11 : Nat, Q (.inl (some (.int (2 : Int32)))) M1)) ∨ ((oz9 = .inr "java/lang/IndexOutOfBoundsException" ∧ False)) ∨ ((oz9 = .inr "java/lang/UnsupportedOperationException" ∧ False))))))) : am_J X 0 [(0, .ref a0), (1, .int a1), (2, .int a2), (3, .int a3), (4, .ref a4)] [] M bc bs := by
  refine j_aload hX eL_addPassenger_0 4 rfl ?_
  refine j_iconst (v := (0 : Int32)) hX eL_addPassenger_2 (by decide) ?_
  refine j_aload_n hX eL_addPassenger_3 0 rfl ?_
  refine j_iload_n hX eL_addPassenger_4 1 rfl ?_
  refine j_iload_n hX eL_addPassenger_5 2 rfl ?_
  refine j_iload_n hX eL_addPassenger_6 3 rfl ?_
  obtain ⟨t3, h⟩ := h
  obtain ⟨b4, b5, h⟩ := h
  refine j_callV (a := a0) (q := (RX6, TX6, 9)) (r' := rX6_addPassenger) (As := [.int a1, .int a2, .int a3]) (rest := [.int (0 : Int32), .ref a4]) (d1 := d) hX eL_addPassenger_7 mm_LiftGroupLaw_7 rfl t3 (by decide) rfl h rfl (Nat.le_refl _) b4 b5 (Nat.le_of_ble_eq_true rfl) (fun vz9 Mz9 qz9 => ?_) (fun Ez9 Mz9 qz9 => ?_)
  · obtain ⟨M1, eMz9⟩ : ∃ M1, M1 = Mz9 := ⟨_, rfl⟩; subst eMz9
    rcases qz9 with ⟨v2, hxz9, h⟩ | ⟨hxz9, h⟩ | ⟨hxz9, h⟩ | ⟨hxz9, h⟩ | ⟨hxz9, h⟩ <;> cases hxz9
    refine j_i2l hX eL_addPassenger_10 ?_
    obtain ⟨t6, h⟩ := h
    obtain ⟨i7, h⟩ := h
    refine j_last hX eL_addPassenger_11 t6 i7 ?_
    refine j_nmM (fun M8 eM8 => ?_)
    replace h := h M8 eM8
    have t9 : hp_T M8 (a4) = 23 := by rw [eM8]; exact t6
    refine j_goto hX 23 eL_addPassenger_12 (by decide) ?_
    refine j_iconst (v := (0 : Int32)) hX eL_addPassenger_23 (by decide) ?_
    exact j_iret hX hM eL_addPassenger_24 rfl h
  · obtain ⟨M1, eMz9⟩ : ∃ M1, M1 = Mz9 := ⟨_, rfl⟩; subst eMz9
    rcases qz9 with ⟨v2, hxz9, h⟩ | ⟨hxz9, h⟩ | ⟨hxz9, h⟩ | ⟨hxz9, h⟩ | ⟨hxz9, h⟩ <;> cases hxz9
    · refine am_thIn (name := "java/lang/IllegalArgumentException") hX [] (0, 12, 15, 13) [(0, 12, 19, 15)] rfl (fun z hz => by cases hz) (by decide) (by decide) tw_804 (am_castN_IllegalArgumentException) (fun p10 => ?_)
      replace h := h p10
      refine j_astore (lv' := [(5, .ref p10), (0, .ref a0), (1, .int a1), (2, .int a2), (3, .int a3), (4, .ref a4)]) hX eL_addPassenger_15 (by decide) rfl ?_
      refine j_iconst (v := (1 : Int32)) hX eL_addPassenger_17 (by decide) ?_
      exact j_iret hX hM eL_addPassenger_18 rfl h
    · refine am_thIn (name := "java/lang/IllegalStateException") hX [(0, 12, 15, 13)] (0, 12, 19, 15) [] rfl (fun z hz => by simp only [List.mem_cons, List.not_mem_nil, or_false] at hz; rcases hz with rfl; exact ⟨by decide, _, tw_804, by decide⟩) (by decide) (by decide) tw_805 (am_castN_IllegalStateException) (fun p11 => ?_)
      replace h := h p11
      refine j_astore (lv' := [(5, .ref p11), (0, .ref a0), (1, .int a1), (2, .int a2), (3, .int a3), (4, .ref a4)]) hX eL_addPassenger_19 (by decide) rfl ?_
      refine j_iconst (v := (2 : Int32)) hX eL_addPassenger_21 (by decide) ?_
      exact j_iret hX hM eL_addPassenger_22 rfl h
    · exact h.elim
    · exact h.elim

set_option maxHeartbeats 4000000 in
set_option maxRecDepth 20000 in
theorem vL_removePassenger_0 {X : am_Cx} {G : am_Gx} {d : Nat} {Q : am_Q} (hX : am_ok X rL_removePassenger G (d + 1)) (hM : am_me X rL_removePassenger Q) {bc bs : Nat}  {a0 : Nat} {a1 : Int32} {a2 : Nat} {M : am_Hp} (h : hp_T M (a0) = 7 ∧ (1 ≤ bc ∧ (6 ≤ bs ∧ (am_CT G d rX6_removePassenger [.ref a0, .int a1] M 1 6 (fun oz9 M1 => (∃ v2 : Int32, oz9 = .inl (some (.int v2)) ∧ (hp_T M1 (a2) = 23 ∧ (vp_in (0 : Int32) (hp_N M1 a2) ∧ (∀ M8 : am_Hp, M8 = hp_sL M1 a2 ((0 : Int32)).toNatClampNeg ((v2).toInt64) → (Q (.inl (some (.int (0 : Int32)))) M8))))) ∨ ((oz9 = .inr "java/lang/IllegalArgumentException" ∧ False)) ∨ ((oz9 = .inr "java/lang/IllegalStateException" ∧ ∀ p10 : Nat, Q (.inl (some (.int (2 : Int32)))) M1)) ∨ ((oz9 = .inr "java/lang/IndexOutOfBoundsException" ∧ ∀ p11 : Nat, Q (.inl (some (.int (1 : Int32)))) M1)) ∨ ((oz9 = .inr "java/lang/UnsupportedOperationException" ∧ False))))))) : am_J X 0 [(0, .ref a0), (1, .int a1), (2, .ref a2)] [] M bc bs := by
  refine j_aload_n hX eL_removePassenger_0 2 rfl ?_
  refine j_iconst (v := (0 : Int32)) hX eL_removePassenger_1 (by decide) ?_
  refine j_aload_n hX eL_removePassenger_2 0 rfl ?_
  refine j_iload_n hX eL_removePassenger_3 1 rfl ?_
  obtain ⟨t3, h⟩ := h
  obtain ⟨b4, b5, h⟩ := h
  refine j_callV (a := a0) (q := (RX6, TX6, 9)) (r' := rX6_removePassenger) (As := [.int a1]) (rest := [.int (0 : Int32), .ref a2]) (d1 := d) hX eL_removePassenger_4 mm_LiftGroupLaw_17 rfl t3 (by decide) rfl h rfl (Nat.le_refl _) b4 b5 (Nat.le_of_ble_eq_true rfl) (fun vz9 Mz9 qz9 => ?_) (fun Ez9 Mz9 qz9 => ?_)
  · obtain ⟨M1, eMz9⟩ : ∃ M1, M1 = Mz9 := ⟨_, rfl⟩; subst eMz9
    rcases qz9 with ⟨v2, hxz9, h⟩ | ⟨hxz9, h⟩ | ⟨hxz9, h⟩ | ⟨hxz9, h⟩ | ⟨hxz9, h⟩ <;> cases hxz9
    refine j_i2l hX eL_removePassenger_7 ?_
    obtain ⟨t6, h⟩ := h
    obtain ⟨i7, h⟩ := h
    refine j_last hX eL_removePassenger_8 t6 i7 ?_
    refine j_nmM (fun M8 eM8 => ?_)
    replace h := h M8 eM8
    have t9 : hp_T M8 (a2) = 23 := by rw [eM8]; exact t6
    refine j_goto hX 18 eL_removePassenger_9 (by decide) ?_
    refine j_iconst (v := (0 : Int32)) hX eL_removePassenger_18 (by decide) ?_
    exact j_iret hX hM eL_removePassenger_19 rfl h
  · obtain ⟨M1, eMz9⟩ : ∃ M1, M1 = Mz9 := ⟨_, rfl⟩; subst eMz9
    rcases qz9 with ⟨v2, hxz9, h⟩ | ⟨hxz9, h⟩ | ⟨hxz9, h⟩ | ⟨hxz9, h⟩ | ⟨hxz9, h⟩ <;> cases hxz9
    · exact h.elim
    · refine am_thIn (name := "java/lang/IllegalStateException") hX [(0, 9, 12, 21)] (0, 9, 15, 15) [] rfl (fun z hz => by simp only [List.mem_cons, List.not_mem_nil, or_false] at hz; rcases hz with rfl; exact ⟨by decide, _, tw_888, by decide⟩) (by decide) (by decide) tw_805 (am_castN_IllegalStateException) (fun p10 => ?_)
      replace h := h p10
      refine j_astore_n (lv' := [(3, .ref p10), (0, .ref a0), (1, .int a1), (2, .ref a2)]) hX eL_removePassenger_15 rfl (by decide) rfl ?_
      refine j_iconst (v := (2 : Int32)) hX eL_removePassenger_16 (by decide) ?_
      exact j_iret hX hM eL_removePassenger_17 rfl h
    · refine am_thIn (name := "java/lang/IndexOutOfBoundsException") hX [] (0, 9, 12, 21) [(0, 9, 15, 15)] rfl (fun z hz => by cases hz) (by decide) (by decide) tw_888 (am_castN_IndexOutOfBoundsException) (fun p11 => ?_)
      replace h := h p11
      refine j_astore_n (lv' := [(3, .ref p11), (0, .ref a0), (1, .int a1), (2, .ref a2)]) hX eL_removePassenger_12 rfl (by decide) rfl ?_
      refine j_iconst (v := (1 : Int32)) hX eL_removePassenger_13 (by decide) ?_
      exact j_iret hX hM eL_removePassenger_14 rfl h
    · exact h.elim

set_option maxHeartbeats 4000000 in
set_option maxRecDepth 20000 in
theorem vL_holdDoors_0 {X : am_Cx} {G : am_Gx} {d : Nat} {Q : am_Q} (hX : am_ok X rL_holdDoors G (d + 1)) (hM : am_me X rL_holdDoors Q) {bc bs : Nat}  {a0 : Nat} {a1 : Int32} {a2 : Int32} {a3 : Nat} {M : am_Hp} (h : hp_T M (a0) = 7 ∧ (1 ≤ bc ∧ (6 ≤ bs ∧ (am_CT G d rX6_holdDoors [.ref a0, .int a1, .int a2] M 1 6 (fun oz9 M1 => (∃ v2 : Int32, oz9 = .inl (some (.int v2)) ∧ (hp_T M1 (a3) = 23 ∧ (vp_in (0 : Int32) (hp_N M1 a3) ∧ (∀ M8 : am_Hp, M8 = hp_sL M1 a3 ((0 : Int32)).toNatClampNeg ((v2).toInt64) → (Q (.inl (some (.int (0 : Int32)))) M8))))) ∨ ((oz9 = .inr "java/lang/IllegalArgumentException" ∧ ∀ p10 : Nat, Q (.inl (some (.int (2 : Int32)))) M1)) ∨ ((oz9 = .inr "java/lang/IllegalStateException" ∧ ∀ p11 : Nat, Q (.inl (some (.int (3 : Int32)))) M1)) ∨ ((oz9 = .inr "java/lang/IndexOutOfBoundsException" ∧ ∀ p12 : Nat, Q (.inl (some (.int (1 : Int32)))) M1)) ∨ ((oz9 = .inr "java/lang/UnsupportedOperationException" ∧ False))))))) : am_J X 0 [(0, .ref a0), (1, .int a1), (2, .int a2), (3, .ref a3)] [] M bc bs := by
  refine j_aload_n hX eL_holdDoors_0 3 rfl ?_
  refine j_iconst (v := (0 : Int32)) hX eL_holdDoors_1 (by decide) ?_
  refine j_aload_n hX eL_holdDoors_2 0 rfl ?_
  refine j_iload_n hX eL_holdDoors_3 1 rfl ?_
  refine j_iload_n hX eL_holdDoors_4 2 rfl ?_
  obtain ⟨t3, h⟩ := h
  obtain ⟨b4, b5, h⟩ := h
  refine j_callV (a := a0) (q := (RX6, TX6, 9)) (r' := rX6_holdDoors) (As := [.int a1, .int a2]) (rest := [.int (0 : Int32), .ref a3]) (d1 := d) hX eL_holdDoors_5 mm_LiftGroupLaw_23 rfl t3 (by decide) rfl h rfl (Nat.le_refl _) b4 b5 (Nat.le_of_ble_eq_true rfl) (fun vz9 Mz9 qz9 => ?_) (fun Ez9 Mz9 qz9 => ?_)
  · obtain ⟨M1, eMz9⟩ : ∃ M1, M1 = Mz9 := ⟨_, rfl⟩; subst eMz9
    rcases qz9 with ⟨v2, hxz9, h⟩ | ⟨hxz9, h⟩ | ⟨hxz9, h⟩ | ⟨hxz9, h⟩ | ⟨hxz9, h⟩ <;> cases hxz9
    refine j_i2l hX eL_holdDoors_8 ?_
    obtain ⟨t6, h⟩ := h
    obtain ⟨i7, h⟩ := h
    refine j_last hX eL_holdDoors_9 t6 i7 ?_
    refine j_nmM (fun M8 eM8 => ?_)
    replace h := h M8 eM8
    have t9 : hp_T M8 (a3) = 23 := by rw [eM8]; exact t6
    refine j_goto hX 25 eL_holdDoors_10 (by decide) ?_
    refine j_iconst (v := (0 : Int32)) hX eL_holdDoors_25 (by decide) ?_
    exact j_iret hX hM eL_holdDoors_26 rfl h
  · obtain ⟨M1, eMz9⟩ : ∃ M1, M1 = Mz9 := ⟨_, rfl⟩; subst eMz9
    rcases qz9 with ⟨v2, hxz9, h⟩ | ⟨hxz9, h⟩ | ⟨hxz9, h⟩ | ⟨hxz9, h⟩ | ⟨hxz9, h⟩ <;> cases hxz9
    · refine am_thIn (name := "java/lang/IllegalArgumentException") hX [(0, 10, 13, 21)] (0, 10, 17, 13) [(0, 10, 21, 15)] rfl (fun z hz => by simp only [List.mem_cons, List.not_mem_nil, or_false] at hz; rcases hz with rfl; exact ⟨by decide, _, tw_888, by decide⟩) (by decide) (by decide) tw_804 (am_castN_IllegalArgumentException) (fun p10 => ?_)
      replace h := h p10
      refine j_astore (lv' := [(4, .ref p10), (0, .ref a0), (1, .int a1), (2, .int a2), (3, .ref a3)]) hX eL_holdDoors_17 (by decide) rfl ?_
      refine j_iconst (v := (2 : Int32)) hX eL_holdDoors_19 (by decide) ?_
      exact j_iret hX hM eL_holdDoors_20 rfl h
    · refine am_thIn (name := "java/lang/IllegalStateException") hX [(0, 10, 13, 21), (0, 10, 17, 13)] (0, 10, 21, 15) [] rfl (fun z hz => by simp only [List.mem_cons, List.not_mem_nil, or_false] at hz; rcases hz with rfl | rfl <;> first | exact ⟨by decide, _, tw_888, by decide⟩ | exact ⟨by decide, _, tw_804, by decide⟩) (by decide) (by decide) tw_805 (am_castN_IllegalStateException) (fun p11 => ?_)
      replace h := h p11
      refine j_astore (lv' := [(4, .ref p11), (0, .ref a0), (1, .int a1), (2, .int a2), (3, .ref a3)]) hX eL_holdDoors_21 (by decide) rfl ?_
      refine j_iconst (v := (3 : Int32)) hX eL_holdDoors_23 (by decide) ?_
      exact j_iret hX hM eL_holdDoors_24 rfl h
    · refine am_thIn (name := "java/lang/IndexOutOfBoundsException") hX [] (0, 10, 13, 21) [(0, 10, 17, 13), (0, 10, 21, 15)] rfl (fun z hz => by cases hz) (by decide) (by decide) tw_888 (am_castN_IndexOutOfBoundsException) (fun p12 => ?_)
      replace h := h p12
      refine j_astore (lv' := [(4, .ref p12), (0, .ref a0), (1, .int a1), (2, .int a2), (3, .ref a3)]) hX eL_holdDoors_13 (by decide) rfl ?_
      refine j_iconst (v := (1 : Int32)) hX eL_holdDoors_15 (by decide) ?_
      exact j_iret hX hM eL_holdDoors_16 rfl h
    · exact h.elim

set_option maxHeartbeats 4000000 in
set_option maxRecDepth 20000 in
theorem vL_stopCar_0 {X : am_Cx} {G : am_Gx} {d : Nat} {Q : am_Q} (hX : am_ok X rL_stopCar G (d + 1)) (hM : am_me X rL_stopCar Q) {bc bs : Nat}  {a0 : Nat} {a1 : Int32} {a2 : Nat} {M : am_Hp} (h : hp_T M (a0) = 7 ∧ (1 ≤ bc ∧ (6 ≤ bs ∧ (am_CT G d rX6_stopCar [.ref a0, .int a1] M 1 6 (fun oz9 M1 => (∃ v2 : Int32, oz9 = .inl (some (.int v2)) ∧ (hp_T M1 (a2) = 23 ∧ (vp_in (0 : Int32) (hp_N M1 a2) ∧ (∀ M8 : am_Hp, M8 = hp_sL M1 a2 ((0 : Int32)).toNatClampNeg ((v2).toInt64) → (Q (.inl (some (.int (0 : Int32)))) M8))))) ∨ ((oz9 = .inr "java/lang/IllegalArgumentException" ∧ False)) ∨ ((oz9 = .inr "java/lang/IllegalStateException" ∧ ∀ p10 : Nat, Q (.inl (some (.int (2 : Int32)))) M1)) ∨ ((oz9 = .inr "java/lang/IndexOutOfBoundsException" ∧ ∀ p11 : Nat, Q (.inl (some (.int (1 : Int32)))) M1)) ∨ ((oz9 = .inr "java/lang/UnsupportedOperationException" ∧ False))))))) : am_J X 0 [(0, .ref a0), (1, .int a1), (2, .ref a2)] [] M bc bs := by
  refine j_aload_n hX eL_stopCar_0 2 rfl ?_
  refine j_iconst (v := (0 : Int32)) hX eL_stopCar_1 (by decide) ?_
  refine j_aload_n hX eL_stopCar_2 0 rfl ?_
  refine j_iload_n hX eL_stopCar_3 1 rfl ?_
  obtain ⟨t3, h⟩ := h
  obtain ⟨b4, b5, h⟩ := h
  refine j_callV (a := a0) (q := (RX6, TX6, 9)) (r' := rX6_stopCar) (As := [.int a1]) (rest := [.int (0 : Int32), .ref a2]) (d1 := d) hX eL_stopCar_4 mm_LiftGroupLaw_27 rfl t3 (by decide) rfl h rfl (Nat.le_refl _) b4 b5 (Nat.le_of_ble_eq_true rfl) (fun vz9 Mz9 qz9 => ?_) (fun Ez9 Mz9 qz9 => ?_)
  · obtain ⟨M1, eMz9⟩ : ∃ M1, M1 = Mz9 := ⟨_, rfl⟩; subst eMz9
    rcases qz9 with ⟨v2, hxz9, h⟩ | ⟨hxz9, h⟩ | ⟨hxz9, h⟩ | ⟨hxz9, h⟩ | ⟨hxz9, h⟩ <;> cases hxz9
    refine j_i2l hX eL_stopCar_7 ?_
    obtain ⟨t6, h⟩ := h
    obtain ⟨i7, h⟩ := h
    refine j_last hX eL_stopCar_8 t6 i7 ?_
    refine j_nmM (fun M8 eM8 => ?_)
    replace h := h M8 eM8
    have t9 : hp_T M8 (a2) = 23 := by rw [eM8]; exact t6
    refine j_goto hX 18 eL_stopCar_9 (by decide) ?_
    refine j_iconst (v := (0 : Int32)) hX eL_stopCar_18 (by decide) ?_
    exact j_iret hX hM eL_stopCar_19 rfl h
  · obtain ⟨M1, eMz9⟩ : ∃ M1, M1 = Mz9 := ⟨_, rfl⟩; subst eMz9
    rcases qz9 with ⟨v2, hxz9, h⟩ | ⟨hxz9, h⟩ | ⟨hxz9, h⟩ | ⟨hxz9, h⟩ | ⟨hxz9, h⟩ <;> cases hxz9
    · exact h.elim
    · refine am_thIn (name := "java/lang/IllegalStateException") hX [(0, 9, 12, 21)] (0, 9, 15, 15) [] rfl (fun z hz => by simp only [List.mem_cons, List.not_mem_nil, or_false] at hz; rcases hz with rfl; exact ⟨by decide, _, tw_888, by decide⟩) (by decide) (by decide) tw_805 (am_castN_IllegalStateException) (fun p10 => ?_)
      replace h := h p10
      refine j_astore_n (lv' := [(3, .ref p10), (0, .ref a0), (1, .int a1), (2, .ref a2)]) hX eL_stopCar_15 rfl (by decide) rfl ?_
      refine j_iconst (v := (2 : Int32)) hX eL_stopCar_16 (by decide) ?_
      exact j_iret hX hM eL_stopCar_17 rfl h
    · refine am_thIn (name := "java/lang/IndexOutOfBoundsException") hX [] (0, 9, 12, 21) [(0, 9, 15, 15)] rfl (fun z hz => by cases hz) (by decide) (by decide) tw_888 (am_castN_IndexOutOfBoundsException) (fun p11 => ?_)
      replace h := h p11
      refine j_astore_n (lv' := [(3, .ref p11), (0, .ref a0), (1, .int a1), (2, .ref a2)]) hX eL_stopCar_12 rfl (by decide) rfl ?_
      refine j_iconst (v := (1 : Int32)) hX eL_stopCar_13 (by decide) ?_
      exact j_iret hX hM eL_stopCar_14 rfl h
    · exact h.elim

set_option maxHeartbeats 4000000 in
set_option maxRecDepth 20000 in
theorem vL_startCar_0 {X : am_Cx} {G : am_Gx} {d : Nat} {Q : am_Q} (hX : am_ok X rL_startCar G (d + 1)) (hM : am_me X rL_startCar Q) {bc bs : Nat}  {a0 : Nat} {a1 : Int32} {a2 : Nat} {M : am_Hp} (h : hp_T M (a0) = 7 ∧ (1 ≤ bc ∧ (6 ≤ bs ∧ (am_CT G d rX6_startCar [.ref a0, .int a1] M 1 6 (fun oz9 M1 => (∃ v2 : Int32, oz9 = .inl (some (.int v2)) ∧ (hp_T M1 (a2) = 23 ∧ (vp_in (0 : Int32) (hp_N M1 a2) ∧ (∀ M8 : am_Hp, M8 = hp_sL M1 a2 ((0 : Int32)).toNatClampNeg ((v2).toInt64) → (Q (.inl (some (.int (0 : Int32)))) M8))))) ∨ ((oz9 = .inr "java/lang/IllegalArgumentException" ∧ False)) ∨ ((oz9 = .inr "java/lang/IllegalStateException" ∧ ∀ p10 : Nat, Q (.inl (some (.int (2 : Int32)))) M1)) ∨ ((oz9 = .inr "java/lang/IndexOutOfBoundsException" ∧ ∀ p11 : Nat, Q (.inl (some (.int (1 : Int32)))) M1)) ∨ ((oz9 = .inr "java/lang/UnsupportedOperationException" ∧ False))))))) : am_J X 0 [(0, .ref a0), (1, .int a1), (2, .ref a2)] [] M bc bs := by
  refine j_aload_n hX eL_startCar_0 2 rfl ?_
  refine j_iconst (v := (0 : Int32)) hX eL_startCar_1 (by decide) ?_
  refine j_aload_n hX eL_startCar_2 0 rfl ?_
  refine j_iload_n hX eL_startCar_3 1 rfl ?_
  obtain ⟨t3, h⟩ := h
  obtain ⟨b4, b5, h⟩ := h
  refine j_callV (a := a0) (q := (RX6, TX6, 9)) (r' := rX6_startCar) (As := [.int a1]) (rest := [.int (0 : Int32), .ref a2]) (d1 := d) hX eL_startCar_4 mm_LiftGroupLaw_30 rfl t3 (by decide) rfl h rfl (Nat.le_refl _) b4 b5 (Nat.le_of_ble_eq_true rfl) (fun vz9 Mz9 qz9 => ?_) (fun Ez9 Mz9 qz9 => ?_)
  · obtain ⟨M1, eMz9⟩ : ∃ M1, M1 = Mz9 := ⟨_, rfl⟩; subst eMz9
    rcases qz9 with ⟨v2, hxz9, h⟩ | ⟨hxz9, h⟩ | ⟨hxz9, h⟩ | ⟨hxz9, h⟩ | ⟨hxz9, h⟩ <;> cases hxz9
    refine j_i2l hX eL_startCar_7 ?_
    obtain ⟨t6, h⟩ := h
    obtain ⟨i7, h⟩ := h
    refine j_last hX eL_startCar_8 t6 i7 ?_
    refine j_nmM (fun M8 eM8 => ?_)
    replace h := h M8 eM8
    have t9 : hp_T M8 (a2) = 23 := by rw [eM8]; exact t6
    refine j_goto hX 18 eL_startCar_9 (by decide) ?_
    refine j_iconst (v := (0 : Int32)) hX eL_startCar_18 (by decide) ?_
    exact j_iret hX hM eL_startCar_19 rfl h
  · obtain ⟨M1, eMz9⟩ : ∃ M1, M1 = Mz9 := ⟨_, rfl⟩; subst eMz9
    rcases qz9 with ⟨v2, hxz9, h⟩ | ⟨hxz9, h⟩ | ⟨hxz9, h⟩ | ⟨hxz9, h⟩ | ⟨hxz9, h⟩ <;> cases hxz9
    · exact h.elim
    · refine am_thIn (name := "java/lang/IllegalStateException") hX [(0, 9, 12, 21)] (0, 9, 15, 15) [] rfl (fun z hz => by simp only [List.mem_cons, List.not_mem_nil, or_false] at hz; rcases hz with rfl; exact ⟨by decide, _, tw_888, by decide⟩) (by decide) (by decide) tw_805 (am_castN_IllegalStateException) (fun p10 => ?_)
      replace h := h p10
      refine j_astore_n (lv' := [(3, .ref p10), (0, .ref a0), (1, .int a1), (2, .ref a2)]) hX eL_startCar_15 rfl (by decide) rfl ?_
      refine j_iconst (v := (2 : Int32)) hX eL_startCar_16 (by decide) ?_
      exact j_iret hX hM eL_startCar_17 rfl h
    · refine am_thIn (name := "java/lang/IndexOutOfBoundsException") hX [] (0, 9, 12, 21) [(0, 9, 15, 15)] rfl (fun z hz => by cases hz) (by decide) (by decide) tw_888 (am_castN_IndexOutOfBoundsException) (fun p11 => ?_)
      replace h := h p11
      refine j_astore_n (lv' := [(3, .ref p11), (0, .ref a0), (1, .int a1), (2, .ref a2)]) hX eL_startCar_12 rfl (by decide) rfl ?_
      refine j_iconst (v := (1 : Int32)) hX eL_startCar_13 (by decide) ?_
      exact j_iret hX hM eL_startCar_14 rfl h
    · exact h.elim

set_option maxHeartbeats 4000000 in
set_option maxRecDepth 20000 in
theorem vL_setCapacity_0 {X : am_Cx} {G : am_Gx} {d : Nat} {Q : am_Q} (hX : am_ok X rL_setCapacity G (d + 1)) (hM : am_me X rL_setCapacity Q) {bc bs : Nat}  {a0 : Nat} {a1 : Int32} {a2 : Int32} {a3 : Nat} {M : am_Hp} (h : hp_T M (a0) = 7 ∧ (1 ≤ bc ∧ (6 ≤ bs ∧ (am_CT G d rX6_setCapacity [.ref a0, .int a1, .int a2] M 1 6 (fun oz9 M1 => (∃ v2 : Int32, oz9 = .inl (some (.int v2)) ∧ (hp_T M1 (a3) = 23 ∧ (vp_in (0 : Int32) (hp_N M1 a3) ∧ (∀ M8 : am_Hp, M8 = hp_sL M1 a3 ((0 : Int32)).toNatClampNeg ((v2).toInt64) → (Q (.inl (some (.int (0 : Int32)))) M8))))) ∨ ((oz9 = .inr "java/lang/IllegalArgumentException" ∧ ∀ p10 : Nat, Q (.inl (some (.int (2 : Int32)))) M1)) ∨ ((oz9 = .inr "java/lang/IllegalStateException" ∧ False)) ∨ ((oz9 = .inr "java/lang/IndexOutOfBoundsException" ∧ ∀ p11 : Nat, Q (.inl (some (.int (1 : Int32)))) M1)) ∨ ((oz9 = .inr "java/lang/UnsupportedOperationException" ∧ ∀ p12 : Nat, Q (.inl (some (.int (3 : Int32)))) M1))))))) : am_J X 0 [(0, .ref a0), (1, .int a1), (2, .int a2), (3, .ref a3)] [] M bc bs := by
  refine j_aload_n hX eL_setCapacity_0 3 rfl ?_
  refine j_iconst (v := (0 : Int32)) hX eL_setCapacity_1 (by decide) ?_
  refine j_aload_n hX eL_setCapacity_2 0 rfl ?_
  refine j_iload_n hX eL_setCapacity_3 1 rfl ?_
  refine j_iload_n hX eL_setCapacity_4 2 rfl ?_
  obtain ⟨t3, h⟩ := h
  obtain ⟨b4, b5, h⟩ := h
  refine j_callV (a := a0) (q := (RX6, TX6, 9)) (r' := rX6_setCapacity) (As := [.int a1, .int a2]) (rest := [.int (0 : Int32), .ref a3]) (d1 := d) hX eL_setCapacity_5 mm_LiftGroupLaw_33 rfl t3 (by decide) rfl h rfl (Nat.le_refl _) b4 b5 (Nat.le_of_ble_eq_true rfl) (fun vz9 Mz9 qz9 => ?_) (fun Ez9 Mz9 qz9 => ?_)
  · obtain ⟨M1, eMz9⟩ : ∃ M1, M1 = Mz9 := ⟨_, rfl⟩; subst eMz9
    rcases qz9 with ⟨v2, hxz9, h⟩ | ⟨hxz9, h⟩ | ⟨hxz9, h⟩ | ⟨hxz9, h⟩ | ⟨hxz9, h⟩ <;> cases hxz9
    refine j_i2l hX eL_setCapacity_8 ?_
    obtain ⟨t6, h⟩ := h
    obtain ⟨i7, h⟩ := h
    refine j_last hX eL_setCapacity_9 t6 i7 ?_
    refine j_nmM (fun M8 eM8 => ?_)
    replace h := h M8 eM8
    have t9 : hp_T M8 (a3) = 23 := by rw [eM8]; exact t6
    refine j_goto hX 25 eL_setCapacity_10 (by decide) ?_
    refine j_iconst (v := (0 : Int32)) hX eL_setCapacity_25 (by decide) ?_
    exact j_iret hX hM eL_setCapacity_26 rfl h
  · obtain ⟨M1, eMz9⟩ : ∃ M1, M1 = Mz9 := ⟨_, rfl⟩; subst eMz9
    rcases qz9 with ⟨v2, hxz9, h⟩ | ⟨hxz9, h⟩ | ⟨hxz9, h⟩ | ⟨hxz9, h⟩ | ⟨hxz9, h⟩ <;> cases hxz9
    · refine am_thIn (name := "java/lang/IllegalArgumentException") hX [(0, 10, 13, 21)] (0, 10, 17, 13) [(0, 10, 21, 36)] rfl (fun z hz => by simp only [List.mem_cons, List.not_mem_nil, or_false] at hz; rcases hz with rfl; exact ⟨by decide, _, tw_888, by decide⟩) (by decide) (by decide) tw_804 (am_castN_IllegalArgumentException) (fun p10 => ?_)
      replace h := h p10
      refine j_astore (lv' := [(4, .ref p10), (0, .ref a0), (1, .int a1), (2, .int a2), (3, .ref a3)]) hX eL_setCapacity_17 (by decide) rfl ?_
      refine j_iconst (v := (2 : Int32)) hX eL_setCapacity_19 (by decide) ?_
      exact j_iret hX hM eL_setCapacity_20 rfl h
    · exact h.elim
    · refine am_thIn (name := "java/lang/IndexOutOfBoundsException") hX [] (0, 10, 13, 21) [(0, 10, 17, 13), (0, 10, 21, 36)] rfl (fun z hz => by cases hz) (by decide) (by decide) tw_888 (am_castN_IndexOutOfBoundsException) (fun p11 => ?_)
      replace h := h p11
      refine j_astore (lv' := [(4, .ref p11), (0, .ref a0), (1, .int a1), (2, .int a2), (3, .ref a3)]) hX eL_setCapacity_13 (by decide) rfl ?_
      refine j_iconst (v := (1 : Int32)) hX eL_setCapacity_15 (by decide) ?_
      exact j_iret hX hM eL_setCapacity_16 rfl h
    · refine am_thIn (name := "java/lang/UnsupportedOperationException") hX [(0, 10, 13, 21), (0, 10, 17, 13)] (0, 10, 21, 36) [] rfl (fun z hz => by simp only [List.mem_cons, List.not_mem_nil, or_false] at hz; rcases hz with rfl | rfl <;> first | exact ⟨by decide, _, tw_888, by decide⟩ | exact ⟨by decide, _, tw_804, by decide⟩) (by decide) (by decide) tw_958 (am_castN_UnsupportedOperationException) (fun p12 => ?_)
      replace h := h p12
      refine j_astore (lv' := [(4, .ref p12), (0, .ref a0), (1, .int a1), (2, .int a2), (3, .ref a3)]) hX eL_setCapacity_21 (by decide) rfl ?_
      refine j_iconst (v := (3 : Int32)) hX eL_setCapacity_23 (by decide) ?_
      exact j_iret hX hM eL_setCapacity_24 rfl h

set_option maxHeartbeats 4000000 in
set_option maxRecDepth 20000 in
theorem vL_advance_0 {X : am_Cx} {G : am_Gx} {d : Nat} {Q : am_Q} (hX : am_ok X rL_advance G (d + 1)) (hM : am_me X rL_advance Q) {bc bs : Nat}  {a0 : Nat} {a1 : Int32} {a2 : Nat} {M : am_Hp} (h : hp_T M (a0) = 7 ∧ (1 ≤ bc ∧ (6 ≤ bs ∧ (am_CT G d rX6_advance [.ref a0, .int a1] M 1 6 (fun oz9 M1 => (∃ v2 : Int32, oz9 = .inl (some (.int v2)) ∧ (hp_T M1 (a2) = 23 ∧ (vp_in (0 : Int32) (hp_N M1 a2) ∧ (∀ M8 : am_Hp, M8 = hp_sL M1 a2 ((0 : Int32)).toNatClampNeg ((v2).toInt64) → (Q (.inl (some (.int (0 : Int32)))) M8))))) ∨ ((oz9 = .inr "java/lang/IllegalArgumentException" ∧ ∀ p10 : Nat, Q (.inl (some (.int (1 : Int32)))) M1)) ∨ ((oz9 = .inr "java/lang/IllegalStateException" ∧ False)) ∨ ((oz9 = .inr "java/lang/IndexOutOfBoundsException" ∧ False)) ∨ ((oz9 = .inr "java/lang/UnsupportedOperationException" ∧ False))))))) : am_J X 0 [(0, .ref a0), (1, .int a1), (2, .ref a2)] [] M bc bs := by
  refine j_aload_n hX eL_advance_0 2 rfl ?_
  refine j_iconst (v := (0 : Int32)) hX eL_advance_1 (by decide) ?_
  refine j_aload_n hX eL_advance_2 0 rfl ?_
  refine j_iload_n hX eL_advance_3 1 rfl ?_
  obtain ⟨t3, h⟩ := h
  obtain ⟨b4, b5, h⟩ := h
  refine j_callV (a := a0) (q := (RX6, TX6, 9)) (r' := rX6_advance) (As := [.int a1]) (rest := [.int (0 : Int32), .ref a2]) (d1 := d) hX eL_advance_4 mm_LiftGroupLaw_38 rfl t3 (by decide) rfl h rfl (Nat.le_refl _) b4 b5 (Nat.le_of_ble_eq_true rfl) (fun vz9 Mz9 qz9 => ?_) (fun Ez9 Mz9 qz9 => ?_)
  · obtain ⟨M1, eMz9⟩ : ∃ M1, M1 = Mz9 := ⟨_, rfl⟩; subst eMz9
    rcases qz9 with ⟨v2, hxz9, h⟩ | ⟨hxz9, h⟩ | ⟨hxz9, h⟩ | ⟨hxz9, h⟩ | ⟨hxz9, h⟩ <;> cases hxz9
    refine j_i2l hX eL_advance_7 ?_
    obtain ⟨t6, h⟩ := h
    obtain ⟨i7, h⟩ := h
    refine j_last hX eL_advance_8 t6 i7 ?_
    refine j_nmM (fun M8 eM8 => ?_)
    replace h := h M8 eM8
    have t9 : hp_T M8 (a2) = 23 := by rw [eM8]; exact t6
    refine j_goto hX 15 eL_advance_9 (by decide) ?_
    refine j_iconst (v := (0 : Int32)) hX eL_advance_15 (by decide) ?_
    exact j_iret hX hM eL_advance_16 rfl h
  · obtain ⟨M1, eMz9⟩ : ∃ M1, M1 = Mz9 := ⟨_, rfl⟩; subst eMz9
    rcases qz9 with ⟨v2, hxz9, h⟩ | ⟨hxz9, h⟩ | ⟨hxz9, h⟩ | ⟨hxz9, h⟩ | ⟨hxz9, h⟩ <;> cases hxz9
    · refine am_thIn (name := "java/lang/IllegalArgumentException") hX [] (0, 9, 12, 13) [] rfl (fun z hz => by cases hz) (by decide) (by decide) tw_804 (am_castN_IllegalArgumentException) (fun p10 => ?_)
      replace h := h p10
      refine j_astore_n (lv' := [(3, .ref p10), (0, .ref a0), (1, .int a1), (2, .ref a2)]) hX eL_advance_12 rfl (by decide) rfl ?_
      refine j_iconst (v := (1 : Int32)) hX eL_advance_13 (by decide) ?_
      exact j_iret hX hM eL_advance_14 rfl h
    · exact h.elim
    · exact h.elim
    · exact h.elim

set_option maxHeartbeats 4000000 in
set_option maxRecDepth 20000 in
theorem vL_floor_0 {X : am_Cx} {G : am_Gx} {d : Nat} {Q : am_Q} (hX : am_ok X rL_floor G (d + 1)) (hM : am_me X rL_floor Q) {bc bs : Nat}  {a0 : Nat} {a1 : Int32} {a2 : Nat} {M : am_Hp} (h : hp_T M (a0) = 7 ∧ (1 ≤ bc ∧ (6 ≤ bs ∧ (am_CT G d rX6_floor [.ref a0, .int a1] M 1 6 (fun oz9 M1 => (∃ v2 : Int32, oz9 = .inl (some (.int v2)) ∧ (hp_T M1 (a2) = 23 ∧ (vp_in (0 : Int32) (hp_N M1 a2) ∧ (∀ M8 : am_Hp, M8 = hp_sL M1 a2 ((0 : Int32)).toNatClampNeg ((v2).toInt64) → (Q (.inl (some (.int (0 : Int32)))) M8))))) ∨ ((oz9 = .inr "java/lang/IndexOutOfBoundsException" ∧ ∀ p10 : Nat, Q (.inl (some (.int (1 : Int32)))) M1))))))) : am_J X 0 [(0, .ref a0), (1, .int a1), (2, .ref a2)] [] M bc bs := by
  refine j_aload_n hX eL_floor_0 2 rfl ?_
  refine j_iconst (v := (0 : Int32)) hX eL_floor_1 (by decide) ?_
  refine j_aload_n hX eL_floor_2 0 rfl ?_
  refine j_iload_n hX eL_floor_3 1 rfl ?_
  obtain ⟨t3, h⟩ := h
  obtain ⟨b4, b5, h⟩ := h
  refine j_callV (a := a0) (q := (RX6, TX6, 9)) (r' := rX6_floor) (As := [.int a1]) (rest := [.int (0 : Int32), .ref a2]) (d1 := d) hX eL_floor_4 mm_LiftGroupLaw_41 rfl t3 (by decide) rfl h rfl (Nat.le_refl _) b4 b5 (Nat.le_of_ble_eq_true rfl) (fun vz9 Mz9 qz9 => ?_) (fun Ez9 Mz9 qz9 => ?_)
  · obtain ⟨M1, eMz9⟩ : ∃ M1, M1 = Mz9 := ⟨_, rfl⟩; subst eMz9
    rcases qz9 with ⟨v2, hxz9, h⟩ | ⟨hxz9, h⟩ <;> cases hxz9
    refine j_i2l hX eL_floor_7 ?_
    obtain ⟨t6, h⟩ := h
    obtain ⟨i7, h⟩ := h
    refine j_last hX eL_floor_8 t6 i7 ?_
    refine j_nmM (fun M8 eM8 => ?_)
    replace h := h M8 eM8
    have t9 : hp_T M8 (a2) = 23 := by rw [eM8]; exact t6
    refine j_goto hX 15 eL_floor_9 (by decide) ?_
    refine j_iconst (v := (0 : Int32)) hX eL_floor_15 (by decide) ?_
    exact j_iret hX hM eL_floor_16 rfl h
  · obtain ⟨M1, eMz9⟩ : ∃ M1, M1 = Mz9 := ⟨_, rfl⟩; subst eMz9
    rcases qz9 with ⟨v2, hxz9, h⟩ | ⟨hxz9, h⟩ <;> cases hxz9
    · refine am_thIn (name := "java/lang/IndexOutOfBoundsException") hX [] (0, 9, 12, 21) [] rfl (fun z hz => by cases hz) (by decide) (by decide) tw_888 (am_castN_IndexOutOfBoundsException) (fun p10 => ?_)
      replace h := h p10
      refine j_astore_n (lv' := [(3, .ref p10), (0, .ref a0), (1, .int a1), (2, .ref a2)]) hX eL_floor_12 rfl (by decide) rfl ?_
      refine j_iconst (v := (1 : Int32)) hX eL_floor_13 (by decide) ?_
      exact j_iret hX hM eL_floor_14 rfl h

set_option maxHeartbeats 4000000 in
set_option maxRecDepth 20000 in
theorem vL_direction_0 {X : am_Cx} {G : am_Gx} {d : Nat} {Q : am_Q} (hX : am_ok X rL_direction G (d + 1)) (hM : am_me X rL_direction Q) {bc bs : Nat}  {a0 : Nat} {a1 : Int32} {a2 : Nat} {M : am_Hp} (h : hp_T M (a0) = 7 ∧ (1 ≤ bc ∧ (6 ≤ bs ∧ (am_CT G d rX6_direction [.ref a0, .int a1] M 1 6 (fun oz9 M1 => (∃ v2 : Int32, oz9 = .inl (some (.int v2)) ∧ (hp_T M1 (a2) = 23 ∧ (vp_in (0 : Int32) (hp_N M1 a2) ∧ (∀ M8 : am_Hp, M8 = hp_sL M1 a2 ((0 : Int32)).toNatClampNeg ((v2).toInt64) → (Q (.inl (some (.int (0 : Int32)))) M8))))) ∨ ((oz9 = .inr "java/lang/IndexOutOfBoundsException" ∧ ∀ p10 : Nat, Q (.inl (some (.int (1 : Int32)))) M1))))))) : am_J X 0 [(0, .ref a0), (1, .int a1), (2, .ref a2)] [] M bc bs := by
  refine j_aload_n hX eL_direction_0 2 rfl ?_
  refine j_iconst (v := (0 : Int32)) hX eL_direction_1 (by decide) ?_
  refine j_aload_n hX eL_direction_2 0 rfl ?_
  refine j_iload_n hX eL_direction_3 1 rfl ?_
  obtain ⟨t3, h⟩ := h
  obtain ⟨b4, b5, h⟩ := h
  refine j_callV (a := a0) (q := (RX6, TX6, 9)) (r' := rX6_direction) (As := [.int a1]) (rest := [.int (0 : Int32), .ref a2]) (d1 := d) hX eL_direction_4 mm_LiftGroupLaw_44 rfl t3 (by decide) rfl h rfl (Nat.le_refl _) b4 b5 (Nat.le_of_ble_eq_true rfl) (fun vz9 Mz9 qz9 => ?_) (fun Ez9 Mz9 qz9 => ?_)
  · obtain ⟨M1, eMz9⟩ : ∃ M1, M1 = Mz9 := ⟨_, rfl⟩; subst eMz9
    rcases qz9 with ⟨v2, hxz9, h⟩ | ⟨hxz9, h⟩ <;> cases hxz9
    refine j_i2l hX eL_direction_7 ?_
    obtain ⟨t6, h⟩ := h
    obtain ⟨i7, h⟩ := h
    refine j_last hX eL_direction_8 t6 i7 ?_
    refine j_nmM (fun M8 eM8 => ?_)
    replace h := h M8 eM8
    have t9 : hp_T M8 (a2) = 23 := by rw [eM8]; exact t6
    refine j_goto hX 15 eL_direction_9 (by decide) ?_
    refine j_iconst (v := (0 : Int32)) hX eL_direction_15 (by decide) ?_
    exact j_iret hX hM eL_direction_16 rfl h
  · obtain ⟨M1, eMz9⟩ : ∃ M1, M1 = Mz9 := ⟨_, rfl⟩; subst eMz9
    rcases qz9 with ⟨v2, hxz9, h⟩ | ⟨hxz9, h⟩ <;> cases hxz9
    · refine am_thIn (name := "java/lang/IndexOutOfBoundsException") hX [] (0, 9, 12, 21) [] rfl (fun z hz => by cases hz) (by decide) (by decide) tw_888 (am_castN_IndexOutOfBoundsException) (fun p10 => ?_)
      replace h := h p10
      refine j_astore_n (lv' := [(3, .ref p10), (0, .ref a0), (1, .int a1), (2, .ref a2)]) hX eL_direction_12 rfl (by decide) rfl ?_
      refine j_iconst (v := (1 : Int32)) hX eL_direction_13 (by decide) ?_
      exact j_iret hX hM eL_direction_14 rfl h

set_option maxHeartbeats 4000000 in
set_option maxRecDepth 20000 in
theorem vL_capacity_0 {X : am_Cx} {G : am_Gx} {d : Nat} {Q : am_Q} (hX : am_ok X rL_capacity G (d + 1)) (hM : am_me X rL_capacity Q) {bc bs : Nat}  {a0 : Nat} {a1 : Int32} {a2 : Nat} {M : am_Hp} (h : hp_T M (a0) = 7 ∧ (1 ≤ bc ∧ (6 ≤ bs ∧ (am_CT G d rX6_capacity [.ref a0, .int a1] M 1 6 (fun oz9 M1 => (∃ v2 : Int32, oz9 = .inl (some (.int v2)) ∧ (hp_T M1 (a2) = 23 ∧ (vp_in (0 : Int32) (hp_N M1 a2) ∧ (∀ M8 : am_Hp, M8 = hp_sL M1 a2 ((0 : Int32)).toNatClampNeg ((v2).toInt64) → (Q (.inl (some (.int (0 : Int32)))) M8))))) ∨ ((oz9 = .inr "java/lang/IndexOutOfBoundsException" ∧ ∀ p10 : Nat, Q (.inl (some (.int (1 : Int32)))) M1))))))) : am_J X 0 [(0, .ref a0), (1, .int a1), (2, .ref a2)] [] M bc bs := by
  refine j_aload_n hX eL_capacity_0 2 rfl ?_
  refine j_iconst (v := (0 : Int32)) hX eL_capacity_1 (by decide) ?_
  refine j_aload_n hX eL_capacity_2 0 rfl ?_
  refine j_iload_n hX eL_capacity_3 1 rfl ?_
  obtain ⟨t3, h⟩ := h
  obtain ⟨b4, b5, h⟩ := h
  refine j_callV (a := a0) (q := (RX6, TX6, 9)) (r' := rX6_capacity) (As := [.int a1]) (rest := [.int (0 : Int32), .ref a2]) (d1 := d) hX eL_capacity_4 mm_LiftGroupLaw_47 rfl t3 (by decide) rfl h rfl (Nat.le_refl _) b4 b5 (Nat.le_of_ble_eq_true rfl) (fun vz9 Mz9 qz9 => ?_) (fun Ez9 Mz9 qz9 => ?_)
  · obtain ⟨M1, eMz9⟩ : ∃ M1, M1 = Mz9 := ⟨_, rfl⟩; subst eMz9
    rcases qz9 with ⟨v2, hxz9, h⟩ | ⟨hxz9, h⟩ <;> cases hxz9
    refine j_i2l hX eL_capacity_7 ?_
    obtain ⟨t6, h⟩ := h
    obtain ⟨i7, h⟩ := h
    refine j_last hX eL_capacity_8 t6 i7 ?_
    refine j_nmM (fun M8 eM8 => ?_)
    replace h := h M8 eM8
    have t9 : hp_T M8 (a2) = 23 := by rw [eM8]; exact t6
    refine j_goto hX 15 eL_capacity_9 (by decide) ?_
    refine j_iconst (v := (0 : Int32)) hX eL_capacity_15 (by decide) ?_
    exact j_iret hX hM eL_capacity_16 rfl h
  · obtain ⟨M1, eMz9⟩ : ∃ M1, M1 = Mz9 := ⟨_, rfl⟩; subst eMz9
    rcases qz9 with ⟨v2, hxz9, h⟩ | ⟨hxz9, h⟩ <;> cases hxz9
    · refine am_thIn (name := "java/lang/IndexOutOfBoundsException") hX [] (0, 9, 12, 21) [] rfl (fun z hz => by cases hz) (by decide) (by decide) tw_888 (am_castN_IndexOutOfBoundsException) (fun p10 => ?_)
      replace h := h p10
      refine j_astore_n (lv' := [(3, .ref p10), (0, .ref a0), (1, .int a1), (2, .ref a2)]) hX eL_capacity_12 rfl (by decide) rfl ?_
      refine j_iconst (v := (1 : Int32)) hX eL_capacity_13 (by decide) ?_
      exact j_iret hX hM eL_capacity_14 rfl h

set_option maxHeartbeats 4000000 in
set_option maxRecDepth 20000 in
theorem vL_load_0 {X : am_Cx} {G : am_Gx} {d : Nat} {Q : am_Q} (hX : am_ok X rL_load G (d + 1)) (hM : am_me X rL_load Q) {bc bs : Nat}  {a0 : Nat} {a1 : Int32} {a2 : Nat} {M : am_Hp} (h : hp_T M (a0) = 7 ∧ (1 ≤ bc ∧ (6 ≤ bs ∧ (am_CT G d rX6_load [.ref a0, .int a1] M 1 6 (fun oz9 M1 => (∃ v2 : Int32, oz9 = .inl (some (.int v2)) ∧ (hp_T M1 (a2) = 23 ∧ (vp_in (0 : Int32) (hp_N M1 a2) ∧ (∀ M8 : am_Hp, M8 = hp_sL M1 a2 ((0 : Int32)).toNatClampNeg ((v2).toInt64) → (Q (.inl (some (.int (0 : Int32)))) M8))))) ∨ ((oz9 = .inr "java/lang/IndexOutOfBoundsException" ∧ ∀ p10 : Nat, Q (.inl (some (.int (1 : Int32)))) M1))))))) : am_J X 0 [(0, .ref a0), (1, .int a1), (2, .ref a2)] [] M bc bs := by
  refine j_aload_n hX eL_load_0 2 rfl ?_
  refine j_iconst (v := (0 : Int32)) hX eL_load_1 (by decide) ?_
  refine j_aload_n hX eL_load_2 0 rfl ?_
  refine j_iload_n hX eL_load_3 1 rfl ?_
  obtain ⟨t3, h⟩ := h
  obtain ⟨b4, b5, h⟩ := h
  refine j_callV (a := a0) (q := (RX6, TX6, 9)) (r' := rX6_load) (As := [.int a1]) (rest := [.int (0 : Int32), .ref a2]) (d1 := d) hX eL_load_4 mm_LiftGroupLaw_50 rfl t3 (by decide) rfl h rfl (Nat.le_refl _) b4 b5 (Nat.le_of_ble_eq_true rfl) (fun vz9 Mz9 qz9 => ?_) (fun Ez9 Mz9 qz9 => ?_)
  · obtain ⟨M1, eMz9⟩ : ∃ M1, M1 = Mz9 := ⟨_, rfl⟩; subst eMz9
    rcases qz9 with ⟨v2, hxz9, h⟩ | ⟨hxz9, h⟩ <;> cases hxz9
    refine j_i2l hX eL_load_7 ?_
    obtain ⟨t6, h⟩ := h
    obtain ⟨i7, h⟩ := h
    refine j_last hX eL_load_8 t6 i7 ?_
    refine j_nmM (fun M8 eM8 => ?_)
    replace h := h M8 eM8
    have t9 : hp_T M8 (a2) = 23 := by rw [eM8]; exact t6
    refine j_goto hX 15 eL_load_9 (by decide) ?_
    refine j_iconst (v := (0 : Int32)) hX eL_load_15 (by decide) ?_
    exact j_iret hX hM eL_load_16 rfl h
  · obtain ⟨M1, eMz9⟩ : ∃ M1, M1 = Mz9 := ⟨_, rfl⟩; subst eMz9
    rcases qz9 with ⟨v2, hxz9, h⟩ | ⟨hxz9, h⟩ <;> cases hxz9
    · refine am_thIn (name := "java/lang/IndexOutOfBoundsException") hX [] (0, 9, 12, 21) [] rfl (fun z hz => by cases hz) (by decide) (by decide) tw_888 (am_castN_IndexOutOfBoundsException) (fun p10 => ?_)
      replace h := h p10
      refine j_astore_n (lv' := [(3, .ref p10), (0, .ref a0), (1, .int a1), (2, .ref a2)]) hX eL_load_12 rfl (by decide) rfl ?_
      refine j_iconst (v := (1 : Int32)) hX eL_load_13 (by decide) ?_
      exact j_iret hX hM eL_load_14 rfl h

set_option maxHeartbeats 4000000 in
set_option maxRecDepth 20000 in
theorem vL_passengersIn_0 {X : am_Cx} {G : am_Gx} {d : Nat} {Q : am_Q} (hX : am_ok X rL_passengersIn G (d + 1)) (hM : am_me X rL_passengersIn Q) {bc bs : Nat}  {a0 : Nat} {a1 : Int32} {a2 : Nat} {M : am_Hp} (h : hp_T M (a0) = 7 ∧ (1 ≤ bc ∧ (6 ≤ bs ∧ (am_CT G d rX6_passengersIn [.ref a0, .int a1] M 1 6 (fun oz9 M1 => (∃ v2 : Int32, oz9 = .inl (some (.int v2)) ∧ (hp_T M1 (a2) = 23 ∧ (vp_in (0 : Int32) (hp_N M1 a2) ∧ (∀ M8 : am_Hp, M8 = hp_sL M1 a2 ((0 : Int32)).toNatClampNeg ((v2).toInt64) → (Q (.inl (some (.int (0 : Int32)))) M8))))) ∨ ((oz9 = .inr "java/lang/IndexOutOfBoundsException" ∧ ∀ p10 : Nat, Q (.inl (some (.int (1 : Int32)))) M1))))))) : am_J X 0 [(0, .ref a0), (1, .int a1), (2, .ref a2)] [] M bc bs := by
  refine j_aload_n hX eL_passengersIn_0 2 rfl ?_
  refine j_iconst (v := (0 : Int32)) hX eL_passengersIn_1 (by decide) ?_
  refine j_aload_n hX eL_passengersIn_2 0 rfl ?_
  refine j_iload_n hX eL_passengersIn_3 1 rfl ?_
  obtain ⟨t3, h⟩ := h
  obtain ⟨b4, b5, h⟩ := h
  refine j_callV (a := a0) (q := (RX6, TX6, 9)) (r' := rX6_passengersIn) (As := [.int a1]) (rest := [.int (0 : Int32), .ref a2]) (d1 := d) hX eL_passengersIn_4 mm_LiftGroupLaw_53 rfl t3 (by decide) rfl h rfl (Nat.le_refl _) b4 b5 (Nat.le_of_ble_eq_true rfl) (fun vz9 Mz9 qz9 => ?_) (fun Ez9 Mz9 qz9 => ?_)
  · obtain ⟨M1, eMz9⟩ : ∃ M1, M1 = Mz9 := ⟨_, rfl⟩; subst eMz9
    rcases qz9 with ⟨v2, hxz9, h⟩ | ⟨hxz9, h⟩ <;> cases hxz9
    refine j_i2l hX eL_passengersIn_7 ?_
    obtain ⟨t6, h⟩ := h
    obtain ⟨i7, h⟩ := h
    refine j_last hX eL_passengersIn_8 t6 i7 ?_
    refine j_nmM (fun M8 eM8 => ?_)
    replace h := h M8 eM8
    have t9 : hp_T M8 (a2) = 23 := by rw [eM8]; exact t6
    refine j_goto hX 15 eL_passengersIn_9 (by decide) ?_
    refine j_iconst (v := (0 : Int32)) hX eL_passengersIn_15 (by decide) ?_
    exact j_iret hX hM eL_passengersIn_16 rfl h
  · obtain ⟨M1, eMz9⟩ : ∃ M1, M1 = Mz9 := ⟨_, rfl⟩; subst eMz9
    rcases qz9 with ⟨v2, hxz9, h⟩ | ⟨hxz9, h⟩ <;> cases hxz9
    · refine am_thIn (name := "java/lang/IndexOutOfBoundsException") hX [] (0, 9, 12, 21) [] rfl (fun z hz => by cases hz) (by decide) (by decide) tw_888 (am_castN_IndexOutOfBoundsException) (fun p10 => ?_)
      replace h := h p10
      refine j_astore_n (lv' := [(3, .ref p10), (0, .ref a0), (1, .int a1), (2, .ref a2)]) hX eL_passengersIn_12 rfl (by decide) rfl ?_
      refine j_iconst (v := (1 : Int32)) hX eL_passengersIn_13 (by decide) ?_
      exact j_iret hX hM eL_passengersIn_14 rfl h

set_option maxHeartbeats 4000000 in
set_option maxRecDepth 20000 in
theorem vL_assignedTo_0 {X : am_Cx} {G : am_Gx} {d : Nat} {Q : am_Q} (hX : am_ok X rL_assignedTo G (d + 1)) (hM : am_me X rL_assignedTo Q) {bc bs : Nat}  {a0 : Nat} {a1 : Int32} {a2 : Nat} {M : am_Hp} (h : hp_T M (a0) = 7 ∧ (1 ≤ bc ∧ (6 ≤ bs ∧ (am_CT G d rX6_assignedTo [.ref a0, .int a1] M 1 6 (fun oz9 M1 => (∃ v2 : Int32, oz9 = .inl (some (.int v2)) ∧ (hp_T M1 (a2) = 23 ∧ (vp_in (0 : Int32) (hp_N M1 a2) ∧ (∀ M8 : am_Hp, M8 = hp_sL M1 a2 ((0 : Int32)).toNatClampNeg ((v2).toInt64) → (Q (.inl (some (.int (0 : Int32)))) M8))))) ∨ ((oz9 = .inr "java/lang/IndexOutOfBoundsException" ∧ ∀ p10 : Nat, Q (.inl (some (.int (1 : Int32)))) M1))))))) : am_J X 0 [(0, .ref a0), (1, .int a1), (2, .ref a2)] [] M bc bs := by
  refine j_aload_n hX eL_assignedTo_0 2 rfl ?_
  refine j_iconst (v := (0 : Int32)) hX eL_assignedTo_1 (by decide) ?_
  refine j_aload_n hX eL_assignedTo_2 0 rfl ?_
  refine j_iload_n hX eL_assignedTo_3 1 rfl ?_
  obtain ⟨t3, h⟩ := h
  obtain ⟨b4, b5, h⟩ := h
  refine j_callV (a := a0) (q := (RX6, TX6, 9)) (r' := rX6_assignedTo) (As := [.int a1]) (rest := [.int (0 : Int32), .ref a2]) (d1 := d) hX eL_assignedTo_4 mm_LiftGroupLaw_56 rfl t3 (by decide) rfl h rfl (Nat.le_refl _) b4 b5 (Nat.le_of_ble_eq_true rfl) (fun vz9 Mz9 qz9 => ?_) (fun Ez9 Mz9 qz9 => ?_)
  · obtain ⟨M1, eMz9⟩ : ∃ M1, M1 = Mz9 := ⟨_, rfl⟩; subst eMz9
    rcases qz9 with ⟨v2, hxz9, h⟩ | ⟨hxz9, h⟩ <;> cases hxz9
    refine j_i2l hX eL_assignedTo_7 ?_
    obtain ⟨t6, h⟩ := h
    obtain ⟨i7, h⟩ := h
    refine j_last hX eL_assignedTo_8 t6 i7 ?_
    refine j_nmM (fun M8 eM8 => ?_)
    replace h := h M8 eM8
    have t9 : hp_T M8 (a2) = 23 := by rw [eM8]; exact t6
    refine j_goto hX 15 eL_assignedTo_9 (by decide) ?_
    refine j_iconst (v := (0 : Int32)) hX eL_assignedTo_15 (by decide) ?_
    exact j_iret hX hM eL_assignedTo_16 rfl h
  · obtain ⟨M1, eMz9⟩ : ∃ M1, M1 = Mz9 := ⟨_, rfl⟩; subst eMz9
    rcases qz9 with ⟨v2, hxz9, h⟩ | ⟨hxz9, h⟩ <;> cases hxz9
    · refine am_thIn (name := "java/lang/IndexOutOfBoundsException") hX [] (0, 9, 12, 21) [] rfl (fun z hz => by cases hz) (by decide) (by decide) tw_888 (am_castN_IndexOutOfBoundsException) (fun p10 => ?_)
      replace h := h p10
      refine j_astore_n (lv' := [(3, .ref p10), (0, .ref a0), (1, .int a1), (2, .ref a2)]) hX eL_assignedTo_12 rfl (by decide) rfl ?_
      refine j_iconst (v := (1 : Int32)) hX eL_assignedTo_13 (by decide) ?_
      exact j_iret hX hM eL_assignedTo_14 rfl h

set_option maxHeartbeats 4000000 in
set_option maxRecDepth 20000 in
theorem vL_doorSteps_0 {X : am_Cx} {G : am_Gx} {d : Nat} {Q : am_Q} (hX : am_ok X rL_doorSteps G (d + 1)) (hM : am_me X rL_doorSteps Q) {bc bs : Nat}  {a0 : Nat} {a1 : Int32} {a2 : Nat} {M : am_Hp} (h : hp_T M (a0) = 7 ∧ (1 ≤ bc ∧ (6 ≤ bs ∧ (am_CT G d rX6_doorSteps [.ref a0, .int a1] M 1 6 (fun oz9 M1 => (∃ v2 : Int32, oz9 = .inl (some (.int v2)) ∧ (hp_T M1 (a2) = 23 ∧ (vp_in (0 : Int32) (hp_N M1 a2) ∧ (∀ M8 : am_Hp, M8 = hp_sL M1 a2 ((0 : Int32)).toNatClampNeg ((v2).toInt64) → (Q (.inl (some (.int (0 : Int32)))) M8))))) ∨ ((oz9 = .inr "java/lang/IndexOutOfBoundsException" ∧ ∀ p10 : Nat, Q (.inl (some (.int (1 : Int32)))) M1))))))) : am_J X 0 [(0, .ref a0), (1, .int a1), (2, .ref a2)] [] M bc bs := by
  refine j_aload_n hX eL_doorSteps_0 2 rfl ?_
  refine j_iconst (v := (0 : Int32)) hX eL_doorSteps_1 (by decide) ?_
  refine j_aload_n hX eL_doorSteps_2 0 rfl ?_
  refine j_iload_n hX eL_doorSteps_3 1 rfl ?_
  obtain ⟨t3, h⟩ := h
  obtain ⟨b4, b5, h⟩ := h
  refine j_callV (a := a0) (q := (RX6, TX6, 9)) (r' := rX6_doorSteps) (As := [.int a1]) (rest := [.int (0 : Int32), .ref a2]) (d1 := d) hX eL_doorSteps_4 mm_LiftGroupLaw_59 rfl t3 (by decide) rfl h rfl (Nat.le_refl _) b4 b5 (Nat.le_of_ble_eq_true rfl) (fun vz9 Mz9 qz9 => ?_) (fun Ez9 Mz9 qz9 => ?_)
  · obtain ⟨M1, eMz9⟩ : ∃ M1, M1 = Mz9 := ⟨_, rfl⟩; subst eMz9
    rcases qz9 with ⟨v2, hxz9, h⟩ | ⟨hxz9, h⟩ <;> cases hxz9
    refine j_i2l hX eL_doorSteps_7 ?_
    obtain ⟨t6, h⟩ := h
    obtain ⟨i7, h⟩ := h
    refine j_last hX eL_doorSteps_8 t6 i7 ?_
    refine j_nmM (fun M8 eM8 => ?_)
    replace h := h M8 eM8
    have t9 : hp_T M8 (a2) = 23 := by rw [eM8]; exact t6
    refine j_goto hX 15 eL_doorSteps_9 (by decide) ?_
    refine j_iconst (v := (0 : Int32)) hX eL_doorSteps_15 (by decide) ?_
    exact j_iret hX hM eL_doorSteps_16 rfl h
  · obtain ⟨M1, eMz9⟩ : ∃ M1, M1 = Mz9 := ⟨_, rfl⟩; subst eMz9
    rcases qz9 with ⟨v2, hxz9, h⟩ | ⟨hxz9, h⟩ <;> cases hxz9
    · refine am_thIn (name := "java/lang/IndexOutOfBoundsException") hX [] (0, 9, 12, 21) [] rfl (fun z hz => by cases hz) (by decide) (by decide) tw_888 (am_castN_IndexOutOfBoundsException) (fun p10 => ?_)
      replace h := h p10
      refine j_astore_n (lv' := [(3, .ref p10), (0, .ref a0), (1, .int a1), (2, .ref a2)]) hX eL_doorSteps_12 rfl (by decide) rfl ?_
      refine j_iconst (v := (1 : Int32)) hX eL_doorSteps_13 (by decide) ?_
      exact j_iret hX hM eL_doorSteps_14 rfl h

set_option maxHeartbeats 4000000 in
set_option maxRecDepth 20000 in
theorem vL_isInService_0 {X : am_Cx} {G : am_Gx} {d : Nat} {Q : am_Q} (hX : am_ok X rL_isInService G (d + 1)) (hM : am_me X rL_isInService Q) {bc bs : Nat}  {a0 : Nat} {a1 : Int32} {a2 : Nat} {M : am_Hp} (h : hp_T M (a0) = 7 ∧ (1 ≤ bc ∧ (6 ≤ bs ∧ (am_CT G d rX6_isInService [.ref a0, .int a1] M 1 6 (fun oz9 M1 => (∃ v2 : Int32, oz9 = .inl (some (.int v2)) ∧ (((v2 = 0) → (hp_T M1 (a2) = 23 ∧ (vp_in (0 : Int32) (hp_N M1 a2) ∧ (∀ M9 : am_Hp, M9 = hp_sL M1 a2 ((0 : Int32)).toNatClampNeg (0 : Int64) → (Q (.inl (some (.int (0 : Int32)))) M9))))) ∧ (¬ (v2 = 0) → (hp_T M1 (a2) = 23 ∧ (vp_in (0 : Int32) (hp_N M1 a2) ∧ (∀ M13 : am_Hp, M13 = hp_sL M1 a2 ((0 : Int32)).toNatClampNeg (1 : Int64) → (Q (.inl (some (.int (0 : Int32)))) M13))))))) ∨ ((oz9 = .inr "java/lang/IndexOutOfBoundsException" ∧ ∀ p15 : Nat, Q (.inl (some (.int (1 : Int32)))) M1))))))) : am_J X 0 [(0, .ref a0), (1, .int a1), (2, .ref a2)] [] M bc bs := by
  refine j_aload_n hX eL_isInService_0 2 rfl ?_
  refine j_iconst (v := (0 : Int32)) hX eL_isInService_1 (by decide) ?_
  refine j_aload_n hX eL_isInService_2 0 rfl ?_
  refine j_iload_n hX eL_isInService_3 1 rfl ?_
  obtain ⟨t3, h⟩ := h
  obtain ⟨b4, b5, h⟩ := h
  refine j_callV (a := a0) (q := (RX6, TX6, 9)) (r' := rX6_isInService) (As := [.int a1]) (rest := [.int (0 : Int32), .ref a2]) (d1 := d) hX eL_isInService_4 mm_LiftGroupLaw_62 rfl t3 (by decide) rfl h rfl (Nat.le_refl _) b4 b5 (Nat.le_of_ble_eq_true rfl) (fun vz9 Mz9 qz9 => ?_) (fun Ez9 Mz9 qz9 => ?_)
  · obtain ⟨M1, eMz9⟩ : ∃ M1, M1 = Mz9 := ⟨_, rfl⟩; subst eMz9
    rcases qz9 with ⟨v2, hxz9, h⟩ | ⟨hxz9, h⟩ <;> cases hxz9
    refine j_if_eq hX 14 eL_isInService_7 (by decide) (fun c6 => ?_) (fun c6 => ?_)
    · replace h := h.1 c6
      refine j_lconst (v := (0 : Int64)) hX eL_isInService_14 (by decide) ?_
      obtain ⟨t7, h⟩ := h
      obtain ⟨i8, h⟩ := h
      refine j_last hX eL_isInService_15 t7 i8 ?_
      refine j_nmM (fun M9 eM9 => ?_)
      replace h := h M9 eM9
      have t10 : hp_T M9 (a2) = 23 := by rw [eM9]; exact t7
      refine j_goto hX 22 eL_isInService_16 (by decide) ?_
      refine j_iconst (v := (0 : Int32)) hX eL_isInService_22 (by decide) ?_
      exact j_iret hX hM eL_isInService_23 rfl h
    · replace h := h.2 c6
      refine j_lconst (v := (1 : Int64)) hX eL_isInService_10 (by decide) ?_
      refine j_goto hX 15 eL_isInService_11 (by decide) ?_
      obtain ⟨t11, h⟩ := h
      obtain ⟨i12, h⟩ := h
      refine j_last hX eL_isInService_15 t11 i12 ?_
      refine j_nmM (fun M13 eM13 => ?_)
      replace h := h M13 eM13
      have t14 : hp_T M13 (a2) = 23 := by rw [eM13]; exact t11
      refine j_goto hX 22 eL_isInService_16 (by decide) ?_
      refine j_iconst (v := (0 : Int32)) hX eL_isInService_22 (by decide) ?_
      exact j_iret hX hM eL_isInService_23 rfl h
  · obtain ⟨M1, eMz9⟩ : ∃ M1, M1 = Mz9 := ⟨_, rfl⟩; subst eMz9
    rcases qz9 with ⟨v2, hxz9, h⟩ | ⟨hxz9, h⟩ <;> cases hxz9
    · refine am_thIn (name := "java/lang/IndexOutOfBoundsException") hX [] (0, 16, 19, 21) [] rfl (fun z hz => by cases hz) (by decide) (by decide) tw_888 (am_castN_IndexOutOfBoundsException) (fun p15 => ?_)
      replace h := h p15
      refine j_astore_n (lv' := [(3, .ref p15), (0, .ref a0), (1, .int a1), (2, .ref a2)]) hX eL_isInService_19 rfl (by decide) rfl ?_
      refine j_iconst (v := (1 : Int32)) hX eL_isInService_20 (by decide) ?_
      exact j_iret hX hM eL_isInService_21 rfl h

set_option maxHeartbeats 4000000 in
set_option maxRecDepth 20000 in
theorem vL_energy_0 {X : am_Cx} {G : am_Gx} {d : Nat} {Q : am_Q} (hX : am_ok X rL_energy G (d + 1)) (hM : am_me X rL_energy Q) {bc bs : Nat}  {a0 : Nat} {a1 : Int32} {a2 : Nat} {M : am_Hp} (h : hp_T M (a0) = 7 ∧ (1 ≤ bc ∧ (6 ≤ bs ∧ (am_CT G d rX6_energy [.ref a0, .int a1] M 1 6 (fun oz9 M1 => (∃ v2 : Int32, oz9 = .inl (some (.int v2)) ∧ (hp_T M1 (a2) = 23 ∧ (vp_in (0 : Int32) (hp_N M1 a2) ∧ (∀ M8 : am_Hp, M8 = hp_sL M1 a2 ((0 : Int32)).toNatClampNeg ((v2).toInt64) → (Q (.inl (some (.int (0 : Int32)))) M8))))) ∨ ((oz9 = .inr "java/lang/IndexOutOfBoundsException" ∧ ∀ p10 : Nat, Q (.inl (some (.int (1 : Int32)))) M1))))))) : am_J X 0 [(0, .ref a0), (1, .int a1), (2, .ref a2)] [] M bc bs := by
  refine j_aload_n hX eL_energy_0 2 rfl ?_
  refine j_iconst (v := (0 : Int32)) hX eL_energy_1 (by decide) ?_
  refine j_aload_n hX eL_energy_2 0 rfl ?_
  refine j_iload_n hX eL_energy_3 1 rfl ?_
  obtain ⟨t3, h⟩ := h
  obtain ⟨b4, b5, h⟩ := h
  refine j_callV (a := a0) (q := (RX6, TX6, 9)) (r' := rX6_energy) (As := [.int a1]) (rest := [.int (0 : Int32), .ref a2]) (d1 := d) hX eL_energy_4 mm_LiftGroupLaw_66 rfl t3 (by decide) rfl h rfl (Nat.le_refl _) b4 b5 (Nat.le_of_ble_eq_true rfl) (fun vz9 Mz9 qz9 => ?_) (fun Ez9 Mz9 qz9 => ?_)
  · obtain ⟨M1, eMz9⟩ : ∃ M1, M1 = Mz9 := ⟨_, rfl⟩; subst eMz9
    rcases qz9 with ⟨v2, hxz9, h⟩ | ⟨hxz9, h⟩ <;> cases hxz9
    refine j_i2l hX eL_energy_7 ?_
    obtain ⟨t6, h⟩ := h
    obtain ⟨i7, h⟩ := h
    refine j_last hX eL_energy_8 t6 i7 ?_
    refine j_nmM (fun M8 eM8 => ?_)
    replace h := h M8 eM8
    have t9 : hp_T M8 (a2) = 23 := by rw [eM8]; exact t6
    refine j_goto hX 15 eL_energy_9 (by decide) ?_
    refine j_iconst (v := (0 : Int32)) hX eL_energy_15 (by decide) ?_
    exact j_iret hX hM eL_energy_16 rfl h
  · obtain ⟨M1, eMz9⟩ : ∃ M1, M1 = Mz9 := ⟨_, rfl⟩; subst eMz9
    rcases qz9 with ⟨v2, hxz9, h⟩ | ⟨hxz9, h⟩ <;> cases hxz9
    · refine am_thIn (name := "java/lang/IndexOutOfBoundsException") hX [] (0, 9, 12, 21) [] rfl (fun z hz => by cases hz) (by decide) (by decide) tw_888 (am_castN_IndexOutOfBoundsException) (fun p10 => ?_)
      replace h := h p10
      refine j_astore_n (lv' := [(3, .ref p10), (0, .ref a0), (1, .int a1), (2, .ref a2)]) hX eL_energy_12 rfl (by decide) rfl ?_
      refine j_iconst (v := (1 : Int32)) hX eL_energy_13 (by decide) ?_
      exact j_iret hX hM eL_energy_14 rfl h

set_option maxHeartbeats 4000000 in
set_option maxRecDepth 20000 in
theorem vL_isStop_0 {X : am_Cx} {G : am_Gx} {d : Nat} {Q : am_Q} (hX : am_ok X rL_isStop G (d + 1)) (hM : am_me X rL_isStop Q) {bc bs : Nat}  {a0 : Nat} {a1 : Int32} {a2 : Int32} {a3 : Nat} {M : am_Hp} (h : hp_T M (a0) = 7 ∧ (2 ≤ bc ∧ (12 ≤ bs ∧ (am_CT G d rX6_isStop [.ref a0, .int a1, .int a2] M 2 12 (fun oz9 M1 => (∃ v2 : Int32, oz9 = .inl (some (.int v2)) ∧ (((v2 = 0) → (hp_T M1 (a3) = 23 ∧ (vp_in (0 : Int32) (hp_N M1 a3) ∧ (∀ M9 : am_Hp, M9 = hp_sL M1 a3 ((0 : Int32)).toNatClampNeg (0 : Int64) → (Q (.inl (some (.int (0 : Int32)))) M9))))) ∧ (¬ (v2 = 0) → (hp_T M1 (a3) = 23 ∧ (vp_in (0 : Int32) (hp_N M1 a3) ∧ (∀ M13 : am_Hp, M13 = hp_sL M1 a3 ((0 : Int32)).toNatClampNeg (1 : Int64) → (Q (.inl (some (.int (0 : Int32)))) M13))))))) ∨ ((oz9 = .inr "java/lang/IllegalArgumentException" ∧ ∀ p15 : Nat, Q (.inl (some (.int (2 : Int32)))) M1)) ∨ ((oz9 = .inr "java/lang/IndexOutOfBoundsException" ∧ ∀ p16 : Nat, Q (.inl (some (.int (1 : Int32)))) M1))))))) : am_J X 0 [(0, .ref a0), (1, .int a1), (2, .int a2), (3, .ref a3)] [] M bc bs := by
  refine j_aload_n hX eL_isStop_0 3 rfl ?_
  refine j_iconst (v := (0 : Int32)) hX eL_isStop_1 (by decide) ?_
  refine j_aload_n hX eL_isStop_2 0 rfl ?_
  refine j_iload_n hX eL_isStop_3 1 rfl ?_
  refine j_iload_n hX eL_isStop_4 2 rfl ?_
  obtain ⟨t3, h⟩ := h
  obtain ⟨b4, b5, h⟩ := h
  refine j_callV (a := a0) (q := (RX6, TX6, 9)) (r' := rX6_isStop) (As := [.int a1, .int a2]) (rest := [.int (0 : Int32), .ref a3]) (d1 := d) hX eL_isStop_5 mm_LiftGroupLaw_69 rfl t3 (by decide) rfl h rfl (Nat.le_refl _) b4 b5 (Nat.le_of_ble_eq_true rfl) (fun vz9 Mz9 qz9 => ?_) (fun Ez9 Mz9 qz9 => ?_)
  · obtain ⟨M1, eMz9⟩ : ∃ M1, M1 = Mz9 := ⟨_, rfl⟩; subst eMz9
    rcases qz9 with ⟨v2, hxz9, h⟩ | ⟨hxz9, h⟩ | ⟨hxz9, h⟩ <;> cases hxz9
    refine j_if_eq hX 15 eL_isStop_8 (by decide) (fun c6 => ?_) (fun c6 => ?_)
    · replace h := h.1 c6
      refine j_lconst (v := (0 : Int64)) hX eL_isStop_15 (by decide) ?_
      obtain ⟨t7, h⟩ := h
      obtain ⟨i8, h⟩ := h
      refine j_last hX eL_isStop_16 t7 i8 ?_
      refine j_nmM (fun M9 eM9 => ?_)
      replace h := h M9 eM9
      have t10 : hp_T M9 (a3) = 23 := by rw [eM9]; exact t7
      refine j_goto hX 28 eL_isStop_17 (by decide) ?_
      refine j_iconst (v := (0 : Int32)) hX eL_isStop_28 (by decide) ?_
      exact j_iret hX hM eL_isStop_29 rfl h
    · replace h := h.2 c6
      refine j_lconst (v := (1 : Int64)) hX eL_isStop_11 (by decide) ?_
      refine j_goto hX 16 eL_isStop_12 (by decide) ?_
      obtain ⟨t11, h⟩ := h
      obtain ⟨i12, h⟩ := h
      refine j_last hX eL_isStop_16 t11 i12 ?_
      refine j_nmM (fun M13 eM13 => ?_)
      replace h := h M13 eM13
      have t14 : hp_T M13 (a3) = 23 := by rw [eM13]; exact t11
      refine j_goto hX 28 eL_isStop_17 (by decide) ?_
      refine j_iconst (v := (0 : Int32)) hX eL_isStop_28 (by decide) ?_
      exact j_iret hX hM eL_isStop_29 rfl h
  · obtain ⟨M1, eMz9⟩ : ∃ M1, M1 = Mz9 := ⟨_, rfl⟩; subst eMz9
    rcases qz9 with ⟨v2, hxz9, h⟩ | ⟨hxz9, h⟩ | ⟨hxz9, h⟩ <;> cases hxz9
    · refine am_thIn (name := "java/lang/IllegalArgumentException") hX [(0, 17, 20, 21)] (0, 17, 24, 13) [] rfl (fun z hz => by simp only [List.mem_cons, List.not_mem_nil, or_false] at hz; rcases hz with rfl; exact ⟨by decide, _, tw_888, by decide⟩) (by decide) (by decide) tw_804 (am_castN_IllegalArgumentException) (fun p15 => ?_)
      replace h := h p15
      refine j_astore (lv' := [(4, .ref p15), (0, .ref a0), (1, .int a1), (2, .int a2), (3, .ref a3)]) hX eL_isStop_24 (by decide) rfl ?_
      refine j_iconst (v := (2 : Int32)) hX eL_isStop_26 (by decide) ?_
      exact j_iret hX hM eL_isStop_27 rfl h
    · refine am_thIn (name := "java/lang/IndexOutOfBoundsException") hX [] (0, 17, 20, 21) [(0, 17, 24, 13)] rfl (fun z hz => by cases hz) (by decide) (by decide) tw_888 (am_castN_IndexOutOfBoundsException) (fun p16 => ?_)
      replace h := h p16
      refine j_astore (lv' := [(4, .ref p16), (0, .ref a0), (1, .int a1), (2, .int a2), (3, .ref a3)]) hX eL_isStop_20 (by decide) rfl ?_
      refine j_iconst (v := (1 : Int32)) hX eL_isStop_22 (by decide) ?_
      exact j_iret hX hM eL_isStop_23 rfl h

set_option maxHeartbeats 4000000 in
set_option maxRecDepth 20000 in
theorem vL_stopCount_0 {X : am_Cx} {G : am_Gx} {d : Nat} {Q : am_Q} (hX : am_ok X rL_stopCount G (d + 1)) (hM : am_me X rL_stopCount Q) {bc bs : Nat}  {a0 : Nat} {a1 : Int32} {a2 : Nat} {M : am_Hp} (h : hp_T M (a0) = 7 ∧ (1 ≤ bc ∧ (6 ≤ bs ∧ (am_CT G d rX6_stopCount [.ref a0, .int a1] M 1 6 (fun oz9 M1 => (∃ v2 : Int32, oz9 = .inl (some (.int v2)) ∧ (hp_T M1 (a2) = 23 ∧ (vp_in (0 : Int32) (hp_N M1 a2) ∧ (∀ M8 : am_Hp, M8 = hp_sL M1 a2 ((0 : Int32)).toNatClampNeg ((v2).toInt64) → (Q (.inl (some (.int (0 : Int32)))) M8))))) ∨ ((oz9 = .inr "java/lang/IndexOutOfBoundsException" ∧ ∀ p10 : Nat, Q (.inl (some (.int (1 : Int32)))) M1))))))) : am_J X 0 [(0, .ref a0), (1, .int a1), (2, .ref a2)] [] M bc bs := by
  refine j_aload_n hX eL_stopCount_0 2 rfl ?_
  refine j_iconst (v := (0 : Int32)) hX eL_stopCount_1 (by decide) ?_
  refine j_aload_n hX eL_stopCount_2 0 rfl ?_
  refine j_iload_n hX eL_stopCount_3 1 rfl ?_
  obtain ⟨t3, h⟩ := h
  obtain ⟨b4, b5, h⟩ := h
  refine j_callV (a := a0) (q := (RX6, TX6, 9)) (r' := rX6_stopCount) (As := [.int a1]) (rest := [.int (0 : Int32), .ref a2]) (d1 := d) hX eL_stopCount_4 mm_LiftGroupLaw_73 rfl t3 (by decide) rfl h rfl (Nat.le_refl _) b4 b5 (Nat.le_of_ble_eq_true rfl) (fun vz9 Mz9 qz9 => ?_) (fun Ez9 Mz9 qz9 => ?_)
  · obtain ⟨M1, eMz9⟩ : ∃ M1, M1 = Mz9 := ⟨_, rfl⟩; subst eMz9
    rcases qz9 with ⟨v2, hxz9, h⟩ | ⟨hxz9, h⟩ <;> cases hxz9
    refine j_i2l hX eL_stopCount_7 ?_
    obtain ⟨t6, h⟩ := h
    obtain ⟨i7, h⟩ := h
    refine j_last hX eL_stopCount_8 t6 i7 ?_
    refine j_nmM (fun M8 eM8 => ?_)
    replace h := h M8 eM8
    have t9 : hp_T M8 (a2) = 23 := by rw [eM8]; exact t6
    refine j_goto hX 15 eL_stopCount_9 (by decide) ?_
    refine j_iconst (v := (0 : Int32)) hX eL_stopCount_15 (by decide) ?_
    exact j_iret hX hM eL_stopCount_16 rfl h
  · obtain ⟨M1, eMz9⟩ : ∃ M1, M1 = Mz9 := ⟨_, rfl⟩; subst eMz9
    rcases qz9 with ⟨v2, hxz9, h⟩ | ⟨hxz9, h⟩ <;> cases hxz9
    · refine am_thIn (name := "java/lang/IndexOutOfBoundsException") hX [] (0, 9, 12, 21) [] rfl (fun z hz => by cases hz) (by decide) (by decide) tw_888 (am_castN_IndexOutOfBoundsException) (fun p10 => ?_)
      replace h := h p10
      refine j_astore_n (lv' := [(3, .ref p10), (0, .ref a0), (1, .int a1), (2, .ref a2)]) hX eL_stopCount_12 rfl (by decide) rfl ?_
      refine j_iconst (v := (1 : Int32)) hX eL_stopCount_13 (by decide) ?_
      exact j_iret hX hM eL_stopCount_14 rfl h

set_option maxHeartbeats 4000000 in
set_option maxRecDepth 20000 in
theorem vL_nextStop_0 {X : am_Cx} {G : am_Gx} {d : Nat} {Q : am_Q} (hX : am_ok X rL_nextStop G (d + 1)) (hM : am_me X rL_nextStop Q) {bc bs : Nat}  {a0 : Nat} {a1 : Int32} {a2 : Nat} {M : am_Hp} (h : hp_T M (a0) = 7 ∧ (2 ≤ bc ∧ (12 ≤ bs ∧ (am_CT G d rX6_nextStop [.ref a0, .int a1] M 2 12 (fun oz9 M1 => (∃ v2 : Int32, oz9 = .inl (some (.int v2)) ∧ (hp_T M1 (a2) = 23 ∧ (vp_in (0 : Int32) (hp_N M1 a2) ∧ (∀ M8 : am_Hp, M8 = hp_sL M1 a2 ((0 : Int32)).toNatClampNeg ((v2).toInt64) → (Q (.inl (some (.int (0 : Int32)))) M8))))) ∨ ((oz9 = .inr "java/lang/IndexOutOfBoundsException" ∧ ∀ p10 : Nat, Q (.inl (some (.int (1 : Int32)))) M1)) ∨ ((oz9 = .inr "java/util/NoSuchElementException" ∧ ∀ p11 : Nat, Q (.inl (some (.int (2 : Int32)))) M1))))))) : am_J X 0 [(0, .ref a0), (1, .int a1), (2, .ref a2)] [] M bc bs := by
  refine j_aload_n hX eL_nextStop_0 2 rfl ?_
  refine j_iconst (v := (0 : Int32)) hX eL_nextStop_1 (by decide) ?_
  refine j_aload_n hX eL_nextStop_2 0 rfl ?_
  refine j_iload_n hX eL_nextStop_3 1 rfl ?_
  obtain ⟨t3, h⟩ := h
  obtain ⟨b4, b5, h⟩ := h
  refine j_callV (a := a0) (q := (RX6, TX6, 9)) (r' := rX6_nextStop) (As := [.int a1]) (rest := [.int (0 : Int32), .ref a2]) (d1 := d) hX eL_nextStop_4 mm_LiftGroupLaw_76 rfl t3 (by decide) rfl h rfl (Nat.le_refl _) b4 b5 (Nat.le_of_ble_eq_true rfl) (fun vz9 Mz9 qz9 => ?_) (fun Ez9 Mz9 qz9 => ?_)
  · obtain ⟨M1, eMz9⟩ : ∃ M1, M1 = Mz9 := ⟨_, rfl⟩; subst eMz9
    rcases qz9 with ⟨v2, hxz9, h⟩ | ⟨hxz9, h⟩ | ⟨hxz9, h⟩ <;> cases hxz9
    refine j_i2l hX eL_nextStop_7 ?_
    obtain ⟨t6, h⟩ := h
    obtain ⟨i7, h⟩ := h
    refine j_last hX eL_nextStop_8 t6 i7 ?_
    refine j_nmM (fun M8 eM8 => ?_)
    replace h := h M8 eM8
    have t9 : hp_T M8 (a2) = 23 := by rw [eM8]; exact t6
    refine j_goto hX 18 eL_nextStop_9 (by decide) ?_
    refine j_iconst (v := (0 : Int32)) hX eL_nextStop_18 (by decide) ?_
    exact j_iret hX hM eL_nextStop_19 rfl h
  · obtain ⟨M1, eMz9⟩ : ∃ M1, M1 = Mz9 := ⟨_, rfl⟩; subst eMz9
    rcases qz9 with ⟨v2, hxz9, h⟩ | ⟨hxz9, h⟩ | ⟨hxz9, h⟩ <;> cases hxz9
    · refine am_thIn (name := "java/lang/IndexOutOfBoundsException") hX [] (0, 9, 12, 21) [(0, 9, 15, 79)] rfl (fun z hz => by cases hz) (by decide) (by decide) tw_888 (am_castN_IndexOutOfBoundsException) (fun p10 => ?_)
      replace h := h p10
      refine j_astore_n (lv' := [(3, .ref p10), (0, .ref a0), (1, .int a1), (2, .ref a2)]) hX eL_nextStop_12 rfl (by decide) rfl ?_
      refine j_iconst (v := (1 : Int32)) hX eL_nextStop_13 (by decide) ?_
      exact j_iret hX hM eL_nextStop_14 rfl h
    · refine am_thIn (name := "java/util/NoSuchElementException") hX [(0, 9, 12, 21)] (0, 9, 15, 79) [] rfl (fun z hz => by simp only [List.mem_cons, List.not_mem_nil, or_false] at hz; rcases hz with rfl; exact ⟨by decide, _, tw_888, by decide⟩) (by decide) (by decide) tw_1116 (am_castN_NoSuchElementException) (fun p11 => ?_)
      replace h := h p11
      refine j_astore_n (lv' := [(3, .ref p11), (0, .ref a0), (1, .int a1), (2, .ref a2)]) hX eL_nextStop_15 rfl (by decide) rfl ?_
      refine j_iconst (v := (2 : Int32)) hX eL_nextStop_16 (by decide) ?_
      exact j_iret hX hM eL_nextStop_17 rfl h

set_option maxHeartbeats 4000000 in
set_option maxRecDepth 20000 in
theorem vL_number_0 {X : am_Cx} {G : am_Gx} {d : Nat} {Q : am_Q} (hX : am_ok X rL_number G (d + 1)) (hM : am_me X rL_number Q) {bc bs : Nat}  {a0 : Nat} {a1 : Int32} {a2 : Nat} {M : am_Hp} (h : hp_T M (a0) = 7 ∧ (1 ≤ bc ∧ (6 ≤ bs ∧ (am_CT G d rX6_number [.ref a0, .int a1] M 1 6 (fun oz9 M1 => (∃ v2 : Int32, oz9 = .inl (some (.int v2)) ∧ (hp_T M1 (a2) = 23 ∧ (vp_in (0 : Int32) (hp_N M1 a2) ∧ (∀ M8 : am_Hp, M8 = hp_sL M1 a2 ((0 : Int32)).toNatClampNeg ((v2).toInt64) → (Q (.inl (some (.int (0 : Int32)))) M8))))) ∨ ((oz9 = .inr "java/lang/IndexOutOfBoundsException" ∧ ∀ p10 : Nat, Q (.inl (some (.int (1 : Int32)))) M1))))))) : am_J X 0 [(0, .ref a0), (1, .int a1), (2, .ref a2)] [] M bc bs := by
  refine j_aload_n hX eL_number_0 2 rfl ?_
  refine j_iconst (v := (0 : Int32)) hX eL_number_1 (by decide) ?_
  refine j_aload_n hX eL_number_2 0 rfl ?_
  refine j_iload_n hX eL_number_3 1 rfl ?_
  obtain ⟨t3, h⟩ := h
  obtain ⟨b4, b5, h⟩ := h
  refine j_callV (a := a0) (q := (RX6, TX6, 9)) (r' := rX6_number) (As := [.int a1]) (rest := [.int (0 : Int32), .ref a2]) (d1 := d) hX eL_number_4 mm_LiftGroupLaw_81 rfl t3 (by decide) rfl h rfl (Nat.le_refl _) b4 b5 (Nat.le_of_ble_eq_true rfl) (fun vz9 Mz9 qz9 => ?_) (fun Ez9 Mz9 qz9 => ?_)
  · obtain ⟨M1, eMz9⟩ : ∃ M1, M1 = Mz9 := ⟨_, rfl⟩; subst eMz9
    rcases qz9 with ⟨v2, hxz9, h⟩ | ⟨hxz9, h⟩ <;> cases hxz9
    refine j_i2l hX eL_number_7 ?_
    obtain ⟨t6, h⟩ := h
    obtain ⟨i7, h⟩ := h
    refine j_last hX eL_number_8 t6 i7 ?_
    refine j_nmM (fun M8 eM8 => ?_)
    replace h := h M8 eM8
    have t9 : hp_T M8 (a2) = 23 := by rw [eM8]; exact t6
    refine j_goto hX 15 eL_number_9 (by decide) ?_
    refine j_iconst (v := (0 : Int32)) hX eL_number_15 (by decide) ?_
    exact j_iret hX hM eL_number_16 rfl h
  · obtain ⟨M1, eMz9⟩ : ∃ M1, M1 = Mz9 := ⟨_, rfl⟩; subst eMz9
    rcases qz9 with ⟨v2, hxz9, h⟩ | ⟨hxz9, h⟩ <;> cases hxz9
    · refine am_thIn (name := "java/lang/IndexOutOfBoundsException") hX [] (0, 9, 12, 21) [] rfl (fun z hz => by cases hz) (by decide) (by decide) tw_888 (am_castN_IndexOutOfBoundsException) (fun p10 => ?_)
      replace h := h p10
      refine j_astore_n (lv' := [(3, .ref p10), (0, .ref a0), (1, .int a1), (2, .ref a2)]) hX eL_number_12 rfl (by decide) rfl ?_
      refine j_iconst (v := (1 : Int32)) hX eL_number_13 (by decide) ?_
      exact j_iret hX hM eL_number_14 rfl h

set_option maxHeartbeats 4000000 in
set_option maxRecDepth 20000 in
theorem vL_start_0 {X : am_Cx} {G : am_Gx} {d : Nat} {Q : am_Q} (hX : am_ok X rL_start G (d + 1)) (hM : am_me X rL_start Q) {bc bs : Nat}  {a0 : Nat} {a1 : Int32} {a2 : Nat} {M : am_Hp} (h : hp_T M (a0) = 7 ∧ (1 ≤ bc ∧ (6 ≤ bs ∧ (am_CT G d rX6_start [.ref a0, .int a1] M 1 6 (fun oz9 M1 => (∃ v2 : Int32, oz9 = .inl (some (.int v2)) ∧ (hp_T M1 (a2) = 23 ∧ (vp_in (0 : Int32) (hp_N M1 a2) ∧ (∀ M8 : am_Hp, M8 = hp_sL M1 a2 ((0 : Int32)).toNatClampNeg ((v2).toInt64) → (Q (.inl (some (.int (0 : Int32)))) M8))))) ∨ ((oz9 = .inr "java/lang/IndexOutOfBoundsException" ∧ ∀ p10 : Nat, Q (.inl (some (.int (1 : Int32)))) M1))))))) : am_J X 0 [(0, .ref a0), (1, .int a1), (2, .ref a2)] [] M bc bs := by
  refine j_aload_n hX eL_start_0 2 rfl ?_
  refine j_iconst (v := (0 : Int32)) hX eL_start_1 (by decide) ?_
  refine j_aload_n hX eL_start_2 0 rfl ?_
  refine j_iload_n hX eL_start_3 1 rfl ?_
  obtain ⟨t3, h⟩ := h
  obtain ⟨b4, b5, h⟩ := h
  refine j_callV (a := a0) (q := (RX6, TX6, 9)) (r' := rX6_start) (As := [.int a1]) (rest := [.int (0 : Int32), .ref a2]) (d1 := d) hX eL_start_4 mm_LiftGroupLaw_84 rfl t3 (by decide) rfl h rfl (Nat.le_refl _) b4 b5 (Nat.le_of_ble_eq_true rfl) (fun vz9 Mz9 qz9 => ?_) (fun Ez9 Mz9 qz9 => ?_)
  · obtain ⟨M1, eMz9⟩ : ∃ M1, M1 = Mz9 := ⟨_, rfl⟩; subst eMz9
    rcases qz9 with ⟨v2, hxz9, h⟩ | ⟨hxz9, h⟩ <;> cases hxz9
    refine j_i2l hX eL_start_7 ?_
    obtain ⟨t6, h⟩ := h
    obtain ⟨i7, h⟩ := h
    refine j_last hX eL_start_8 t6 i7 ?_
    refine j_nmM (fun M8 eM8 => ?_)
    replace h := h M8 eM8
    have t9 : hp_T M8 (a2) = 23 := by rw [eM8]; exact t6
    refine j_goto hX 15 eL_start_9 (by decide) ?_
    refine j_iconst (v := (0 : Int32)) hX eL_start_15 (by decide) ?_
    exact j_iret hX hM eL_start_16 rfl h
  · obtain ⟨M1, eMz9⟩ : ∃ M1, M1 = Mz9 := ⟨_, rfl⟩; subst eMz9
    rcases qz9 with ⟨v2, hxz9, h⟩ | ⟨hxz9, h⟩ <;> cases hxz9
    · refine am_thIn (name := "java/lang/IndexOutOfBoundsException") hX [] (0, 9, 12, 21) [] rfl (fun z hz => by cases hz) (by decide) (by decide) tw_888 (am_castN_IndexOutOfBoundsException) (fun p10 => ?_)
      replace h := h p10
      refine j_astore_n (lv' := [(3, .ref p10), (0, .ref a0), (1, .int a1), (2, .ref a2)]) hX eL_start_12 rfl (by decide) rfl ?_
      refine j_iconst (v := (1 : Int32)) hX eL_start_13 (by decide) ?_
      exact j_iret hX hM eL_start_14 rfl h

set_option maxHeartbeats 4000000 in
set_option maxRecDepth 20000 in
theorem vL_destination_0 {X : am_Cx} {G : am_Gx} {d : Nat} {Q : am_Q} (hX : am_ok X rL_destination G (d + 1)) (hM : am_me X rL_destination Q) {bc bs : Nat}  {a0 : Nat} {a1 : Int32} {a2 : Nat} {M : am_Hp} (h : hp_T M (a0) = 7 ∧ (1 ≤ bc ∧ (6 ≤ bs ∧ (am_CT G d rX6_destination [.ref a0, .int a1] M 1 6 (fun oz9 M1 => (∃ v2 : Int32, oz9 = .inl (some (.int v2)) ∧ (hp_T M1 (a2) = 23 ∧ (vp_in (0 : Int32) (hp_N M1 a2) ∧ (∀ M8 : am_Hp, M8 = hp_sL M1 a2 ((0 : Int32)).toNatClampNeg ((v2).toInt64) → (Q (.inl (some (.int (0 : Int32)))) M8))))) ∨ ((oz9 = .inr "java/lang/IndexOutOfBoundsException" ∧ ∀ p10 : Nat, Q (.inl (some (.int (1 : Int32)))) M1))))))) : am_J X 0 [(0, .ref a0), (1, .int a1), (2, .ref a2)] [] M bc bs := by
  refine j_aload_n hX eL_destination_0 2 rfl ?_
  refine j_iconst (v := (0 : Int32)) hX eL_destination_1 (by decide) ?_
  refine j_aload_n hX eL_destination_2 0 rfl ?_
  refine j_iload_n hX eL_destination_3 1 rfl ?_
  obtain ⟨t3, h⟩ := h
  obtain ⟨b4, b5, h⟩ := h
  refine j_callV (a := a0) (q := (RX6, TX6, 9)) (r' := rX6_destination) (As := [.int a1]) (rest := [.int (0 : Int32), .ref a2]) (d1 := d) hX eL_destination_4 mm_LiftGroupLaw_87 rfl t3 (by decide) rfl h rfl (Nat.le_refl _) b4 b5 (Nat.le_of_ble_eq_true rfl) (fun vz9 Mz9 qz9 => ?_) (fun Ez9 Mz9 qz9 => ?_)
  · obtain ⟨M1, eMz9⟩ : ∃ M1, M1 = Mz9 := ⟨_, rfl⟩; subst eMz9
    rcases qz9 with ⟨v2, hxz9, h⟩ | ⟨hxz9, h⟩ <;> cases hxz9
    refine j_i2l hX eL_destination_7 ?_
    obtain ⟨t6, h⟩ := h
    obtain ⟨i7, h⟩ := h
    refine j_last hX eL_destination_8 t6 i7 ?_
    refine j_nmM (fun M8 eM8 => ?_)
    replace h := h M8 eM8
    have t9 : hp_T M8 (a2) = 23 := by rw [eM8]; exact t6
    refine j_goto hX 15 eL_destination_9 (by decide) ?_
    refine j_iconst (v := (0 : Int32)) hX eL_destination_15 (by decide) ?_
    exact j_iret hX hM eL_destination_16 rfl h
  · obtain ⟨M1, eMz9⟩ : ∃ M1, M1 = Mz9 := ⟨_, rfl⟩; subst eMz9
    rcases qz9 with ⟨v2, hxz9, h⟩ | ⟨hxz9, h⟩ <;> cases hxz9
    · refine am_thIn (name := "java/lang/IndexOutOfBoundsException") hX [] (0, 9, 12, 21) [] rfl (fun z hz => by cases hz) (by decide) (by decide) tw_888 (am_castN_IndexOutOfBoundsException) (fun p10 => ?_)
      replace h := h p10
      refine j_astore_n (lv' := [(3, .ref p10), (0, .ref a0), (1, .int a1), (2, .ref a2)]) hX eL_destination_12 rfl (by decide) rfl ?_
      refine j_iconst (v := (1 : Int32)) hX eL_destination_13 (by decide) ?_
      exact j_iret hX hM eL_destination_14 rfl h

set_option maxHeartbeats 4000000 in
set_option maxRecDepth 20000 in
theorem vL_weight_0 {X : am_Cx} {G : am_Gx} {d : Nat} {Q : am_Q} (hX : am_ok X rL_weight G (d + 1)) (hM : am_me X rL_weight Q) {bc bs : Nat}  {a0 : Nat} {a1 : Int32} {a2 : Nat} {M : am_Hp} (h : hp_T M (a0) = 7 ∧ (1 ≤ bc ∧ (6 ≤ bs ∧ (am_CT G d rX6_weight [.ref a0, .int a1] M 1 6 (fun oz9 M1 => (∃ v2 : Int32, oz9 = .inl (some (.int v2)) ∧ (hp_T M1 (a2) = 23 ∧ (vp_in (0 : Int32) (hp_N M1 a2) ∧ (∀ M8 : am_Hp, M8 = hp_sL M1 a2 ((0 : Int32)).toNatClampNeg ((v2).toInt64) → (Q (.inl (some (.int (0 : Int32)))) M8))))) ∨ ((oz9 = .inr "java/lang/IndexOutOfBoundsException" ∧ ∀ p10 : Nat, Q (.inl (some (.int (1 : Int32)))) M1))))))) : am_J X 0 [(0, .ref a0), (1, .int a1), (2, .ref a2)] [] M bc bs := by
  refine j_aload_n hX eL_weight_0 2 rfl ?_
  refine j_iconst (v := (0 : Int32)) hX eL_weight_1 (by decide) ?_
  refine j_aload_n hX eL_weight_2 0 rfl ?_
  refine j_iload_n hX eL_weight_3 1 rfl ?_
  obtain ⟨t3, h⟩ := h
  obtain ⟨b4, b5, h⟩ := h
  refine j_callV (a := a0) (q := (RX6, TX6, 9)) (r' := rX6_weight) (As := [.int a1]) (rest := [.int (0 : Int32), .ref a2]) (d1 := d) hX eL_weight_4 mm_LiftGroupLaw_90 rfl t3 (by decide) rfl h rfl (Nat.le_refl _) b4 b5 (Nat.le_of_ble_eq_true rfl) (fun vz9 Mz9 qz9 => ?_) (fun Ez9 Mz9 qz9 => ?_)
  · obtain ⟨M1, eMz9⟩ : ∃ M1, M1 = Mz9 := ⟨_, rfl⟩; subst eMz9
    rcases qz9 with ⟨v2, hxz9, h⟩ | ⟨hxz9, h⟩ <;> cases hxz9
    refine j_i2l hX eL_weight_7 ?_
    obtain ⟨t6, h⟩ := h
    obtain ⟨i7, h⟩ := h
    refine j_last hX eL_weight_8 t6 i7 ?_
    refine j_nmM (fun M8 eM8 => ?_)
    replace h := h M8 eM8
    have t9 : hp_T M8 (a2) = 23 := by rw [eM8]; exact t6
    refine j_goto hX 15 eL_weight_9 (by decide) ?_
    refine j_iconst (v := (0 : Int32)) hX eL_weight_15 (by decide) ?_
    exact j_iret hX hM eL_weight_16 rfl h
  · obtain ⟨M1, eMz9⟩ : ∃ M1, M1 = Mz9 := ⟨_, rfl⟩; subst eMz9
    rcases qz9 with ⟨v2, hxz9, h⟩ | ⟨hxz9, h⟩ <;> cases hxz9
    · refine am_thIn (name := "java/lang/IndexOutOfBoundsException") hX [] (0, 9, 12, 21) [] rfl (fun z hz => by cases hz) (by decide) (by decide) tw_888 (am_castN_IndexOutOfBoundsException) (fun p10 => ?_)
      replace h := h p10
      refine j_astore_n (lv' := [(3, .ref p10), (0, .ref a0), (1, .int a1), (2, .ref a2)]) hX eL_weight_12 rfl (by decide) rfl ?_
      refine j_iconst (v := (1 : Int32)) hX eL_weight_13 (by decide) ?_
      exact j_iret hX hM eL_weight_14 rfl h

set_option maxHeartbeats 4000000 in
set_option maxRecDepth 20000 in
theorem vL_waitingTime_0 {X : am_Cx} {G : am_Gx} {d : Nat} {Q : am_Q} (hX : am_ok X rL_waitingTime G (d + 1)) (hM : am_me X rL_waitingTime Q) {bc bs : Nat}  {a0 : Nat} {a1 : Int32} {a2 : Nat} {M : am_Hp} (h : hp_T M (a0) = 7 ∧ (1 ≤ bc ∧ (6 ≤ bs ∧ (am_CT G d rX6_waitingTime [.ref a0, .int a1] M 1 6 (fun oz9 M1 => (∃ v2 : Int32, oz9 = .inl (some (.int v2)) ∧ (hp_T M1 (a2) = 23 ∧ (vp_in (0 : Int32) (hp_N M1 a2) ∧ (∀ M8 : am_Hp, M8 = hp_sL M1 a2 ((0 : Int32)).toNatClampNeg ((v2).toInt64) → (Q (.inl (some (.int (0 : Int32)))) M8))))) ∨ ((oz9 = .inr "java/lang/IndexOutOfBoundsException" ∧ ∀ p10 : Nat, Q (.inl (some (.int (1 : Int32)))) M1))))))) : am_J X 0 [(0, .ref a0), (1, .int a1), (2, .ref a2)] [] M bc bs := by
  refine j_aload_n hX eL_waitingTime_0 2 rfl ?_
  refine j_iconst (v := (0 : Int32)) hX eL_waitingTime_1 (by decide) ?_
  refine j_aload_n hX eL_waitingTime_2 0 rfl ?_
  refine j_iload_n hX eL_waitingTime_3 1 rfl ?_
  obtain ⟨t3, h⟩ := h
  obtain ⟨b4, b5, h⟩ := h
  refine j_callV (a := a0) (q := (RX6, TX6, 9)) (r' := rX6_waitingTime) (As := [.int a1]) (rest := [.int (0 : Int32), .ref a2]) (d1 := d) hX eL_waitingTime_4 mm_LiftGroupLaw_93 rfl t3 (by decide) rfl h rfl (Nat.le_refl _) b4 b5 (Nat.le_of_ble_eq_true rfl) (fun vz9 Mz9 qz9 => ?_) (fun Ez9 Mz9 qz9 => ?_)
  · obtain ⟨M1, eMz9⟩ : ∃ M1, M1 = Mz9 := ⟨_, rfl⟩; subst eMz9
    rcases qz9 with ⟨v2, hxz9, h⟩ | ⟨hxz9, h⟩ <;> cases hxz9
    refine j_i2l hX eL_waitingTime_7 ?_
    obtain ⟨t6, h⟩ := h
    obtain ⟨i7, h⟩ := h
    refine j_last hX eL_waitingTime_8 t6 i7 ?_
    refine j_nmM (fun M8 eM8 => ?_)
    replace h := h M8 eM8
    have t9 : hp_T M8 (a2) = 23 := by rw [eM8]; exact t6
    refine j_goto hX 15 eL_waitingTime_9 (by decide) ?_
    refine j_iconst (v := (0 : Int32)) hX eL_waitingTime_15 (by decide) ?_
    exact j_iret hX hM eL_waitingTime_16 rfl h
  · obtain ⟨M1, eMz9⟩ : ∃ M1, M1 = Mz9 := ⟨_, rfl⟩; subst eMz9
    rcases qz9 with ⟨v2, hxz9, h⟩ | ⟨hxz9, h⟩ <;> cases hxz9
    · refine am_thIn (name := "java/lang/IndexOutOfBoundsException") hX [] (0, 9, 12, 21) [] rfl (fun z hz => by cases hz) (by decide) (by decide) tw_888 (am_castN_IndexOutOfBoundsException) (fun p10 => ?_)
      replace h := h p10
      refine j_astore_n (lv' := [(3, .ref p10), (0, .ref a0), (1, .int a1), (2, .ref a2)]) hX eL_waitingTime_12 rfl (by decide) rfl ?_
      refine j_iconst (v := (1 : Int32)) hX eL_waitingTime_13 (by decide) ?_
      exact j_iret hX hM eL_waitingTime_14 rfl h

set_option maxHeartbeats 4000000 in
set_option maxRecDepth 20000 in
theorem vL_isInCar_0 {X : am_Cx} {G : am_Gx} {d : Nat} {Q : am_Q} (hX : am_ok X rL_isInCar G (d + 1)) (hM : am_me X rL_isInCar Q) {bc bs : Nat}  {a0 : Nat} {a1 : Int32} {a2 : Nat} {M : am_Hp} (h : hp_T M (a0) = 7 ∧ (1 ≤ bc ∧ (6 ≤ bs ∧ (am_CT G d rX6_isInCar [.ref a0, .int a1] M 1 6 (fun oz9 M1 => (∃ v2 : Int32, oz9 = .inl (some (.int v2)) ∧ (((v2 = 0) → (hp_T M1 (a2) = 23 ∧ (vp_in (0 : Int32) (hp_N M1 a2) ∧ (∀ M9 : am_Hp, M9 = hp_sL M1 a2 ((0 : Int32)).toNatClampNeg (0 : Int64) → (Q (.inl (some (.int (0 : Int32)))) M9))))) ∧ (¬ (v2 = 0) → (hp_T M1 (a2) = 23 ∧ (vp_in (0 : Int32) (hp_N M1 a2) ∧ (∀ M13 : am_Hp, M13 = hp_sL M1 a2 ((0 : Int32)).toNatClampNeg (1 : Int64) → (Q (.inl (some (.int (0 : Int32)))) M13))))))) ∨ ((oz9 = .inr "java/lang/IndexOutOfBoundsException" ∧ ∀ p15 : Nat, Q (.inl (some (.int (1 : Int32)))) M1))))))) : am_J X 0 [(0, .ref a0), (1, .int a1), (2, .ref a2)] [] M bc bs := by
  refine j_aload_n hX eL_isInCar_0 2 rfl ?_
  refine j_iconst (v := (0 : Int32)) hX eL_isInCar_1 (by decide) ?_
  refine j_aload_n hX eL_isInCar_2 0 rfl ?_
  refine j_iload_n hX eL_isInCar_3 1 rfl ?_
  obtain ⟨t3, h⟩ := h
  obtain ⟨b4, b5, h⟩ := h
  refine j_callV (a := a0) (q := (RX6, TX6, 9)) (r' := rX6_isInCar) (As := [.int a1]) (rest := [.int (0 : Int32), .ref a2]) (d1 := d) hX eL_isInCar_4 mm_LiftGroupLaw_96 rfl t3 (by decide) rfl h rfl (Nat.le_refl _) b4 b5 (Nat.le_of_ble_eq_true rfl) (fun vz9 Mz9 qz9 => ?_) (fun Ez9 Mz9 qz9 => ?_)
  · obtain ⟨M1, eMz9⟩ : ∃ M1, M1 = Mz9 := ⟨_, rfl⟩; subst eMz9
    rcases qz9 with ⟨v2, hxz9, h⟩ | ⟨hxz9, h⟩ <;> cases hxz9
    refine j_if_eq hX 14 eL_isInCar_7 (by decide) (fun c6 => ?_) (fun c6 => ?_)
    · replace h := h.1 c6
      refine j_lconst (v := (0 : Int64)) hX eL_isInCar_14 (by decide) ?_
      obtain ⟨t7, h⟩ := h
      obtain ⟨i8, h⟩ := h
      refine j_last hX eL_isInCar_15 t7 i8 ?_
      refine j_nmM (fun M9 eM9 => ?_)
      replace h := h M9 eM9
      have t10 : hp_T M9 (a2) = 23 := by rw [eM9]; exact t7
      refine j_goto hX 22 eL_isInCar_16 (by decide) ?_
      refine j_iconst (v := (0 : Int32)) hX eL_isInCar_22 (by decide) ?_
      exact j_iret hX hM eL_isInCar_23 rfl h
    · replace h := h.2 c6
      refine j_lconst (v := (1 : Int64)) hX eL_isInCar_10 (by decide) ?_
      refine j_goto hX 15 eL_isInCar_11 (by decide) ?_
      obtain ⟨t11, h⟩ := h
      obtain ⟨i12, h⟩ := h
      refine j_last hX eL_isInCar_15 t11 i12 ?_
      refine j_nmM (fun M13 eM13 => ?_)
      replace h := h M13 eM13
      have t14 : hp_T M13 (a2) = 23 := by rw [eM13]; exact t11
      refine j_goto hX 22 eL_isInCar_16 (by decide) ?_
      refine j_iconst (v := (0 : Int32)) hX eL_isInCar_22 (by decide) ?_
      exact j_iret hX hM eL_isInCar_23 rfl h
  · obtain ⟨M1, eMz9⟩ : ∃ M1, M1 = Mz9 := ⟨_, rfl⟩; subst eMz9
    rcases qz9 with ⟨v2, hxz9, h⟩ | ⟨hxz9, h⟩ <;> cases hxz9
    · refine am_thIn (name := "java/lang/IndexOutOfBoundsException") hX [] (0, 16, 19, 21) [] rfl (fun z hz => by cases hz) (by decide) (by decide) tw_888 (am_castN_IndexOutOfBoundsException) (fun p15 => ?_)
      replace h := h p15
      refine j_astore_n (lv' := [(3, .ref p15), (0, .ref a0), (1, .int a1), (2, .ref a2)]) hX eL_isInCar_19 rfl (by decide) rfl ?_
      refine j_iconst (v := (1 : Int32)) hX eL_isInCar_20 (by decide) ?_
      exact j_iret hX hM eL_isInCar_21 rfl h

set_option maxHeartbeats 4000000 in
set_option maxRecDepth 20000 in
theorem vL_carOf_0 {X : am_Cx} {G : am_Gx} {d : Nat} {Q : am_Q} (hX : am_ok X rL_carOf G (d + 1)) (hM : am_me X rL_carOf Q) {bc bs : Nat}  {a0 : Nat} {a1 : Int32} {a2 : Nat} {M : am_Hp} (h : hp_T M (a0) = 7 ∧ (2 ≤ bc ∧ (12 ≤ bs ∧ (am_CT G d rX6_carOf [.ref a0, .int a1] M 2 12 (fun oz9 M1 => (∃ v2 : Int32, oz9 = .inl (some (.int v2)) ∧ (hp_T M1 (a2) = 23 ∧ (vp_in (0 : Int32) (hp_N M1 a2) ∧ (∀ M8 : am_Hp, M8 = hp_sL M1 a2 ((0 : Int32)).toNatClampNeg ((v2).toInt64) → (Q (.inl (some (.int (0 : Int32)))) M8))))) ∨ ((oz9 = .inr "java/lang/IndexOutOfBoundsException" ∧ ∀ p10 : Nat, Q (.inl (some (.int (1 : Int32)))) M1)) ∨ ((oz9 = .inr "java/util/NoSuchElementException" ∧ ∀ p11 : Nat, Q (.inl (some (.int (2 : Int32)))) M1))))))) : am_J X 0 [(0, .ref a0), (1, .int a1), (2, .ref a2)] [] M bc bs := by
  refine j_aload_n hX eL_carOf_0 2 rfl ?_
  refine j_iconst (v := (0 : Int32)) hX eL_carOf_1 (by decide) ?_
  refine j_aload_n hX eL_carOf_2 0 rfl ?_
  refine j_iload_n hX eL_carOf_3 1 rfl ?_
  obtain ⟨t3, h⟩ := h
  obtain ⟨b4, b5, h⟩ := h
  refine j_callV (a := a0) (q := (RX6, TX6, 9)) (r' := rX6_carOf) (As := [.int a1]) (rest := [.int (0 : Int32), .ref a2]) (d1 := d) hX eL_carOf_4 mm_LiftGroupLaw_99 rfl t3 (by decide) rfl h rfl (Nat.le_refl _) b4 b5 (Nat.le_of_ble_eq_true rfl) (fun vz9 Mz9 qz9 => ?_) (fun Ez9 Mz9 qz9 => ?_)
  · obtain ⟨M1, eMz9⟩ : ∃ M1, M1 = Mz9 := ⟨_, rfl⟩; subst eMz9
    rcases qz9 with ⟨v2, hxz9, h⟩ | ⟨hxz9, h⟩ | ⟨hxz9, h⟩ <;> cases hxz9
    refine j_i2l hX eL_carOf_7 ?_
    obtain ⟨t6, h⟩ := h
    obtain ⟨i7, h⟩ := h
    refine j_last hX eL_carOf_8 t6 i7 ?_
    refine j_nmM (fun M8 eM8 => ?_)
    replace h := h M8 eM8
    have t9 : hp_T M8 (a2) = 23 := by rw [eM8]; exact t6
    refine j_goto hX 18 eL_carOf_9 (by decide) ?_
    refine j_iconst (v := (0 : Int32)) hX eL_carOf_18 (by decide) ?_
    exact j_iret hX hM eL_carOf_19 rfl h
  · obtain ⟨M1, eMz9⟩ : ∃ M1, M1 = Mz9 := ⟨_, rfl⟩; subst eMz9
    rcases qz9 with ⟨v2, hxz9, h⟩ | ⟨hxz9, h⟩ | ⟨hxz9, h⟩ <;> cases hxz9
    · refine am_thIn (name := "java/lang/IndexOutOfBoundsException") hX [] (0, 9, 12, 21) [(0, 9, 15, 79)] rfl (fun z hz => by cases hz) (by decide) (by decide) tw_888 (am_castN_IndexOutOfBoundsException) (fun p10 => ?_)
      replace h := h p10
      refine j_astore_n (lv' := [(3, .ref p10), (0, .ref a0), (1, .int a1), (2, .ref a2)]) hX eL_carOf_12 rfl (by decide) rfl ?_
      refine j_iconst (v := (1 : Int32)) hX eL_carOf_13 (by decide) ?_
      exact j_iret hX hM eL_carOf_14 rfl h
    · refine am_thIn (name := "java/util/NoSuchElementException") hX [(0, 9, 12, 21)] (0, 9, 15, 79) [] rfl (fun z hz => by simp only [List.mem_cons, List.not_mem_nil, or_false] at hz; rcases hz with rfl; exact ⟨by decide, _, tw_888, by decide⟩) (by decide) (by decide) tw_1116 (am_castN_NoSuchElementException) (fun p11 => ?_)
      replace h := h p11
      refine j_astore_n (lv' := [(3, .ref p11), (0, .ref a0), (1, .int a1), (2, .ref a2)]) hX eL_carOf_15 rfl (by decide) rfl ?_
      refine j_iconst (v := (2 : Int32)) hX eL_carOf_16 (by decide) ?_
      exact j_iret hX hM eL_carOf_17 rfl h

set_option maxHeartbeats 4000000 in
set_option maxRecDepth 20000 in
theorem vL_waitingAt_0 {X : am_Cx} {G : am_Gx} {d : Nat} {Q : am_Q} (hX : am_ok X rL_waitingAt G (d + 1)) (hM : am_me X rL_waitingAt Q) {bc bs : Nat}  {a0 : Nat} {a1 : Int32} {a2 : Nat} {M : am_Hp} (h : hp_T M (a0) = 7 ∧ (1 ≤ bc ∧ (6 ≤ bs ∧ (am_CT G d rX6_waitingAt [.ref a0, .int a1] M 1 6 (fun oz9 M1 => (∃ v2 : Int32, oz9 = .inl (some (.int v2)) ∧ (hp_T M1 (a2) = 23 ∧ (vp_in (0 : Int32) (hp_N M1 a2) ∧ (∀ M8 : am_Hp, M8 = hp_sL M1 a2 ((0 : Int32)).toNatClampNeg ((v2).toInt64) → (Q (.inl (some (.int (0 : Int32)))) M8))))) ∨ ((oz9 = .inr "java/lang/IllegalArgumentException" ∧ ∀ p10 : Nat, Q (.inl (some (.int (1 : Int32)))) M1))))))) : am_J X 0 [(0, .ref a0), (1, .int a1), (2, .ref a2)] [] M bc bs := by
  refine j_aload_n hX eL_waitingAt_0 2 rfl ?_
  refine j_iconst (v := (0 : Int32)) hX eL_waitingAt_1 (by decide) ?_
  refine j_aload_n hX eL_waitingAt_2 0 rfl ?_
  refine j_iload_n hX eL_waitingAt_3 1 rfl ?_
  obtain ⟨t3, h⟩ := h
  obtain ⟨b4, b5, h⟩ := h
  refine j_callV (a := a0) (q := (RX6, TX6, 9)) (r' := rX6_waitingAt) (As := [.int a1]) (rest := [.int (0 : Int32), .ref a2]) (d1 := d) hX eL_waitingAt_4 mm_LiftGroupLaw_102 rfl t3 (by decide) rfl h rfl (Nat.le_refl _) b4 b5 (Nat.le_of_ble_eq_true rfl) (fun vz9 Mz9 qz9 => ?_) (fun Ez9 Mz9 qz9 => ?_)
  · obtain ⟨M1, eMz9⟩ : ∃ M1, M1 = Mz9 := ⟨_, rfl⟩; subst eMz9
    rcases qz9 with ⟨v2, hxz9, h⟩ | ⟨hxz9, h⟩ <;> cases hxz9
    refine j_i2l hX eL_waitingAt_7 ?_
    obtain ⟨t6, h⟩ := h
    obtain ⟨i7, h⟩ := h
    refine j_last hX eL_waitingAt_8 t6 i7 ?_
    refine j_nmM (fun M8 eM8 => ?_)
    replace h := h M8 eM8
    have t9 : hp_T M8 (a2) = 23 := by rw [eM8]; exact t6
    refine j_goto hX 15 eL_waitingAt_9 (by decide) ?_
    refine j_iconst (v := (0 : Int32)) hX eL_waitingAt_15 (by decide) ?_
    exact j_iret hX hM eL_waitingAt_16 rfl h
  · obtain ⟨M1, eMz9⟩ : ∃ M1, M1 = Mz9 := ⟨_, rfl⟩; subst eMz9
    rcases qz9 with ⟨v2, hxz9, h⟩ | ⟨hxz9, h⟩ <;> cases hxz9
    · refine am_thIn (name := "java/lang/IllegalArgumentException") hX [] (0, 9, 12, 13) [] rfl (fun z hz => by cases hz) (by decide) (by decide) tw_804 (am_castN_IllegalArgumentException) (fun p10 => ?_)
      replace h := h p10
      refine j_astore_n (lv' := [(3, .ref p10), (0, .ref a0), (1, .int a1), (2, .ref a2)]) hX eL_waitingAt_12 rfl (by decide) rfl ?_
      refine j_iconst (v := (1 : Int32)) hX eL_waitingAt_13 (by decide) ?_
      exact j_iret hX hM eL_waitingAt_14 rfl h

set_option maxHeartbeats 4000000 in
set_option maxRecDepth 20000 in
theorem vL_estimate_0 {X : am_Cx} {G : am_Gx} {d : Nat} {Q : am_Q} (hX : am_ok X rL_estimate G (d + 1)) (hM : am_me X rL_estimate Q) {bc bs : Nat}  {a0 : Nat} {a1 : Int32} {a2 : Int32} {a3 : Nat} {M : am_Hp} (h : hp_T M (a0) = 7 ∧ (2 ≤ bc ∧ (12 ≤ bs ∧ (am_CT G d rX6_estimate [.ref a0, .int a1, .int a2] M 2 12 (fun oz9 M1 => (∃ v2 : Int32, oz9 = .inl (some (.int v2)) ∧ (hp_T M1 (a3) = 23 ∧ (vp_in (0 : Int32) (hp_N M1 a3) ∧ (∀ M8 : am_Hp, M8 = hp_sL M1 a3 ((0 : Int32)).toNatClampNeg ((v2).toInt64) → (Q (.inl (some (.int (0 : Int32)))) M8))))) ∨ ((oz9 = .inr "java/lang/IllegalArgumentException" ∧ ∀ p10 : Nat, Q (.inl (some (.int (2 : Int32)))) M1)) ∨ ((oz9 = .inr "java/lang/IndexOutOfBoundsException" ∧ ∀ p11 : Nat, Q (.inl (some (.int (1 : Int32)))) M1))))))) : am_J X 0 [(0, .ref a0), (1, .int a1), (2, .int a2), (3, .ref a3)] [] M bc bs := by
  refine j_aload_n hX eL_estimate_0 3 rfl ?_
  refine j_iconst (v := (0 : Int32)) hX eL_estimate_1 (by decide) ?_
  refine j_aload_n hX eL_estimate_2 0 rfl ?_
  refine j_iload_n hX eL_estimate_3 1 rfl ?_
  refine j_iload_n hX eL_estimate_4 2 rfl ?_
  obtain ⟨t3, h⟩ := h
  obtain ⟨b4, b5, h⟩ := h
  refine j_callV (a := a0) (q := (RX6, TX6, 9)) (r' := rX6_estimate) (As := [.int a1, .int a2]) (rest := [.int (0 : Int32), .ref a3]) (d1 := d) hX eL_estimate_5 mm_LiftGroupLaw_105 rfl t3 (by decide) rfl h rfl (Nat.le_refl _) b4 b5 (Nat.le_of_ble_eq_true rfl) (fun vz9 Mz9 qz9 => ?_) (fun Ez9 Mz9 qz9 => ?_)
  · obtain ⟨M1, eMz9⟩ : ∃ M1, M1 = Mz9 := ⟨_, rfl⟩; subst eMz9
    rcases qz9 with ⟨v2, hxz9, h⟩ | ⟨hxz9, h⟩ | ⟨hxz9, h⟩ <;> cases hxz9
    refine j_i2l hX eL_estimate_8 ?_
    obtain ⟨t6, h⟩ := h
    obtain ⟨i7, h⟩ := h
    refine j_last hX eL_estimate_9 t6 i7 ?_
    refine j_nmM (fun M8 eM8 => ?_)
    replace h := h M8 eM8
    have t9 : hp_T M8 (a3) = 23 := by rw [eM8]; exact t6
    refine j_goto hX 21 eL_estimate_10 (by decide) ?_
    refine j_iconst (v := (0 : Int32)) hX eL_estimate_21 (by decide) ?_
    exact j_iret hX hM eL_estimate_22 rfl h
  · obtain ⟨M1, eMz9⟩ : ∃ M1, M1 = Mz9 := ⟨_, rfl⟩; subst eMz9
    rcases qz9 with ⟨v2, hxz9, h⟩ | ⟨hxz9, h⟩ | ⟨hxz9, h⟩ <;> cases hxz9
    · refine am_thIn (name := "java/lang/IllegalArgumentException") hX [(0, 10, 13, 21)] (0, 10, 17, 13) [] rfl (fun z hz => by simp only [List.mem_cons, List.not_mem_nil, or_false] at hz; rcases hz with rfl; exact ⟨by decide, _, tw_888, by decide⟩) (by decide) (by decide) tw_804 (am_castN_IllegalArgumentException) (fun p10 => ?_)
      replace h := h p10
      refine j_astore (lv' := [(4, .ref p10), (0, .ref a0), (1, .int a1), (2, .int a2), (3, .ref a3)]) hX eL_estimate_17 (by decide) rfl ?_
      refine j_iconst (v := (2 : Int32)) hX eL_estimate_19 (by decide) ?_
      exact j_iret hX hM eL_estimate_20 rfl h
    · refine am_thIn (name := "java/lang/IndexOutOfBoundsException") hX [] (0, 10, 13, 21) [(0, 10, 17, 13)] rfl (fun z hz => by cases hz) (by decide) (by decide) tw_888 (am_castN_IndexOutOfBoundsException) (fun p11 => ?_)
      replace h := h p11
      refine j_astore (lv' := [(4, .ref p11), (0, .ref a0), (1, .int a1), (2, .int a2), (3, .ref a3)]) hX eL_estimate_13 (by decide) rfl ?_
      refine j_iconst (v := (1 : Int32)) hX eL_estimate_15 (by decide) ?_
      exact j_iret hX hM eL_estimate_16 rfl h

set_option maxHeartbeats 4000000 in
set_option maxRecDepth 20000 in
theorem vL_estimateByWalk_0 {X : am_Cx} {G : am_Gx} {d : Nat} {Q : am_Q} (hX : am_ok X rL_estimateByWalk G (d + 1)) (hM : am_me X rL_estimateByWalk Q) {bc bs : Nat}  {a0 : Nat} {a1 : Int32} {a2 : Int32} {a3 : Nat} {M : am_Hp} (h : hp_T M (a0) = 7 ∧ (2 ≤ bc ∧ (12 ≤ bs ∧ (am_CT G d rX6_estimateByWalk [.ref a0, .int a1, .int a2] M 2 12 (fun oz9 M1 => (∃ v2 : Int32, oz9 = .inl (some (.int v2)) ∧ (hp_T M1 (a3) = 23 ∧ (vp_in (0 : Int32) (hp_N M1 a3) ∧ (∀ M8 : am_Hp, M8 = hp_sL M1 a3 ((0 : Int32)).toNatClampNeg ((v2).toInt64) → (Q (.inl (some (.int (0 : Int32)))) M8))))) ∨ ((oz9 = .inr "java/lang/IllegalArgumentException" ∧ ∀ p10 : Nat, Q (.inl (some (.int (2 : Int32)))) M1)) ∨ ((oz9 = .inr "java/lang/IndexOutOfBoundsException" ∧ ∀ p11 : Nat, Q (.inl (some (.int (1 : Int32)))) M1))))))) : am_J X 0 [(0, .ref a0), (1, .int a1), (2, .int a2), (3, .ref a3)] [] M bc bs := by
  refine j_aload_n hX eL_estimateByWalk_0 3 rfl ?_
  refine j_iconst (v := (0 : Int32)) hX eL_estimateByWalk_1 (by decide) ?_
  refine j_aload_n hX eL_estimateByWalk_2 0 rfl ?_
  refine j_iload_n hX eL_estimateByWalk_3 1 rfl ?_
  refine j_iload_n hX eL_estimateByWalk_4 2 rfl ?_
  obtain ⟨t3, h⟩ := h
  obtain ⟨b4, b5, h⟩ := h
  refine j_callV (a := a0) (q := (RX6, TX6, 9)) (r' := rX6_estimateByWalk) (As := [.int a1, .int a2]) (rest := [.int (0 : Int32), .ref a3]) (d1 := d) hX eL_estimateByWalk_5 mm_LiftGroupLaw_108 rfl t3 (by decide) rfl h rfl (Nat.le_refl _) b4 b5 (Nat.le_of_ble_eq_true rfl) (fun vz9 Mz9 qz9 => ?_) (fun Ez9 Mz9 qz9 => ?_)
  · obtain ⟨M1, eMz9⟩ : ∃ M1, M1 = Mz9 := ⟨_, rfl⟩; subst eMz9
    rcases qz9 with ⟨v2, hxz9, h⟩ | ⟨hxz9, h⟩ | ⟨hxz9, h⟩ <;> cases hxz9
    refine j_i2l hX eL_estimateByWalk_8 ?_
    obtain ⟨t6, h⟩ := h
    obtain ⟨i7, h⟩ := h
    refine j_last hX eL_estimateByWalk_9 t6 i7 ?_
    refine j_nmM (fun M8 eM8 => ?_)
    replace h := h M8 eM8
    have t9 : hp_T M8 (a3) = 23 := by rw [eM8]; exact t6
    refine j_goto hX 21 eL_estimateByWalk_10 (by decide) ?_
    refine j_iconst (v := (0 : Int32)) hX eL_estimateByWalk_21 (by decide) ?_
    exact j_iret hX hM eL_estimateByWalk_22 rfl h
  · obtain ⟨M1, eMz9⟩ : ∃ M1, M1 = Mz9 := ⟨_, rfl⟩; subst eMz9
    rcases qz9 with ⟨v2, hxz9, h⟩ | ⟨hxz9, h⟩ | ⟨hxz9, h⟩ <;> cases hxz9
    · refine am_thIn (name := "java/lang/IllegalArgumentException") hX [(0, 10, 13, 21)] (0, 10, 17, 13) [] rfl (fun z hz => by simp only [List.mem_cons, List.not_mem_nil, or_false] at hz; rcases hz with rfl; exact ⟨by decide, _, tw_888, by decide⟩) (by decide) (by decide) tw_804 (am_castN_IllegalArgumentException) (fun p10 => ?_)
      replace h := h p10
      refine j_astore (lv' := [(4, .ref p10), (0, .ref a0), (1, .int a1), (2, .int a2), (3, .ref a3)]) hX eL_estimateByWalk_17 (by decide) rfl ?_
      refine j_iconst (v := (2 : Int32)) hX eL_estimateByWalk_19 (by decide) ?_
      exact j_iret hX hM eL_estimateByWalk_20 rfl h
    · refine am_thIn (name := "java/lang/IndexOutOfBoundsException") hX [] (0, 10, 13, 21) [(0, 10, 17, 13)] rfl (fun z hz => by cases hz) (by decide) (by decide) tw_888 (am_castN_IndexOutOfBoundsException) (fun p11 => ?_)
      replace h := h p11
      refine j_astore (lv' := [(4, .ref p11), (0, .ref a0), (1, .int a1), (2, .int a2), (3, .ref a3)]) hX eL_estimateByWalk_13 (by decide) rfl ?_
      refine j_iconst (v := (1 : Int32)) hX eL_estimateByWalk_15 (by decide) ?_
      exact j_iret hX hM eL_estimateByWalk_16 rfl h

set_option maxHeartbeats 4000000 in
set_option maxRecDepth 20000 in
theorem vL_bestCar_0 {X : am_Cx} {G : am_Gx} {d : Nat} {Q : am_Q} (hX : am_ok X rL_bestCar G (d + 1)) (hM : am_me X rL_bestCar Q) {bc bs : Nat}  {a0 : Nat} {a1 : Int32} {a2 : Int32} {a3 : Nat} {M : am_Hp} (h : hp_T M (a0) = 7 ∧ (2 ≤ bc ∧ (12 ≤ bs ∧ (am_CT G d rX6_bestCar [.ref a0, .int a1, .int a2] M 2 12 (fun oz9 M1 => (∃ v2 : Int32, oz9 = .inl (some (.int v2)) ∧ (hp_T M1 (a3) = 23 ∧ (vp_in (0 : Int32) (hp_N M1 a3) ∧ (∀ M8 : am_Hp, M8 = hp_sL M1 a3 ((0 : Int32)).toNatClampNeg ((v2).toInt64) → (Q (.inl (some (.int (0 : Int32)))) M8))))) ∨ ((oz9 = .inr "java/lang/IllegalArgumentException" ∧ ∀ p10 : Nat, Q (.inl (some (.int (1 : Int32)))) M1)) ∨ ((oz9 = .inr "java/util/NoSuchElementException" ∧ ∀ p11 : Nat, Q (.inl (some (.int (2 : Int32)))) M1))))))) : am_J X 0 [(0, .ref a0), (1, .int a1), (2, .int a2), (3, .ref a3)] [] M bc bs := by
  refine j_aload_n hX eL_bestCar_0 3 rfl ?_
  refine j_iconst (v := (0 : Int32)) hX eL_bestCar_1 (by decide) ?_
  refine j_aload_n hX eL_bestCar_2 0 rfl ?_
  refine j_iload_n hX eL_bestCar_3 1 rfl ?_
  refine j_iload_n hX eL_bestCar_4 2 rfl ?_
  obtain ⟨t3, h⟩ := h
  obtain ⟨b4, b5, h⟩ := h
  refine j_callV (a := a0) (q := (RX6, TX6, 9)) (r' := rX6_bestCar) (As := [.int a1, .int a2]) (rest := [.int (0 : Int32), .ref a3]) (d1 := d) hX eL_bestCar_5 mm_LiftGroupLaw_111 rfl t3 (by decide) rfl h rfl (Nat.le_refl _) b4 b5 (Nat.le_of_ble_eq_true rfl) (fun vz9 Mz9 qz9 => ?_) (fun Ez9 Mz9 qz9 => ?_)
  · obtain ⟨M1, eMz9⟩ : ∃ M1, M1 = Mz9 := ⟨_, rfl⟩; subst eMz9
    rcases qz9 with ⟨v2, hxz9, h⟩ | ⟨hxz9, h⟩ | ⟨hxz9, h⟩ <;> cases hxz9
    refine j_i2l hX eL_bestCar_8 ?_
    obtain ⟨t6, h⟩ := h
    obtain ⟨i7, h⟩ := h
    refine j_last hX eL_bestCar_9 t6 i7 ?_
    refine j_nmM (fun M8 eM8 => ?_)
    replace h := h M8 eM8
    have t9 : hp_T M8 (a3) = 23 := by rw [eM8]; exact t6
    refine j_goto hX 21 eL_bestCar_10 (by decide) ?_
    refine j_iconst (v := (0 : Int32)) hX eL_bestCar_21 (by decide) ?_
    exact j_iret hX hM eL_bestCar_22 rfl h
  · obtain ⟨M1, eMz9⟩ : ∃ M1, M1 = Mz9 := ⟨_, rfl⟩; subst eMz9
    rcases qz9 with ⟨v2, hxz9, h⟩ | ⟨hxz9, h⟩ | ⟨hxz9, h⟩ <;> cases hxz9
    · refine am_thIn (name := "java/lang/IllegalArgumentException") hX [] (0, 10, 13, 13) [(0, 10, 17, 79)] rfl (fun z hz => by cases hz) (by decide) (by decide) tw_804 (am_castN_IllegalArgumentException) (fun p10 => ?_)
      replace h := h p10
      refine j_astore (lv' := [(4, .ref p10), (0, .ref a0), (1, .int a1), (2, .int a2), (3, .ref a3)]) hX eL_bestCar_13 (by decide) rfl ?_
      refine j_iconst (v := (1 : Int32)) hX eL_bestCar_15 (by decide) ?_
      exact j_iret hX hM eL_bestCar_16 rfl h
    · refine am_thIn (name := "java/util/NoSuchElementException") hX [(0, 10, 13, 13)] (0, 10, 17, 79) [] rfl (fun z hz => by simp only [List.mem_cons, List.not_mem_nil, or_false] at hz; rcases hz with rfl; exact ⟨by decide, _, tw_804, by decide⟩) (by decide) (by decide) tw_1116 (am_castN_NoSuchElementException) (fun p11 => ?_)
      replace h := h p11
      refine j_astore (lv' := [(4, .ref p11), (0, .ref a0), (1, .int a1), (2, .int a2), (3, .ref a3)]) hX eL_bestCar_17 (by decide) rfl ?_
      refine j_iconst (v := (2 : Int32)) hX eL_bestCar_19 (by decide) ?_
      exact j_iret hX hM eL_bestCar_20 rfl h

set_option maxHeartbeats 4000000 in
set_option maxRecDepth 20000 in
theorem vL_stepsUntilBoarding_0 {X : am_Cx} {G : am_Gx} {d : Nat} {Q : am_Q} (hX : am_ok X rL_stepsUntilBoarding G (d + 1)) (hM : am_me X rL_stepsUntilBoarding Q) {bc bs : Nat}  {a0 : Nat} {a1 : Int32} {a2 : Nat} {M : am_Hp} (h : hp_T M (a0) = 7 ∧ (2 ≤ bc ∧ (12 ≤ bs ∧ (am_CT G d rX6_stepsUntilBoarding [.ref a0, .int a1] M 2 12 (fun oz9 M1 => (∃ v2 : Int32, oz9 = .inl (some (.int v2)) ∧ (hp_T M1 (a2) = 23 ∧ (vp_in (0 : Int32) (hp_N M1 a2) ∧ (∀ M8 : am_Hp, M8 = hp_sL M1 a2 ((0 : Int32)).toNatClampNeg ((v2).toInt64) → (Q (.inl (some (.int (0 : Int32)))) M8))))) ∨ ((oz9 = .inr "java/lang/IndexOutOfBoundsException" ∧ ∀ p10 : Nat, Q (.inl (some (.int (1 : Int32)))) M1)) ∨ ((oz9 = .inr "java/util/NoSuchElementException" ∧ ∀ p11 : Nat, Q (.inl (some (.int (2 : Int32)))) M1))))))) : am_J X 0 [(0, .ref a0), (1, .int a1), (2, .ref a2)] [] M bc bs := by
  refine j_aload_n hX eL_stepsUntilBoarding_0 2 rfl ?_
  refine j_iconst (v := (0 : Int32)) hX eL_stepsUntilBoarding_1 (by decide) ?_
  refine j_aload_n hX eL_stepsUntilBoarding_2 0 rfl ?_
  refine j_iload_n hX eL_stepsUntilBoarding_3 1 rfl ?_
  obtain ⟨t3, h⟩ := h
  obtain ⟨b4, b5, h⟩ := h
  refine j_callV (a := a0) (q := (RX6, TX6, 9)) (r' := rX6_stepsUntilBoarding) (As := [.int a1]) (rest := [.int (0 : Int32), .ref a2]) (d1 := d) hX eL_stepsUntilBoarding_4 mm_LiftGroupLaw_114 rfl t3 (by decide) rfl h rfl (Nat.le_refl _) b4 b5 (Nat.le_of_ble_eq_true rfl) (fun vz9 Mz9 qz9 => ?_) (fun Ez9 Mz9 qz9 => ?_)
  · obtain ⟨M1, eMz9⟩ : ∃ M1, M1 = Mz9 := ⟨_, rfl⟩; subst eMz9
    rcases qz9 with ⟨v2, hxz9, h⟩ | ⟨hxz9, h⟩ | ⟨hxz9, h⟩ <;> cases hxz9
    refine j_i2l hX eL_stepsUntilBoarding_7 ?_
    obtain ⟨t6, h⟩ := h
    obtain ⟨i7, h⟩ := h
    refine j_last hX eL_stepsUntilBoarding_8 t6 i7 ?_
    refine j_nmM (fun M8 eM8 => ?_)
    replace h := h M8 eM8
    have t9 : hp_T M8 (a2) = 23 := by rw [eM8]; exact t6
    refine j_goto hX 18 eL_stepsUntilBoarding_9 (by decide) ?_
    refine j_iconst (v := (0 : Int32)) hX eL_stepsUntilBoarding_18 (by decide) ?_
    exact j_iret hX hM eL_stepsUntilBoarding_19 rfl h
  · obtain ⟨M1, eMz9⟩ : ∃ M1, M1 = Mz9 := ⟨_, rfl⟩; subst eMz9
    rcases qz9 with ⟨v2, hxz9, h⟩ | ⟨hxz9, h⟩ | ⟨hxz9, h⟩ <;> cases hxz9
    · refine am_thIn (name := "java/lang/IndexOutOfBoundsException") hX [] (0, 9, 12, 21) [(0, 9, 15, 79)] rfl (fun z hz => by cases hz) (by decide) (by decide) tw_888 (am_castN_IndexOutOfBoundsException) (fun p10 => ?_)
      replace h := h p10
      refine j_astore_n (lv' := [(3, .ref p10), (0, .ref a0), (1, .int a1), (2, .ref a2)]) hX eL_stepsUntilBoarding_12 rfl (by decide) rfl ?_
      refine j_iconst (v := (1 : Int32)) hX eL_stepsUntilBoarding_13 (by decide) ?_
      exact j_iret hX hM eL_stepsUntilBoarding_14 rfl h
    · refine am_thIn (name := "java/util/NoSuchElementException") hX [(0, 9, 12, 21)] (0, 9, 15, 79) [] rfl (fun z hz => by simp only [List.mem_cons, List.not_mem_nil, or_false] at hz; rcases hz with rfl; exact ⟨by decide, _, tw_888, by decide⟩) (by decide) (by decide) tw_1116 (am_castN_NoSuchElementException) (fun p11 => ?_)
      replace h := h p11
      refine j_astore_n (lv' := [(3, .ref p11), (0, .ref a0), (1, .int a1), (2, .ref a2)]) hX eL_stepsUntilBoarding_15 rfl (by decide) rfl ?_
      refine j_iconst (v := (2 : Int32)) hX eL_stepsUntilBoarding_16 (by decide) ?_
      exact j_iret hX hM eL_stepsUntilBoarding_17 rfl h

set_option maxHeartbeats 4000000 in
set_option maxRecDepth 20000 in
theorem vL_stepsUntilArrival_0 {X : am_Cx} {G : am_Gx} {d : Nat} {Q : am_Q} (hX : am_ok X rL_stepsUntilArrival G (d + 1)) (hM : am_me X rL_stepsUntilArrival Q) {bc bs : Nat}  {a0 : Nat} {a1 : Int32} {a2 : Nat} {M : am_Hp} (h : hp_T M (a0) = 7 ∧ (2 ≤ bc ∧ (12 ≤ bs ∧ (am_CT G d rX6_stepsUntilArrival [.ref a0, .int a1] M 2 12 (fun oz9 M1 => (∃ v2 : Int32, oz9 = .inl (some (.int v2)) ∧ (hp_T M1 (a2) = 23 ∧ (vp_in (0 : Int32) (hp_N M1 a2) ∧ (∀ M8 : am_Hp, M8 = hp_sL M1 a2 ((0 : Int32)).toNatClampNeg ((v2).toInt64) → (Q (.inl (some (.int (0 : Int32)))) M8))))) ∨ ((oz9 = .inr "java/lang/IndexOutOfBoundsException" ∧ ∀ p10 : Nat, Q (.inl (some (.int (1 : Int32)))) M1)) ∨ ((oz9 = .inr "java/util/NoSuchElementException" ∧ ∀ p11 : Nat, Q (.inl (some (.int (2 : Int32)))) M1))))))) : am_J X 0 [(0, .ref a0), (1, .int a1), (2, .ref a2)] [] M bc bs := by
  refine j_aload_n hX eL_stepsUntilArrival_0 2 rfl ?_
  refine j_iconst (v := (0 : Int32)) hX eL_stepsUntilArrival_1 (by decide) ?_
  refine j_aload_n hX eL_stepsUntilArrival_2 0 rfl ?_
  refine j_iload_n hX eL_stepsUntilArrival_3 1 rfl ?_
  obtain ⟨t3, h⟩ := h
  obtain ⟨b4, b5, h⟩ := h
  refine j_callV (a := a0) (q := (RX6, TX6, 9)) (r' := rX6_stepsUntilArrival) (As := [.int a1]) (rest := [.int (0 : Int32), .ref a2]) (d1 := d) hX eL_stepsUntilArrival_4 mm_LiftGroupLaw_117 rfl t3 (by decide) rfl h rfl (Nat.le_refl _) b4 b5 (Nat.le_of_ble_eq_true rfl) (fun vz9 Mz9 qz9 => ?_) (fun Ez9 Mz9 qz9 => ?_)
  · obtain ⟨M1, eMz9⟩ : ∃ M1, M1 = Mz9 := ⟨_, rfl⟩; subst eMz9
    rcases qz9 with ⟨v2, hxz9, h⟩ | ⟨hxz9, h⟩ | ⟨hxz9, h⟩ <;> cases hxz9
    refine j_i2l hX eL_stepsUntilArrival_7 ?_
    obtain ⟨t6, h⟩ := h
    obtain ⟨i7, h⟩ := h
    refine j_last hX eL_stepsUntilArrival_8 t6 i7 ?_
    refine j_nmM (fun M8 eM8 => ?_)
    replace h := h M8 eM8
    have t9 : hp_T M8 (a2) = 23 := by rw [eM8]; exact t6
    refine j_goto hX 18 eL_stepsUntilArrival_9 (by decide) ?_
    refine j_iconst (v := (0 : Int32)) hX eL_stepsUntilArrival_18 (by decide) ?_
    exact j_iret hX hM eL_stepsUntilArrival_19 rfl h
  · obtain ⟨M1, eMz9⟩ : ∃ M1, M1 = Mz9 := ⟨_, rfl⟩; subst eMz9
    rcases qz9 with ⟨v2, hxz9, h⟩ | ⟨hxz9, h⟩ | ⟨hxz9, h⟩ <;> cases hxz9
    · refine am_thIn (name := "java/lang/IndexOutOfBoundsException") hX [] (0, 9, 12, 21) [(0, 9, 15, 79)] rfl (fun z hz => by cases hz) (by decide) (by decide) tw_888 (am_castN_IndexOutOfBoundsException) (fun p10 => ?_)
      replace h := h p10
      refine j_astore_n (lv' := [(3, .ref p10), (0, .ref a0), (1, .int a1), (2, .ref a2)]) hX eL_stepsUntilArrival_12 rfl (by decide) rfl ?_
      refine j_iconst (v := (1 : Int32)) hX eL_stepsUntilArrival_13 (by decide) ?_
      exact j_iret hX hM eL_stepsUntilArrival_14 rfl h
    · refine am_thIn (name := "java/util/NoSuchElementException") hX [(0, 9, 12, 21)] (0, 9, 15, 79) [] rfl (fun z hz => by simp only [List.mem_cons, List.not_mem_nil, or_false] at hz; rcases hz with rfl; exact ⟨by decide, _, tw_888, by decide⟩) (by decide) (by decide) tw_1116 (am_castN_NoSuchElementException) (fun p11 => ?_)
      replace h := h p11
      refine j_astore_n (lv' := [(3, .ref p11), (0, .ref a0), (1, .int a1), (2, .ref a2)]) hX eL_stepsUntilArrival_15 rfl (by decide) rfl ?_
      refine j_iconst (v := (2 : Int32)) hX eL_stepsUntilArrival_16 (by decide) ?_
      exact j_iret hX hM eL_stepsUntilArrival_17 rfl h

set_option maxHeartbeats 4000000 in
set_option maxRecDepth 20000 in
theorem vL_tripsWithin_0 {X : am_Cx} {G : am_Gx} {d : Nat} {Q : am_Q} (hX : am_ok X rL_tripsWithin G (d + 1)) (hM : am_me X rL_tripsWithin Q) {bc bs : Nat}  {a0 : Nat} {a1 : Int32} {a2 : Nat} {M : am_Hp} (h : hp_T M (a0) = 7 ∧ (1 ≤ bc ∧ (6 ≤ bs ∧ (am_CT G d rX6_tripsWithin [.ref a0, .int a1] M 1 6 (fun oz9 M1 => (∃ v2 : Int32, oz9 = .inl (some (.int v2)) ∧ (hp_T M1 (a2) = 23 ∧ (vp_in (0 : Int32) (hp_N M1 a2) ∧ (∀ M8 : am_Hp, M8 = hp_sL M1 a2 ((0 : Int32)).toNatClampNeg ((v2).toInt64) → (Q (.inl (some (.int (0 : Int32)))) M8))))) ∨ ((oz9 = .inr "java/lang/IllegalArgumentException" ∧ ∀ p10 : Nat, Q (.inl (some (.int (1 : Int32)))) M1))))))) : am_J X 0 [(0, .ref a0), (1, .int a1), (2, .ref a2)] [] M bc bs := by
  refine j_aload_n hX eL_tripsWithin_0 2 rfl ?_
  refine j_iconst (v := (0 : Int32)) hX eL_tripsWithin_1 (by decide) ?_
  refine j_aload_n hX eL_tripsWithin_2 0 rfl ?_
  refine j_iload_n hX eL_tripsWithin_3 1 rfl ?_
  obtain ⟨t3, h⟩ := h
  obtain ⟨b4, b5, h⟩ := h
  refine j_callV (a := a0) (q := (RX6, TX6, 9)) (r' := rX6_tripsWithin) (As := [.int a1]) (rest := [.int (0 : Int32), .ref a2]) (d1 := d) hX eL_tripsWithin_4 mm_LiftGroupLaw_120 rfl t3 (by decide) rfl h rfl (Nat.le_refl _) b4 b5 (Nat.le_of_ble_eq_true rfl) (fun vz9 Mz9 qz9 => ?_) (fun Ez9 Mz9 qz9 => ?_)
  · obtain ⟨M1, eMz9⟩ : ∃ M1, M1 = Mz9 := ⟨_, rfl⟩; subst eMz9
    rcases qz9 with ⟨v2, hxz9, h⟩ | ⟨hxz9, h⟩ <;> cases hxz9
    refine j_i2l hX eL_tripsWithin_7 ?_
    obtain ⟨t6, h⟩ := h
    obtain ⟨i7, h⟩ := h
    refine j_last hX eL_tripsWithin_8 t6 i7 ?_
    refine j_nmM (fun M8 eM8 => ?_)
    replace h := h M8 eM8
    have t9 : hp_T M8 (a2) = 23 := by rw [eM8]; exact t6
    refine j_goto hX 15 eL_tripsWithin_9 (by decide) ?_
    refine j_iconst (v := (0 : Int32)) hX eL_tripsWithin_15 (by decide) ?_
    exact j_iret hX hM eL_tripsWithin_16 rfl h
  · obtain ⟨M1, eMz9⟩ : ∃ M1, M1 = Mz9 := ⟨_, rfl⟩; subst eMz9
    rcases qz9 with ⟨v2, hxz9, h⟩ | ⟨hxz9, h⟩ <;> cases hxz9
    · refine am_thIn (name := "java/lang/IllegalArgumentException") hX [] (0, 9, 12, 13) [] rfl (fun z hz => by cases hz) (by decide) (by decide) tw_804 (am_castN_IllegalArgumentException) (fun p10 => ?_)
      replace h := h p10
      refine j_astore_n (lv' := [(3, .ref p10), (0, .ref a0), (1, .int a1), (2, .ref a2)]) hX eL_tripsWithin_12 rfl (by decide) rfl ?_
      refine j_iconst (v := (1 : Int32)) hX eL_tripsWithin_13 (by decide) ?_
      exact j_iret hX hM eL_tripsWithin_14 rfl h

set_option maxHeartbeats 4000000 in
set_option maxRecDepth 20000 in
theorem vL_passengerByWaiting_0 {X : am_Cx} {G : am_Gx} {d : Nat} {Q : am_Q} (hX : am_ok X rL_passengerByWaiting G (d + 1)) (hM : am_me X rL_passengerByWaiting Q) {bc bs : Nat}  {a0 : Nat} {a1 : Int32} {a2 : Nat} {M : am_Hp} (h : hp_T M (a0) = 7 ∧ (1 ≤ bc ∧ (6 ≤ bs ∧ (am_CT G d rX6_passengerByWaiting [.ref a0, .int a1] M 1 6 (fun oz9 M1 => (∃ v2 : Int32, oz9 = .inl (some (.int v2)) ∧ (hp_T M1 (a2) = 23 ∧ (vp_in (0 : Int32) (hp_N M1 a2) ∧ (∀ M8 : am_Hp, M8 = hp_sL M1 a2 ((0 : Int32)).toNatClampNeg ((v2).toInt64) → (Q (.inl (some (.int (0 : Int32)))) M8))))) ∨ ((oz9 = .inr "java/util/NoSuchElementException" ∧ ∀ p10 : Nat, Q (.inl (some (.int (1 : Int32)))) M1))))))) : am_J X 0 [(0, .ref a0), (1, .int a1), (2, .ref a2)] [] M bc bs := by
  refine j_aload_n hX eL_passengerByWaiting_0 2 rfl ?_
  refine j_iconst (v := (0 : Int32)) hX eL_passengerByWaiting_1 (by decide) ?_
  refine j_aload_n hX eL_passengerByWaiting_2 0 rfl ?_
  refine j_iload_n hX eL_passengerByWaiting_3 1 rfl ?_
  obtain ⟨t3, h⟩ := h
  obtain ⟨b4, b5, h⟩ := h
  refine j_callV (a := a0) (q := (RX6, TX6, 9)) (r' := rX6_passengerByWaiting) (As := [.int a1]) (rest := [.int (0 : Int32), .ref a2]) (d1 := d) hX eL_passengerByWaiting_4 mm_LiftGroupLaw_123 rfl t3 (by decide) rfl h rfl (Nat.le_refl _) b4 b5 (Nat.le_of_ble_eq_true rfl) (fun vz9 Mz9 qz9 => ?_) (fun Ez9 Mz9 qz9 => ?_)
  · obtain ⟨M1, eMz9⟩ : ∃ M1, M1 = Mz9 := ⟨_, rfl⟩; subst eMz9
    rcases qz9 with ⟨v2, hxz9, h⟩ | ⟨hxz9, h⟩ <;> cases hxz9
    refine j_i2l hX eL_passengerByWaiting_7 ?_
    obtain ⟨t6, h⟩ := h
    obtain ⟨i7, h⟩ := h
    refine j_last hX eL_passengerByWaiting_8 t6 i7 ?_
    refine j_nmM (fun M8 eM8 => ?_)
    replace h := h M8 eM8
    have t9 : hp_T M8 (a2) = 23 := by rw [eM8]; exact t6
    refine j_goto hX 15 eL_passengerByWaiting_9 (by decide) ?_
    refine j_iconst (v := (0 : Int32)) hX eL_passengerByWaiting_15 (by decide) ?_
    exact j_iret hX hM eL_passengerByWaiting_16 rfl h
  · obtain ⟨M1, eMz9⟩ : ∃ M1, M1 = Mz9 := ⟨_, rfl⟩; subst eMz9
    rcases qz9 with ⟨v2, hxz9, h⟩ | ⟨hxz9, h⟩ <;> cases hxz9
    · refine am_thIn (name := "java/util/NoSuchElementException") hX [] (0, 9, 12, 79) [] rfl (fun z hz => by cases hz) (by decide) (by decide) tw_1116 (am_castN_NoSuchElementException) (fun p10 => ?_)
      replace h := h p10
      refine j_astore_n (lv' := [(3, .ref p10), (0, .ref a0), (1, .int a1), (2, .ref a2)]) hX eL_passengerByWaiting_12 rfl (by decide) rfl ?_
      refine j_iconst (v := (1 : Int32)) hX eL_passengerByWaiting_13 (by decide) ?_
      exact j_iret hX hM eL_passengerByWaiting_14 rfl h

set_option maxHeartbeats 4000000 in
set_option maxRecDepth 20000 in
theorem vL_carByEnergy_0 {X : am_Cx} {G : am_Gx} {d : Nat} {Q : am_Q} (hX : am_ok X rL_carByEnergy G (d + 1)) (hM : am_me X rL_carByEnergy Q) {bc bs : Nat}  {a0 : Nat} {a1 : Int32} {a2 : Nat} {M : am_Hp} (h : hp_T M (a0) = 7 ∧ (1 ≤ bc ∧ (6 ≤ bs ∧ (am_CT G d rX6_carByEnergy [.ref a0, .int a1] M 1 6 (fun oz9 M1 => (∃ v2 : Int32, oz9 = .inl (some (.int v2)) ∧ (hp_T M1 (a2) = 23 ∧ (vp_in (0 : Int32) (hp_N M1 a2) ∧ (∀ M8 : am_Hp, M8 = hp_sL M1 a2 ((0 : Int32)).toNatClampNeg ((v2).toInt64) → (Q (.inl (some (.int (0 : Int32)))) M8))))) ∨ ((oz9 = .inr "java/util/NoSuchElementException" ∧ ∀ p10 : Nat, Q (.inl (some (.int (1 : Int32)))) M1))))))) : am_J X 0 [(0, .ref a0), (1, .int a1), (2, .ref a2)] [] M bc bs := by
  refine j_aload_n hX eL_carByEnergy_0 2 rfl ?_
  refine j_iconst (v := (0 : Int32)) hX eL_carByEnergy_1 (by decide) ?_
  refine j_aload_n hX eL_carByEnergy_2 0 rfl ?_
  refine j_iload_n hX eL_carByEnergy_3 1 rfl ?_
  obtain ⟨t3, h⟩ := h
  obtain ⟨b4, b5, h⟩ := h
  refine j_callV (a := a0) (q := (RX6, TX6, 9)) (r' := rX6_carByEnergy) (As := [.int a1]) (rest := [.int (0 : Int32), .ref a2]) (d1 := d) hX eL_carByEnergy_4 mm_LiftGroupLaw_126 rfl t3 (by decide) rfl h rfl (Nat.le_refl _) b4 b5 (Nat.le_of_ble_eq_true rfl) (fun vz9 Mz9 qz9 => ?_) (fun Ez9 Mz9 qz9 => ?_)
  · obtain ⟨M1, eMz9⟩ : ∃ M1, M1 = Mz9 := ⟨_, rfl⟩; subst eMz9
    rcases qz9 with ⟨v2, hxz9, h⟩ | ⟨hxz9, h⟩ <;> cases hxz9
    refine j_i2l hX eL_carByEnergy_7 ?_
    obtain ⟨t6, h⟩ := h
    obtain ⟨i7, h⟩ := h
    refine j_last hX eL_carByEnergy_8 t6 i7 ?_
    refine j_nmM (fun M8 eM8 => ?_)
    replace h := h M8 eM8
    have t9 : hp_T M8 (a2) = 23 := by rw [eM8]; exact t6
    refine j_goto hX 15 eL_carByEnergy_9 (by decide) ?_
    refine j_iconst (v := (0 : Int32)) hX eL_carByEnergy_15 (by decide) ?_
    exact j_iret hX hM eL_carByEnergy_16 rfl h
  · obtain ⟨M1, eMz9⟩ : ∃ M1, M1 = Mz9 := ⟨_, rfl⟩; subst eMz9
    rcases qz9 with ⟨v2, hxz9, h⟩ | ⟨hxz9, h⟩ <;> cases hxz9
    · refine am_thIn (name := "java/util/NoSuchElementException") hX [] (0, 9, 12, 79) [] rfl (fun z hz => by cases hz) (by decide) (by decide) tw_1116 (am_castN_NoSuchElementException) (fun p10 => ?_)
      replace h := h p10
      refine j_astore_n (lv' := [(3, .ref p10), (0, .ref a0), (1, .int a1), (2, .ref a2)]) hX eL_carByEnergy_12 rfl (by decide) rfl ?_
      refine j_iconst (v := (1 : Int32)) hX eL_carByEnergy_13 (by decide) ?_
      exact j_iret hX hM eL_carByEnergy_14 rfl h

set_option maxHeartbeats 4000000 in
set_option maxRecDepth 20000 in
theorem vL_tripNumber_0 {X : am_Cx} {G : am_Gx} {d : Nat} {Q : am_Q} (hX : am_ok X rL_tripNumber G (d + 1)) (hM : am_me X rL_tripNumber Q) {bc bs : Nat}  {a0 : Nat} {a1 : Int32} {a2 : Nat} {M : am_Hp} (h : hp_T M (a0) = 7 ∧ (1 ≤ bc ∧ (6 ≤ bs ∧ (am_CT G d rX6_tripNumber [.ref a0, .int a1] M 1 6 (fun oz9 M1 => (∃ v2 : Int32, oz9 = .inl (some (.int v2)) ∧ (hp_T M1 (a2) = 23 ∧ (vp_in (0 : Int32) (hp_N M1 a2) ∧ (∀ M8 : am_Hp, M8 = hp_sL M1 a2 ((0 : Int32)).toNatClampNeg ((v2).toInt64) → (Q (.inl (some (.int (0 : Int32)))) M8))))) ∨ ((oz9 = .inr "java/util/NoSuchElementException" ∧ ∀ p10 : Nat, Q (.inl (some (.int (1 : Int32)))) M1))))))) : am_J X 0 [(0, .ref a0), (1, .int a1), (2, .ref a2)] [] M bc bs := by
  refine j_aload_n hX eL_tripNumber_0 2 rfl ?_
  refine j_iconst (v := (0 : Int32)) hX eL_tripNumber_1 (by decide) ?_
  refine j_aload_n hX eL_tripNumber_2 0 rfl ?_
  refine j_iload_n hX eL_tripNumber_3 1 rfl ?_
  obtain ⟨t3, h⟩ := h
  obtain ⟨b4, b5, h⟩ := h
  refine j_callV (a := a0) (q := (RX6, TX6, 9)) (r' := rX6_tripNumber) (As := [.int a1]) (rest := [.int (0 : Int32), .ref a2]) (d1 := d) hX eL_tripNumber_4 mm_LiftGroupLaw_129 rfl t3 (by decide) rfl h rfl (Nat.le_refl _) b4 b5 (Nat.le_of_ble_eq_true rfl) (fun vz9 Mz9 qz9 => ?_) (fun Ez9 Mz9 qz9 => ?_)
  · obtain ⟨M1, eMz9⟩ : ∃ M1, M1 = Mz9 := ⟨_, rfl⟩; subst eMz9
    rcases qz9 with ⟨v2, hxz9, h⟩ | ⟨hxz9, h⟩ <;> cases hxz9
    refine j_i2l hX eL_tripNumber_7 ?_
    obtain ⟨t6, h⟩ := h
    obtain ⟨i7, h⟩ := h
    refine j_last hX eL_tripNumber_8 t6 i7 ?_
    refine j_nmM (fun M8 eM8 => ?_)
    replace h := h M8 eM8
    have t9 : hp_T M8 (a2) = 23 := by rw [eM8]; exact t6
    refine j_goto hX 15 eL_tripNumber_9 (by decide) ?_
    refine j_iconst (v := (0 : Int32)) hX eL_tripNumber_15 (by decide) ?_
    exact j_iret hX hM eL_tripNumber_16 rfl h
  · obtain ⟨M1, eMz9⟩ : ∃ M1, M1 = Mz9 := ⟨_, rfl⟩; subst eMz9
    rcases qz9 with ⟨v2, hxz9, h⟩ | ⟨hxz9, h⟩ <;> cases hxz9
    · refine am_thIn (name := "java/util/NoSuchElementException") hX [] (0, 9, 12, 79) [] rfl (fun z hz => by cases hz) (by decide) (by decide) tw_1116 (am_castN_NoSuchElementException) (fun p10 => ?_)
      replace h := h p10
      refine j_astore_n (lv' := [(3, .ref p10), (0, .ref a0), (1, .int a1), (2, .ref a2)]) hX eL_tripNumber_12 rfl (by decide) rfl ?_
      refine j_iconst (v := (1 : Int32)) hX eL_tripNumber_13 (by decide) ?_
      exact j_iret hX hM eL_tripNumber_14 rfl h

set_option maxHeartbeats 4000000 in
set_option maxRecDepth 20000 in
theorem vL_tripCar_0 {X : am_Cx} {G : am_Gx} {d : Nat} {Q : am_Q} (hX : am_ok X rL_tripCar G (d + 1)) (hM : am_me X rL_tripCar Q) {bc bs : Nat}  {a0 : Nat} {a1 : Int32} {a2 : Nat} {M : am_Hp} (h : hp_T M (a0) = 7 ∧ (1 ≤ bc ∧ (6 ≤ bs ∧ (am_CT G d rX6_tripCar [.ref a0, .int a1] M 1 6 (fun oz9 M1 => (∃ v2 : Int32, oz9 = .inl (some (.int v2)) ∧ (hp_T M1 (a2) = 23 ∧ (vp_in (0 : Int32) (hp_N M1 a2) ∧ (∀ M8 : am_Hp, M8 = hp_sL M1 a2 ((0 : Int32)).toNatClampNeg ((v2).toInt64) → (Q (.inl (some (.int (0 : Int32)))) M8))))) ∨ ((oz9 = .inr "java/util/NoSuchElementException" ∧ ∀ p10 : Nat, Q (.inl (some (.int (1 : Int32)))) M1))))))) : am_J X 0 [(0, .ref a0), (1, .int a1), (2, .ref a2)] [] M bc bs := by
  refine j_aload_n hX eL_tripCar_0 2 rfl ?_
  refine j_iconst (v := (0 : Int32)) hX eL_tripCar_1 (by decide) ?_
  refine j_aload_n hX eL_tripCar_2 0 rfl ?_
  refine j_iload_n hX eL_tripCar_3 1 rfl ?_
  obtain ⟨t3, h⟩ := h
  obtain ⟨b4, b5, h⟩ := h
  refine j_callV (a := a0) (q := (RX6, TX6, 9)) (r' := rX6_tripCar) (As := [.int a1]) (rest := [.int (0 : Int32), .ref a2]) (d1 := d) hX eL_tripCar_4 mm_LiftGroupLaw_132 rfl t3 (by decide) rfl h rfl (Nat.le_refl _) b4 b5 (Nat.le_of_ble_eq_true rfl) (fun vz9 Mz9 qz9 => ?_) (fun Ez9 Mz9 qz9 => ?_)
  · obtain ⟨M1, eMz9⟩ : ∃ M1, M1 = Mz9 := ⟨_, rfl⟩; subst eMz9
    rcases qz9 with ⟨v2, hxz9, h⟩ | ⟨hxz9, h⟩ <;> cases hxz9
    refine j_i2l hX eL_tripCar_7 ?_
    obtain ⟨t6, h⟩ := h
    obtain ⟨i7, h⟩ := h
    refine j_last hX eL_tripCar_8 t6 i7 ?_
    refine j_nmM (fun M8 eM8 => ?_)
    replace h := h M8 eM8
    have t9 : hp_T M8 (a2) = 23 := by rw [eM8]; exact t6
    refine j_goto hX 15 eL_tripCar_9 (by decide) ?_
    refine j_iconst (v := (0 : Int32)) hX eL_tripCar_15 (by decide) ?_
    exact j_iret hX hM eL_tripCar_16 rfl h
  · obtain ⟨M1, eMz9⟩ : ∃ M1, M1 = Mz9 := ⟨_, rfl⟩; subst eMz9
    rcases qz9 with ⟨v2, hxz9, h⟩ | ⟨hxz9, h⟩ <;> cases hxz9
    · refine am_thIn (name := "java/util/NoSuchElementException") hX [] (0, 9, 12, 79) [] rfl (fun z hz => by cases hz) (by decide) (by decide) tw_1116 (am_castN_NoSuchElementException) (fun p10 => ?_)
      replace h := h p10
      refine j_astore_n (lv' := [(3, .ref p10), (0, .ref a0), (1, .int a1), (2, .ref a2)]) hX eL_tripCar_12 rfl (by decide) rfl ?_
      refine j_iconst (v := (1 : Int32)) hX eL_tripCar_13 (by decide) ?_
      exact j_iret hX hM eL_tripCar_14 rfl h

set_option maxHeartbeats 4000000 in
set_option maxRecDepth 20000 in
theorem vL_tripWaiting_0 {X : am_Cx} {G : am_Gx} {d : Nat} {Q : am_Q} (hX : am_ok X rL_tripWaiting G (d + 1)) (hM : am_me X rL_tripWaiting Q) {bc bs : Nat}  {a0 : Nat} {a1 : Int32} {a2 : Nat} {M : am_Hp} (h : hp_T M (a0) = 7 ∧ (1 ≤ bc ∧ (6 ≤ bs ∧ (am_CT G d rX6_tripWaiting [.ref a0, .int a1] M 1 6 (fun oz9 M1 => (∃ v2 : Int32, oz9 = .inl (some (.int v2)) ∧ (hp_T M1 (a2) = 23 ∧ (vp_in (0 : Int32) (hp_N M1 a2) ∧ (∀ M8 : am_Hp, M8 = hp_sL M1 a2 ((0 : Int32)).toNatClampNeg ((v2).toInt64) → (Q (.inl (some (.int (0 : Int32)))) M8))))) ∨ ((oz9 = .inr "java/util/NoSuchElementException" ∧ ∀ p10 : Nat, Q (.inl (some (.int (1 : Int32)))) M1))))))) : am_J X 0 [(0, .ref a0), (1, .int a1), (2, .ref a2)] [] M bc bs := by
  refine j_aload_n hX eL_tripWaiting_0 2 rfl ?_
  refine j_iconst (v := (0 : Int32)) hX eL_tripWaiting_1 (by decide) ?_
  refine j_aload_n hX eL_tripWaiting_2 0 rfl ?_
  refine j_iload_n hX eL_tripWaiting_3 1 rfl ?_
  obtain ⟨t3, h⟩ := h
  obtain ⟨b4, b5, h⟩ := h
  refine j_callV (a := a0) (q := (RX6, TX6, 9)) (r' := rX6_tripWaiting) (As := [.int a1]) (rest := [.int (0 : Int32), .ref a2]) (d1 := d) hX eL_tripWaiting_4 mm_LiftGroupLaw_135 rfl t3 (by decide) rfl h rfl (Nat.le_refl _) b4 b5 (Nat.le_of_ble_eq_true rfl) (fun vz9 Mz9 qz9 => ?_) (fun Ez9 Mz9 qz9 => ?_)
  · obtain ⟨M1, eMz9⟩ : ∃ M1, M1 = Mz9 := ⟨_, rfl⟩; subst eMz9
    rcases qz9 with ⟨v2, hxz9, h⟩ | ⟨hxz9, h⟩ <;> cases hxz9
    refine j_i2l hX eL_tripWaiting_7 ?_
    obtain ⟨t6, h⟩ := h
    obtain ⟨i7, h⟩ := h
    refine j_last hX eL_tripWaiting_8 t6 i7 ?_
    refine j_nmM (fun M8 eM8 => ?_)
    replace h := h M8 eM8
    have t9 : hp_T M8 (a2) = 23 := by rw [eM8]; exact t6
    refine j_goto hX 15 eL_tripWaiting_9 (by decide) ?_
    refine j_iconst (v := (0 : Int32)) hX eL_tripWaiting_15 (by decide) ?_
    exact j_iret hX hM eL_tripWaiting_16 rfl h
  · obtain ⟨M1, eMz9⟩ : ∃ M1, M1 = Mz9 := ⟨_, rfl⟩; subst eMz9
    rcases qz9 with ⟨v2, hxz9, h⟩ | ⟨hxz9, h⟩ <;> cases hxz9
    · refine am_thIn (name := "java/util/NoSuchElementException") hX [] (0, 9, 12, 79) [] rfl (fun z hz => by cases hz) (by decide) (by decide) tw_1116 (am_castN_NoSuchElementException) (fun p10 => ?_)
      replace h := h p10
      refine j_astore_n (lv' := [(3, .ref p10), (0, .ref a0), (1, .int a1), (2, .ref a2)]) hX eL_tripWaiting_12 rfl (by decide) rfl ?_
      refine j_iconst (v := (1 : Int32)) hX eL_tripWaiting_13 (by decide) ?_
      exact j_iret hX hM eL_tripWaiting_14 rfl h

set_option maxHeartbeats 4000000 in
set_option maxRecDepth 20000 in
theorem vL_meanWaiting_0 {X : am_Cx} {G : am_Gx} {d : Nat} {Q : am_Q} (hX : am_ok X rL_meanWaiting G (d + 1)) (hM : am_me X rL_meanWaiting Q) {bc bs : Nat}  {a0 : Nat} {a1 : Nat} {M : am_Hp} (h : hp_T M (a0) = 7 ∧ (1 ≤ bc ∧ (6 ≤ bs ∧ (am_CT G d rX6_meanWaiting [.ref a0] M 1 6 (fun oz9 M1 => (∃ d2 : UInt64, oz9 = .inl (some (.double d2)) ∧ (hp_T M1 (a1) = 24 ∧ (vp_in (0 : Int32) (hp_N M1 a1) ∧ (∀ M8 : am_Hp, M8 = hp_sD M1 a1 ((0 : Int32)).toNatClampNeg d2 → (Q (.inl (some (.int (0 : Int32)))) M8))))) ∨ ((oz9 = .inr "java/lang/ArithmeticException" ∧ ∀ p10 : Nat, Q (.inl (some (.int (1 : Int32)))) M1))))))) : am_J X 0 [(0, .ref a0), (1, .ref a1)] [] M bc bs := by
  refine j_aload_n hX eL_meanWaiting_0 1 rfl ?_
  refine j_iconst (v := (0 : Int32)) hX eL_meanWaiting_1 (by decide) ?_
  refine j_aload_n hX eL_meanWaiting_2 0 rfl ?_
  obtain ⟨t3, h⟩ := h
  obtain ⟨b4, b5, h⟩ := h
  refine j_callV (a := a0) (q := (RX6, TX6, 9)) (r' := rX6_meanWaiting) (As := []) (rest := [.int (0 : Int32), .ref a1]) (d1 := d) hX eL_meanWaiting_3 mm_LiftGroupLaw_138 rfl t3 (by decide) rfl h rfl (Nat.le_refl _) b4 b5 (Nat.le_of_ble_eq_true rfl) (fun vz9 Mz9 qz9 => ?_) (fun Ez9 Mz9 qz9 => ?_)
  · obtain ⟨M1, eMz9⟩ : ∃ M1, M1 = Mz9 := ⟨_, rfl⟩; subst eMz9
    rcases qz9 with ⟨d2, hxz9, h⟩ | ⟨hxz9, h⟩ <;> cases hxz9
    obtain ⟨t6, h⟩ := h
    obtain ⟨i7, h⟩ := h
    refine j_dast hX eL_meanWaiting_6 t6 i7 ?_
    refine j_nmM (fun M8 eM8 => ?_)
    replace h := h M8 eM8
    have t9 : hp_T M8 (a1) = 24 := by rw [eM8]; exact t6
    refine j_goto hX 13 eL_meanWaiting_7 (by decide) ?_
    refine j_iconst (v := (0 : Int32)) hX eL_meanWaiting_13 (by decide) ?_
    exact j_iret hX hM eL_meanWaiting_14 rfl h
  · obtain ⟨M1, eMz9⟩ : ∃ M1, M1 = Mz9 := ⟨_, rfl⟩; subst eMz9
    rcases qz9 with ⟨d2, hxz9, h⟩ | ⟨hxz9, h⟩ <;> cases hxz9
    · refine am_thIn (name := "java/lang/ArithmeticException") hX [] (0, 7, 10, 142) [] rfl (fun z hz => by cases hz) (by decide) (by decide) tw_1330 (am_castN_ArithmeticException) (fun p10 => ?_)
      replace h := h p10
      refine j_astore_n (lv' := [(2, .ref p10), (0, .ref a0), (1, .ref a1)]) hX eL_meanWaiting_10 rfl (by decide) rfl ?_
      refine j_iconst (v := (1 : Int32)) hX eL_meanWaiting_11 (by decide) ?_
      exact j_iret hX hM eL_meanWaiting_12 rfl h

set_option maxHeartbeats 4000000 in
set_option maxRecDepth 20000 in
theorem vL_loadShare_0 {X : am_Cx} {G : am_Gx} {d : Nat} {Q : am_Q} (hX : am_ok X rL_loadShare G (d + 1)) (hM : am_me X rL_loadShare Q) {bc bs : Nat}  {a0 : Nat} {a1 : Int32} {a2 : Nat} {M : am_Hp} (h : hp_T M (a0) = 7 ∧ (1 ≤ bc ∧ (6 ≤ bs ∧ (am_CT G d rX6_loadShare [.ref a0, .int a1] M 1 6 (fun oz9 M1 => (∃ f2 : UInt32, oz9 = .inl (some (.float f2)) ∧ (vf_n64 (FP.f2d f2) ∧ (hp_T M1 (a2) = 24 ∧ (vp_in (0 : Int32) (hp_N M1 a2) ∧ (∀ M9 : am_Hp, M9 = hp_sD M1 a2 ((0 : Int32)).toNatClampNeg (FP.f2d f2) → (Q (.inl (some (.int (0 : Int32)))) M9)))))) ∨ ((oz9 = .inr "java/lang/IndexOutOfBoundsException" ∧ ∀ p11 : Nat, Q (.inl (some (.int (1 : Int32)))) M1))))))) : am_J X 0 [(0, .ref a0), (1, .int a1), (2, .ref a2)] [] M bc bs := by
  refine j_aload_n hX eL_loadShare_0 2 rfl ?_
  refine j_iconst (v := (0 : Int32)) hX eL_loadShare_1 (by decide) ?_
  refine j_aload_n hX eL_loadShare_2 0 rfl ?_
  refine j_iload_n hX eL_loadShare_3 1 rfl ?_
  obtain ⟨t3, h⟩ := h
  obtain ⟨b4, b5, h⟩ := h
  refine j_callV (a := a0) (q := (RX6, TX6, 9)) (r' := rX6_loadShare) (As := [.int a1]) (rest := [.int (0 : Int32), .ref a2]) (d1 := d) hX eL_loadShare_4 mm_LiftGroupLaw_144 rfl t3 (by decide) rfl h rfl (Nat.le_refl _) b4 b5 (Nat.le_of_ble_eq_true rfl) (fun vz9 Mz9 qz9 => ?_) (fun Ez9 Mz9 qz9 => ?_)
  · obtain ⟨M1, eMz9⟩ : ∃ M1, M1 = Mz9 := ⟨_, rfl⟩; subst eMz9
    rcases qz9 with ⟨f2, hxz9, h⟩ | ⟨hxz9, h⟩ <;> cases hxz9
    obtain ⟨n6, h⟩ := h
    refine j_f2d hX eL_loadShare_7 n6 ?_
    obtain ⟨t7, h⟩ := h
    obtain ⟨i8, h⟩ := h
    refine j_dast hX eL_loadShare_8 t7 i8 ?_
    refine j_nmM (fun M9 eM9 => ?_)
    replace h := h M9 eM9
    have t10 : hp_T M9 (a2) = 24 := by rw [eM9]; exact t7
    refine j_goto hX 15 eL_loadShare_9 (by decide) ?_
    refine j_iconst (v := (0 : Int32)) hX eL_loadShare_15 (by decide) ?_
    exact j_iret hX hM eL_loadShare_16 rfl h
  · obtain ⟨M1, eMz9⟩ : ∃ M1, M1 = Mz9 := ⟨_, rfl⟩; subst eMz9
    rcases qz9 with ⟨f2, hxz9, h⟩ | ⟨hxz9, h⟩ <;> cases hxz9
    · refine am_thIn (name := "java/lang/IndexOutOfBoundsException") hX [] (0, 9, 12, 21) [] rfl (fun z hz => by cases hz) (by decide) (by decide) tw_888 (am_castN_IndexOutOfBoundsException) (fun p11 => ?_)
      replace h := h p11
      refine j_astore_n (lv' := [(3, .ref p11), (0, .ref a0), (1, .int a1), (2, .ref a2)]) hX eL_loadShare_12 rfl (by decide) rfl ?_
      refine j_iconst (v := (1 : Int32)) hX eL_loadShare_13 (by decide) ?_
      exact j_iret hX hM eL_loadShare_14 rfl h

set_option maxHeartbeats 4000000 in
set_option maxRecDepth 20000 in
theorem vL_renderCar_0 {X : am_Cx} {G : am_Gx} {d : Nat} {Q : am_Q} (hX : am_ok X rL_renderCar G (d + 1)) (hM : am_me X rL_renderCar Q) {bc bs : Nat}  {a0 : Nat} {a1 : Int32} {a2 : Nat} {M : am_Hp} (h : hp_T M (a0) = 7 ∧ (10 ≤ bc ∧ (906 ≤ bs ∧ (am_CT G d rX6_renderCar [.ref a0, .int a1] M 10 906 (fun oz9 M1 => (∃ v2 : Int32, oz9 = .inl (some (.int v2)) ∧ (hp_T M1 (a2) = 23 ∧ (vp_in (0 : Int32) (hp_N M1 a2) ∧ (∀ M8 : am_Hp, M8 = hp_sL M1 a2 ((0 : Int32)).toNatClampNeg ((v2).toInt64) → (Q (.inl (some (.int (0 : Int32)))) M8))))) ∨ ((oz9 = .inr "java/lang/IndexOutOfBoundsException" ∧ ∀ p10 : Nat, Q (.inl (some (.int (1 : Int32)))) M1))))))) : am_J X 0 [(0, .ref a0), (1, .int a1), (2, .ref a2)] [] M bc bs := by
  refine j_aload_n hX eL_renderCar_0 2 rfl ?_
  refine j_iconst (v := (0 : Int32)) hX eL_renderCar_1 (by decide) ?_
  refine j_aload_n hX eL_renderCar_2 0 rfl ?_
  refine j_iload_n hX eL_renderCar_3 1 rfl ?_
  obtain ⟨t3, h⟩ := h
  obtain ⟨b4, b5, h⟩ := h
  refine j_callV (a := a0) (q := (RX6, TX6, 9)) (r' := rX6_renderCar) (As := [.int a1]) (rest := [.int (0 : Int32), .ref a2]) (d1 := d) hX eL_renderCar_4 mm_LiftGroupLaw_148 rfl t3 (by decide) rfl h rfl (Nat.le_refl _) b4 b5 (Nat.le_of_ble_eq_true rfl) (fun vz9 Mz9 qz9 => ?_) (fun Ez9 Mz9 qz9 => ?_)
  · obtain ⟨M1, eMz9⟩ : ∃ M1, M1 = Mz9 := ⟨_, rfl⟩; subst eMz9
    rcases qz9 with ⟨v2, hxz9, h⟩ | ⟨hxz9, h⟩ <;> cases hxz9
    refine j_i2l hX eL_renderCar_7 ?_
    obtain ⟨t6, h⟩ := h
    obtain ⟨i7, h⟩ := h
    refine j_last hX eL_renderCar_8 t6 i7 ?_
    refine j_nmM (fun M8 eM8 => ?_)
    replace h := h M8 eM8
    have t9 : hp_T M8 (a2) = 23 := by rw [eM8]; exact t6
    refine j_goto hX 15 eL_renderCar_9 (by decide) ?_
    refine j_iconst (v := (0 : Int32)) hX eL_renderCar_15 (by decide) ?_
    exact j_iret hX hM eL_renderCar_16 rfl h
  · obtain ⟨M1, eMz9⟩ : ∃ M1, M1 = Mz9 := ⟨_, rfl⟩; subst eMz9
    rcases qz9 with ⟨v2, hxz9, h⟩ | ⟨hxz9, h⟩ <;> cases hxz9
    · refine am_thIn (name := "java/lang/IndexOutOfBoundsException") hX [] (0, 9, 12, 21) [] rfl (fun z hz => by cases hz) (by decide) (by decide) tw_888 (am_castN_IndexOutOfBoundsException) (fun p10 => ?_)
      replace h := h p10
      refine j_astore_n (lv' := [(3, .ref p10), (0, .ref a0), (1, .int a1), (2, .ref a2)]) hX eL_renderCar_12 rfl (by decide) rfl ?_
      refine j_iconst (v := (1 : Int32)) hX eL_renderCar_13 (by decide) ?_
      exact j_iret hX hM eL_renderCar_14 rfl h

set_option maxHeartbeats 4000000 in
set_option maxRecDepth 20000 in
theorem vL_outputAt_0 {X : am_Cx} {G : am_Gx} {d : Nat} {Q : am_Q} (hX : am_ok X rL_outputAt G (d + 1)) (hM : am_me X rL_outputAt Q) {bc bs : Nat}  {a0 : Nat} {a1 : Int32} {a2 : Nat} {M : am_Hp} (h : hp_T M (a0) = 7 ∧ (1 ≤ bc ∧ (6 ≤ bs ∧ (am_CT G d rX6_outputAt [.ref a0, .int a1] M 1 6 (fun oz9 M1 => (∃ v2 : Int32, oz9 = .inl (some (.int v2)) ∧ (hp_T M1 (a2) = 23 ∧ (vp_in (0 : Int32) (hp_N M1 a2) ∧ (∀ M8 : am_Hp, M8 = hp_sL M1 a2 ((0 : Int32)).toNatClampNeg ((v2).toInt64) → (Q (.inl (some (.int (0 : Int32)))) M8))))) ∨ ((oz9 = .inr "java/lang/IndexOutOfBoundsException" ∧ ∀ p10 : Nat, Q (.inl (some (.int (1 : Int32)))) M1))))))) : am_J X 0 [(0, .ref a0), (1, .int a1), (2, .ref a2)] [] M bc bs := by
  refine j_aload_n hX eL_outputAt_0 2 rfl ?_
  refine j_iconst (v := (0 : Int32)) hX eL_outputAt_1 (by decide) ?_
  refine j_aload_n hX eL_outputAt_2 0 rfl ?_
  refine j_iload_n hX eL_outputAt_3 1 rfl ?_
  obtain ⟨t3, h⟩ := h
  obtain ⟨b4, b5, h⟩ := h
  refine j_callV (a := a0) (q := (RX6, TX6, 9)) (r' := rX6_outputAt) (As := [.int a1]) (rest := [.int (0 : Int32), .ref a2]) (d1 := d) hX eL_outputAt_4 mm_LiftGroupLaw_151 rfl t3 (by decide) rfl h rfl (Nat.le_refl _) b4 b5 (Nat.le_of_ble_eq_true rfl) (fun vz9 Mz9 qz9 => ?_) (fun Ez9 Mz9 qz9 => ?_)
  · obtain ⟨M1, eMz9⟩ : ∃ M1, M1 = Mz9 := ⟨_, rfl⟩; subst eMz9
    rcases qz9 with ⟨v2, hxz9, h⟩ | ⟨hxz9, h⟩ <;> cases hxz9
    refine j_i2l hX eL_outputAt_7 ?_
    obtain ⟨t6, h⟩ := h
    obtain ⟨i7, h⟩ := h
    refine j_last hX eL_outputAt_8 t6 i7 ?_
    refine j_nmM (fun M8 eM8 => ?_)
    replace h := h M8 eM8
    have t9 : hp_T M8 (a2) = 23 := by rw [eM8]; exact t6
    refine j_goto hX 15 eL_outputAt_9 (by decide) ?_
    refine j_iconst (v := (0 : Int32)) hX eL_outputAt_15 (by decide) ?_
    exact j_iret hX hM eL_outputAt_16 rfl h
  · obtain ⟨M1, eMz9⟩ : ∃ M1, M1 = Mz9 := ⟨_, rfl⟩; subst eMz9
    rcases qz9 with ⟨v2, hxz9, h⟩ | ⟨hxz9, h⟩ <;> cases hxz9
    · refine am_thIn (name := "java/lang/IndexOutOfBoundsException") hX [] (0, 9, 12, 21) [] rfl (fun z hz => by cases hz) (by decide) (by decide) tw_888 (am_castN_IndexOutOfBoundsException) (fun p10 => ?_)
      replace h := h p10
      refine j_astore_n (lv' := [(3, .ref p10), (0, .ref a0), (1, .int a1), (2, .ref a2)]) hX eL_outputAt_12 rfl (by decide) rfl ?_
      refine j_iconst (v := (1 : Int32)) hX eL_outputAt_13 (by decide) ?_
      exact j_iret hX hM eL_outputAt_14 rfl h

set_option maxHeartbeats 4000000 in
set_option maxRecDepth 20000 in
theorem vL_type_0 {X : am_Cx} {G : am_Gx} {d : Nat} {Q : am_Q} (hX : am_ok X rL_type G (d + 1)) (hM : am_me X rL_type Q) {bc bs : Nat}  {a0 : Nat} {a1 : Int32} {a2 : Nat} {M : am_Hp} (h : hp_T M (a0) = 7 ∧ (1 ≤ bc ∧ (100 ≤ bs ∧ (am_CT G d rX6_type [.ref a0, .int a1] M 1 100 (fun oz9 M1 => (∃ v2 : Int32, oz9 = .inl (some (.int v2)) ∧ (hp_T M1 (a2) = 23 ∧ (vp_in (0 : Int32) (hp_N M1 a2) ∧ (∀ M8 : am_Hp, M8 = hp_sL M1 a2 ((0 : Int32)).toNatClampNeg ((v2).toInt64) → (Q (.inl (some (.int (0 : Int32)))) M8))))) ∨ ((oz9 = .inr "java/lang/IllegalArgumentException" ∧ ∀ p10 : Nat, Q (.inl (some (.int (1 : Int32)))) M1)) ∨ ((oz9 = .inr "java/lang/IllegalStateException" ∧ ∀ p11 : Nat, Q (.inl (some (.int (2 : Int32)))) M1))))))) : am_J X 0 [(0, .ref a0), (1, .int a1), (2, .ref a2)] [] M bc bs := by
  refine j_aload_n hX eL_type_0 2 rfl ?_
  refine j_iconst (v := (0 : Int32)) hX eL_type_1 (by decide) ?_
  refine j_aload_n hX eL_type_2 0 rfl ?_
  refine j_iload_n hX eL_type_3 1 rfl ?_
  obtain ⟨t3, h⟩ := h
  obtain ⟨b4, b5, h⟩ := h
  refine j_callV (a := a0) (q := (RX6, TX6, 9)) (r' := rX6_type) (As := [.int a1]) (rest := [.int (0 : Int32), .ref a2]) (d1 := d) hX eL_type_4 mm_LiftGroupLaw_155 rfl t3 (by decide) rfl h rfl (Nat.le_refl _) b4 b5 (Nat.le_of_ble_eq_true rfl) (fun vz9 Mz9 qz9 => ?_) (fun Ez9 Mz9 qz9 => ?_)
  · obtain ⟨M1, eMz9⟩ : ∃ M1, M1 = Mz9 := ⟨_, rfl⟩; subst eMz9
    rcases qz9 with ⟨v2, hxz9, h⟩ | ⟨hxz9, h⟩ | ⟨hxz9, h⟩ <;> cases hxz9
    refine j_i2l hX eL_type_7 ?_
    obtain ⟨t6, h⟩ := h
    obtain ⟨i7, h⟩ := h
    refine j_last hX eL_type_8 t6 i7 ?_
    refine j_nmM (fun M8 eM8 => ?_)
    replace h := h M8 eM8
    have t9 : hp_T M8 (a2) = 23 := by rw [eM8]; exact t6
    refine j_goto hX 18 eL_type_9 (by decide) ?_
    refine j_iconst (v := (0 : Int32)) hX eL_type_18 (by decide) ?_
    exact j_iret hX hM eL_type_19 rfl h
  · obtain ⟨M1, eMz9⟩ : ∃ M1, M1 = Mz9 := ⟨_, rfl⟩; subst eMz9
    rcases qz9 with ⟨v2, hxz9, h⟩ | ⟨hxz9, h⟩ | ⟨hxz9, h⟩ <;> cases hxz9
    · refine am_thIn (name := "java/lang/IllegalArgumentException") hX [] (0, 9, 12, 13) [(0, 9, 15, 15)] rfl (fun z hz => by cases hz) (by decide) (by decide) tw_804 (am_castN_IllegalArgumentException) (fun p10 => ?_)
      replace h := h p10
      refine j_astore_n (lv' := [(3, .ref p10), (0, .ref a0), (1, .int a1), (2, .ref a2)]) hX eL_type_12 rfl (by decide) rfl ?_
      refine j_iconst (v := (1 : Int32)) hX eL_type_13 (by decide) ?_
      exact j_iret hX hM eL_type_14 rfl h
    · refine am_thIn (name := "java/lang/IllegalStateException") hX [(0, 9, 12, 13)] (0, 9, 15, 15) [] rfl (fun z hz => by simp only [List.mem_cons, List.not_mem_nil, or_false] at hz; rcases hz with rfl; exact ⟨by decide, _, tw_804, by decide⟩) (by decide) (by decide) tw_805 (am_castN_IllegalStateException) (fun p11 => ?_)
      replace h := h p11
      refine j_astore_n (lv' := [(3, .ref p11), (0, .ref a0), (1, .int a1), (2, .ref a2)]) hX eL_type_15 rfl (by decide) rfl ?_
      refine j_iconst (v := (2 : Int32)) hX eL_type_16 (by decide) ?_
      exact j_iret hX hM eL_type_17 rfl h

set_option maxHeartbeats 4000000 in
set_option maxRecDepth 20000 in
theorem vL_runScript_0 {X : am_Cx} {G : am_Gx} {d : Nat} {Q : am_Q} (hX : am_ok X rL_runScript G (d + 1)) (hM : am_me X rL_runScript Q) {bc bs : Nat}  {a0 : Nat} {a1 : Nat} {M : am_Hp} (h : hp_T M (a0) = 7 ∧ (1 ≤ bc ∧ (6 ≤ bs ∧ (am_CT G d rX6_runScript [.ref a0] M 1 6 (fun oz9 M1 => (∃ v2 : Int32, oz9 = .inl (some (.int v2)) ∧ (hp_T M1 (a1) = 23 ∧ (vp_in (0 : Int32) (hp_N M1 a1) ∧ (∀ M8 : am_Hp, M8 = hp_sL M1 a1 ((0 : Int32)).toNatClampNeg ((v2).toInt64) → (Q (.inl (some (.int (0 : Int32)))) M8))))) ∨ ((oz9 = .inr "java/lang/IllegalArgumentException" ∧ ∀ p10 : Nat, Q (.inl (some (.int (1 : Int32)))) M1)) ∨ ((oz9 = .inr "java/lang/IllegalStateException" ∧ ∀ p11 : Nat, Q (.inl (some (.int (2 : Int32)))) M1))))))) : am_J X 0 [(0, .ref a0), (1, .ref a1)] [] M bc bs := by
  refine j_aload_n hX eL_runScript_0 1 rfl ?_
  refine j_iconst (v := (0 : Int32)) hX eL_runScript_1 (by decide) ?_
  refine j_aload_n hX eL_runScript_2 0 rfl ?_
  obtain ⟨t3, h⟩ := h
  obtain ⟨b4, b5, h⟩ := h
  refine j_callV (a := a0) (q := (RX6, TX6, 9)) (r' := rX6_runScript) (As := []) (rest := [.int (0 : Int32), .ref a1]) (d1 := d) hX eL_runScript_3 mm_LiftGroupLaw_159 rfl t3 (by decide) rfl h rfl (Nat.le_refl _) b4 b5 (Nat.le_of_ble_eq_true rfl) (fun vz9 Mz9 qz9 => ?_) (fun Ez9 Mz9 qz9 => ?_)
  · obtain ⟨M1, eMz9⟩ : ∃ M1, M1 = Mz9 := ⟨_, rfl⟩; subst eMz9
    rcases qz9 with ⟨v2, hxz9, h⟩ | ⟨hxz9, h⟩ | ⟨hxz9, h⟩ <;> cases hxz9
    refine j_i2l hX eL_runScript_6 ?_
    obtain ⟨t6, h⟩ := h
    obtain ⟨i7, h⟩ := h
    refine j_last hX eL_runScript_7 t6 i7 ?_
    refine j_nmM (fun M8 eM8 => ?_)
    replace h := h M8 eM8
    have t9 : hp_T M8 (a1) = 23 := by rw [eM8]; exact t6
    refine j_goto hX 17 eL_runScript_8 (by decide) ?_
    refine j_iconst (v := (0 : Int32)) hX eL_runScript_17 (by decide) ?_
    exact j_iret hX hM eL_runScript_18 rfl h
  · obtain ⟨M1, eMz9⟩ : ∃ M1, M1 = Mz9 := ⟨_, rfl⟩; subst eMz9
    rcases qz9 with ⟨v2, hxz9, h⟩ | ⟨hxz9, h⟩ | ⟨hxz9, h⟩ <;> cases hxz9
    · refine am_thIn (name := "java/lang/IllegalArgumentException") hX [] (0, 8, 11, 13) [(0, 8, 14, 15)] rfl (fun z hz => by cases hz) (by decide) (by decide) tw_804 (am_castN_IllegalArgumentException) (fun p10 => ?_)
      replace h := h p10
      refine j_astore_n (lv' := [(2, .ref p10), (0, .ref a0), (1, .ref a1)]) hX eL_runScript_11 rfl (by decide) rfl ?_
      refine j_iconst (v := (1 : Int32)) hX eL_runScript_12 (by decide) ?_
      exact j_iret hX hM eL_runScript_13 rfl h
    · refine am_thIn (name := "java/lang/IllegalStateException") hX [(0, 8, 11, 13)] (0, 8, 14, 15) [] rfl (fun z hz => by simp only [List.mem_cons, List.not_mem_nil, or_false] at hz; rcases hz with rfl; exact ⟨by decide, _, tw_804, by decide⟩) (by decide) (by decide) tw_805 (am_castN_IllegalStateException) (fun p11 => ?_)
      replace h := h p11
      refine j_astore_n (lv' := [(2, .ref p11), (0, .ref a0), (1, .ref a1)]) hX eL_runScript_14 rfl (by decide) rfl ?_
      refine j_iconst (v := (2 : Int32)) hX eL_runScript_15 (by decide) ?_
      exact j_iret hX hM eL_runScript_16 rfl h

set_option maxHeartbeats 4000000 in
set_option maxRecDepth 20000 in
theorem vL_errorPosition_0 {X : am_Cx} {G : am_Gx} {d : Nat} {Q : am_Q} (hX : am_ok X rL_errorPosition G (d + 1)) (hM : am_me X rL_errorPosition Q) {bc bs : Nat}  {a0 : Nat} {a1 : Nat} {M : am_Hp} (h : hp_T M (a0) = 7 ∧ (1 ≤ bc ∧ (6 ≤ bs ∧ (am_CT G d rX6_errorPosition [.ref a0] M 1 6 (fun oz9 M1 => (∃ v2 : Int32, oz9 = .inl (some (.int v2)) ∧ (hp_T M1 (a1) = 23 ∧ (vp_in (0 : Int32) (hp_N M1 a1) ∧ (∀ M8 : am_Hp, M8 = hp_sL M1 a1 ((0 : Int32)).toNatClampNeg ((v2).toInt64) → (Q (.inl (some (.int (0 : Int32)))) M8))))) ∨ ((oz9 = .inr "java/util/NoSuchElementException" ∧ ∀ p10 : Nat, Q (.inl (some (.int (1 : Int32)))) M1))))))) : am_J X 0 [(0, .ref a0), (1, .ref a1)] [] M bc bs := by
  refine j_aload_n hX eL_errorPosition_0 1 rfl ?_
  refine j_iconst (v := (0 : Int32)) hX eL_errorPosition_1 (by decide) ?_
  refine j_aload_n hX eL_errorPosition_2 0 rfl ?_
  obtain ⟨t3, h⟩ := h
  obtain ⟨b4, b5, h⟩ := h
  refine j_callV (a := a0) (q := (RX6, TX6, 9)) (r' := rX6_errorPosition) (As := []) (rest := [.int (0 : Int32), .ref a1]) (d1 := d) hX eL_errorPosition_3 mm_LiftGroupLaw_163 rfl t3 (by decide) rfl h rfl (Nat.le_refl _) b4 b5 (Nat.le_of_ble_eq_true rfl) (fun vz9 Mz9 qz9 => ?_) (fun Ez9 Mz9 qz9 => ?_)
  · obtain ⟨M1, eMz9⟩ : ∃ M1, M1 = Mz9 := ⟨_, rfl⟩; subst eMz9
    rcases qz9 with ⟨v2, hxz9, h⟩ | ⟨hxz9, h⟩ <;> cases hxz9
    refine j_i2l hX eL_errorPosition_6 ?_
    obtain ⟨t6, h⟩ := h
    obtain ⟨i7, h⟩ := h
    refine j_last hX eL_errorPosition_7 t6 i7 ?_
    refine j_nmM (fun M8 eM8 => ?_)
    replace h := h M8 eM8
    have t9 : hp_T M8 (a1) = 23 := by rw [eM8]; exact t6
    refine j_goto hX 14 eL_errorPosition_8 (by decide) ?_
    refine j_iconst (v := (0 : Int32)) hX eL_errorPosition_14 (by decide) ?_
    exact j_iret hX hM eL_errorPosition_15 rfl h
  · obtain ⟨M1, eMz9⟩ : ∃ M1, M1 = Mz9 := ⟨_, rfl⟩; subst eMz9
    rcases qz9 with ⟨v2, hxz9, h⟩ | ⟨hxz9, h⟩ <;> cases hxz9
    · refine am_thIn (name := "java/util/NoSuchElementException") hX [] (0, 8, 11, 79) [] rfl (fun z hz => by cases hz) (by decide) (by decide) tw_1116 (am_castN_NoSuchElementException) (fun p10 => ?_)
      replace h := h p10
      refine j_astore_n (lv' := [(2, .ref p10), (0, .ref a0), (1, .ref a1)]) hX eL_errorPosition_11 rfl (by decide) rfl ?_
      refine j_iconst (v := (1 : Int32)) hX eL_errorPosition_12 (by decide) ?_
      exact j_iret hX hM eL_errorPosition_13 rfl h

set_option maxHeartbeats 4000000 in
set_option maxRecDepth 20000 in
theorem vL_failedCommand_0 {X : am_Cx} {G : am_Gx} {d : Nat} {Q : am_Q} (hX : am_ok X rL_failedCommand G (d + 1)) (hM : am_me X rL_failedCommand Q) {bc bs : Nat}  {a0 : Nat} {a1 : Nat} {M : am_Hp} (h : hp_T M (a0) = 7 ∧ (1 ≤ bc ∧ (6 ≤ bs ∧ (am_CT G d rX6_failedCommand [.ref a0] M 1 6 (fun oz9 M1 => (∃ v2 : Int32, oz9 = .inl (some (.int v2)) ∧ (hp_T M1 (a1) = 23 ∧ (vp_in (0 : Int32) (hp_N M1 a1) ∧ (∀ M8 : am_Hp, M8 = hp_sL M1 a1 ((0 : Int32)).toNatClampNeg ((v2).toInt64) → (Q (.inl (some (.int (0 : Int32)))) M8))))) ∨ ((oz9 = .inr "java/util/NoSuchElementException" ∧ ∀ p10 : Nat, Q (.inl (some (.int (1 : Int32)))) M1))))))) : am_J X 0 [(0, .ref a0), (1, .ref a1)] [] M bc bs := by
  refine j_aload_n hX eL_failedCommand_0 1 rfl ?_
  refine j_iconst (v := (0 : Int32)) hX eL_failedCommand_1 (by decide) ?_
  refine j_aload_n hX eL_failedCommand_2 0 rfl ?_
  obtain ⟨t3, h⟩ := h
  obtain ⟨b4, b5, h⟩ := h
  refine j_callV (a := a0) (q := (RX6, TX6, 9)) (r' := rX6_failedCommand) (As := []) (rest := [.int (0 : Int32), .ref a1]) (d1 := d) hX eL_failedCommand_3 mm_LiftGroupLaw_166 rfl t3 (by decide) rfl h rfl (Nat.le_refl _) b4 b5 (Nat.le_of_ble_eq_true rfl) (fun vz9 Mz9 qz9 => ?_) (fun Ez9 Mz9 qz9 => ?_)
  · obtain ⟨M1, eMz9⟩ : ∃ M1, M1 = Mz9 := ⟨_, rfl⟩; subst eMz9
    rcases qz9 with ⟨v2, hxz9, h⟩ | ⟨hxz9, h⟩ <;> cases hxz9
    refine j_i2l hX eL_failedCommand_6 ?_
    obtain ⟨t6, h⟩ := h
    obtain ⟨i7, h⟩ := h
    refine j_last hX eL_failedCommand_7 t6 i7 ?_
    refine j_nmM (fun M8 eM8 => ?_)
    replace h := h M8 eM8
    have t9 : hp_T M8 (a1) = 23 := by rw [eM8]; exact t6
    refine j_goto hX 14 eL_failedCommand_8 (by decide) ?_
    refine j_iconst (v := (0 : Int32)) hX eL_failedCommand_14 (by decide) ?_
    exact j_iret hX hM eL_failedCommand_15 rfl h
  · obtain ⟨M1, eMz9⟩ : ∃ M1, M1 = Mz9 := ⟨_, rfl⟩; subst eMz9
    rcases qz9 with ⟨v2, hxz9, h⟩ | ⟨hxz9, h⟩ <;> cases hxz9
    · refine am_thIn (name := "java/util/NoSuchElementException") hX [] (0, 8, 11, 79) [] rfl (fun z hz => by cases hz) (by decide) (by decide) tw_1116 (am_castN_NoSuchElementException) (fun p10 => ?_)
      replace h := h p10
      refine j_astore_n (lv' := [(2, .ref p10), (0, .ref a0), (1, .ref a1)]) hX eL_failedCommand_11 rfl (by decide) rfl ?_
      refine j_iconst (v := (1 : Int32)) hX eL_failedCommand_12 (by decide) ?_
      exact j_iret hX hM eL_failedCommand_13 rfl h

set_option maxHeartbeats 4000000 in
set_option maxRecDepth 20000 in
theorem vL_undo_0 {X : am_Cx} {G : am_Gx} {d : Nat} {Q : am_Q} (hX : am_ok X rL_undo G (d + 1)) (hM : am_me X rL_undo Q) {bc bs : Nat}  {a0 : Nat} {a1 : Nat} {M : am_Hp} (h : hp_T M (a0) = 7 ∧ (1 ≤ bc ∧ (6 ≤ bs ∧ (am_CT G d rX6_undo [.ref a0] M 1 6 (fun oz9 M1 => (∃ v2 : Int32, oz9 = .inl (some (.int v2)) ∧ (hp_T M1 (a1) = 23 ∧ (vp_in (0 : Int32) (hp_N M1 a1) ∧ (∀ M8 : am_Hp, M8 = hp_sL M1 a1 ((0 : Int32)).toNatClampNeg ((v2).toInt64) → (Q (.inl (some (.int (0 : Int32)))) M8))))) ∨ ((oz9 = .inr "java/lang/IllegalStateException" ∧ ∀ p10 : Nat, Q (.inl (some (.int (1 : Int32)))) M1))))))) : am_J X 0 [(0, .ref a0), (1, .ref a1)] [] M bc bs := by
  refine j_aload_n hX eL_undo_0 1 rfl ?_
  refine j_iconst (v := (0 : Int32)) hX eL_undo_1 (by decide) ?_
  refine j_aload_n hX eL_undo_2 0 rfl ?_
  obtain ⟨t3, h⟩ := h
  obtain ⟨b4, b5, h⟩ := h
  refine j_callV (a := a0) (q := (RX6, TX6, 9)) (r' := rX6_undo) (As := []) (rest := [.int (0 : Int32), .ref a1]) (d1 := d) hX eL_undo_3 mm_LiftGroupLaw_169 rfl t3 (by decide) rfl h rfl (Nat.le_refl _) b4 b5 (Nat.le_of_ble_eq_true rfl) (fun vz9 Mz9 qz9 => ?_) (fun Ez9 Mz9 qz9 => ?_)
  · obtain ⟨M1, eMz9⟩ : ∃ M1, M1 = Mz9 := ⟨_, rfl⟩; subst eMz9
    rcases qz9 with ⟨v2, hxz9, h⟩ | ⟨hxz9, h⟩ <;> cases hxz9
    refine j_i2l hX eL_undo_6 ?_
    obtain ⟨t6, h⟩ := h
    obtain ⟨i7, h⟩ := h
    refine j_last hX eL_undo_7 t6 i7 ?_
    refine j_nmM (fun M8 eM8 => ?_)
    replace h := h M8 eM8
    have t9 : hp_T M8 (a1) = 23 := by rw [eM8]; exact t6
    refine j_goto hX 14 eL_undo_8 (by decide) ?_
    refine j_iconst (v := (0 : Int32)) hX eL_undo_14 (by decide) ?_
    exact j_iret hX hM eL_undo_15 rfl h
  · obtain ⟨M1, eMz9⟩ : ∃ M1, M1 = Mz9 := ⟨_, rfl⟩; subst eMz9
    rcases qz9 with ⟨v2, hxz9, h⟩ | ⟨hxz9, h⟩ <;> cases hxz9
    · refine am_thIn (name := "java/lang/IllegalStateException") hX [] (0, 8, 11, 15) [] rfl (fun z hz => by cases hz) (by decide) (by decide) tw_805 (am_castN_IllegalStateException) (fun p10 => ?_)
      replace h := h p10
      refine j_astore_n (lv' := [(2, .ref p10), (0, .ref a0), (1, .ref a1)]) hX eL_undo_11 rfl (by decide) rfl ?_
      refine j_iconst (v := (1 : Int32)) hX eL_undo_12 (by decide) ?_
      exact j_iret hX hM eL_undo_13 rfl h

set_option maxHeartbeats 4000000 in
set_option maxRecDepth 20000 in
theorem vL_restore_0 {X : am_Cx} {G : am_Gx} {d : Nat} {Q : am_Q} (hX : am_ok X rL_restore G (d + 1)) (hM : am_me X rL_restore Q) {bc bs : Nat}  {a0 : Nat} {a1 : Nat} {M : am_Hp} (h : hp_T M (a0) = 7 ∧ (1 ≤ bc ∧ (6 ≤ bs ∧ (am_CT G d rX6_restore [.ref a0] M 1 6 (fun oz9 M1 => (∃ v2 : Int32, oz9 = .inl (some (.int v2)) ∧ (hp_T M1 (a1) = 23 ∧ (vp_in (0 : Int32) (hp_N M1 a1) ∧ (∀ M8 : am_Hp, M8 = hp_sL M1 a1 ((0 : Int32)).toNatClampNeg ((v2).toInt64) → (Q (.inl (some (.int (0 : Int32)))) M8))))) ∨ ((oz9 = .inr "java/lang/IllegalStateException" ∧ ∀ p10 : Nat, Q (.inl (some (.int (1 : Int32)))) M1))))))) : am_J X 0 [(0, .ref a0), (1, .ref a1)] [] M bc bs := by
  refine j_aload_n hX eL_restore_0 1 rfl ?_
  refine j_iconst (v := (0 : Int32)) hX eL_restore_1 (by decide) ?_
  refine j_aload_n hX eL_restore_2 0 rfl ?_
  obtain ⟨t3, h⟩ := h
  obtain ⟨b4, b5, h⟩ := h
  refine j_callV (a := a0) (q := (RX6, TX6, 9)) (r' := rX6_restore) (As := []) (rest := [.int (0 : Int32), .ref a1]) (d1 := d) hX eL_restore_3 mm_LiftGroupLaw_172 rfl t3 (by decide) rfl h rfl (Nat.le_refl _) b4 b5 (Nat.le_of_ble_eq_true rfl) (fun vz9 Mz9 qz9 => ?_) (fun Ez9 Mz9 qz9 => ?_)
  · obtain ⟨M1, eMz9⟩ : ∃ M1, M1 = Mz9 := ⟨_, rfl⟩; subst eMz9
    rcases qz9 with ⟨v2, hxz9, h⟩ | ⟨hxz9, h⟩ <;> cases hxz9
    refine j_i2l hX eL_restore_6 ?_
    obtain ⟨t6, h⟩ := h
    obtain ⟨i7, h⟩ := h
    refine j_last hX eL_restore_7 t6 i7 ?_
    refine j_nmM (fun M8 eM8 => ?_)
    replace h := h M8 eM8
    have t9 : hp_T M8 (a1) = 23 := by rw [eM8]; exact t6
    refine j_goto hX 14 eL_restore_8 (by decide) ?_
    refine j_iconst (v := (0 : Int32)) hX eL_restore_14 (by decide) ?_
    exact j_iret hX hM eL_restore_15 rfl h
  · obtain ⟨M1, eMz9⟩ : ∃ M1, M1 = Mz9 := ⟨_, rfl⟩; subst eMz9
    rcases qz9 with ⟨v2, hxz9, h⟩ | ⟨hxz9, h⟩ <;> cases hxz9
    · refine am_thIn (name := "java/lang/IllegalStateException") hX [] (0, 8, 11, 15) [] rfl (fun z hz => by cases hz) (by decide) (by decide) tw_805 (am_castN_IllegalStateException) (fun p10 => ?_)
      replace h := h p10
      refine j_astore_n (lv' := [(2, .ref p10), (0, .ref a0), (1, .ref a1)]) hX eL_restore_11 rfl (by decide) rfl ?_
      refine j_iconst (v := (1 : Int32)) hX eL_restore_12 (by decide) ?_
      exact j_iret hX hM eL_restore_13 rfl h
