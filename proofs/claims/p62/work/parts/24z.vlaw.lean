set_option maxHeartbeats 4000000 in
set_option maxRecDepth 20000 in
theorem vL_law_0 {X : am_Cx} {G : am_Gx} {d : Nat} (hX : am_ok X rL_law G (d + 1)) (hret : ∀ {pc : Nat} {lv : List (Nat × Value)} {M : am_Hp} {bc bs : Nat}, decode rL_law.2.1 pc = .ok (.ireturn, 1) → am_J X pc lv [.int (1 : Int32)] M bc bs) {bc bs : Nat} (R10 : Nat → Nat → Nat → am_Hp → Nat → Nat → Prop) (k10 : ∀ (x0 : Nat) (x1 : Nat) (x2 : Nat) (M : am_Hp) (bc bs : Nat), R10 x0 x1 x2 M bc bs → am_J X 10 [(0, .ref x0), (1, .ref x1), (2, .ref x2)] [] M bc bs) {a0 : Nat} {M : am_Hp} (h : 400 ≤ bc ∧ (3000 ≤ bs ∧ (am_CT G d rL_build [.ref a0] M 400 3000 (fun oz9 M1 => ∃ p2 : Nat, oz9 = .inl (some (.ref p2)) ∧ (400 ≤ (bc - 400) ∧ (3000 ≤ (bs - 3000) ∧ (am_CT G d rL_build [.ref a0] M1 400 3000 (fun oz9 M5 => ∃ p6 : Nat, oz9 = .inl (some (.ref p6)) ∧ (R10 a0 p2 p6 M5 ((bc - 400) - 400) ((bs - 3000) - 3000)))))))))) : am_J X 0 [(0, .ref a0)] [] M bc bs := by
  refine j_aload_n hX eL_law_0 0 rfl ?_
  obtain ⟨b3, b4, h⟩ := h
  refine j_callS (r' := rL_build) (As := [.ref a0]) (rest := []) (d1 := d) hX eL_law_1 mm_LiftGroupLaw_175 rfl rfl h rfl (Nat.le_refl _) b3 b4 (Nat.le_of_ble_eq_true rfl) (fun vz9 Mz9 qz9 => ?_) (fun Ez9 Mz9 qz9 => ?_)
  · obtain ⟨M1, eMz9⟩ : ∃ M1, M1 = Mz9 := ⟨_, rfl⟩; subst eMz9
    obtain ⟨p2, hxz9, h⟩ := qz9
    cases hxz9
    refine j_astore_n (lv' := [(1, .ref p2), (0, .ref a0)]) hX eL_law_4 rfl (by decide) rfl ?_
    refine j_aload_n hX eL_law_5 1 rfl ?_
    obtain ⟨b7, b8, h⟩ := h
    refine j_callS (r' := rL_build) (As := [.ref a0]) (rest := []) (d1 := d) hX eL_law_6 mm_LiftGroupLaw_175 rfl rfl h rfl (Nat.le_refl _) b7 b8 (Nat.le_of_ble_eq_true rfl) (fun vz9 Mz9 qz9 => ?_) (fun Ez9 Mz9 qz9 => ?_)
    · obtain ⟨M5, eMz9⟩ : ∃ M5, M5 = Mz9 := ⟨_, rfl⟩; subst eMz9
      obtain ⟨p6, hxz9, h⟩ := qz9
      cases hxz9
      refine j_astore_n (lv' := [(2, .ref p6), (1, .ref p2), (0, .ref a0)]) hX eL_law_9 rfl (by decide) rfl ?_
      exact j_sub [2, 1, 0] rfl (k10 _ _ _ _ _ _ h)
    · obtain ⟨p6, hxz9, h⟩ := qz9
      cases hxz9
  · obtain ⟨p2, hxz9, h⟩ := qz9
    cases hxz9
set_option maxHeartbeats 4000000 in
set_option maxRecDepth 20000 in
theorem vL_law_10 {X : am_Cx} {G : am_Gx} {d : Nat} (hX : am_ok X rL_law G (d + 1)) (hret : ∀ {pc : Nat} {lv : List (Nat × Value)} {M : am_Hp} {bc bs : Nat}, decode rL_law.2.1 pc = .ok (.ireturn, 1) → am_J X pc lv [.int (1 : Int32)] M bc bs) {bc bs : Nat} (R35 : Nat → Nat → Nat → Int32 → Int32 → am_Hp → Nat → Nat → Prop) (k35 : ∀ (x0 : Nat) (x1 : Nat) (x2 : Nat) (x3 : Int32) (x4 : Int32) (M : am_Hp) (bc bs : Nat), R35 x0 x1 x2 x3 x4 M bc bs → am_J X 35 [(0, .ref x0), (1, .ref x1), (2, .ref x2), (3, .int x3), (4, .int x4)] [] M bc bs) {a0 : Nat} {a1 : Nat} {a2 : Nat} {M : am_Hp} (h : hp_T M (a1) = 7 ∧ (am_CT G d rX6_save [.ref a1] M 0 0 (fun oz9 M1 => ∃ v2 : Int32, oz9 = .inl (some (.int v2)) ∧ (170 ≤ bc ∧ (1200 ≤ bs ∧ (am_CT G d rL_state [.ref a1] M1 170 1200 (fun oz9 M4 => (∃ v5 : Int32, oz9 = .inl (some (.int v5)) ∧ (30 ≤ (bc - 170) ∧ (3000 ≤ (bs - 1200) ∧ (am_CT G d rL_put [.ref a1, .ref (gx_s G "LiftGroupLaw" 186)] M4 30 3000 (fun oz9 M8 => (oz9 = .inl none ∧ (hp_T M8 (a1) = 7 ∧ (1 ≤ ((bc - 170) - 30) ∧ (6 ≤ ((bs - 1200) - 3000) ∧ (am_CT G d rX6_runScript [.ref a1] M8 1 6 (fun oz9 M12 => (∃ v13 : Int32, oz9 = .inl (some (.int v13)) ∧ (((v13 = (3 : Int32)) → (R35 a0 a1 a2 v2 v5 M12 (((bc - 170) - 30) - 1) (((bs - 1200) - 3000) - 6))) ∧ (¬ (v13 = (3 : Int32)) → (False)))) ∨ ((oz9 = .inr "java/lang/IllegalArgumentException" ∧ False)) ∨ ((oz9 = .inr "java/lang/IllegalStateException" ∧ False)))))))) ∨ ((oz9 = .inr "java/lang/IllegalArgumentException" ∧ False)) ∨ ((oz9 = .inr "java/lang/IllegalStateException" ∧ False))))))) ∨ ((oz9 = .inr "java/lang/IndexOutOfBoundsException" ∧ False))))))))) : am_J X 10 [(0, .ref a0), (1, .ref a1), (2, .ref a2)] [] M bc bs := by
  refine j_aload_n hX eL_law_10 1 rfl ?_
  obtain ⟨t3, h⟩ := h
  refine j_callV (a := a1) (q := (RX6, TX6, 9)) (r' := rX6_save) (As := []) (rest := []) (d1 := d) hX eL_law_11 mm_LiftGroupLaw_179 rfl t3 (by decide) rfl h rfl (Nat.le_refl _) (Nat.zero_le _) (Nat.zero_le _) (Nat.le_of_ble_eq_true rfl) (fun vz9 Mz9 qz9 => ?_) (fun Ez9 Mz9 qz9 => ?_)
  · obtain ⟨M1, eMz9⟩ : ∃ M1, M1 = Mz9 := ⟨_, rfl⟩; subst eMz9
    obtain ⟨v2, hxz9, h⟩ := qz9
    cases hxz9
    refine j_istore_n (lv' := [(3, .int v2), (0, .ref a0), (1, .ref a1), (2, .ref a2)]) hX eL_law_14 rfl (by decide) rfl ?_
    refine j_aload_n hX eL_law_15 2 rfl ?_
    obtain ⟨b6, b7, h⟩ := h
    refine j_callS (r' := rL_state) (As := [.ref a1]) (rest := []) (d1 := d) hX eL_law_16 mm_LiftGroupLaw_182 rfl rfl h rfl (Nat.le_refl _) b6 b7 (Nat.le_of_ble_eq_true rfl) (fun vz9 Mz9 qz9 => ?_) (fun Ez9 Mz9 qz9 => ?_)
    · obtain ⟨M4, eMz9⟩ : ∃ M4, M4 = Mz9 := ⟨_, rfl⟩; subst eMz9
      rcases qz9 with ⟨v5, hxz9, h⟩ | ⟨hxz9, h⟩ <;> cases hxz9
      refine j_istore (lv' := [(4, .int v5), (3, .int v2), (0, .ref a0), (1, .ref a1), (2, .ref a2)]) hX eL_law_19 (by decide) rfl ?_
      refine j_aload_n hX eL_law_21 3 rfl ?_
      refine j_ldcS hX eL_law_22 ts_LiftGroupLaw_186 ?_
      obtain ⟨b10, b11, h⟩ := h
      refine j_callS (r' := rL_put) (As := [.ref a1, .ref (gx_s G "LiftGroupLaw" 186)]) (rest := []) (d1 := d) hX eL_law_24 mm_LiftGroupLaw_188 rfl rfl h rfl (Nat.le_refl _) b10 b11 (Nat.le_of_ble_eq_true rfl) (fun vz9 Mz9 qz9 => ?_) (fun Ez9 Mz9 qz9 => ?_)
      · obtain ⟨M8, eMz9⟩ : ∃ M8, M8 = Mz9 := ⟨_, rfl⟩; subst eMz9
        rcases qz9 with ⟨hxz9, h⟩ | ⟨hxz9, h⟩ | ⟨hxz9, h⟩ <;> cases hxz9
        refine j_aload_n hX eL_law_27 3 rfl ?_
        obtain ⟨t14, h⟩ := h
        obtain ⟨b15, b16, h⟩ := h
        refine j_callV (a := a1) (q := (RX6, TX6, 9)) (r' := rX6_runScript) (As := []) (rest := []) (d1 := d) hX eL_law_28 mm_LiftGroupLaw_192 rfl t14 (by decide) rfl h rfl (Nat.le_refl _) b15 b16 (Nat.le_of_ble_eq_true rfl) (fun vz9 Mz9 qz9 => ?_) (fun Ez9 Mz9 qz9 => ?_)
        · obtain ⟨M12, eMz9⟩ : ∃ M12, M12 = Mz9 := ⟨_, rfl⟩; subst eMz9
          rcases qz9 with ⟨v13, hxz9, h⟩ | ⟨hxz9, h⟩ | ⟨hxz9, h⟩ <;> cases hxz9
          refine j_iconst (v := (3 : Int32)) hX eL_law_31 (by decide) ?_
          refine j_icmp_ne hX 73 eL_law_32 (by decide) (fun c17 => ?_) (fun c17 => ?_)
          · replace h := h.2 c17
            refine j_iconst (v := (0 : Int32)) hX eL_law_73 (by decide) ?_
            exact h.elim
          · replace h := h.1 c17
            exact j_sub [2, 3, 4, 1, 0] rfl (k35 _ _ _ _ _ _ _ _ h)
        · obtain ⟨M12, eMz9⟩ : ∃ M12, M12 = Mz9 := ⟨_, rfl⟩; subst eMz9
          rcases qz9 with ⟨v13, hxz9, h⟩ | ⟨hxz9, h⟩ | ⟨hxz9, h⟩ <;> cases hxz9
          · exact h.elim
          · exact h.elim
      · obtain ⟨M8, eMz9⟩ : ∃ M8, M8 = Mz9 := ⟨_, rfl⟩; subst eMz9
        rcases qz9 with ⟨hxz9, h⟩ | ⟨hxz9, h⟩ | ⟨hxz9, h⟩ <;> cases hxz9
        · exact h.elim
        · exact h.elim
    · obtain ⟨M4, eMz9⟩ : ∃ M4, M4 = Mz9 := ⟨_, rfl⟩; subst eMz9
      rcases qz9 with ⟨v5, hxz9, h⟩ | ⟨hxz9, h⟩ <;> cases hxz9
      exact h.elim
  · obtain ⟨v2, hxz9, h⟩ := qz9
    cases hxz9
set_option maxHeartbeats 4000000 in
set_option maxRecDepth 20000 in
theorem vL_law_35 {X : am_Cx} {G : am_Gx} {d : Nat} (hX : am_ok X rL_law G (d + 1)) (hret : ∀ {pc : Nat} {lv : List (Nat × Value)} {M : am_Hp} {bc bs : Nat}, decode rL_law.2.1 pc = .ok (.ireturn, 1) → am_J X pc lv [.int (1 : Int32)] M bc bs) {bc bs : Nat} (R43 : Nat → Nat → Nat → Int32 → Int32 → am_Hp → Nat → Nat → Prop) (k43 : ∀ (x0 : Nat) (x1 : Nat) (x2 : Nat) (x3 : Int32) (x4 : Int32) (M : am_Hp) (bc bs : Nat), R43 x0 x1 x2 x3 x4 M bc bs → am_J X 43 [(0, .ref x0), (1, .ref x1), (2, .ref x2), (3, .int x3), (4, .int x4)] [] M bc bs) {a0 : Nat} {a1 : Nat} {a2 : Nat} {a3 : Int32} {a4 : Int32} {M : am_Hp} (h : hp_T M (a2) = 7 ∧ (1 ≤ bc ∧ (6 ≤ bs ∧ (am_CT G d rX6_advance [.ref a2, .int (3 : Int32)] M 1 6 (fun oz9 M1 => (∃ v2 : Int32, oz9 = .inl (some (.int v2)) ∧ (((v2 < 0) → (False)) ∧ (¬ (v2 < 0) → (R43 a0 a1 a2 a3 a4 M1 (bc - 1) (bs - 6))))) ∨ ((oz9 = .inr "java/lang/IllegalArgumentException" ∧ False)) ∨ ((oz9 = .inr "java/lang/IllegalStateException" ∧ False)) ∨ ((oz9 = .inr "java/lang/IndexOutOfBoundsException" ∧ False)) ∨ ((oz9 = .inr "java/lang/UnsupportedOperationException" ∧ False))))))) : am_J X 35 [(0, .ref a0), (1, .ref a1), (2, .ref a2), (3, .int a3), (4, .int a4)] [] M bc bs := by
  refine j_aload_n hX eL_law_35 2 rfl ?_
  refine j_iconst (v := (3 : Int32)) hX eL_law_36 (by decide) ?_
  obtain ⟨t3, h⟩ := h
  obtain ⟨b4, b5, h⟩ := h
  refine j_callV (a := a2) (q := (RX6, TX6, 9)) (r' := rX6_advance) (As := [.int (3 : Int32)]) (rest := []) (d1 := d) hX eL_law_37 mm_LiftGroupLaw_63 rfl t3 (by decide) rfl h rfl (Nat.le_refl _) b4 b5 (Nat.le_of_ble_eq_true rfl) (fun vz9 Mz9 qz9 => ?_) (fun Ez9 Mz9 qz9 => ?_)
  · obtain ⟨M1, eMz9⟩ : ∃ M1, M1 = Mz9 := ⟨_, rfl⟩; subst eMz9
    rcases qz9 with ⟨v2, hxz9, h⟩ | ⟨hxz9, h⟩ | ⟨hxz9, h⟩ | ⟨hxz9, h⟩ | ⟨hxz9, h⟩ <;> cases hxz9
    refine j_if_lt hX 73 eL_law_40 (by decide) (fun c6 => ?_) (fun c6 => ?_)
    · replace h := h.1 c6
      refine j_iconst (v := (0 : Int32)) hX eL_law_73 (by decide) ?_
      exact h.elim
    · replace h := h.2 c6
      exact j_sub [0, 1, 2, 3, 4] rfl (k43 _ _ _ _ _ _ _ _ h)
  · obtain ⟨M1, eMz9⟩ : ∃ M1, M1 = Mz9 := ⟨_, rfl⟩; subst eMz9
    rcases qz9 with ⟨v2, hxz9, h⟩ | ⟨hxz9, h⟩ | ⟨hxz9, h⟩ | ⟨hxz9, h⟩ | ⟨hxz9, h⟩ <;> cases hxz9
    · exact h.elim
    · exact h.elim
    · exact h.elim
    · exact h.elim
set_option maxHeartbeats 4000000 in
set_option maxRecDepth 20000 in
theorem vL_law_43 {X : am_Cx} {G : am_Gx} {d : Nat} (hX : am_ok X rL_law G (d + 1)) (hret : ∀ {pc : Nat} {lv : List (Nat × Value)} {M : am_Hp} {bc bs : Nat}, decode rL_law.2.1 pc = .ok (.ireturn, 1) → am_J X pc lv [.int (1 : Int32)] M bc bs) {bc bs : Nat} (R54 : Nat → Nat → Nat → Int32 → Int32 → am_Hp → Nat → Nat → Prop) (k54 : ∀ (x0 : Nat) (x1 : Nat) (x2 : Nat) (x3 : Int32) (x4 : Int32) (M : am_Hp) (bc bs : Nat), R54 x0 x1 x2 x3 x4 M bc bs → am_J X 54 [(0, .ref x0), (1, .ref x1), (2, .ref x2), (3, .int x3), (4, .int x4)] [] M bc bs) {a0 : Nat} {a1 : Nat} {a2 : Nat} {a3 : Int32} {a4 : Int32} {M : am_Hp} (h : hp_T M (a2) = 7 ∧ (1 ≤ bc ∧ (6 ≤ bs ∧ (am_CT G d rX6_setCapacity [.ref a2, .int (1 : Int32), .int (900 : Int32)] M 1 6 (fun oz9 M1 => (∃ v2 : Int32, oz9 = .inl (some (.int v2)) ∧ (((v2 < 0) → (False)) ∧ (¬ (v2 < 0) → (R54 a0 a1 a2 a3 a4 M1 (bc - 1) (bs - 6))))) ∨ ((oz9 = .inr "java/lang/IllegalArgumentException" ∧ False)) ∨ ((oz9 = .inr "java/lang/IllegalStateException" ∧ False)) ∨ ((oz9 = .inr "java/lang/IndexOutOfBoundsException" ∧ False)) ∨ ((oz9 = .inr "java/lang/UnsupportedOperationException" ∧ False))))))) : am_J X 43 [(0, .ref a0), (1, .ref a1), (2, .ref a2), (3, .int a3), (4, .int a4)] [] M bc bs := by
  refine j_aload_n hX eL_law_43 2 rfl ?_
  refine j_iconst (v := (1 : Int32)) hX eL_law_44 (by decide) ?_
  refine j_sipush (v := (900 : Int32)) hX eL_law_45 (by decide) ?_
  obtain ⟨t3, h⟩ := h
  obtain ⟨b4, b5, h⟩ := h
  refine j_callV (a := a2) (q := (RX6, TX6, 9)) (r' := rX6_setCapacity) (As := [.int (1 : Int32), .int (900 : Int32)]) (rest := []) (d1 := d) hX eL_law_48 mm_LiftGroupLaw_60 rfl t3 (by decide) rfl h rfl (Nat.le_refl _) b4 b5 (Nat.le_of_ble_eq_true rfl) (fun vz9 Mz9 qz9 => ?_) (fun Ez9 Mz9 qz9 => ?_)
  · obtain ⟨M1, eMz9⟩ : ∃ M1, M1 = Mz9 := ⟨_, rfl⟩; subst eMz9
    rcases qz9 with ⟨v2, hxz9, h⟩ | ⟨hxz9, h⟩ | ⟨hxz9, h⟩ | ⟨hxz9, h⟩ | ⟨hxz9, h⟩ <;> cases hxz9
    refine j_if_lt hX 73 eL_law_51 (by decide) (fun c6 => ?_) (fun c6 => ?_)
    · replace h := h.1 c6
      refine j_iconst (v := (0 : Int32)) hX eL_law_73 (by decide) ?_
      exact h.elim
    · replace h := h.2 c6
      exact j_sub [0, 1, 2, 3, 4] rfl (k54 _ _ _ _ _ _ _ _ h)
  · obtain ⟨M1, eMz9⟩ : ∃ M1, M1 = Mz9 := ⟨_, rfl⟩; subst eMz9
    rcases qz9 with ⟨v2, hxz9, h⟩ | ⟨hxz9, h⟩ | ⟨hxz9, h⟩ | ⟨hxz9, h⟩ | ⟨hxz9, h⟩ <;> cases hxz9
    · exact h.elim
    · exact h.elim
    · exact h.elim
    · exact h.elim
set_option maxHeartbeats 4000000 in
set_option maxRecDepth 20000 in
theorem vL_law_54 {X : am_Cx} {G : am_Gx} {d : Nat} (hX : am_ok X rL_law G (d + 1)) (hret : ∀ {pc : Nat} {lv : List (Nat × Value)} {M : am_Hp} {bc bs : Nat}, decode rL_law.2.1 pc = .ok (.ireturn, 1) → am_J X pc lv [.int (1 : Int32)] M bc bs) {bc bs : Nat} (R62 : Nat → Nat → Nat → Int32 → Int32 → am_Hp → Nat → Nat → Prop) (k62 : ∀ (x0 : Nat) (x1 : Nat) (x2 : Nat) (x3 : Int32) (x4 : Int32) (M : am_Hp) (bc bs : Nat), R62 x0 x1 x2 x3 x4 M bc bs → am_J X 62 [(0, .ref x0), (1, .ref x1), (2, .ref x2), (3, .int x3), (4, .int x4)] [] M bc bs) {a0 : Nat} {a1 : Nat} {a2 : Nat} {a3 : Int32} {a4 : Int32} {M : am_Hp} (h : hp_T M (a2) = 7 ∧ (1 ≤ bc ∧ (6 ≤ bs ∧ (am_CT G d rX6_advance [.ref a2, .int (1 : Int32)] M 1 6 (fun oz9 M1 => (∃ v2 : Int32, oz9 = .inl (some (.int v2)) ∧ (((v2 < 0) → (False)) ∧ (¬ (v2 < 0) → (R62 a0 a1 a2 a3 a4 M1 (bc - 1) (bs - 6))))) ∨ ((oz9 = .inr "java/lang/IllegalArgumentException" ∧ False)) ∨ ((oz9 = .inr "java/lang/IllegalStateException" ∧ False)) ∨ ((oz9 = .inr "java/lang/IndexOutOfBoundsException" ∧ False)) ∨ ((oz9 = .inr "java/lang/UnsupportedOperationException" ∧ False))))))) : am_J X 54 [(0, .ref a0), (1, .ref a1), (2, .ref a2), (3, .int a3), (4, .int a4)] [] M bc bs := by
  refine j_aload_n hX eL_law_54 2 rfl ?_
  refine j_iconst (v := (1 : Int32)) hX eL_law_55 (by decide) ?_
  obtain ⟨t3, h⟩ := h
  obtain ⟨b4, b5, h⟩ := h
  refine j_callV (a := a2) (q := (RX6, TX6, 9)) (r' := rX6_advance) (As := [.int (1 : Int32)]) (rest := []) (d1 := d) hX eL_law_56 mm_LiftGroupLaw_63 rfl t3 (by decide) rfl h rfl (Nat.le_refl _) b4 b5 (Nat.le_of_ble_eq_true rfl) (fun vz9 Mz9 qz9 => ?_) (fun Ez9 Mz9 qz9 => ?_)
  · obtain ⟨M1, eMz9⟩ : ∃ M1, M1 = Mz9 := ⟨_, rfl⟩; subst eMz9
    rcases qz9 with ⟨v2, hxz9, h⟩ | ⟨hxz9, h⟩ | ⟨hxz9, h⟩ | ⟨hxz9, h⟩ | ⟨hxz9, h⟩ <;> cases hxz9
    refine j_if_lt hX 73 eL_law_59 (by decide) (fun c6 => ?_) (fun c6 => ?_)
    · replace h := h.1 c6
      refine j_iconst (v := (0 : Int32)) hX eL_law_73 (by decide) ?_
      exact h.elim
    · replace h := h.2 c6
      exact j_sub [0, 1, 2, 3, 4] rfl (k62 _ _ _ _ _ _ _ _ h)
  · obtain ⟨M1, eMz9⟩ : ∃ M1, M1 = Mz9 := ⟨_, rfl⟩; subst eMz9
    rcases qz9 with ⟨v2, hxz9, h⟩ | ⟨hxz9, h⟩ | ⟨hxz9, h⟩ | ⟨hxz9, h⟩ | ⟨hxz9, h⟩ <;> cases hxz9
    · exact h.elim
    · exact h.elim
    · exact h.elim
    · exact h.elim
set_option maxHeartbeats 4000000 in
set_option maxRecDepth 20000 in
theorem vL_law_62 {X : am_Cx} {G : am_Gx} {d : Nat} (hX : am_ok X rL_law G (d + 1)) (hret : ∀ {pc : Nat} {lv : List (Nat × Value)} {M : am_Hp} {bc bs : Nat}, decode rL_law.2.1 pc = .ok (.ireturn, 1) → am_J X pc lv [.int (1 : Int32)] M bc bs) {bc bs : Nat} (R75 : Nat → Nat → Nat → Int32 → Int32 → am_Hp → Nat → Nat → Prop) (k75 : ∀ (x0 : Nat) (x1 : Nat) (x2 : Nat) (x3 : Int32) (x4 : Int32) (M : am_Hp) (bc bs : Nat), R75 x0 x1 x2 x3 x4 M bc bs → am_J X 75 [(0, .ref x0), (1, .ref x1), (2, .ref x2), (3, .int x3), (4, .int x4)] [] M bc bs) {a0 : Nat} {a1 : Nat} {a2 : Nat} {a3 : Int32} {a4 : Int32} {M : am_Hp} (h : 170 ≤ bc ∧ (1200 ≤ bs ∧ (am_CT G d rL_state [.ref a1] M 170 1200 (fun oz9 M1 => (∃ v2 : Int32, oz9 = .inl (some (.int v2)) ∧ (170 ≤ (bc - 170) ∧ (1200 ≤ (bs - 1200) ∧ (am_CT G d rL_state [.ref a2] M1 170 1200 (fun oz9 M5 => (∃ v6 : Int32, oz9 = .inl (some (.int v6)) ∧ (((v2 = v6) → (R75 a0 a1 a2 a3 a4 M5 ((bc - 170) - 170) ((bs - 1200) - 1200))) ∧ (¬ (v2 = v6) → (False)))) ∨ ((oz9 = .inr "java/lang/IndexOutOfBoundsException" ∧ False))))))) ∨ ((oz9 = .inr "java/lang/IndexOutOfBoundsException" ∧ False)))))) : am_J X 62 [(0, .ref a0), (1, .ref a1), (2, .ref a2), (3, .int a3), (4, .int a4)] [] M bc bs := by
  refine j_aload_n hX eL_law_62 1 rfl ?_
  obtain ⟨b3, b4, h⟩ := h
  refine j_callS (r' := rL_state) (As := [.ref a1]) (rest := []) (d1 := d) hX eL_law_63 mm_LiftGroupLaw_182 rfl rfl h rfl (Nat.le_refl _) b3 b4 (Nat.le_of_ble_eq_true rfl) (fun vz9 Mz9 qz9 => ?_) (fun Ez9 Mz9 qz9 => ?_)
  · obtain ⟨M1, eMz9⟩ : ∃ M1, M1 = Mz9 := ⟨_, rfl⟩; subst eMz9
    rcases qz9 with ⟨v2, hxz9, h⟩ | ⟨hxz9, h⟩ <;> cases hxz9
    refine j_aload_n hX eL_law_66 2 rfl ?_
    obtain ⟨b7, b8, h⟩ := h
    refine j_callS (r' := rL_state) (As := [.ref a2]) (rest := [.int v2]) (d1 := d) hX eL_law_67 mm_LiftGroupLaw_182 rfl rfl h rfl (Nat.le_refl _) b7 b8 (Nat.le_of_ble_eq_true rfl) (fun vz9 Mz9 qz9 => ?_) (fun Ez9 Mz9 qz9 => ?_)
    · obtain ⟨M5, eMz9⟩ : ∃ M5, M5 = Mz9 := ⟨_, rfl⟩; subst eMz9
      rcases qz9 with ⟨v6, hxz9, h⟩ | ⟨hxz9, h⟩ <;> cases hxz9
      refine j_icmp_eq hX 75 eL_law_70 (by decide) (fun c9 => ?_) (fun c9 => ?_)
      · replace h := h.1 c9
        exact j_sub [0, 1, 2, 3, 4] rfl (k75 _ _ _ _ _ _ _ _ h)
      · replace h := h.2 c9
        refine j_iconst (v := (0 : Int32)) hX eL_law_73 (by decide) ?_
        exact h.elim
    · obtain ⟨M5, eMz9⟩ : ∃ M5, M5 = Mz9 := ⟨_, rfl⟩; subst eMz9
      rcases qz9 with ⟨v6, hxz9, h⟩ | ⟨hxz9, h⟩ <;> cases hxz9
      exact h.elim
  · obtain ⟨M1, eMz9⟩ : ∃ M1, M1 = Mz9 := ⟨_, rfl⟩; subst eMz9
    rcases qz9 with ⟨v2, hxz9, h⟩ | ⟨hxz9, h⟩ <;> cases hxz9
    exact h.elim
set_option maxHeartbeats 4000000 in
set_option maxRecDepth 20000 in
theorem vL_law_75 {X : am_Cx} {G : am_Gx} {d : Nat} (hX : am_ok X rL_law G (d + 1)) (hret : ∀ {pc : Nat} {lv : List (Nat × Value)} {M : am_Hp} {bc bs : Nat}, decode rL_law.2.1 pc = .ok (.ireturn, 1) → am_J X pc lv [.int (1 : Int32)] M bc bs) {bc bs : Nat} (R82 : Nat → Nat → Nat → Int32 → Int32 → am_Hp → Nat → Nat → Prop) (k82 : ∀ (x0 : Nat) (x1 : Nat) (x2 : Nat) (x3 : Int32) (x4 : Int32) (M : am_Hp) (bc bs : Nat), R82 x0 x1 x2 x3 x4 M bc bs → am_J X 82 [(0, .ref x0), (1, .ref x1), (2, .ref x2), (3, .int x3), (4, .int x4)] [] M bc bs) {a0 : Nat} {a1 : Nat} {a2 : Nat} {a3 : Int32} {a4 : Int32} {M : am_Hp} (h : hp_T M (a1) = 7 ∧ (1 ≤ bc ∧ (6 ≤ bs ∧ (am_CT G d rX6_undo [.ref a1] M 1 6 (fun oz9 M1 => (∃ v2 : Int32, oz9 = .inl (some (.int v2)) ∧ (((v2 < 0) → (False)) ∧ (¬ (v2 < 0) → (R82 a0 a1 a2 a3 a4 M1 (bc - 1) (bs - 6))))) ∨ ((oz9 = .inr "java/lang/IllegalStateException" ∧ False))))))) : am_J X 75 [(0, .ref a0), (1, .ref a1), (2, .ref a2), (3, .int a3), (4, .int a4)] [] M bc bs := by
  refine j_aload_n hX eL_law_75 1 rfl ?_
  obtain ⟨t3, h⟩ := h
  obtain ⟨b4, b5, h⟩ := h
  refine j_callV (a := a1) (q := (RX6, TX6, 9)) (r' := rX6_undo) (As := []) (rest := []) (d1 := d) hX eL_law_76 mm_LiftGroupLaw_195 rfl t3 (by decide) rfl h rfl (Nat.le_refl _) b4 b5 (Nat.le_of_ble_eq_true rfl) (fun vz9 Mz9 qz9 => ?_) (fun Ez9 Mz9 qz9 => ?_)
  · obtain ⟨M1, eMz9⟩ : ∃ M1, M1 = Mz9 := ⟨_, rfl⟩; subst eMz9
    rcases qz9 with ⟨v2, hxz9, h⟩ | ⟨hxz9, h⟩ <;> cases hxz9
    refine j_if_lt hX 121 eL_law_79 (by decide) (fun c6 => ?_) (fun c6 => ?_)
    · replace h := h.1 c6
      refine j_iconst (v := (0 : Int32)) hX eL_law_121 (by decide) ?_
      exact h.elim
    · replace h := h.2 c6
      exact j_sub [0, 1, 2, 3, 4] rfl (k82 _ _ _ _ _ _ _ _ h)
  · obtain ⟨M1, eMz9⟩ : ∃ M1, M1 = Mz9 := ⟨_, rfl⟩; subst eMz9
    rcases qz9 with ⟨v2, hxz9, h⟩ | ⟨hxz9, h⟩ <;> cases hxz9
    exact h.elim
set_option maxHeartbeats 4000000 in
set_option maxRecDepth 20000 in
theorem vL_law_82 {X : am_Cx} {G : am_Gx} {d : Nat} (hX : am_ok X rL_law G (d + 1)) (hret : ∀ {pc : Nat} {lv : List (Nat × Value)} {M : am_Hp} {bc bs : Nat}, decode rL_law.2.1 pc = .ok (.ireturn, 1) → am_J X pc lv [.int (1 : Int32)] M bc bs) {bc bs : Nat} (R91 : Nat → Nat → Nat → Int32 → Int32 → am_Hp → Nat → Nat → Prop) (k91 : ∀ (x0 : Nat) (x1 : Nat) (x2 : Nat) (x3 : Int32) (x4 : Int32) (M : am_Hp) (bc bs : Nat), R91 x0 x1 x2 x3 x4 M bc bs → am_J X 91 [(0, .ref x0), (1, .ref x1), (2, .ref x2), (3, .int x3), (4, .int x4)] [] M bc bs) {a0 : Nat} {a1 : Nat} {a2 : Nat} {a3 : Int32} {a4 : Int32} {M : am_Hp} (h : 170 ≤ bc ∧ (1200 ≤ bs ∧ (am_CT G d rL_state [.ref a1] M 170 1200 (fun oz9 M1 => (∃ v2 : Int32, oz9 = .inl (some (.int v2)) ∧ (((v2 = a4) → (R91 a0 a1 a2 a3 a4 M1 (bc - 170) (bs - 1200))) ∧ (¬ (v2 = a4) → (False)))) ∨ ((oz9 = .inr "java/lang/IndexOutOfBoundsException" ∧ False)))))) : am_J X 82 [(0, .ref a0), (1, .ref a1), (2, .ref a2), (3, .int a3), (4, .int a4)] [] M bc bs := by
  refine j_aload_n hX eL_law_82 1 rfl ?_
  obtain ⟨b3, b4, h⟩ := h
  refine j_callS (r' := rL_state) (As := [.ref a1]) (rest := []) (d1 := d) hX eL_law_83 mm_LiftGroupLaw_182 rfl rfl h rfl (Nat.le_refl _) b3 b4 (Nat.le_of_ble_eq_true rfl) (fun vz9 Mz9 qz9 => ?_) (fun Ez9 Mz9 qz9 => ?_)
  · obtain ⟨M1, eMz9⟩ : ∃ M1, M1 = Mz9 := ⟨_, rfl⟩; subst eMz9
    rcases qz9 with ⟨v2, hxz9, h⟩ | ⟨hxz9, h⟩ <;> cases hxz9
    refine j_iload hX eL_law_86 4 rfl ?_
    refine j_icmp_ne hX 121 eL_law_88 (by decide) (fun c5 => ?_) (fun c5 => ?_)
    · replace h := h.2 c5
      refine j_iconst (v := (0 : Int32)) hX eL_law_121 (by decide) ?_
      exact h.elim
    · replace h := h.1 c5
      exact j_sub [0, 1, 2, 3, 4] rfl (k91 _ _ _ _ _ _ _ _ h)
  · obtain ⟨M1, eMz9⟩ : ∃ M1, M1 = Mz9 := ⟨_, rfl⟩; subst eMz9
    rcases qz9 with ⟨v2, hxz9, h⟩ | ⟨hxz9, h⟩ <;> cases hxz9
    exact h.elim
set_option maxHeartbeats 4000000 in
set_option maxRecDepth 20000 in
theorem vL_law_91 {X : am_Cx} {G : am_Gx} {d : Nat} (hX : am_ok X rL_law G (d + 1)) (hret : ∀ {pc : Nat} {lv : List (Nat × Value)} {M : am_Hp} {bc bs : Nat}, decode rL_law.2.1 pc = .ok (.ireturn, 1) → am_J X pc lv [.int (1 : Int32)] M bc bs) {bc bs : Nat} (R98 : Nat → Nat → Nat → Int32 → Int32 → am_Hp → Nat → Nat → Prop) (k98 : ∀ (x0 : Nat) (x1 : Nat) (x2 : Nat) (x3 : Int32) (x4 : Int32) (M : am_Hp) (bc bs : Nat), R98 x0 x1 x2 x3 x4 M bc bs → am_J X 98 [(0, .ref x0), (1, .ref x1), (2, .ref x2), (3, .int x3), (4, .int x4)] [] M bc bs) {a0 : Nat} {a1 : Nat} {a2 : Nat} {a3 : Int32} {a4 : Int32} {M : am_Hp} (h : hp_T M (a2) = 7 ∧ (1 ≤ bc ∧ (6 ≤ bs ∧ (am_CT G d rX6_undo [.ref a2] M 1 6 (fun oz9 M1 => (∃ v2 : Int32, oz9 = .inl (some (.int v2)) ∧ (((v2 < 0) → (False)) ∧ (¬ (v2 < 0) → (R98 a0 a1 a2 a3 a4 M1 (bc - 1) (bs - 6))))) ∨ ((oz9 = .inr "java/lang/IllegalStateException" ∧ False))))))) : am_J X 91 [(0, .ref a0), (1, .ref a1), (2, .ref a2), (3, .int a3), (4, .int a4)] [] M bc bs := by
  refine j_aload_n hX eL_law_91 2 rfl ?_
  obtain ⟨t3, h⟩ := h
  obtain ⟨b4, b5, h⟩ := h
  refine j_callV (a := a2) (q := (RX6, TX6, 9)) (r' := rX6_undo) (As := []) (rest := []) (d1 := d) hX eL_law_92 mm_LiftGroupLaw_195 rfl t3 (by decide) rfl h rfl (Nat.le_refl _) b4 b5 (Nat.le_of_ble_eq_true rfl) (fun vz9 Mz9 qz9 => ?_) (fun Ez9 Mz9 qz9 => ?_)
  · obtain ⟨M1, eMz9⟩ : ∃ M1, M1 = Mz9 := ⟨_, rfl⟩; subst eMz9
    rcases qz9 with ⟨v2, hxz9, h⟩ | ⟨hxz9, h⟩ <;> cases hxz9
    refine j_if_lt hX 121 eL_law_95 (by decide) (fun c6 => ?_) (fun c6 => ?_)
    · replace h := h.1 c6
      refine j_iconst (v := (0 : Int32)) hX eL_law_121 (by decide) ?_
      exact h.elim
    · replace h := h.2 c6
      exact j_sub [0, 1, 2, 3, 4] rfl (k98 _ _ _ _ _ _ _ _ h)
  · obtain ⟨M1, eMz9⟩ : ∃ M1, M1 = Mz9 := ⟨_, rfl⟩; subst eMz9
    rcases qz9 with ⟨v2, hxz9, h⟩ | ⟨hxz9, h⟩ <;> cases hxz9
    exact h.elim
set_option maxHeartbeats 4000000 in
set_option maxRecDepth 20000 in
theorem vL_law_98 {X : am_Cx} {G : am_Gx} {d : Nat} (hX : am_ok X rL_law G (d + 1)) (hret : ∀ {pc : Nat} {lv : List (Nat × Value)} {M : am_Hp} {bc bs : Nat}, decode rL_law.2.1 pc = .ok (.ireturn, 1) → am_J X pc lv [.int (1 : Int32)] M bc bs) {bc bs : Nat} (R105 : Nat → Nat → Nat → Int32 → Int32 → am_Hp → Nat → Nat → Prop) (k105 : ∀ (x0 : Nat) (x1 : Nat) (x2 : Nat) (x3 : Int32) (x4 : Int32) (M : am_Hp) (bc bs : Nat), R105 x0 x1 x2 x3 x4 M bc bs → am_J X 105 [(0, .ref x0), (1, .ref x1), (2, .ref x2), (3, .int x3), (4, .int x4)] [] M bc bs) {a0 : Nat} {a1 : Nat} {a2 : Nat} {a3 : Int32} {a4 : Int32} {M : am_Hp} (h : hp_T M (a2) = 7 ∧ (1 ≤ bc ∧ (6 ≤ bs ∧ (am_CT G d rX6_undo [.ref a2] M 1 6 (fun oz9 M1 => (∃ v2 : Int32, oz9 = .inl (some (.int v2)) ∧ (((v2 < 0) → (False)) ∧ (¬ (v2 < 0) → (R105 a0 a1 a2 a3 a4 M1 (bc - 1) (bs - 6))))) ∨ ((oz9 = .inr "java/lang/IllegalStateException" ∧ False))))))) : am_J X 98 [(0, .ref a0), (1, .ref a1), (2, .ref a2), (3, .int a3), (4, .int a4)] [] M bc bs := by
  refine j_aload_n hX eL_law_98 2 rfl ?_
  obtain ⟨t3, h⟩ := h
  obtain ⟨b4, b5, h⟩ := h
  refine j_callV (a := a2) (q := (RX6, TX6, 9)) (r' := rX6_undo) (As := []) (rest := []) (d1 := d) hX eL_law_99 mm_LiftGroupLaw_195 rfl t3 (by decide) rfl h rfl (Nat.le_refl _) b4 b5 (Nat.le_of_ble_eq_true rfl) (fun vz9 Mz9 qz9 => ?_) (fun Ez9 Mz9 qz9 => ?_)
  · obtain ⟨M1, eMz9⟩ : ∃ M1, M1 = Mz9 := ⟨_, rfl⟩; subst eMz9
    rcases qz9 with ⟨v2, hxz9, h⟩ | ⟨hxz9, h⟩ <;> cases hxz9
    refine j_if_lt hX 121 eL_law_102 (by decide) (fun c6 => ?_) (fun c6 => ?_)
    · replace h := h.1 c6
      refine j_iconst (v := (0 : Int32)) hX eL_law_121 (by decide) ?_
      exact h.elim
    · replace h := h.2 c6
      exact j_sub [0, 1, 2, 3, 4] rfl (k105 _ _ _ _ _ _ _ _ h)
  · obtain ⟨M1, eMz9⟩ : ∃ M1, M1 = Mz9 := ⟨_, rfl⟩; subst eMz9
    rcases qz9 with ⟨v2, hxz9, h⟩ | ⟨hxz9, h⟩ <;> cases hxz9
    exact h.elim
set_option maxHeartbeats 4000000 in
set_option maxRecDepth 20000 in
theorem vL_law_105 {X : am_Cx} {G : am_Gx} {d : Nat} (hX : am_ok X rL_law G (d + 1)) (hret : ∀ {pc : Nat} {lv : List (Nat × Value)} {M : am_Hp} {bc bs : Nat}, decode rL_law.2.1 pc = .ok (.ireturn, 1) → am_J X pc lv [.int (1 : Int32)] M bc bs) {bc bs : Nat} (R112 : Nat → Nat → Nat → Int32 → Int32 → am_Hp → Nat → Nat → Prop) (k112 : ∀ (x0 : Nat) (x1 : Nat) (x2 : Nat) (x3 : Int32) (x4 : Int32) (M : am_Hp) (bc bs : Nat), R112 x0 x1 x2 x3 x4 M bc bs → am_J X 112 [(0, .ref x0), (1, .ref x1), (2, .ref x2), (3, .int x3), (4, .int x4)] [] M bc bs) {a0 : Nat} {a1 : Nat} {a2 : Nat} {a3 : Int32} {a4 : Int32} {M : am_Hp} (h : hp_T M (a2) = 7 ∧ (1 ≤ bc ∧ (6 ≤ bs ∧ (am_CT G d rX6_undo [.ref a2] M 1 6 (fun oz9 M1 => (∃ v2 : Int32, oz9 = .inl (some (.int v2)) ∧ (((v2 < 0) → (False)) ∧ (¬ (v2 < 0) → (R112 a0 a1 a2 a3 a4 M1 (bc - 1) (bs - 6))))) ∨ ((oz9 = .inr "java/lang/IllegalStateException" ∧ False))))))) : am_J X 105 [(0, .ref a0), (1, .ref a1), (2, .ref a2), (3, .int a3), (4, .int a4)] [] M bc bs := by
  refine j_aload_n hX eL_law_105 2 rfl ?_
  obtain ⟨t3, h⟩ := h
  obtain ⟨b4, b5, h⟩ := h
  refine j_callV (a := a2) (q := (RX6, TX6, 9)) (r' := rX6_undo) (As := []) (rest := []) (d1 := d) hX eL_law_106 mm_LiftGroupLaw_195 rfl t3 (by decide) rfl h rfl (Nat.le_refl _) b4 b5 (Nat.le_of_ble_eq_true rfl) (fun vz9 Mz9 qz9 => ?_) (fun Ez9 Mz9 qz9 => ?_)
  · obtain ⟨M1, eMz9⟩ : ∃ M1, M1 = Mz9 := ⟨_, rfl⟩; subst eMz9
    rcases qz9 with ⟨v2, hxz9, h⟩ | ⟨hxz9, h⟩ <;> cases hxz9
    refine j_if_lt hX 121 eL_law_109 (by decide) (fun c6 => ?_) (fun c6 => ?_)
    · replace h := h.1 c6
      refine j_iconst (v := (0 : Int32)) hX eL_law_121 (by decide) ?_
      exact h.elim
    · replace h := h.2 c6
      exact j_sub [0, 1, 2, 3, 4] rfl (k112 _ _ _ _ _ _ _ _ h)
  · obtain ⟨M1, eMz9⟩ : ∃ M1, M1 = Mz9 := ⟨_, rfl⟩; subst eMz9
    rcases qz9 with ⟨v2, hxz9, h⟩ | ⟨hxz9, h⟩ <;> cases hxz9
    exact h.elim
set_option maxHeartbeats 4000000 in
set_option maxRecDepth 20000 in
theorem vL_law_112 {X : am_Cx} {G : am_Gx} {d : Nat} (hX : am_ok X rL_law G (d + 1)) (hret : ∀ {pc : Nat} {lv : List (Nat × Value)} {M : am_Hp} {bc bs : Nat}, decode rL_law.2.1 pc = .ok (.ireturn, 1) → am_J X pc lv [.int (1 : Int32)] M bc bs) {bc bs : Nat} (R123 : Nat → Nat → Int32 → Int32 → am_Hp → Nat → Nat → Prop) (k123 : ∀ (x0 : Nat) (x1 : Nat) (x3 : Int32) (x4 : Int32) (M : am_Hp) (bc bs : Nat), R123 x0 x1 x3 x4 M bc bs → am_J X 123 [(0, .ref x0), (1, .ref x1), (3, .int x3), (4, .int x4)] [] M bc bs) {a0 : Nat} {a1 : Nat} {a2 : Nat} {a3 : Int32} {a4 : Int32} {M : am_Hp} (h : 170 ≤ bc ∧ (1200 ≤ bs ∧ (am_CT G d rL_state [.ref a2] M 170 1200 (fun oz9 M1 => (∃ v2 : Int32, oz9 = .inl (some (.int v2)) ∧ (((v2 = a4) → (R123 a0 a1 a3 a4 M1 (bc - 170) (bs - 1200))) ∧ (¬ (v2 = a4) → (False)))) ∨ ((oz9 = .inr "java/lang/IndexOutOfBoundsException" ∧ False)))))) : am_J X 112 [(0, .ref a0), (1, .ref a1), (2, .ref a2), (3, .int a3), (4, .int a4)] [] M bc bs := by
  refine j_aload_n hX eL_law_112 2 rfl ?_
  obtain ⟨b3, b4, h⟩ := h
  refine j_callS (r' := rL_state) (As := [.ref a2]) (rest := []) (d1 := d) hX eL_law_113 mm_LiftGroupLaw_182 rfl rfl h rfl (Nat.le_refl _) b3 b4 (Nat.le_of_ble_eq_true rfl) (fun vz9 Mz9 qz9 => ?_) (fun Ez9 Mz9 qz9 => ?_)
  · obtain ⟨M1, eMz9⟩ : ∃ M1, M1 = Mz9 := ⟨_, rfl⟩; subst eMz9
    rcases qz9 with ⟨v2, hxz9, h⟩ | ⟨hxz9, h⟩ <;> cases hxz9
    refine j_iload hX eL_law_116 4 rfl ?_
    refine j_icmp_eq hX 123 eL_law_118 (by decide) (fun c5 => ?_) (fun c5 => ?_)
    · replace h := h.1 c5
      exact j_sub [0, 1, 3, 4] rfl (k123 _ _ _ _ _ _ _ h)
    · replace h := h.2 c5
      refine j_iconst (v := (0 : Int32)) hX eL_law_121 (by decide) ?_
      exact h.elim
  · obtain ⟨M1, eMz9⟩ : ∃ M1, M1 = Mz9 := ⟨_, rfl⟩; subst eMz9
    rcases qz9 with ⟨v2, hxz9, h⟩ | ⟨hxz9, h⟩ <;> cases hxz9
    exact h.elim
set_option maxHeartbeats 4000000 in
set_option maxRecDepth 20000 in
theorem vL_law_123 {X : am_Cx} {G : am_Gx} {d : Nat} (hX : am_ok X rL_law G (d + 1)) (hret : ∀ {pc : Nat} {lv : List (Nat × Value)} {M : am_Hp} {bc bs : Nat}, decode rL_law.2.1 pc = .ok (.ireturn, 1) → am_J X pc lv [.int (1 : Int32)] M bc bs) {bc bs : Nat} (R138 : Nat → Nat → Int32 → Int32 → am_Hp → Nat → Nat → Prop) (k138 : ∀ (x0 : Nat) (x1 : Nat) (x3 : Int32) (x4 : Int32) (M : am_Hp) (bc bs : Nat), R138 x0 x1 x3 x4 M bc bs → am_J X 138 [(0, .ref x0), (1, .ref x1), (3, .int x3), (4, .int x4)] [] M bc bs) {a0 : Nat} {a1 : Nat} {a3 : Int32} {a4 : Int32} {M : am_Hp} (h : 30 ≤ bc ∧ (3000 ≤ bs ∧ (am_CT G d rL_put [.ref a1, .ref (gx_s G "LiftGroupLaw" 198)] M 30 3000 (fun oz9 M1 => (oz9 = .inl none ∧ (1 ≤ (bc - 30) ∧ (6 ≤ (bs - 3000) ∧ (am_CT G d rL_runs [.ref a1] M1 1 6 (fun oz9 M5 => ∃ v6 : Int32, oz9 = .inl (some (.int v6)) ∧ (((v6 = (-2 : Int32)) → (R138 a0 a1 a3 a4 M5 ((bc - 30) - 1) ((bs - 3000) - 6))) ∧ (¬ (v6 = (-2 : Int32)) → (False)))))))) ∨ ((oz9 = .inr "java/lang/IllegalArgumentException" ∧ False)) ∨ ((oz9 = .inr "java/lang/IllegalStateException" ∧ False)))))) : am_J X 123 [(0, .ref a0), (1, .ref a1), (3, .int a3), (4, .int a4)] [] M bc bs := by
  refine j_aload_n hX eL_law_123 1 rfl ?_
  refine j_ldcS hX eL_law_124 ts_LiftGroupLaw_198 ?_
  obtain ⟨b3, b4, h⟩ := h
  refine j_callS (r' := rL_put) (As := [.ref a1, .ref (gx_s G "LiftGroupLaw" 198)]) (rest := []) (d1 := d) hX eL_law_126 mm_LiftGroupLaw_188 rfl rfl h rfl (Nat.le_refl _) b3 b4 (Nat.le_of_ble_eq_true rfl) (fun vz9 Mz9 qz9 => ?_) (fun Ez9 Mz9 qz9 => ?_)
  · obtain ⟨M1, eMz9⟩ : ∃ M1, M1 = Mz9 := ⟨_, rfl⟩; subst eMz9
    rcases qz9 with ⟨hxz9, h⟩ | ⟨hxz9, h⟩ | ⟨hxz9, h⟩ <;> cases hxz9
    refine j_aload_n hX eL_law_129 1 rfl ?_
    obtain ⟨b7, b8, h⟩ := h
    refine j_callSX (r' := rL_runs) (As := [.ref a1]) (rest := []) (d1 := d) hX eL_law_130 mm_LiftGroupLaw_200 (by decide) rfl h rfl (Nat.le_refl _) b7 b8 (Nat.le_of_ble_eq_true rfl) (fun vz9 Mz9 qz9 => ?_) (fun Ez9 Mz9 qz9 => ?_)
    · obtain ⟨M5, eMz9⟩ : ∃ M5, M5 = Mz9 := ⟨_, rfl⟩; subst eMz9
      obtain ⟨v6, hxz9, h⟩ := qz9
      cases hxz9
      refine j_bipush (v := (-2 : Int32)) hX eL_law_133 (by decide) ?_
      refine j_icmp_ne hX 155 eL_law_135 (by decide) (fun c9 => ?_) (fun c9 => ?_)
      · replace h := h.2 c9
        refine j_iconst (v := (0 : Int32)) hX eL_law_155 (by decide) ?_
        exact h.elim
      · replace h := h.1 c9
        exact j_sub [0, 1, 2, 3] rfl (k138 _ _ _ _ _ _ _ h)
    · obtain ⟨v6, hxz9, h⟩ := qz9
      cases hxz9
  · obtain ⟨M1, eMz9⟩ : ∃ M1, M1 = Mz9 := ⟨_, rfl⟩; subst eMz9
    rcases qz9 with ⟨hxz9, h⟩ | ⟨hxz9, h⟩ | ⟨hxz9, h⟩ <;> cases hxz9
    · exact h.elim
    · exact h.elim
set_option maxHeartbeats 4000000 in
set_option maxRecDepth 20000 in
theorem vL_law_138 {X : am_Cx} {G : am_Gx} {d : Nat} (hX : am_ok X rL_law G (d + 1)) (hret : ∀ {pc : Nat} {lv : List (Nat × Value)} {M : am_Hp} {bc bs : Nat}, decode rL_law.2.1 pc = .ok (.ireturn, 1) → am_J X pc lv [.int (1 : Int32)] M bc bs) {bc bs : Nat} (R146 : Nat → Nat → Int32 → Int32 → am_Hp → Nat → Nat → Prop) (k146 : ∀ (x0 : Nat) (x1 : Nat) (x3 : Int32) (x4 : Int32) (M : am_Hp) (bc bs : Nat), R146 x0 x1 x3 x4 M bc bs → am_J X 146 [(0, .ref x0), (1, .ref x1), (3, .int x3), (4, .int x4)] [] M bc bs) {a0 : Nat} {a1 : Nat} {a3 : Int32} {a4 : Int32} {M : am_Hp} (h : hp_T M (a1) = 7 ∧ (1 ≤ bc ∧ (6 ≤ bs ∧ (am_CT G d rX6_failedCommand [.ref a1] M 1 6 (fun oz9 M1 => (∃ v2 : Int32, oz9 = .inl (some (.int v2)) ∧ (((v2 = (1 : Int32)) → (R146 a0 a1 a3 a4 M1 (bc - 1) (bs - 6))) ∧ (¬ (v2 = (1 : Int32)) → (False)))) ∨ ((oz9 = .inr "java/util/NoSuchElementException" ∧ False))))))) : am_J X 138 [(0, .ref a0), (1, .ref a1), (3, .int a3), (4, .int a4)] [] M bc bs := by
  refine j_aload_n hX eL_law_138 1 rfl ?_
  obtain ⟨t3, h⟩ := h
  obtain ⟨b4, b5, h⟩ := h
  refine j_callV (a := a1) (q := (RX6, TX6, 9)) (r' := rX6_failedCommand) (As := []) (rest := []) (d1 := d) hX eL_law_139 mm_LiftGroupLaw_203 rfl t3 (by decide) rfl h rfl (Nat.le_refl _) b4 b5 (Nat.le_of_ble_eq_true rfl) (fun vz9 Mz9 qz9 => ?_) (fun Ez9 Mz9 qz9 => ?_)
  · obtain ⟨M1, eMz9⟩ : ∃ M1, M1 = Mz9 := ⟨_, rfl⟩; subst eMz9
    rcases qz9 with ⟨v2, hxz9, h⟩ | ⟨hxz9, h⟩ <;> cases hxz9
    refine j_iconst (v := (1 : Int32)) hX eL_law_142 (by decide) ?_
    refine j_icmp_ne hX 155 eL_law_143 (by decide) (fun c6 => ?_) (fun c6 => ?_)
    · replace h := h.2 c6
      refine j_iconst (v := (0 : Int32)) hX eL_law_155 (by decide) ?_
      exact h.elim
    · replace h := h.1 c6
      exact j_sub [0, 1, 2, 3] rfl (k146 _ _ _ _ _ _ _ h)
  · obtain ⟨M1, eMz9⟩ : ∃ M1, M1 = Mz9 := ⟨_, rfl⟩; subst eMz9
    rcases qz9 with ⟨v2, hxz9, h⟩ | ⟨hxz9, h⟩ <;> cases hxz9
    exact h.elim
set_option maxHeartbeats 4000000 in
set_option maxRecDepth 20000 in
theorem vL_law_146 {X : am_Cx} {G : am_Gx} {d : Nat} (hX : am_ok X rL_law G (d + 1)) (hret : ∀ {pc : Nat} {lv : List (Nat × Value)} {M : am_Hp} {bc bs : Nat}, decode rL_law.2.1 pc = .ok (.ireturn, 1) → am_J X pc lv [.int (1 : Int32)] M bc bs) {bc bs : Nat} (R157 : Nat → Nat → Int32 → Int32 → am_Hp → Nat → Nat → Prop) (k157 : ∀ (x0 : Nat) (x1 : Nat) (x3 : Int32) (x4 : Int32) (M : am_Hp) (bc bs : Nat), R157 x0 x1 x3 x4 M bc bs → am_J X 157 [(0, .ref x0), (1, .ref x1), (3, .int x3), (4, .int x4)] [] M bc bs) {a0 : Nat} {a1 : Nat} {a3 : Int32} {a4 : Int32} {M : am_Hp} (h : 170 ≤ bc ∧ (1200 ≤ bs ∧ (am_CT G d rL_state [.ref a1] M 170 1200 (fun oz9 M1 => (∃ v2 : Int32, oz9 = .inl (some (.int v2)) ∧ (((v2 = a4) → (R157 a0 a1 a3 a4 M1 (bc - 170) (bs - 1200))) ∧ (¬ (v2 = a4) → (False)))) ∨ ((oz9 = .inr "java/lang/IndexOutOfBoundsException" ∧ False)))))) : am_J X 146 [(0, .ref a0), (1, .ref a1), (3, .int a3), (4, .int a4)] [] M bc bs := by
  refine j_aload_n hX eL_law_146 1 rfl ?_
  obtain ⟨b3, b4, h⟩ := h
  refine j_callS (r' := rL_state) (As := [.ref a1]) (rest := []) (d1 := d) hX eL_law_147 mm_LiftGroupLaw_182 rfl rfl h rfl (Nat.le_refl _) b3 b4 (Nat.le_of_ble_eq_true rfl) (fun vz9 Mz9 qz9 => ?_) (fun Ez9 Mz9 qz9 => ?_)
  · obtain ⟨M1, eMz9⟩ : ∃ M1, M1 = Mz9 := ⟨_, rfl⟩; subst eMz9
    rcases qz9 with ⟨v2, hxz9, h⟩ | ⟨hxz9, h⟩ <;> cases hxz9
    refine j_iload hX eL_law_150 3 rfl ?_
    refine j_icmp_eq hX 157 eL_law_152 (by decide) (fun c5 => ?_) (fun c5 => ?_)
    · replace h := h.1 c5
      exact j_sub [0, 1, 2, 3] rfl (k157 _ _ _ _ _ _ _ h)
    · replace h := h.2 c5
      refine j_iconst (v := (0 : Int32)) hX eL_law_155 (by decide) ?_
      exact h.elim
  · obtain ⟨M1, eMz9⟩ : ∃ M1, M1 = Mz9 := ⟨_, rfl⟩; subst eMz9
    rcases qz9 with ⟨v2, hxz9, h⟩ | ⟨hxz9, h⟩ <;> cases hxz9
    exact h.elim
set_option maxHeartbeats 4000000 in
set_option maxRecDepth 20000 in
theorem vL_law_157 {X : am_Cx} {G : am_Gx} {d : Nat} (hX : am_ok X rL_law G (d + 1)) (hret : ∀ {pc : Nat} {lv : List (Nat × Value)} {M : am_Hp} {bc bs : Nat}, decode rL_law.2.1 pc = .ok (.ireturn, 1) → am_J X pc lv [.int (1 : Int32)] M bc bs) {bc bs : Nat} (R172 : Nat → Nat → Int32 → Int32 → am_Hp → Nat → Nat → Prop) (k172 : ∀ (x0 : Nat) (x1 : Nat) (x3 : Int32) (x4 : Int32) (M : am_Hp) (bc bs : Nat), R172 x0 x1 x3 x4 M bc bs → am_J X 172 [(0, .ref x0), (1, .ref x1), (3, .int x3), (4, .int x4)] [] M bc bs) {a0 : Nat} {a1 : Nat} {a3 : Int32} {a4 : Int32} {M : am_Hp} (h : 30 ≤ bc ∧ (3000 ≤ bs ∧ (am_CT G d rL_put [.ref a1, .ref (gx_s G "LiftGroupLaw" 206)] M 30 3000 (fun oz9 M1 => (oz9 = .inl none ∧ (1 ≤ (bc - 30) ∧ (6 ≤ (bs - 3000) ∧ (am_CT G d rL_runs [.ref a1] M1 1 6 (fun oz9 M5 => ∃ v6 : Int32, oz9 = .inl (some (.int v6)) ∧ (((v6 = (-2 : Int32)) → (R172 a0 a1 a3 a4 M5 ((bc - 30) - 1) ((bs - 3000) - 6))) ∧ (¬ (v6 = (-2 : Int32)) → (False)))))))) ∨ ((oz9 = .inr "java/lang/IllegalArgumentException" ∧ False)) ∨ ((oz9 = .inr "java/lang/IllegalStateException" ∧ False)))))) : am_J X 157 [(0, .ref a0), (1, .ref a1), (3, .int a3), (4, .int a4)] [] M bc bs := by
  refine j_aload_n hX eL_law_157 1 rfl ?_
  refine j_ldcS hX eL_law_158 ts_LiftGroupLaw_206 ?_
  obtain ⟨b3, b4, h⟩ := h
  refine j_callS (r' := rL_put) (As := [.ref a1, .ref (gx_s G "LiftGroupLaw" 206)]) (rest := []) (d1 := d) hX eL_law_160 mm_LiftGroupLaw_188 rfl rfl h rfl (Nat.le_refl _) b3 b4 (Nat.le_of_ble_eq_true rfl) (fun vz9 Mz9 qz9 => ?_) (fun Ez9 Mz9 qz9 => ?_)
  · obtain ⟨M1, eMz9⟩ : ∃ M1, M1 = Mz9 := ⟨_, rfl⟩; subst eMz9
    rcases qz9 with ⟨hxz9, h⟩ | ⟨hxz9, h⟩ | ⟨hxz9, h⟩ <;> cases hxz9
    refine j_aload_n hX eL_law_163 1 rfl ?_
    obtain ⟨b7, b8, h⟩ := h
    refine j_callSX (r' := rL_runs) (As := [.ref a1]) (rest := []) (d1 := d) hX eL_law_164 mm_LiftGroupLaw_200 (by decide) rfl h rfl (Nat.le_refl _) b7 b8 (Nat.le_of_ble_eq_true rfl) (fun vz9 Mz9 qz9 => ?_) (fun Ez9 Mz9 qz9 => ?_)
    · obtain ⟨M5, eMz9⟩ : ∃ M5, M5 = Mz9 := ⟨_, rfl⟩; subst eMz9
      obtain ⟨v6, hxz9, h⟩ := qz9
      cases hxz9
      refine j_bipush (v := (-2 : Int32)) hX eL_law_167 (by decide) ?_
      refine j_icmp_ne hX 188 eL_law_169 (by decide) (fun c9 => ?_) (fun c9 => ?_)
      · replace h := h.2 c9
        refine j_iconst (v := (0 : Int32)) hX eL_law_188 (by decide) ?_
        exact h.elim
      · replace h := h.1 c9
        exact j_sub [0, 1, 2, 3] rfl (k172 _ _ _ _ _ _ _ h)
    · obtain ⟨v6, hxz9, h⟩ := qz9
      cases hxz9
  · obtain ⟨M1, eMz9⟩ : ∃ M1, M1 = Mz9 := ⟨_, rfl⟩; subst eMz9
    rcases qz9 with ⟨hxz9, h⟩ | ⟨hxz9, h⟩ | ⟨hxz9, h⟩ <;> cases hxz9
    · exact h.elim
    · exact h.elim
set_option maxHeartbeats 4000000 in
set_option maxRecDepth 20000 in
theorem vL_law_172 {X : am_Cx} {G : am_Gx} {d : Nat} (hX : am_ok X rL_law G (d + 1)) (hret : ∀ {pc : Nat} {lv : List (Nat × Value)} {M : am_Hp} {bc bs : Nat}, decode rL_law.2.1 pc = .ok (.ireturn, 1) → am_J X pc lv [.int (1 : Int32)] M bc bs) {bc bs : Nat} (R179 : Nat → Nat → Int32 → Int32 → am_Hp → Nat → Nat → Prop) (k179 : ∀ (x0 : Nat) (x1 : Nat) (x3 : Int32) (x4 : Int32) (M : am_Hp) (bc bs : Nat), R179 x0 x1 x3 x4 M bc bs → am_J X 179 [(0, .ref x0), (1, .ref x1), (3, .int x3), (4, .int x4)] [] M bc bs) {a0 : Nat} {a1 : Nat} {a3 : Int32} {a4 : Int32} {M : am_Hp} (h : hp_T M (a1) = 7 ∧ (1 ≤ bc ∧ (6 ≤ bs ∧ (am_CT G d rX6_failedCommand [.ref a1] M 1 6 (fun oz9 M1 => (∃ v2 : Int32, oz9 = .inl (some (.int v2)) ∧ (((v2 = 0) → (R179 a0 a1 a3 a4 M1 (bc - 1) (bs - 6))) ∧ (¬ (v2 = 0) → (False)))) ∨ ((oz9 = .inr "java/util/NoSuchElementException" ∧ False))))))) : am_J X 172 [(0, .ref a0), (1, .ref a1), (3, .int a3), (4, .int a4)] [] M bc bs := by
  refine j_aload_n hX eL_law_172 1 rfl ?_
  obtain ⟨t3, h⟩ := h
  obtain ⟨b4, b5, h⟩ := h
  refine j_callV (a := a1) (q := (RX6, TX6, 9)) (r' := rX6_failedCommand) (As := []) (rest := []) (d1 := d) hX eL_law_173 mm_LiftGroupLaw_203 rfl t3 (by decide) rfl h rfl (Nat.le_refl _) b4 b5 (Nat.le_of_ble_eq_true rfl) (fun vz9 Mz9 qz9 => ?_) (fun Ez9 Mz9 qz9 => ?_)
  · obtain ⟨M1, eMz9⟩ : ∃ M1, M1 = Mz9 := ⟨_, rfl⟩; subst eMz9
    rcases qz9 with ⟨v2, hxz9, h⟩ | ⟨hxz9, h⟩ <;> cases hxz9
    refine j_if_ne hX 188 eL_law_176 (by decide) (fun c6 => ?_) (fun c6 => ?_)
    · replace h := h.2 c6
      refine j_iconst (v := (0 : Int32)) hX eL_law_188 (by decide) ?_
      exact h.elim
    · replace h := h.1 c6
      exact j_sub [0, 1, 2, 3] rfl (k179 _ _ _ _ _ _ _ h)
  · obtain ⟨M1, eMz9⟩ : ∃ M1, M1 = Mz9 := ⟨_, rfl⟩; subst eMz9
    rcases qz9 with ⟨v2, hxz9, h⟩ | ⟨hxz9, h⟩ <;> cases hxz9
    exact h.elim
set_option maxHeartbeats 4000000 in
set_option maxRecDepth 20000 in
theorem vL_law_179 {X : am_Cx} {G : am_Gx} {d : Nat} (hX : am_ok X rL_law G (d + 1)) (hret : ∀ {pc : Nat} {lv : List (Nat × Value)} {M : am_Hp} {bc bs : Nat}, decode rL_law.2.1 pc = .ok (.ireturn, 1) → am_J X pc lv [.int (1 : Int32)] M bc bs) {bc bs : Nat} (R190 : Nat → Nat → Int32 → Int32 → am_Hp → Nat → Nat → Prop) (k190 : ∀ (x0 : Nat) (x1 : Nat) (x3 : Int32) (x4 : Int32) (M : am_Hp) (bc bs : Nat), R190 x0 x1 x3 x4 M bc bs → am_J X 190 [(0, .ref x0), (1, .ref x1), (3, .int x3), (4, .int x4)] [] M bc bs) {a0 : Nat} {a1 : Nat} {a3 : Int32} {a4 : Int32} {M : am_Hp} (h : 170 ≤ bc ∧ (1200 ≤ bs ∧ (am_CT G d rL_state [.ref a1] M 170 1200 (fun oz9 M1 => (∃ v2 : Int32, oz9 = .inl (some (.int v2)) ∧ (((v2 = a4) → (R190 a0 a1 a3 a4 M1 (bc - 170) (bs - 1200))) ∧ (¬ (v2 = a4) → (False)))) ∨ ((oz9 = .inr "java/lang/IndexOutOfBoundsException" ∧ False)))))) : am_J X 179 [(0, .ref a0), (1, .ref a1), (3, .int a3), (4, .int a4)] [] M bc bs := by
  refine j_aload_n hX eL_law_179 1 rfl ?_
  obtain ⟨b3, b4, h⟩ := h
  refine j_callS (r' := rL_state) (As := [.ref a1]) (rest := []) (d1 := d) hX eL_law_180 mm_LiftGroupLaw_182 rfl rfl h rfl (Nat.le_refl _) b3 b4 (Nat.le_of_ble_eq_true rfl) (fun vz9 Mz9 qz9 => ?_) (fun Ez9 Mz9 qz9 => ?_)
  · obtain ⟨M1, eMz9⟩ : ∃ M1, M1 = Mz9 := ⟨_, rfl⟩; subst eMz9
    rcases qz9 with ⟨v2, hxz9, h⟩ | ⟨hxz9, h⟩ <;> cases hxz9
    refine j_iload hX eL_law_183 3 rfl ?_
    refine j_icmp_eq hX 190 eL_law_185 (by decide) (fun c5 => ?_) (fun c5 => ?_)
    · replace h := h.1 c5
      exact j_sub [0, 1, 2, 3] rfl (k190 _ _ _ _ _ _ _ h)
    · replace h := h.2 c5
      refine j_iconst (v := (0 : Int32)) hX eL_law_188 (by decide) ?_
      exact h.elim
  · obtain ⟨M1, eMz9⟩ : ∃ M1, M1 = Mz9 := ⟨_, rfl⟩; subst eMz9
    rcases qz9 with ⟨v2, hxz9, h⟩ | ⟨hxz9, h⟩ <;> cases hxz9
    exact h.elim
set_option maxHeartbeats 4000000 in
set_option maxRecDepth 20000 in
theorem vL_law_190 {X : am_Cx} {G : am_Gx} {d : Nat} (hX : am_ok X rL_law G (d + 1)) (hret : ∀ {pc : Nat} {lv : List (Nat × Value)} {M : am_Hp} {bc bs : Nat}, decode rL_law.2.1 pc = .ok (.ireturn, 1) → am_J X pc lv [.int (1 : Int32)] M bc bs) {bc bs : Nat} (R200 : Nat → Nat → Int32 → Int32 → am_Hp → Nat → Nat → Prop) (k200 : ∀ (x0 : Nat) (x1 : Nat) (x3 : Int32) (x4 : Int32) (M : am_Hp) (bc bs : Nat), R200 x0 x1 x3 x4 M bc bs → am_J X 200 [(0, .ref x0), (1, .ref x1), (3, .int x3), (4, .int x4)] [] M bc bs) {a0 : Nat} {a1 : Nat} {a3 : Int32} {a4 : Int32} {M : am_Hp} (h : 32 ≤ bc ∧ (3012 ≤ bs ∧ (am_CT G d rL_fails [.ref a1, .ref (gx_s G "LiftGroupLaw" 208), .int (2 : Int32)] M 32 3012 (fun oz9 M1 => (∃ v2 : Int32, oz9 = .inl (some (.int v2)) ∧ (((v2 = 0) → (False)) ∧ (¬ (v2 = 0) → (R200 a0 a1 a3 a4 M1 (bc - 32) (bs - 3012))))) ∨ ((oz9 = .inr "java/lang/IllegalArgumentException" ∧ False)) ∨ ((oz9 = .inr "java/lang/IllegalStateException" ∧ False)) ∨ ((oz9 = .inr "java/util/NoSuchElementException" ∧ False)))))) : am_J X 190 [(0, .ref a0), (1, .ref a1), (3, .int a3), (4, .int a4)] [] M bc bs := by
  refine j_aload_n hX eL_law_190 1 rfl ?_
  refine j_ldcS hX eL_law_191 ts_LiftGroupLaw_208 ?_
  refine j_iconst (v := (2 : Int32)) hX eL_law_193 (by decide) ?_
  obtain ⟨b3, b4, h⟩ := h
  refine j_callS (r' := rL_fails) (As := [.ref a1, .ref (gx_s G "LiftGroupLaw" 208), .int (2 : Int32)]) (rest := []) (d1 := d) hX eL_law_194 mm_LiftGroupLaw_210 rfl rfl h rfl (Nat.le_refl _) b3 b4 (Nat.le_of_ble_eq_true rfl) (fun vz9 Mz9 qz9 => ?_) (fun Ez9 Mz9 qz9 => ?_)
  · obtain ⟨M1, eMz9⟩ : ∃ M1, M1 = Mz9 := ⟨_, rfl⟩; subst eMz9
    rcases qz9 with ⟨v2, hxz9, h⟩ | ⟨hxz9, h⟩ | ⟨hxz9, h⟩ | ⟨hxz9, h⟩ <;> cases hxz9
    refine j_if_eq hX 322 eL_law_197 (by decide) (fun c5 => ?_) (fun c5 => ?_)
    · replace h := h.1 c5
      refine j_iconst (v := (0 : Int32)) hX eL_law_322 (by decide) ?_
      exact h.elim
    · replace h := h.2 c5
      exact j_sub [0, 1, 2, 3] rfl (k200 _ _ _ _ _ _ _ h)
  · obtain ⟨M1, eMz9⟩ : ∃ M1, M1 = Mz9 := ⟨_, rfl⟩; subst eMz9
    rcases qz9 with ⟨v2, hxz9, h⟩ | ⟨hxz9, h⟩ | ⟨hxz9, h⟩ | ⟨hxz9, h⟩ <;> cases hxz9
    · exact h.elim
    · exact h.elim
    · exact h.elim
set_option maxHeartbeats 4000000 in
set_option maxRecDepth 20000 in
theorem vL_law_200 {X : am_Cx} {G : am_Gx} {d : Nat} (hX : am_ok X rL_law G (d + 1)) (hret : ∀ {pc : Nat} {lv : List (Nat × Value)} {M : am_Hp} {bc bs : Nat}, decode rL_law.2.1 pc = .ok (.ireturn, 1) → am_J X pc lv [.int (1 : Int32)] M bc bs) {bc bs : Nat} (R211 : Nat → Nat → Int32 → Int32 → am_Hp → Nat → Nat → Prop) (k211 : ∀ (x0 : Nat) (x1 : Nat) (x3 : Int32) (x4 : Int32) (M : am_Hp) (bc bs : Nat), R211 x0 x1 x3 x4 M bc bs → am_J X 211 [(0, .ref x0), (1, .ref x1), (3, .int x3), (4, .int x4)] [] M bc bs) {a0 : Nat} {a1 : Nat} {a3 : Int32} {a4 : Int32} {M : am_Hp} (h : 32 ≤ bc ∧ (3012 ≤ bs ∧ (am_CT G d rL_fails [.ref a1, .ref (gx_s G "LiftGroupLaw" 214), .int (8 : Int32)] M 32 3012 (fun oz9 M1 => (∃ v2 : Int32, oz9 = .inl (some (.int v2)) ∧ (((v2 = 0) → (False)) ∧ (¬ (v2 = 0) → (R211 a0 a1 a3 a4 M1 (bc - 32) (bs - 3012))))) ∨ ((oz9 = .inr "java/lang/IllegalArgumentException" ∧ False)) ∨ ((oz9 = .inr "java/lang/IllegalStateException" ∧ False)) ∨ ((oz9 = .inr "java/util/NoSuchElementException" ∧ False)))))) : am_J X 200 [(0, .ref a0), (1, .ref a1), (3, .int a3), (4, .int a4)] [] M bc bs := by
  refine j_aload_n hX eL_law_200 1 rfl ?_
  refine j_ldcS hX eL_law_201 ts_LiftGroupLaw_214 ?_
  refine j_bipush (v := (8 : Int32)) hX eL_law_203 (by decide) ?_
  obtain ⟨b3, b4, h⟩ := h
  refine j_callS (r' := rL_fails) (As := [.ref a1, .ref (gx_s G "LiftGroupLaw" 214), .int (8 : Int32)]) (rest := []) (d1 := d) hX eL_law_205 mm_LiftGroupLaw_210 rfl rfl h rfl (Nat.le_refl _) b3 b4 (Nat.le_of_ble_eq_true rfl) (fun vz9 Mz9 qz9 => ?_) (fun Ez9 Mz9 qz9 => ?_)
  · obtain ⟨M1, eMz9⟩ : ∃ M1, M1 = Mz9 := ⟨_, rfl⟩; subst eMz9
    rcases qz9 with ⟨v2, hxz9, h⟩ | ⟨hxz9, h⟩ | ⟨hxz9, h⟩ | ⟨hxz9, h⟩ <;> cases hxz9
    refine j_if_eq hX 322 eL_law_208 (by decide) (fun c5 => ?_) (fun c5 => ?_)
    · replace h := h.1 c5
      refine j_iconst (v := (0 : Int32)) hX eL_law_322 (by decide) ?_
      exact h.elim
    · replace h := h.2 c5
      exact j_sub [0, 1, 2, 3] rfl (k211 _ _ _ _ _ _ _ h)
  · obtain ⟨M1, eMz9⟩ : ∃ M1, M1 = Mz9 := ⟨_, rfl⟩; subst eMz9
    rcases qz9 with ⟨v2, hxz9, h⟩ | ⟨hxz9, h⟩ | ⟨hxz9, h⟩ | ⟨hxz9, h⟩ <;> cases hxz9
    · exact h.elim
    · exact h.elim
    · exact h.elim
set_option maxHeartbeats 4000000 in
set_option maxRecDepth 20000 in
theorem vL_law_211 {X : am_Cx} {G : am_Gx} {d : Nat} (hX : am_ok X rL_law G (d + 1)) (hret : ∀ {pc : Nat} {lv : List (Nat × Value)} {M : am_Hp} {bc bs : Nat}, decode rL_law.2.1 pc = .ok (.ireturn, 1) → am_J X pc lv [.int (1 : Int32)] M bc bs) {bc bs : Nat} (R221 : Nat → Nat → Int32 → Int32 → am_Hp → Nat → Nat → Prop) (k221 : ∀ (x0 : Nat) (x1 : Nat) (x3 : Int32) (x4 : Int32) (M : am_Hp) (bc bs : Nat), R221 x0 x1 x3 x4 M bc bs → am_J X 221 [(0, .ref x0), (1, .ref x1), (3, .int x3), (4, .int x4)] [] M bc bs) {a0 : Nat} {a1 : Nat} {a3 : Int32} {a4 : Int32} {M : am_Hp} (h : 32 ≤ bc ∧ (3012 ≤ bs ∧ (am_CT G d rL_fails [.ref a1, .ref (gx_s G "LiftGroupLaw" 216), .int (5 : Int32)] M 32 3012 (fun oz9 M1 => (∃ v2 : Int32, oz9 = .inl (some (.int v2)) ∧ (((v2 = 0) → (False)) ∧ (¬ (v2 = 0) → (R221 a0 a1 a3 a4 M1 (bc - 32) (bs - 3012))))) ∨ ((oz9 = .inr "java/lang/IllegalArgumentException" ∧ False)) ∨ ((oz9 = .inr "java/lang/IllegalStateException" ∧ False)) ∨ ((oz9 = .inr "java/util/NoSuchElementException" ∧ False)))))) : am_J X 211 [(0, .ref a0), (1, .ref a1), (3, .int a3), (4, .int a4)] [] M bc bs := by
  refine j_aload_n hX eL_law_211 1 rfl ?_
  refine j_ldcS hX eL_law_212 ts_LiftGroupLaw_216 ?_
  refine j_iconst (v := (5 : Int32)) hX eL_law_214 (by decide) ?_
  obtain ⟨b3, b4, h⟩ := h
  refine j_callS (r' := rL_fails) (As := [.ref a1, .ref (gx_s G "LiftGroupLaw" 216), .int (5 : Int32)]) (rest := []) (d1 := d) hX eL_law_215 mm_LiftGroupLaw_210 rfl rfl h rfl (Nat.le_refl _) b3 b4 (Nat.le_of_ble_eq_true rfl) (fun vz9 Mz9 qz9 => ?_) (fun Ez9 Mz9 qz9 => ?_)
  · obtain ⟨M1, eMz9⟩ : ∃ M1, M1 = Mz9 := ⟨_, rfl⟩; subst eMz9
    rcases qz9 with ⟨v2, hxz9, h⟩ | ⟨hxz9, h⟩ | ⟨hxz9, h⟩ | ⟨hxz9, h⟩ <;> cases hxz9
    refine j_if_eq hX 322 eL_law_218 (by decide) (fun c5 => ?_) (fun c5 => ?_)
    · replace h := h.1 c5
      refine j_iconst (v := (0 : Int32)) hX eL_law_322 (by decide) ?_
      exact h.elim
    · replace h := h.2 c5
      exact j_sub [0, 1, 2, 3] rfl (k221 _ _ _ _ _ _ _ h)
  · obtain ⟨M1, eMz9⟩ : ∃ M1, M1 = Mz9 := ⟨_, rfl⟩; subst eMz9
    rcases qz9 with ⟨v2, hxz9, h⟩ | ⟨hxz9, h⟩ | ⟨hxz9, h⟩ | ⟨hxz9, h⟩ <;> cases hxz9
    · exact h.elim
    · exact h.elim
    · exact h.elim
set_option maxHeartbeats 4000000 in
set_option maxRecDepth 20000 in
theorem vL_law_221 {X : am_Cx} {G : am_Gx} {d : Nat} (hX : am_ok X rL_law G (d + 1)) (hret : ∀ {pc : Nat} {lv : List (Nat × Value)} {M : am_Hp} {bc bs : Nat}, decode rL_law.2.1 pc = .ok (.ireturn, 1) → am_J X pc lv [.int (1 : Int32)] M bc bs) {bc bs : Nat} (R232 : Nat → Nat → Int32 → Int32 → am_Hp → Nat → Nat → Prop) (k232 : ∀ (x0 : Nat) (x1 : Nat) (x3 : Int32) (x4 : Int32) (M : am_Hp) (bc bs : Nat), R232 x0 x1 x3 x4 M bc bs → am_J X 232 [(0, .ref x0), (1, .ref x1), (3, .int x3), (4, .int x4)] [] M bc bs) {a0 : Nat} {a1 : Nat} {a3 : Int32} {a4 : Int32} {M : am_Hp} (h : 32 ≤ bc ∧ (3012 ≤ bs ∧ (am_CT G d rL_fails [.ref a1, .ref (gx_s G "LiftGroupLaw" 218), .int (6 : Int32)] M 32 3012 (fun oz9 M1 => (∃ v2 : Int32, oz9 = .inl (some (.int v2)) ∧ (((v2 = 0) → (False)) ∧ (¬ (v2 = 0) → (R232 a0 a1 a3 a4 M1 (bc - 32) (bs - 3012))))) ∨ ((oz9 = .inr "java/lang/IllegalArgumentException" ∧ False)) ∨ ((oz9 = .inr "java/lang/IllegalStateException" ∧ False)) ∨ ((oz9 = .inr "java/util/NoSuchElementException" ∧ False)))))) : am_J X 221 [(0, .ref a0), (1, .ref a1), (3, .int a3), (4, .int a4)] [] M bc bs := by
  refine j_aload_n hX eL_law_221 1 rfl ?_
  refine j_ldcS hX eL_law_222 ts_LiftGroupLaw_218 ?_
  refine j_bipush (v := (6 : Int32)) hX eL_law_224 (by decide) ?_
  obtain ⟨b3, b4, h⟩ := h
  refine j_callS (r' := rL_fails) (As := [.ref a1, .ref (gx_s G "LiftGroupLaw" 218), .int (6 : Int32)]) (rest := []) (d1 := d) hX eL_law_226 mm_LiftGroupLaw_210 rfl rfl h rfl (Nat.le_refl _) b3 b4 (Nat.le_of_ble_eq_true rfl) (fun vz9 Mz9 qz9 => ?_) (fun Ez9 Mz9 qz9 => ?_)
  · obtain ⟨M1, eMz9⟩ : ∃ M1, M1 = Mz9 := ⟨_, rfl⟩; subst eMz9
    rcases qz9 with ⟨v2, hxz9, h⟩ | ⟨hxz9, h⟩ | ⟨hxz9, h⟩ | ⟨hxz9, h⟩ <;> cases hxz9
    refine j_if_eq hX 322 eL_law_229 (by decide) (fun c5 => ?_) (fun c5 => ?_)
    · replace h := h.1 c5
      refine j_iconst (v := (0 : Int32)) hX eL_law_322 (by decide) ?_
      exact h.elim
    · replace h := h.2 c5
      exact j_sub [0, 1, 2, 3] rfl (k232 _ _ _ _ _ _ _ h)
  · obtain ⟨M1, eMz9⟩ : ∃ M1, M1 = Mz9 := ⟨_, rfl⟩; subst eMz9
    rcases qz9 with ⟨v2, hxz9, h⟩ | ⟨hxz9, h⟩ | ⟨hxz9, h⟩ | ⟨hxz9, h⟩ <;> cases hxz9
    · exact h.elim
    · exact h.elim
    · exact h.elim
set_option maxHeartbeats 4000000 in
set_option maxRecDepth 20000 in
theorem vL_law_232 {X : am_Cx} {G : am_Gx} {d : Nat} (hX : am_ok X rL_law G (d + 1)) (hret : ∀ {pc : Nat} {lv : List (Nat × Value)} {M : am_Hp} {bc bs : Nat}, decode rL_law.2.1 pc = .ok (.ireturn, 1) → am_J X pc lv [.int (1 : Int32)] M bc bs) {bc bs : Nat} (R243 : Nat → Nat → Int32 → Int32 → am_Hp → Nat → Nat → Prop) (k243 : ∀ (x0 : Nat) (x1 : Nat) (x3 : Int32) (x4 : Int32) (M : am_Hp) (bc bs : Nat), R243 x0 x1 x3 x4 M bc bs → am_J X 243 [(0, .ref x0), (1, .ref x1), (3, .int x3), (4, .int x4)] [] M bc bs) {a0 : Nat} {a1 : Nat} {a3 : Int32} {a4 : Int32} {M : am_Hp} (h : 32 ≤ bc ∧ (3012 ≤ bs ∧ (am_CT G d rL_fails [.ref a1, .ref (gx_s G "LiftGroupLaw" 220), .int (11 : Int32)] M 32 3012 (fun oz9 M1 => (∃ v2 : Int32, oz9 = .inl (some (.int v2)) ∧ (((v2 = 0) → (False)) ∧ (¬ (v2 = 0) → (R243 a0 a1 a3 a4 M1 (bc - 32) (bs - 3012))))) ∨ ((oz9 = .inr "java/lang/IllegalArgumentException" ∧ False)) ∨ ((oz9 = .inr "java/lang/IllegalStateException" ∧ False)) ∨ ((oz9 = .inr "java/util/NoSuchElementException" ∧ False)))))) : am_J X 232 [(0, .ref a0), (1, .ref a1), (3, .int a3), (4, .int a4)] [] M bc bs := by
  refine j_aload_n hX eL_law_232 1 rfl ?_
  refine j_ldcS hX eL_law_233 ts_LiftGroupLaw_220 ?_
  refine j_bipush (v := (11 : Int32)) hX eL_law_235 (by decide) ?_
  obtain ⟨b3, b4, h⟩ := h
  refine j_callS (r' := rL_fails) (As := [.ref a1, .ref (gx_s G "LiftGroupLaw" 220), .int (11 : Int32)]) (rest := []) (d1 := d) hX eL_law_237 mm_LiftGroupLaw_210 rfl rfl h rfl (Nat.le_refl _) b3 b4 (Nat.le_of_ble_eq_true rfl) (fun vz9 Mz9 qz9 => ?_) (fun Ez9 Mz9 qz9 => ?_)
  · obtain ⟨M1, eMz9⟩ : ∃ M1, M1 = Mz9 := ⟨_, rfl⟩; subst eMz9
    rcases qz9 with ⟨v2, hxz9, h⟩ | ⟨hxz9, h⟩ | ⟨hxz9, h⟩ | ⟨hxz9, h⟩ <;> cases hxz9
    refine j_if_eq hX 322 eL_law_240 (by decide) (fun c5 => ?_) (fun c5 => ?_)
    · replace h := h.1 c5
      refine j_iconst (v := (0 : Int32)) hX eL_law_322 (by decide) ?_
      exact h.elim
    · replace h := h.2 c5
      exact j_sub [0, 1, 2, 3] rfl (k243 _ _ _ _ _ _ _ h)
  · obtain ⟨M1, eMz9⟩ : ∃ M1, M1 = Mz9 := ⟨_, rfl⟩; subst eMz9
    rcases qz9 with ⟨v2, hxz9, h⟩ | ⟨hxz9, h⟩ | ⟨hxz9, h⟩ | ⟨hxz9, h⟩ <;> cases hxz9
    · exact h.elim
    · exact h.elim
    · exact h.elim
set_option maxHeartbeats 4000000 in
set_option maxRecDepth 20000 in
theorem vL_law_243 {X : am_Cx} {G : am_Gx} {d : Nat} (hX : am_ok X rL_law G (d + 1)) (hret : ∀ {pc : Nat} {lv : List (Nat × Value)} {M : am_Hp} {bc bs : Nat}, decode rL_law.2.1 pc = .ok (.ireturn, 1) → am_J X pc lv [.int (1 : Int32)] M bc bs) {bc bs : Nat} (R253 : Nat → Nat → Int32 → Int32 → am_Hp → Nat → Nat → Prop) (k253 : ∀ (x0 : Nat) (x1 : Nat) (x3 : Int32) (x4 : Int32) (M : am_Hp) (bc bs : Nat), R253 x0 x1 x3 x4 M bc bs → am_J X 253 [(0, .ref x0), (1, .ref x1), (3, .int x3), (4, .int x4)] [] M bc bs) {a0 : Nat} {a1 : Nat} {a3 : Int32} {a4 : Int32} {M : am_Hp} (h : 32 ≤ bc ∧ (3012 ≤ bs ∧ (am_CT G d rL_fails [.ref a1, .ref (gx_s G "LiftGroupLaw" 222), .int (0 : Int32)] M 32 3012 (fun oz9 M1 => (∃ v2 : Int32, oz9 = .inl (some (.int v2)) ∧ (((v2 = 0) → (False)) ∧ (¬ (v2 = 0) → (R253 a0 a1 a3 a4 M1 (bc - 32) (bs - 3012))))) ∨ ((oz9 = .inr "java/lang/IllegalArgumentException" ∧ False)) ∨ ((oz9 = .inr "java/lang/IllegalStateException" ∧ False)) ∨ ((oz9 = .inr "java/util/NoSuchElementException" ∧ False)))))) : am_J X 243 [(0, .ref a0), (1, .ref a1), (3, .int a3), (4, .int a4)] [] M bc bs := by
  refine j_aload_n hX eL_law_243 1 rfl ?_
  refine j_ldcS hX eL_law_244 ts_LiftGroupLaw_222 ?_
  refine j_iconst (v := (0 : Int32)) hX eL_law_246 (by decide) ?_
  obtain ⟨b3, b4, h⟩ := h
  refine j_callS (r' := rL_fails) (As := [.ref a1, .ref (gx_s G "LiftGroupLaw" 222), .int (0 : Int32)]) (rest := []) (d1 := d) hX eL_law_247 mm_LiftGroupLaw_210 rfl rfl h rfl (Nat.le_refl _) b3 b4 (Nat.le_of_ble_eq_true rfl) (fun vz9 Mz9 qz9 => ?_) (fun Ez9 Mz9 qz9 => ?_)
  · obtain ⟨M1, eMz9⟩ : ∃ M1, M1 = Mz9 := ⟨_, rfl⟩; subst eMz9
    rcases qz9 with ⟨v2, hxz9, h⟩ | ⟨hxz9, h⟩ | ⟨hxz9, h⟩ | ⟨hxz9, h⟩ <;> cases hxz9
    refine j_if_eq hX 322 eL_law_250 (by decide) (fun c5 => ?_) (fun c5 => ?_)
    · replace h := h.1 c5
      refine j_iconst (v := (0 : Int32)) hX eL_law_322 (by decide) ?_
      exact h.elim
    · replace h := h.2 c5
      exact j_sub [0, 1, 2, 3] rfl (k253 _ _ _ _ _ _ _ h)
  · obtain ⟨M1, eMz9⟩ : ∃ M1, M1 = Mz9 := ⟨_, rfl⟩; subst eMz9
    rcases qz9 with ⟨v2, hxz9, h⟩ | ⟨hxz9, h⟩ | ⟨hxz9, h⟩ | ⟨hxz9, h⟩ <;> cases hxz9
    · exact h.elim
    · exact h.elim
    · exact h.elim
set_option maxHeartbeats 4000000 in
set_option maxRecDepth 20000 in
theorem vL_law_253 {X : am_Cx} {G : am_Gx} {d : Nat} (hX : am_ok X rL_law G (d + 1)) (hret : ∀ {pc : Nat} {lv : List (Nat × Value)} {M : am_Hp} {bc bs : Nat}, decode rL_law.2.1 pc = .ok (.ireturn, 1) → am_J X pc lv [.int (1 : Int32)] M bc bs) {bc bs : Nat} (R264 : Nat → Nat → Int32 → Int32 → am_Hp → Nat → Nat → Prop) (k264 : ∀ (x0 : Nat) (x1 : Nat) (x3 : Int32) (x4 : Int32) (M : am_Hp) (bc bs : Nat), R264 x0 x1 x3 x4 M bc bs → am_J X 264 [(0, .ref x0), (1, .ref x1), (3, .int x3), (4, .int x4)] [] M bc bs) {a0 : Nat} {a1 : Nat} {a3 : Int32} {a4 : Int32} {M : am_Hp} (h : 32 ≤ bc ∧ (3012 ≤ bs ∧ (am_CT G d rL_fails [.ref a1, .ref (gx_s G "LiftGroupLaw" 224), .int (7 : Int32)] M 32 3012 (fun oz9 M1 => (∃ v2 : Int32, oz9 = .inl (some (.int v2)) ∧ (((v2 = 0) → (False)) ∧ (¬ (v2 = 0) → (R264 a0 a1 a3 a4 M1 (bc - 32) (bs - 3012))))) ∨ ((oz9 = .inr "java/lang/IllegalArgumentException" ∧ False)) ∨ ((oz9 = .inr "java/lang/IllegalStateException" ∧ False)) ∨ ((oz9 = .inr "java/util/NoSuchElementException" ∧ False)))))) : am_J X 253 [(0, .ref a0), (1, .ref a1), (3, .int a3), (4, .int a4)] [] M bc bs := by
  refine j_aload_n hX eL_law_253 1 rfl ?_
  refine j_ldcS hX eL_law_254 ts_LiftGroupLaw_224 ?_
  refine j_bipush (v := (7 : Int32)) hX eL_law_256 (by decide) ?_
  obtain ⟨b3, b4, h⟩ := h
  refine j_callS (r' := rL_fails) (As := [.ref a1, .ref (gx_s G "LiftGroupLaw" 224), .int (7 : Int32)]) (rest := []) (d1 := d) hX eL_law_258 mm_LiftGroupLaw_210 rfl rfl h rfl (Nat.le_refl _) b3 b4 (Nat.le_of_ble_eq_true rfl) (fun vz9 Mz9 qz9 => ?_) (fun Ez9 Mz9 qz9 => ?_)
  · obtain ⟨M1, eMz9⟩ : ∃ M1, M1 = Mz9 := ⟨_, rfl⟩; subst eMz9
    rcases qz9 with ⟨v2, hxz9, h⟩ | ⟨hxz9, h⟩ | ⟨hxz9, h⟩ | ⟨hxz9, h⟩ <;> cases hxz9
    refine j_if_eq hX 322 eL_law_261 (by decide) (fun c5 => ?_) (fun c5 => ?_)
    · replace h := h.1 c5
      refine j_iconst (v := (0 : Int32)) hX eL_law_322 (by decide) ?_
      exact h.elim
    · replace h := h.2 c5
      exact j_sub [0, 1, 2, 3] rfl (k264 _ _ _ _ _ _ _ h)
  · obtain ⟨M1, eMz9⟩ : ∃ M1, M1 = Mz9 := ⟨_, rfl⟩; subst eMz9
    rcases qz9 with ⟨v2, hxz9, h⟩ | ⟨hxz9, h⟩ | ⟨hxz9, h⟩ | ⟨hxz9, h⟩ <;> cases hxz9
    · exact h.elim
    · exact h.elim
    · exact h.elim
set_option maxHeartbeats 4000000 in
set_option maxRecDepth 20000 in
theorem vL_law_264 {X : am_Cx} {G : am_Gx} {d : Nat} (hX : am_ok X rL_law G (d + 1)) (hret : ∀ {pc : Nat} {lv : List (Nat × Value)} {M : am_Hp} {bc bs : Nat}, decode rL_law.2.1 pc = .ok (.ireturn, 1) → am_J X pc lv [.int (1 : Int32)] M bc bs) {bc bs : Nat} (R274 : Nat → Nat → Int32 → Int32 → am_Hp → Nat → Nat → Prop) (k274 : ∀ (x0 : Nat) (x1 : Nat) (x3 : Int32) (x4 : Int32) (M : am_Hp) (bc bs : Nat), R274 x0 x1 x3 x4 M bc bs → am_J X 274 [(0, .ref x0), (1, .ref x1), (3, .int x3), (4, .int x4)] [] M bc bs) {a0 : Nat} {a1 : Nat} {a3 : Int32} {a4 : Int32} {M : am_Hp} (h : 32 ≤ bc ∧ (3012 ≤ bs ∧ (am_CT G d rL_fails [.ref a1, .ref (gx_s G "LiftGroupLaw" 226), .int (1 : Int32)] M 32 3012 (fun oz9 M1 => (∃ v2 : Int32, oz9 = .inl (some (.int v2)) ∧ (((v2 = 0) → (False)) ∧ (¬ (v2 = 0) → (R274 a0 a1 a3 a4 M1 (bc - 32) (bs - 3012))))) ∨ ((oz9 = .inr "java/lang/IllegalArgumentException" ∧ False)) ∨ ((oz9 = .inr "java/lang/IllegalStateException" ∧ False)) ∨ ((oz9 = .inr "java/util/NoSuchElementException" ∧ False)))))) : am_J X 264 [(0, .ref a0), (1, .ref a1), (3, .int a3), (4, .int a4)] [] M bc bs := by
  refine j_aload_n hX eL_law_264 1 rfl ?_
  refine j_ldcS hX eL_law_265 ts_LiftGroupLaw_226 ?_
  refine j_iconst (v := (1 : Int32)) hX eL_law_267 (by decide) ?_
  obtain ⟨b3, b4, h⟩ := h
  refine j_callS (r' := rL_fails) (As := [.ref a1, .ref (gx_s G "LiftGroupLaw" 226), .int (1 : Int32)]) (rest := []) (d1 := d) hX eL_law_268 mm_LiftGroupLaw_210 rfl rfl h rfl (Nat.le_refl _) b3 b4 (Nat.le_of_ble_eq_true rfl) (fun vz9 Mz9 qz9 => ?_) (fun Ez9 Mz9 qz9 => ?_)
  · obtain ⟨M1, eMz9⟩ : ∃ M1, M1 = Mz9 := ⟨_, rfl⟩; subst eMz9
    rcases qz9 with ⟨v2, hxz9, h⟩ | ⟨hxz9, h⟩ | ⟨hxz9, h⟩ | ⟨hxz9, h⟩ <;> cases hxz9
    refine j_if_eq hX 322 eL_law_271 (by decide) (fun c5 => ?_) (fun c5 => ?_)
    · replace h := h.1 c5
      refine j_iconst (v := (0 : Int32)) hX eL_law_322 (by decide) ?_
      exact h.elim
    · replace h := h.2 c5
      exact j_sub [0, 1, 2, 3] rfl (k274 _ _ _ _ _ _ _ h)
  · obtain ⟨M1, eMz9⟩ : ∃ M1, M1 = Mz9 := ⟨_, rfl⟩; subst eMz9
    rcases qz9 with ⟨v2, hxz9, h⟩ | ⟨hxz9, h⟩ | ⟨hxz9, h⟩ | ⟨hxz9, h⟩ <;> cases hxz9
    · exact h.elim
    · exact h.elim
    · exact h.elim
set_option maxHeartbeats 4000000 in
set_option maxRecDepth 20000 in
theorem vL_law_274 {X : am_Cx} {G : am_Gx} {d : Nat} (hX : am_ok X rL_law G (d + 1)) (hret : ∀ {pc : Nat} {lv : List (Nat × Value)} {M : am_Hp} {bc bs : Nat}, decode rL_law.2.1 pc = .ok (.ireturn, 1) → am_J X pc lv [.int (1 : Int32)] M bc bs) {bc bs : Nat} (R285 : Nat → Nat → Int32 → Int32 → am_Hp → Nat → Nat → Prop) (k285 : ∀ (x0 : Nat) (x1 : Nat) (x3 : Int32) (x4 : Int32) (M : am_Hp) (bc bs : Nat), R285 x0 x1 x3 x4 M bc bs → am_J X 285 [(0, .ref x0), (1, .ref x1), (3, .int x3), (4, .int x4)] [] M bc bs) {a0 : Nat} {a1 : Nat} {a3 : Int32} {a4 : Int32} {M : am_Hp} (h : 32 ≤ bc ∧ (3012 ≤ bs ∧ (am_CT G d rL_fails [.ref a1, .ref (gx_s G "LiftGroupLaw" 228), .int (8 : Int32)] M 32 3012 (fun oz9 M1 => (∃ v2 : Int32, oz9 = .inl (some (.int v2)) ∧ (((v2 = 0) → (False)) ∧ (¬ (v2 = 0) → (R285 a0 a1 a3 a4 M1 (bc - 32) (bs - 3012))))) ∨ ((oz9 = .inr "java/lang/IllegalArgumentException" ∧ False)) ∨ ((oz9 = .inr "java/lang/IllegalStateException" ∧ False)) ∨ ((oz9 = .inr "java/util/NoSuchElementException" ∧ False)))))) : am_J X 274 [(0, .ref a0), (1, .ref a1), (3, .int a3), (4, .int a4)] [] M bc bs := by
  refine j_aload_n hX eL_law_274 1 rfl ?_
  refine j_ldcS hX eL_law_275 ts_LiftGroupLaw_228 ?_
  refine j_bipush (v := (8 : Int32)) hX eL_law_277 (by decide) ?_
  obtain ⟨b3, b4, h⟩ := h
  refine j_callS (r' := rL_fails) (As := [.ref a1, .ref (gx_s G "LiftGroupLaw" 228), .int (8 : Int32)]) (rest := []) (d1 := d) hX eL_law_279 mm_LiftGroupLaw_210 rfl rfl h rfl (Nat.le_refl _) b3 b4 (Nat.le_of_ble_eq_true rfl) (fun vz9 Mz9 qz9 => ?_) (fun Ez9 Mz9 qz9 => ?_)
  · obtain ⟨M1, eMz9⟩ : ∃ M1, M1 = Mz9 := ⟨_, rfl⟩; subst eMz9
    rcases qz9 with ⟨v2, hxz9, h⟩ | ⟨hxz9, h⟩ | ⟨hxz9, h⟩ | ⟨hxz9, h⟩ <;> cases hxz9
    refine j_if_eq hX 322 eL_law_282 (by decide) (fun c5 => ?_) (fun c5 => ?_)
    · replace h := h.1 c5
      refine j_iconst (v := (0 : Int32)) hX eL_law_322 (by decide) ?_
      exact h.elim
    · replace h := h.2 c5
      exact j_sub [0, 1, 2, 3] rfl (k285 _ _ _ _ _ _ _ h)
  · obtain ⟨M1, eMz9⟩ : ∃ M1, M1 = Mz9 := ⟨_, rfl⟩; subst eMz9
    rcases qz9 with ⟨v2, hxz9, h⟩ | ⟨hxz9, h⟩ | ⟨hxz9, h⟩ | ⟨hxz9, h⟩ <;> cases hxz9
    · exact h.elim
    · exact h.elim
    · exact h.elim
set_option maxHeartbeats 4000000 in
set_option maxRecDepth 20000 in
theorem vL_law_285 {X : am_Cx} {G : am_Gx} {d : Nat} (hX : am_ok X rL_law G (d + 1)) (hret : ∀ {pc : Nat} {lv : List (Nat × Value)} {M : am_Hp} {bc bs : Nat}, decode rL_law.2.1 pc = .ok (.ireturn, 1) → am_J X pc lv [.int (1 : Int32)] M bc bs) {bc bs : Nat} (R296 : Nat → Nat → Int32 → Int32 → am_Hp → Nat → Nat → Prop) (k296 : ∀ (x0 : Nat) (x1 : Nat) (x3 : Int32) (x4 : Int32) (M : am_Hp) (bc bs : Nat), R296 x0 x1 x3 x4 M bc bs → am_J X 296 [(0, .ref x0), (1, .ref x1), (3, .int x3), (4, .int x4)] [] M bc bs) {a0 : Nat} {a1 : Nat} {a3 : Int32} {a4 : Int32} {M : am_Hp} (h : 32 ≤ bc ∧ (3012 ≤ bs ∧ (am_CT G d rL_fails [.ref a1, .ref (gx_s G "LiftGroupLaw" 230), .int (6 : Int32)] M 32 3012 (fun oz9 M1 => (∃ v2 : Int32, oz9 = .inl (some (.int v2)) ∧ (((v2 = 0) → (False)) ∧ (¬ (v2 = 0) → (R296 a0 a1 a3 a4 M1 (bc - 32) (bs - 3012))))) ∨ ((oz9 = .inr "java/lang/IllegalArgumentException" ∧ False)) ∨ ((oz9 = .inr "java/lang/IllegalStateException" ∧ False)) ∨ ((oz9 = .inr "java/util/NoSuchElementException" ∧ False)))))) : am_J X 285 [(0, .ref a0), (1, .ref a1), (3, .int a3), (4, .int a4)] [] M bc bs := by
  refine j_aload_n hX eL_law_285 1 rfl ?_
  refine j_ldcS hX eL_law_286 ts_LiftGroupLaw_230 ?_
  refine j_bipush (v := (6 : Int32)) hX eL_law_288 (by decide) ?_
  obtain ⟨b3, b4, h⟩ := h
  refine j_callS (r' := rL_fails) (As := [.ref a1, .ref (gx_s G "LiftGroupLaw" 230), .int (6 : Int32)]) (rest := []) (d1 := d) hX eL_law_290 mm_LiftGroupLaw_210 rfl rfl h rfl (Nat.le_refl _) b3 b4 (Nat.le_of_ble_eq_true rfl) (fun vz9 Mz9 qz9 => ?_) (fun Ez9 Mz9 qz9 => ?_)
  · obtain ⟨M1, eMz9⟩ : ∃ M1, M1 = Mz9 := ⟨_, rfl⟩; subst eMz9
    rcases qz9 with ⟨v2, hxz9, h⟩ | ⟨hxz9, h⟩ | ⟨hxz9, h⟩ | ⟨hxz9, h⟩ <;> cases hxz9
    refine j_if_eq hX 322 eL_law_293 (by decide) (fun c5 => ?_) (fun c5 => ?_)
    · replace h := h.1 c5
      refine j_iconst (v := (0 : Int32)) hX eL_law_322 (by decide) ?_
      exact h.elim
    · replace h := h.2 c5
      exact j_sub [0, 1, 2, 3] rfl (k296 _ _ _ _ _ _ _ h)
  · obtain ⟨M1, eMz9⟩ : ∃ M1, M1 = Mz9 := ⟨_, rfl⟩; subst eMz9
    rcases qz9 with ⟨v2, hxz9, h⟩ | ⟨hxz9, h⟩ | ⟨hxz9, h⟩ | ⟨hxz9, h⟩ <;> cases hxz9
    · exact h.elim
    · exact h.elim
    · exact h.elim
set_option maxHeartbeats 4000000 in
set_option maxRecDepth 20000 in
theorem vL_law_296 {X : am_Cx} {G : am_Gx} {d : Nat} (hX : am_ok X rL_law G (d + 1)) (hret : ∀ {pc : Nat} {lv : List (Nat × Value)} {M : am_Hp} {bc bs : Nat}, decode rL_law.2.1 pc = .ok (.ireturn, 1) → am_J X pc lv [.int (1 : Int32)] M bc bs) {bc bs : Nat} (R306 : Nat → Nat → Int32 → Int32 → am_Hp → Nat → Nat → Prop) (k306 : ∀ (x0 : Nat) (x1 : Nat) (x3 : Int32) (x4 : Int32) (M : am_Hp) (bc bs : Nat), R306 x0 x1 x3 x4 M bc bs → am_J X 306 [(0, .ref x0), (1, .ref x1), (3, .int x3), (4, .int x4)] [] M bc bs) {a0 : Nat} {a1 : Nat} {a3 : Int32} {a4 : Int32} {M : am_Hp} (h : 32 ≤ bc ∧ (3012 ≤ bs ∧ (am_CT G d rL_fails [.ref a1, .ref (gx_s G "LiftGroupLaw" 232), .int (0 : Int32)] M 32 3012 (fun oz9 M1 => (∃ v2 : Int32, oz9 = .inl (some (.int v2)) ∧ (((v2 = 0) → (False)) ∧ (¬ (v2 = 0) → (R306 a0 a1 a3 a4 M1 (bc - 32) (bs - 3012))))) ∨ ((oz9 = .inr "java/lang/IllegalArgumentException" ∧ False)) ∨ ((oz9 = .inr "java/lang/IllegalStateException" ∧ False)) ∨ ((oz9 = .inr "java/util/NoSuchElementException" ∧ False)))))) : am_J X 296 [(0, .ref a0), (1, .ref a1), (3, .int a3), (4, .int a4)] [] M bc bs := by
  refine j_aload_n hX eL_law_296 1 rfl ?_
  refine j_ldcS hX eL_law_297 ts_LiftGroupLaw_232 ?_
  refine j_iconst (v := (0 : Int32)) hX eL_law_299 (by decide) ?_
  obtain ⟨b3, b4, h⟩ := h
  refine j_callS (r' := rL_fails) (As := [.ref a1, .ref (gx_s G "LiftGroupLaw" 232), .int (0 : Int32)]) (rest := []) (d1 := d) hX eL_law_300 mm_LiftGroupLaw_210 rfl rfl h rfl (Nat.le_refl _) b3 b4 (Nat.le_of_ble_eq_true rfl) (fun vz9 Mz9 qz9 => ?_) (fun Ez9 Mz9 qz9 => ?_)
  · obtain ⟨M1, eMz9⟩ : ∃ M1, M1 = Mz9 := ⟨_, rfl⟩; subst eMz9
    rcases qz9 with ⟨v2, hxz9, h⟩ | ⟨hxz9, h⟩ | ⟨hxz9, h⟩ | ⟨hxz9, h⟩ <;> cases hxz9
    refine j_if_eq hX 322 eL_law_303 (by decide) (fun c5 => ?_) (fun c5 => ?_)
    · replace h := h.1 c5
      refine j_iconst (v := (0 : Int32)) hX eL_law_322 (by decide) ?_
      exact h.elim
    · replace h := h.2 c5
      exact j_sub [0, 1, 2, 3] rfl (k306 _ _ _ _ _ _ _ h)
  · obtain ⟨M1, eMz9⟩ : ∃ M1, M1 = Mz9 := ⟨_, rfl⟩; subst eMz9
    rcases qz9 with ⟨v2, hxz9, h⟩ | ⟨hxz9, h⟩ | ⟨hxz9, h⟩ | ⟨hxz9, h⟩ <;> cases hxz9
    · exact h.elim
    · exact h.elim
    · exact h.elim
set_option maxHeartbeats 4000000 in
set_option maxRecDepth 20000 in
theorem vL_law_306 {X : am_Cx} {G : am_Gx} {d : Nat} (hX : am_ok X rL_law G (d + 1)) (hret : ∀ {pc : Nat} {lv : List (Nat × Value)} {M : am_Hp} {bc bs : Nat}, decode rL_law.2.1 pc = .ok (.ireturn, 1) → am_J X pc lv [.int (1 : Int32)] M bc bs) {bc bs : Nat} (R313 : Nat → Nat → Int32 → Int32 → am_Hp → Nat → Nat → Prop) (k313 : ∀ (x0 : Nat) (x1 : Nat) (x3 : Int32) (x4 : Int32) (M : am_Hp) (bc bs : Nat), R313 x0 x1 x3 x4 M bc bs → am_J X 313 [(0, .ref x0), (1, .ref x1), (3, .int x3), (4, .int x4)] [] M bc bs) {a0 : Nat} {a1 : Nat} {a3 : Int32} {a4 : Int32} {M : am_Hp} (h : hp_T M (a1) = 7 ∧ (1 ≤ bc ∧ (6 ≤ bs ∧ (am_CT G d rX6_failedCommand [.ref a1] M 1 6 (fun oz9 M1 => (∃ v2 : Int32, oz9 = .inl (some (.int v2)) ∧ (((v2 = 0) → (R313 a0 a1 a3 a4 M1 (bc - 1) (bs - 6))) ∧ (¬ (v2 = 0) → (False)))) ∨ ((oz9 = .inr "java/util/NoSuchElementException" ∧ False))))))) : am_J X 306 [(0, .ref a0), (1, .ref a1), (3, .int a3), (4, .int a4)] [] M bc bs := by
  refine j_aload_n hX eL_law_306 1 rfl ?_
  obtain ⟨t3, h⟩ := h
  obtain ⟨b4, b5, h⟩ := h
  refine j_callV (a := a1) (q := (RX6, TX6, 9)) (r' := rX6_failedCommand) (As := []) (rest := []) (d1 := d) hX eL_law_307 mm_LiftGroupLaw_203 rfl t3 (by decide) rfl h rfl (Nat.le_refl _) b4 b5 (Nat.le_of_ble_eq_true rfl) (fun vz9 Mz9 qz9 => ?_) (fun Ez9 Mz9 qz9 => ?_)
  · obtain ⟨M1, eMz9⟩ : ∃ M1, M1 = Mz9 := ⟨_, rfl⟩; subst eMz9
    rcases qz9 with ⟨v2, hxz9, h⟩ | ⟨hxz9, h⟩ <;> cases hxz9
    refine j_if_ne hX 322 eL_law_310 (by decide) (fun c6 => ?_) (fun c6 => ?_)
    · replace h := h.2 c6
      refine j_iconst (v := (0 : Int32)) hX eL_law_322 (by decide) ?_
      exact h.elim
    · replace h := h.1 c6
      exact j_sub [0, 1, 2, 3] rfl (k313 _ _ _ _ _ _ _ h)
  · obtain ⟨M1, eMz9⟩ : ∃ M1, M1 = Mz9 := ⟨_, rfl⟩; subst eMz9
    rcases qz9 with ⟨v2, hxz9, h⟩ | ⟨hxz9, h⟩ <;> cases hxz9
    exact h.elim
set_option maxHeartbeats 4000000 in
set_option maxRecDepth 20000 in
theorem vL_law_313 {X : am_Cx} {G : am_Gx} {d : Nat} (hX : am_ok X rL_law G (d + 1)) (hret : ∀ {pc : Nat} {lv : List (Nat × Value)} {M : am_Hp} {bc bs : Nat}, decode rL_law.2.1 pc = .ok (.ireturn, 1) → am_J X pc lv [.int (1 : Int32)] M bc bs) {bc bs : Nat} (R324 : Nat → Nat → Int32 → Int32 → am_Hp → Nat → Nat → Prop) (k324 : ∀ (x0 : Nat) (x1 : Nat) (x3 : Int32) (x4 : Int32) (M : am_Hp) (bc bs : Nat), R324 x0 x1 x3 x4 M bc bs → am_J X 324 [(0, .ref x0), (1, .ref x1), (3, .int x3), (4, .int x4)] [] M bc bs) {a0 : Nat} {a1 : Nat} {a3 : Int32} {a4 : Int32} {M : am_Hp} (h : 170 ≤ bc ∧ (1200 ≤ bs ∧ (am_CT G d rL_state [.ref a1] M 170 1200 (fun oz9 M1 => (∃ v2 : Int32, oz9 = .inl (some (.int v2)) ∧ (((v2 = a4) → (R324 a0 a1 a3 a4 M1 (bc - 170) (bs - 1200))) ∧ (¬ (v2 = a4) → (False)))) ∨ ((oz9 = .inr "java/lang/IndexOutOfBoundsException" ∧ False)))))) : am_J X 313 [(0, .ref a0), (1, .ref a1), (3, .int a3), (4, .int a4)] [] M bc bs := by
  refine j_aload_n hX eL_law_313 1 rfl ?_
  obtain ⟨b3, b4, h⟩ := h
  refine j_callS (r' := rL_state) (As := [.ref a1]) (rest := []) (d1 := d) hX eL_law_314 mm_LiftGroupLaw_182 rfl rfl h rfl (Nat.le_refl _) b3 b4 (Nat.le_of_ble_eq_true rfl) (fun vz9 Mz9 qz9 => ?_) (fun Ez9 Mz9 qz9 => ?_)
  · obtain ⟨M1, eMz9⟩ : ∃ M1, M1 = Mz9 := ⟨_, rfl⟩; subst eMz9
    rcases qz9 with ⟨v2, hxz9, h⟩ | ⟨hxz9, h⟩ <;> cases hxz9
    refine j_iload hX eL_law_317 3 rfl ?_
    refine j_icmp_eq hX 324 eL_law_319 (by decide) (fun c5 => ?_) (fun c5 => ?_)
    · replace h := h.1 c5
      exact j_sub [0, 1, 2, 3] rfl (k324 _ _ _ _ _ _ _ h)
    · replace h := h.2 c5
      refine j_iconst (v := (0 : Int32)) hX eL_law_322 (by decide) ?_
      exact h.elim
  · obtain ⟨M1, eMz9⟩ : ∃ M1, M1 = Mz9 := ⟨_, rfl⟩; subst eMz9
    rcases qz9 with ⟨v2, hxz9, h⟩ | ⟨hxz9, h⟩ <;> cases hxz9
    exact h.elim
set_option maxHeartbeats 4000000 in
set_option maxRecDepth 20000 in
theorem vL_law_324 {X : am_Cx} {G : am_Gx} {d : Nat} (hX : am_ok X rL_law G (d + 1)) (hret : ∀ {pc : Nat} {lv : List (Nat × Value)} {M : am_Hp} {bc bs : Nat}, decode rL_law.2.1 pc = .ok (.ireturn, 1) → am_J X pc lv [.int (1 : Int32)] M bc bs) {bc bs : Nat} (R352 : Nat → Int32 → Int32 → Int32 → Int32 → am_Hp → Nat → Nat → Prop) (k352 : ∀ (x1 : Nat) (x3 : Int32) (x4 : Int32) (x6 : Int32) (x7 : Int32) (M : am_Hp) (bc bs : Nat), R352 x1 x3 x4 x6 x7 M bc bs → am_J X 352 [(1, .ref x1), (3, .int x3), (4, .int x4), (6, .int x6), (7, .int x7)] [] M bc bs) {a0 : Nat} {a1 : Nat} {a3 : Int32} {a4 : Int32} {M : am_Hp} (h : am_CT G d rL_at [.ref a0, .int (13 : Int32)] M 0 0 (fun oz9 M1 => ∃ v2 : Int32, oz9 = .inl (some (.int v2)) ∧ (∀ v3 : Int32, v3 = ((2 : Int32) + (v2 &&& (3 : Int32))) → (∀ v4 : Int32, v4 = ((60 : Int32) + ((v2 >>> ((2 : Int32) &&& 31)) &&& (63 : Int32))) → (R352 a1 a3 a4 v3 v4 M1 bc bs))))) : am_J X 324 [(0, .ref a0), (1, .ref a1), (3, .int a3), (4, .int a4)] [] M bc bs := by
  refine j_aload_n hX eL_law_324 0 rfl ?_
  refine j_bipush (v := (13 : Int32)) hX eL_law_325 (by decide) ?_
  refine j_callS (r' := rL_at) (As := [.ref a0, .int (13 : Int32)]) (rest := []) (d1 := d) hX eL_law_327 mm_LiftGroupLaw_24 rfl rfl h rfl (Nat.le_refl _) (Nat.zero_le _) (Nat.zero_le _) (Nat.le_of_ble_eq_true rfl) (fun vz9 Mz9 qz9 => ?_) (fun Ez9 Mz9 qz9 => ?_)
  · obtain ⟨M1, eMz9⟩ : ∃ M1, M1 = Mz9 := ⟨_, rfl⟩; subst eMz9
    obtain ⟨v2, hxz9, h⟩ := qz9
    cases hxz9
    refine j_istore (lv' := [(5, .int v2), (0, .ref a0), (1, .ref a1), (3, .int a3), (4, .int a4)]) hX eL_law_330 (by decide) rfl ?_
    refine j_iconst (v := (2 : Int32)) hX eL_law_332 (by decide) ?_
    refine j_iload hX eL_law_333 0 rfl ?_
    refine j_iconst (v := (3 : Int32)) hX eL_law_335 (by decide) ?_
    refine j_iand hX eL_law_336 ?_
    refine j_iadd hX eL_law_337 ?_
    refine j_nmI (fun v3 ev3 => ?_)
    replace h := h v3 ev3
    refine j_istore (lv' := [(6, .int v3), (5, .int v2), (0, .ref a0), (1, .ref a1), (3, .int a3), (4, .int a4)]) hX eL_law_338 (by decide) rfl ?_
    refine j_bipush (v := (60 : Int32)) hX eL_law_340 (by decide) ?_
    refine j_iload hX eL_law_342 1 rfl ?_
    refine j_iconst (v := (2 : Int32)) hX eL_law_344 (by decide) ?_
    refine j_ishr hX eL_law_345 ?_
    refine j_bipush (v := (63 : Int32)) hX eL_law_346 (by decide) ?_
    refine j_iand hX eL_law_348 ?_
    refine j_iadd hX eL_law_349 ?_
    refine j_nmI (fun v4 ev4 => ?_)
    replace h := h v4 ev4
    refine j_istore (lv' := [(7, .int v4), (6, .int v3), (5, .int v2), (0, .ref a0), (1, .ref a1), (3, .int a3), (4, .int a4)]) hX eL_law_350 (by decide) rfl ?_
    exact j_sub [4, 5, 6, 1, 0] rfl (k352 _ _ _ _ _ _ _ _ h)
  · obtain ⟨v2, hxz9, h⟩ := qz9
    cases hxz9
set_option maxHeartbeats 4000000 in
set_option maxRecDepth 20000 in
theorem vL_law_352 {X : am_Cx} {G : am_Gx} {d : Nat} (hX : am_ok X rL_law G (d + 1)) (hret : ∀ {pc : Nat} {lv : List (Nat × Value)} {M : am_Hp} {bc bs : Nat}, decode rL_law.2.1 pc = .ok (.ireturn, 1) → am_J X pc lv [.int (1 : Int32)] M bc bs) {bc bs : Nat} (R361 : Nat → Int32 → Int32 → Int32 → Int32 → Nat → am_Hp → Nat → Nat → Prop) (k361 : ∀ (x1 : Nat) (x3 : Int32) (x4 : Int32) (x6 : Int32) (x7 : Int32) (x8 : Nat) (M : am_Hp) (bc bs : Nat), R361 x1 x3 x4 x6 x7 x8 M bc bs → am_J X 361 [(1, .ref x1), (3, .int x3), (4, .int x4), (6, .int x6), (7, .int x7), (8, .ref x8)] [] M bc bs) {a1 : Nat} {a3 : Int32} {a4 : Int32} {a6 : Int32} {a7 : Int32} {M : am_Hp} (h : 1 ≤ bc ∧ (9 ≤ bs ∧ (∀ p1 : Nat, hp_T M p1 = 0 → p1 ≠ 0 → (∀ M7 : am_Hp, M7 = hp_o M p1 7 → (264 ≤ (bc - 1) ∧ (1969 ≤ (bs - 9) ∧ (am_CT G d rX6_init [.ref p1] M7 264 1969 (fun oz9 M9 => oz9 = .inl none ∧ (R361 a1 a3 a4 a6 a7 p1 M9 ((bc - 1) - 264) ((bs - 9) - 1969)))))))))) : am_J X 352 [(1, .ref a1), (3, .int a3), (4, .int a4), (6, .int a6), (7, .int a7)] [] M bc bs := by
  obtain ⟨b5, b6, h⟩ := h
  refine j_new (q := (RX6, TX6, 9)) hX eL_law_352 rfl (by decide) tw_35 tw_36 tw_1 dv_6 b5 b6 (fun p1 o3 z4 => ?_)
  replace h := h p1 o3 z4
  refine j_nmM (fun M7 eM7 => ?_)
  replace h := h M7 eM7
  have t8 : hp_T M7 (p1) = 7 := by rw [eM7]; exact hp_Tn
  refine j_dup hX eL_law_355 rfl ?_
  obtain ⟨b11, b12, h⟩ := h
  refine j_callI (a := p1) (r' := rX6_init) (As := []) (rest := [.ref p1]) (d1 := d) hX eL_law_356 mm_LiftGroupLaw_23 rfl h rfl (Nat.le_refl _) b11 b12 (Nat.le_of_ble_eq_true rfl) (fun vz9 Mz9 qz9 => ?_) (fun Ez9 Mz9 qz9 => ?_)
  · obtain ⟨M9, eMz9⟩ : ∃ M9, M9 = Mz9 := ⟨_, rfl⟩; subst eMz9
    obtain ⟨hxz9, h⟩ := qz9
    cases hxz9
    refine j_astore (lv' := [(8, .ref p1), (1, .ref a1), (3, .int a3), (4, .int a4), (6, .int a6), (7, .int a7)]) hX eL_law_359 (by decide) rfl ?_
    exact j_sub [1, 2, 3, 4, 5, 0] rfl (k361 _ _ _ _ _ _ _ _ _ h)
  · obtain ⟨hxz9, h⟩ := qz9
    cases hxz9
set_option maxHeartbeats 4000000 in
set_option maxRecDepth 20000 in
theorem vL_law_361 {X : am_Cx} {G : am_Gx} {d : Nat} (hX : am_ok X rL_law G (d + 1)) (hret : ∀ {pc : Nat} {lv : List (Nat × Value)} {M : am_Hp} {bc bs : Nat}, decode rL_law.2.1 pc = .ok (.ireturn, 1) → am_J X pc lv [.int (1 : Int32)] M bc bs) {bc bs : Nat} (R369 : Nat → Int32 → Int32 → Int32 → Int32 → Nat → am_Hp → Nat → Nat → Prop) (k369 : ∀ (x1 : Nat) (x3 : Int32) (x4 : Int32) (x6 : Int32) (x7 : Int32) (x8 : Nat) (M : am_Hp) (bc bs : Nat), R369 x1 x3 x4 x6 x7 x8 M bc bs → am_J X 369 [(1, .ref x1), (3, .int x3), (4, .int x4), (6, .int x6), (7, .int x7), (8, .ref x8)] [] M bc bs) {a1 : Nat} {a3 : Int32} {a4 : Int32} {a6 : Int32} {a7 : Int32} {a8 : Nat} {M : am_Hp} (h : hp_T M (a8) = 7 ∧ (am_CT G d rX6_isConsistent [.ref a8] M 0 0 (fun oz9 M1 => ∃ v2 : Int32, oz9 = .inl (some (.int v2)) ∧ (((v2 = 0) → (False)) ∧ (¬ (v2 = 0) → (R369 a1 a3 a4 a6 a7 a8 M1 bc bs)))))) : am_J X 361 [(1, .ref a1), (3, .int a3), (4, .int a4), (6, .int a6), (7, .int a7), (8, .ref a8)] [] M bc bs := by
  refine j_aload hX eL_law_361 5 rfl ?_
  obtain ⟨t3, h⟩ := h
  refine j_callV (a := a8) (q := (RX6, TX6, 9)) (r' := rX6_isConsistent) (As := []) (rest := []) (d1 := d) hX eL_law_363 mm_LiftGroupLaw_234 rfl t3 (by decide) rfl h rfl (Nat.le_refl _) (Nat.zero_le _) (Nat.zero_le _) (Nat.le_of_ble_eq_true rfl) (fun vz9 Mz9 qz9 => ?_) (fun Ez9 Mz9 qz9 => ?_)
  · obtain ⟨M1, eMz9⟩ : ∃ M1, M1 = Mz9 := ⟨_, rfl⟩; subst eMz9
    obtain ⟨v2, hxz9, h⟩ := qz9
    cases hxz9
    refine j_if_eq hX 453 eL_law_366 (by decide) (fun c4 => ?_) (fun c4 => ?_)
    · replace h := h.1 c4
      refine j_iconst (v := (0 : Int32)) hX eL_law_453 (by decide) ?_
      exact h.elim
    · replace h := h.2 c4
      exact j_sub [0, 1, 2, 3, 4, 5] rfl (k369 _ _ _ _ _ _ _ _ _ h)
  · obtain ⟨v2, hxz9, h⟩ := qz9
    cases hxz9
set_option maxHeartbeats 4000000 in
set_option maxRecDepth 20000 in
theorem vL_law_369 {X : am_Cx} {G : am_Gx} {d : Nat} (hX : am_ok X rL_law G (d + 1)) (hret : ∀ {pc : Nat} {lv : List (Nat × Value)} {M : am_Hp} {bc bs : Nat}, decode rL_law.2.1 pc = .ok (.ireturn, 1) → am_J X pc lv [.int (1 : Int32)] M bc bs) {bc bs : Nat} (R379 : Nat → Int32 → Int32 → Int32 → Int32 → Nat → am_Hp → Nat → Nat → Prop) (k379 : ∀ (x1 : Nat) (x3 : Int32) (x4 : Int32) (x6 : Int32) (x7 : Int32) (x8 : Nat) (M : am_Hp) (bc bs : Nat), R379 x1 x3 x4 x6 x7 x8 M bc bs → am_J X 379 [(1, .ref x1), (3, .int x3), (4, .int x4), (6, .int x6), (7, .int x7), (8, .ref x8)] [] M bc bs) {a1 : Nat} {a3 : Int32} {a4 : Int32} {a6 : Int32} {a7 : Int32} {a8 : Nat} {M : am_Hp} (h : hp_T M (a8) = 7 ∧ (am_CT G d rX6_totalEnergy [.ref a8] M 0 0 (fun oz9 M1 => ∃ l2 : Int64, oz9 = .inl (some (.long l2)) ∧ ((((lg_cmp l2 (0 : Int64)) = 0) → (R379 a1 a3 a4 a6 a7 a8 M1 bc bs)) ∧ (¬ ((lg_cmp l2 (0 : Int64)) = 0) → (False)))))) : am_J X 369 [(1, .ref a1), (3, .int a3), (4, .int a4), (6, .int a6), (7, .int a7), (8, .ref a8)] [] M bc bs := by
  refine j_aload hX eL_law_369 5 rfl ?_
  obtain ⟨t3, h⟩ := h
  refine j_callV (a := a8) (q := (RX6, TX6, 9)) (r' := rX6_totalEnergy) (As := []) (rest := []) (d1 := d) hX eL_law_371 mm_LiftGroupLaw_134 rfl t3 (by decide) rfl h rfl (Nat.le_refl _) (Nat.zero_le _) (Nat.zero_le _) (Nat.le_of_ble_eq_true rfl) (fun vz9 Mz9 qz9 => ?_) (fun Ez9 Mz9 qz9 => ?_)
  · obtain ⟨M1, eMz9⟩ : ∃ M1, M1 = Mz9 := ⟨_, rfl⟩; subst eMz9
    obtain ⟨l2, hxz9, h⟩ := qz9
    cases hxz9
    refine j_lconst (v := (0 : Int64)) hX eL_law_374 (by decide) ?_
    refine j_lcmp hX eL_law_375 ?_
    refine j_if_ne hX 453 eL_law_376 (by decide) (fun c4 => ?_) (fun c4 => ?_)
    · replace h := h.2 c4
      refine j_iconst (v := (0 : Int32)) hX eL_law_453 (by decide) ?_
      exact h.elim
    · replace h := h.1 c4
      exact j_sub [0, 1, 2, 3, 4, 5] rfl (k379 _ _ _ _ _ _ _ _ _ h)
  · obtain ⟨l2, hxz9, h⟩ := qz9
    cases hxz9
set_option maxHeartbeats 4000000 in
set_option maxRecDepth 20000 in
theorem vL_law_379 {X : am_Cx} {G : am_Gx} {d : Nat} (hX : am_ok X rL_law G (d + 1)) (hret : ∀ {pc : Nat} {lv : List (Nat × Value)} {M : am_Hp} {bc bs : Nat}, decode rL_law.2.1 pc = .ok (.ireturn, 1) → am_J X pc lv [.int (1 : Int32)] M bc bs) {bc bs : Nat} (R391 : Nat → Int32 → Int32 → Int32 → Int32 → Nat → am_Hp → Nat → Nat → Prop) (k391 : ∀ (x1 : Nat) (x3 : Int32) (x4 : Int32) (x6 : Int32) (x7 : Int32) (x8 : Nat) (M : am_Hp) (bc bs : Nat), R391 x1 x3 x4 x6 x7 x8 M bc bs → am_J X 391 [(1, .ref x1), (3, .int x3), (4, .int x4), (6, .int x6), (7, .int x7), (8, .ref x8)] [] M bc bs) {a1 : Nat} {a3 : Int32} {a4 : Int32} {a6 : Int32} {a7 : Int32} {a8 : Nat} {M : am_Hp} (h : hp_T M (a8) = 7 ∧ (2 ≤ bc ∧ (12 ≤ bs ∧ (am_CT G d rX6_bestCar [.ref a8, .int (5 : Int32), .int (150 : Int32)] M 2 12 (fun oz9 M1 => (∃ v2 : Int32, oz9 = .inl (some (.int v2)) ∧ (((v2 = 0) → (R391 a1 a3 a4 a6 a7 a8 M1 (bc - 2) (bs - 12))) ∧ (¬ (v2 = 0) → (False)))) ∨ ((oz9 = .inr "java/lang/IllegalArgumentException" ∧ False)) ∨ ((oz9 = .inr "java/util/NoSuchElementException" ∧ False))))))) : am_J X 379 [(1, .ref a1), (3, .int a3), (4, .int a4), (6, .int a6), (7, .int a7), (8, .ref a8)] [] M bc bs := by
  refine j_aload hX eL_law_379 5 rfl ?_
  refine j_iconst (v := (5 : Int32)) hX eL_law_381 (by decide) ?_
  refine j_sipush (v := (150 : Int32)) hX eL_law_382 (by decide) ?_
  obtain ⟨t3, h⟩ := h
  obtain ⟨b4, b5, h⟩ := h
  refine j_callV (a := a8) (q := (RX6, TX6, 9)) (r' := rX6_bestCar) (As := [.int (5 : Int32), .int (150 : Int32)]) (rest := []) (d1 := d) hX eL_law_385 mm_LiftGroupLaw_237 rfl t3 (by decide) rfl h rfl (Nat.le_refl _) b4 b5 (Nat.le_of_ble_eq_true rfl) (fun vz9 Mz9 qz9 => ?_) (fun Ez9 Mz9 qz9 => ?_)
  · obtain ⟨M1, eMz9⟩ : ∃ M1, M1 = Mz9 := ⟨_, rfl⟩; subst eMz9
    rcases qz9 with ⟨v2, hxz9, h⟩ | ⟨hxz9, h⟩ | ⟨hxz9, h⟩ <;> cases hxz9
    refine j_if_ne hX 453 eL_law_388 (by decide) (fun c6 => ?_) (fun c6 => ?_)
    · replace h := h.2 c6
      refine j_iconst (v := (0 : Int32)) hX eL_law_453 (by decide) ?_
      exact h.elim
    · replace h := h.1 c6
      exact j_sub [0, 1, 2, 3, 4, 5] rfl (k391 _ _ _ _ _ _ _ _ _ h)
  · obtain ⟨M1, eMz9⟩ : ∃ M1, M1 = Mz9 := ⟨_, rfl⟩; subst eMz9
    rcases qz9 with ⟨v2, hxz9, h⟩ | ⟨hxz9, h⟩ | ⟨hxz9, h⟩ <;> cases hxz9
    · exact h.elim
    · exact h.elim
set_option maxHeartbeats 4000000 in
set_option maxRecDepth 20000 in
theorem vL_law_391 {X : am_Cx} {G : am_Gx} {d : Nat} (hX : am_ok X rL_law G (d + 1)) (hret : ∀ {pc : Nat} {lv : List (Nat × Value)} {M : am_Hp} {bc bs : Nat}, decode rL_law.2.1 pc = .ok (.ireturn, 1) → am_J X pc lv [.int (1 : Int32)] M bc bs) {bc bs : Nat} (R401 : Nat → Int32 → Int32 → Int32 → Int32 → Nat → am_Hp → Nat → Nat → Prop) (k401 : ∀ (x1 : Nat) (x3 : Int32) (x4 : Int32) (x6 : Int32) (x7 : Int32) (x8 : Nat) (M : am_Hp) (bc bs : Nat), R401 x1 x3 x4 x6 x7 x8 M bc bs → am_J X 401 [(1, .ref x1), (3, .int x3), (4, .int x4), (6, .int x6), (7, .int x7), (8, .ref x8)] [] M bc bs) {a1 : Nat} {a3 : Int32} {a4 : Int32} {a6 : Int32} {a7 : Int32} {a8 : Nat} {M : am_Hp} (h : hp_T M (a8) = 7 ∧ (1 ≤ bc ∧ (6 ≤ bs ∧ (am_CT G d rX6_tripsWithin [.ref a8, .int (90 : Int32)] M 1 6 (fun oz9 M1 => (∃ v2 : Int32, oz9 = .inl (some (.int v2)) ∧ (((v2 = 0) → (R401 a1 a3 a4 a6 a7 a8 M1 (bc - 1) (bs - 6))) ∧ (¬ (v2 = 0) → (False)))) ∨ ((oz9 = .inr "java/lang/IllegalArgumentException" ∧ False))))))) : am_J X 391 [(1, .ref a1), (3, .int a3), (4, .int a4), (6, .int a6), (7, .int a7), (8, .ref a8)] [] M bc bs := by
  refine j_aload hX eL_law_391 5 rfl ?_
  refine j_bipush (v := (90 : Int32)) hX eL_law_393 (by decide) ?_
  obtain ⟨t3, h⟩ := h
  obtain ⟨b4, b5, h⟩ := h
  refine j_callV (a := a8) (q := (RX6, TX6, 9)) (r' := rX6_tripsWithin) (As := [.int (90 : Int32)]) (rest := []) (d1 := d) hX eL_law_395 mm_LiftGroupLaw_240 rfl t3 (by decide) rfl h rfl (Nat.le_refl _) b4 b5 (Nat.le_of_ble_eq_true rfl) (fun vz9 Mz9 qz9 => ?_) (fun Ez9 Mz9 qz9 => ?_)
  · obtain ⟨M1, eMz9⟩ : ∃ M1, M1 = Mz9 := ⟨_, rfl⟩; subst eMz9
    rcases qz9 with ⟨v2, hxz9, h⟩ | ⟨hxz9, h⟩ <;> cases hxz9
    refine j_if_ne hX 453 eL_law_398 (by decide) (fun c6 => ?_) (fun c6 => ?_)
    · replace h := h.2 c6
      refine j_iconst (v := (0 : Int32)) hX eL_law_453 (by decide) ?_
      exact h.elim
    · replace h := h.1 c6
      exact j_sub [0, 1, 2, 3, 4, 5] rfl (k401 _ _ _ _ _ _ _ _ _ h)
  · obtain ⟨M1, eMz9⟩ : ∃ M1, M1 = Mz9 := ⟨_, rfl⟩; subst eMz9
    rcases qz9 with ⟨v2, hxz9, h⟩ | ⟨hxz9, h⟩ <;> cases hxz9
    exact h.elim
set_option maxHeartbeats 4000000 in
set_option maxRecDepth 20000 in
theorem vL_law_401 {X : am_Cx} {G : am_Gx} {d : Nat} (hX : am_ok X rL_law G (d + 1)) (hret : ∀ {pc : Nat} {lv : List (Nat × Value)} {M : am_Hp} {bc bs : Nat}, decode rL_law.2.1 pc = .ok (.ireturn, 1) → am_J X pc lv [.int (1 : Int32)] M bc bs) {bc bs : Nat} (R411 : Nat → Int32 → Int32 → Int32 → Int32 → Nat → am_Hp → Nat → Nat → Prop) (k411 : ∀ (x1 : Nat) (x3 : Int32) (x4 : Int32) (x6 : Int32) (x7 : Int32) (x8 : Nat) (M : am_Hp) (bc bs : Nat), R411 x1 x3 x4 x6 x7 x8 M bc bs → am_J X 411 [(1, .ref x1), (3, .int x3), (4, .int x4), (6, .int x6), (7, .int x7), (8, .ref x8)] [] M bc bs) {a1 : Nat} {a3 : Int32} {a4 : Int32} {a6 : Int32} {a7 : Int32} {a8 : Nat} {M : am_Hp} (h : hp_T M (a8) = 7 ∧ (1 ≤ bc ∧ (6 ≤ bs ∧ (am_CT G d rX6_carByEnergy [.ref a8, .int (2 : Int32)] M 1 6 (fun oz9 M1 => (∃ v2 : Int32, oz9 = .inl (some (.int v2)) ∧ (((v2 = (2 : Int32)) → (R411 a1 a3 a4 a6 a7 a8 M1 (bc - 1) (bs - 6))) ∧ (¬ (v2 = (2 : Int32)) → (False)))) ∨ ((oz9 = .inr "java/util/NoSuchElementException" ∧ False))))))) : am_J X 401 [(1, .ref a1), (3, .int a3), (4, .int a4), (6, .int a6), (7, .int a7), (8, .ref a8)] [] M bc bs := by
  refine j_aload hX eL_law_401 5 rfl ?_
  refine j_iconst (v := (2 : Int32)) hX eL_law_403 (by decide) ?_
  obtain ⟨t3, h⟩ := h
  obtain ⟨b4, b5, h⟩ := h
  refine j_callV (a := a8) (q := (RX6, TX6, 9)) (r' := rX6_carByEnergy) (As := [.int (2 : Int32)]) (rest := []) (d1 := d) hX eL_law_404 mm_LiftGroupLaw_243 rfl t3 (by decide) rfl h rfl (Nat.le_refl _) b4 b5 (Nat.le_of_ble_eq_true rfl) (fun vz9 Mz9 qz9 => ?_) (fun Ez9 Mz9 qz9 => ?_)
  · obtain ⟨M1, eMz9⟩ : ∃ M1, M1 = Mz9 := ⟨_, rfl⟩; subst eMz9
    rcases qz9 with ⟨v2, hxz9, h⟩ | ⟨hxz9, h⟩ <;> cases hxz9
    refine j_iconst (v := (2 : Int32)) hX eL_law_407 (by decide) ?_
    refine j_icmp_ne hX 453 eL_law_408 (by decide) (fun c6 => ?_) (fun c6 => ?_)
    · replace h := h.2 c6
      refine j_iconst (v := (0 : Int32)) hX eL_law_453 (by decide) ?_
      exact h.elim
    · replace h := h.1 c6
      exact j_sub [0, 1, 2, 3, 4, 5] rfl (k411 _ _ _ _ _ _ _ _ _ h)
  · obtain ⟨M1, eMz9⟩ : ∃ M1, M1 = Mz9 := ⟨_, rfl⟩; subst eMz9
    rcases qz9 with ⟨v2, hxz9, h⟩ | ⟨hxz9, h⟩ <;> cases hxz9
    exact h.elim
set_option maxHeartbeats 4000000 in
set_option maxRecDepth 20000 in
theorem vL_law_411 {X : am_Cx} {G : am_Gx} {d : Nat} (hX : am_ok X rL_law G (d + 1)) (hret : ∀ {pc : Nat} {lv : List (Nat × Value)} {M : am_Hp} {bc bs : Nat}, decode rL_law.2.1 pc = .ok (.ireturn, 1) → am_J X pc lv [.int (1 : Int32)] M bc bs) {bc bs : Nat} (R425 : Nat → Int32 → Int32 → Int32 → Int32 → Nat → am_Hp → Nat → Nat → Prop) (k425 : ∀ (x1 : Nat) (x3 : Int32) (x4 : Int32) (x6 : Int32) (x7 : Int32) (x8 : Nat) (M : am_Hp) (bc bs : Nat), R425 x1 x3 x4 x6 x7 x8 M bc bs → am_J X 425 [(1, .ref x1), (3, .int x3), (4, .int x4), (6, .int x6), (7, .int x7), (8, .ref x8)] [] M bc bs) {a1 : Nat} {a3 : Int32} {a4 : Int32} {a6 : Int32} {a7 : Int32} {a8 : Nat} {M : am_Hp} (h : 1 ≤ bc ∧ (6 ≤ bs ∧ (am_CT G d rL_act [.ref a8, .int (1 : Int32), .int (0 : Int32), .int (0 : Int32), .int (0 : Int32)] M 1 6 (fun oz9 M1 => ∃ v2 : Int32, oz9 = .inl (some (.int v2)) ∧ (((v2 = (-4 : Int32)) → (R425 a1 a3 a4 a6 a7 a8 M1 (bc - 1) (bs - 6))) ∧ (¬ (v2 = (-4 : Int32)) → (False))))))) : am_J X 411 [(1, .ref a1), (3, .int a3), (4, .int a4), (6, .int a6), (7, .int a7), (8, .ref a8)] [] M bc bs := by
  refine j_aload hX eL_law_411 5 rfl ?_
  refine j_iconst (v := (1 : Int32)) hX eL_law_413 (by decide) ?_
  refine j_iconst (v := (0 : Int32)) hX eL_law_414 (by decide) ?_
  refine j_iconst (v := (0 : Int32)) hX eL_law_415 (by decide) ?_
  refine j_iconst (v := (0 : Int32)) hX eL_law_416 (by decide) ?_
  obtain ⟨b3, b4, h⟩ := h
  refine j_callSX (r' := rL_act) (As := [.ref a8, .int (1 : Int32), .int (0 : Int32), .int (0 : Int32), .int (0 : Int32)]) (rest := []) (d1 := d) hX eL_law_417 mm_LiftGroupLaw_30 (by decide) rfl h rfl (Nat.le_refl _) b3 b4 (Nat.le_of_ble_eq_true rfl) (fun vz9 Mz9 qz9 => ?_) (fun Ez9 Mz9 qz9 => ?_)
  · obtain ⟨M1, eMz9⟩ : ∃ M1, M1 = Mz9 := ⟨_, rfl⟩; subst eMz9
    obtain ⟨v2, hxz9, h⟩ := qz9
    cases hxz9
    refine j_bipush (v := (-4 : Int32)) hX eL_law_420 (by decide) ?_
    refine j_icmp_ne hX 453 eL_law_422 (by decide) (fun c5 => ?_) (fun c5 => ?_)
    · replace h := h.2 c5
      refine j_iconst (v := (0 : Int32)) hX eL_law_453 (by decide) ?_
      exact h.elim
    · replace h := h.1 c5
      exact j_sub [0, 1, 2, 3, 4, 5] rfl (k425 _ _ _ _ _ _ _ _ _ h)
  · obtain ⟨v2, hxz9, h⟩ := qz9
    cases hxz9
set_option maxHeartbeats 4000000 in
set_option maxRecDepth 20000 in
theorem vL_law_425 {X : am_Cx} {G : am_Gx} {d : Nat} (hX : am_ok X rL_law G (d + 1)) (hret : ∀ {pc : Nat} {lv : List (Nat × Value)} {M : am_Hp} {bc bs : Nat}, decode rL_law.2.1 pc = .ok (.ireturn, 1) → am_J X pc lv [.int (1 : Int32)] M bc bs) {bc bs : Nat} (R439 : Nat → Int32 → Int32 → Int32 → Int32 → Nat → am_Hp → Nat → Nat → Prop) (k439 : ∀ (x1 : Nat) (x3 : Int32) (x4 : Int32) (x6 : Int32) (x7 : Int32) (x8 : Nat) (M : am_Hp) (bc bs : Nat), R439 x1 x3 x4 x6 x7 x8 M bc bs → am_J X 439 [(1, .ref x1), (3, .int x3), (4, .int x4), (6, .int x6), (7, .int x7), (8, .ref x8)] [] M bc bs) {a1 : Nat} {a3 : Int32} {a4 : Int32} {a6 : Int32} {a7 : Int32} {a8 : Nat} {M : am_Hp} (h : 1 ≤ bc ∧ (6 ≤ bs ∧ (am_CT G d rL_act [.ref a8, .int (2 : Int32), .int (0 : Int32), .int (1 : Int32), .int (0 : Int32)] M 1 6 (fun oz9 M1 => ∃ v2 : Int32, oz9 = .inl (some (.int v2)) ∧ (((v2 = (-2 : Int32)) → (R439 a1 a3 a4 a6 a7 a8 M1 (bc - 1) (bs - 6))) ∧ (¬ (v2 = (-2 : Int32)) → (False))))))) : am_J X 425 [(1, .ref a1), (3, .int a3), (4, .int a4), (6, .int a6), (7, .int a7), (8, .ref a8)] [] M bc bs := by
  refine j_aload hX eL_law_425 5 rfl ?_
  refine j_iconst (v := (2 : Int32)) hX eL_law_427 (by decide) ?_
  refine j_iconst (v := (0 : Int32)) hX eL_law_428 (by decide) ?_
  refine j_iconst (v := (1 : Int32)) hX eL_law_429 (by decide) ?_
  refine j_iconst (v := (0 : Int32)) hX eL_law_430 (by decide) ?_
  obtain ⟨b3, b4, h⟩ := h
  refine j_callSX (r' := rL_act) (As := [.ref a8, .int (2 : Int32), .int (0 : Int32), .int (1 : Int32), .int (0 : Int32)]) (rest := []) (d1 := d) hX eL_law_431 mm_LiftGroupLaw_30 (by decide) rfl h rfl (Nat.le_refl _) b3 b4 (Nat.le_of_ble_eq_true rfl) (fun vz9 Mz9 qz9 => ?_) (fun Ez9 Mz9 qz9 => ?_)
  · obtain ⟨M1, eMz9⟩ : ∃ M1, M1 = Mz9 := ⟨_, rfl⟩; subst eMz9
    obtain ⟨v2, hxz9, h⟩ := qz9
    cases hxz9
    refine j_bipush (v := (-2 : Int32)) hX eL_law_434 (by decide) ?_
    refine j_icmp_ne hX 453 eL_law_436 (by decide) (fun c5 => ?_) (fun c5 => ?_)
    · replace h := h.2 c5
      refine j_iconst (v := (0 : Int32)) hX eL_law_453 (by decide) ?_
      exact h.elim
    · replace h := h.1 c5
      exact j_sub [0, 1, 2, 3, 4, 5] rfl (k439 _ _ _ _ _ _ _ _ _ h)
  · obtain ⟨v2, hxz9, h⟩ := qz9
    cases hxz9
set_option maxHeartbeats 4000000 in
set_option maxRecDepth 20000 in
theorem vL_law_439 {X : am_Cx} {G : am_Gx} {d : Nat} (hX : am_ok X rL_law G (d + 1)) (hret : ∀ {pc : Nat} {lv : List (Nat × Value)} {M : am_Hp} {bc bs : Nat}, decode rL_law.2.1 pc = .ok (.ireturn, 1) → am_J X pc lv [.int (1 : Int32)] M bc bs) {bc bs : Nat} (R455 : Nat → Int32 → Int32 → Int32 → Int32 → Nat → am_Hp → Nat → Nat → Prop) (k455 : ∀ (x1 : Nat) (x3 : Int32) (x4 : Int32) (x6 : Int32) (x7 : Int32) (x8 : Nat) (M : am_Hp) (bc bs : Nat), R455 x1 x3 x4 x6 x7 x8 M bc bs → am_J X 455 [(1, .ref x1), (3, .int x3), (4, .int x4), (6, .int x6), (7, .int x7), (8, .ref x8)] [] M bc bs) {a1 : Nat} {a3 : Int32} {a4 : Int32} {a6 : Int32} {a7 : Int32} {a8 : Nat} {M : am_Hp} (h : 1 ≤ bc ∧ (6 ≤ bs ∧ (am_CT G d rL_act [.ref a8, .int (4 : Int32), .int (0 : Int32), .int (0 : Int32), .int (0 : Int32)] M 1 6 (fun oz9 M1 => ∃ v2 : Int32, oz9 = .inl (some (.int v2)) ∧ (((v2 = (-2 : Int32)) → (R455 a1 a3 a4 a6 a7 a8 M1 (bc - 1) (bs - 6))) ∧ (¬ (v2 = (-2 : Int32)) → (False))))))) : am_J X 439 [(1, .ref a1), (3, .int a3), (4, .int a4), (6, .int a6), (7, .int a7), (8, .ref a8)] [] M bc bs := by
  refine j_aload hX eL_law_439 5 rfl ?_
  refine j_iconst (v := (4 : Int32)) hX eL_law_441 (by decide) ?_
  refine j_iconst (v := (0 : Int32)) hX eL_law_442 (by decide) ?_
  refine j_iconst (v := (0 : Int32)) hX eL_law_443 (by decide) ?_
  refine j_iconst (v := (0 : Int32)) hX eL_law_444 (by decide) ?_
  obtain ⟨b3, b4, h⟩ := h
  refine j_callSX (r' := rL_act) (As := [.ref a8, .int (4 : Int32), .int (0 : Int32), .int (0 : Int32), .int (0 : Int32)]) (rest := []) (d1 := d) hX eL_law_445 mm_LiftGroupLaw_30 (by decide) rfl h rfl (Nat.le_refl _) b3 b4 (Nat.le_of_ble_eq_true rfl) (fun vz9 Mz9 qz9 => ?_) (fun Ez9 Mz9 qz9 => ?_)
  · obtain ⟨M1, eMz9⟩ : ∃ M1, M1 = Mz9 := ⟨_, rfl⟩; subst eMz9
    obtain ⟨v2, hxz9, h⟩ := qz9
    cases hxz9
    refine j_bipush (v := (-2 : Int32)) hX eL_law_448 (by decide) ?_
    refine j_icmp_eq hX 455 eL_law_450 (by decide) (fun c5 => ?_) (fun c5 => ?_)
    · replace h := h.1 c5
      exact j_sub [0, 1, 2, 3, 4, 5] rfl (k455 _ _ _ _ _ _ _ _ _ h)
    · replace h := h.2 c5
      refine j_iconst (v := (0 : Int32)) hX eL_law_453 (by decide) ?_
      exact h.elim
  · obtain ⟨v2, hxz9, h⟩ := qz9
    cases hxz9
set_option maxHeartbeats 4000000 in
set_option maxRecDepth 20000 in
theorem vL_law_455 {X : am_Cx} {G : am_Gx} {d : Nat} (hX : am_ok X rL_law G (d + 1)) (hret : ∀ {pc : Nat} {lv : List (Nat × Value)} {M : am_Hp} {bc bs : Nat}, decode rL_law.2.1 pc = .ok (.ireturn, 1) → am_J X pc lv [.int (1 : Int32)] M bc bs) {bc bs : Nat} (R468 : Nat → Int32 → Int32 → Int32 → Int32 → Nat → am_Hp → Nat → Nat → Prop) (k468 : ∀ (x1 : Nat) (x3 : Int32) (x4 : Int32) (x6 : Int32) (x7 : Int32) (x8 : Nat) (M : am_Hp) (bc bs : Nat), R468 x1 x3 x4 x6 x7 x8 M bc bs → am_J X 468 [(1, .ref x1), (3, .int x3), (4, .int x4), (6, .int x6), (7, .int x7), (8, .ref x8)] [] M bc bs) {a1 : Nat} {a3 : Int32} {a4 : Int32} {a6 : Int32} {a7 : Int32} {a8 : Nat} {M : am_Hp} (h : hp_T M (a8) = 7 ∧ (1 ≤ bc ∧ (6 ≤ bs ∧ (am_CT G d rX6_addPassenger [.ref a8, .int a6, .int (0 : Int32), .int a7] M 1 6 (fun oz9 M1 => (∃ v2 : Int32, oz9 = .inl (some (.int v2)) ∧ (((v2 = 0) → (R468 a1 a3 a4 a6 a7 a8 M1 (bc - 1) (bs - 6))) ∧ (¬ (v2 = 0) → (False)))) ∨ ((oz9 = .inr "java/lang/IllegalArgumentException" ∧ False)) ∨ ((oz9 = .inr "java/lang/IllegalStateException" ∧ False)) ∨ ((oz9 = .inr "java/lang/IndexOutOfBoundsException" ∧ False)) ∨ ((oz9 = .inr "java/lang/UnsupportedOperationException" ∧ False))))))) : am_J X 455 [(1, .ref a1), (3, .int a3), (4, .int a4), (6, .int a6), (7, .int a7), (8, .ref a8)] [] M bc bs := by
  refine j_aload hX eL_law_455 5 rfl ?_
  refine j_iload hX eL_law_457 3 rfl ?_
  refine j_iconst (v := (0 : Int32)) hX eL_law_459 (by decide) ?_
  refine j_iload hX eL_law_460 4 rfl ?_
  obtain ⟨t3, h⟩ := h
  obtain ⟨b4, b5, h⟩ := h
  refine j_callV (a := a8) (q := (RX6, TX6, 9)) (r' := rX6_addPassenger) (As := [.int a6, .int (0 : Int32), .int a7]) (rest := []) (d1 := d) hX eL_law_462 mm_LiftGroupLaw_43 rfl t3 (by decide) rfl h rfl (Nat.le_refl _) b4 b5 (Nat.le_of_ble_eq_true rfl) (fun vz9 Mz9 qz9 => ?_) (fun Ez9 Mz9 qz9 => ?_)
  · obtain ⟨M1, eMz9⟩ : ∃ M1, M1 = Mz9 := ⟨_, rfl⟩; subst eMz9
    rcases qz9 with ⟨v2, hxz9, h⟩ | ⟨hxz9, h⟩ | ⟨hxz9, h⟩ | ⟨hxz9, h⟩ | ⟨hxz9, h⟩ <;> cases hxz9
    refine j_if_ne hX 640 eL_law_465 (by decide) (fun c6 => ?_) (fun c6 => ?_)
    · replace h := h.2 c6
      refine j_iconst (v := (0 : Int32)) hX eL_law_640 (by decide) ?_
      exact h.elim
    · replace h := h.1 c6
      exact j_sub [0, 1, 2, 3, 4, 5] rfl (k468 _ _ _ _ _ _ _ _ _ h)
  · obtain ⟨M1, eMz9⟩ : ∃ M1, M1 = Mz9 := ⟨_, rfl⟩; subst eMz9
    rcases qz9 with ⟨v2, hxz9, h⟩ | ⟨hxz9, h⟩ | ⟨hxz9, h⟩ | ⟨hxz9, h⟩ | ⟨hxz9, h⟩ <;> cases hxz9
    · exact h.elim
    · exact h.elim
    · exact h.elim
    · exact h.elim
set_option maxHeartbeats 4000000 in
set_option maxRecDepth 20000 in
theorem vL_law_468 {X : am_Cx} {G : am_Gx} {d : Nat} (hX : am_ok X rL_law G (d + 1)) (hret : ∀ {pc : Nat} {lv : List (Nat × Value)} {M : am_Hp} {bc bs : Nat}, decode rL_law.2.1 pc = .ok (.ireturn, 1) → am_J X pc lv [.int (1 : Int32)] M bc bs) {bc bs : Nat} (R477 : Nat → Int32 → Int32 → Int32 → Int32 → Nat → am_Hp → Nat → Nat → Prop) (k477 : ∀ (x1 : Nat) (x3 : Int32) (x4 : Int32) (x6 : Int32) (x7 : Int32) (x8 : Nat) (M : am_Hp) (bc bs : Nat), R477 x1 x3 x4 x6 x7 x8 M bc bs → am_J X 477 [(1, .ref x1), (3, .int x3), (4, .int x4), (6, .int x6), (7, .int x7), (8, .ref x8)] [] M bc bs) {a1 : Nat} {a3 : Int32} {a4 : Int32} {a6 : Int32} {a7 : Int32} {a8 : Nat} {M : am_Hp} (h : hp_T M (a8) = 7 ∧ (2 ≤ bc ∧ (12 ≤ bs ∧ (am_CT G d rX6_carOf [.ref a8, .int (0 : Int32)] M 2 12 (fun oz9 M1 => (∃ v2 : Int32, oz9 = .inl (some (.int v2)) ∧ (((v2 = 0) → (R477 a1 a3 a4 a6 a7 a8 M1 (bc - 2) (bs - 12))) ∧ (¬ (v2 = 0) → (False)))) ∨ ((oz9 = .inr "java/lang/IndexOutOfBoundsException" ∧ False)) ∨ ((oz9 = .inr "java/util/NoSuchElementException" ∧ False))))))) : am_J X 468 [(1, .ref a1), (3, .int a3), (4, .int a4), (6, .int a6), (7, .int a7), (8, .ref a8)] [] M bc bs := by
  refine j_aload hX eL_law_468 5 rfl ?_
  refine j_iconst (v := (0 : Int32)) hX eL_law_470 (by decide) ?_
  obtain ⟨t3, h⟩ := h
  obtain ⟨b4, b5, h⟩ := h
  refine j_callV (a := a8) (q := (RX6, TX6, 9)) (r' := rX6_carOf) (As := [.int (0 : Int32)]) (rest := []) (d1 := d) hX eL_law_471 mm_LiftGroupLaw_124 rfl t3 (by decide) rfl h rfl (Nat.le_refl _) b4 b5 (Nat.le_of_ble_eq_true rfl) (fun vz9 Mz9 qz9 => ?_) (fun Ez9 Mz9 qz9 => ?_)
  · obtain ⟨M1, eMz9⟩ : ∃ M1, M1 = Mz9 := ⟨_, rfl⟩; subst eMz9
    rcases qz9 with ⟨v2, hxz9, h⟩ | ⟨hxz9, h⟩ | ⟨hxz9, h⟩ <;> cases hxz9
    refine j_if_ne hX 640 eL_law_474 (by decide) (fun c6 => ?_) (fun c6 => ?_)
    · replace h := h.2 c6
      refine j_iconst (v := (0 : Int32)) hX eL_law_640 (by decide) ?_
      exact h.elim
    · replace h := h.1 c6
      exact j_sub [0, 1, 2, 3, 4, 5] rfl (k477 _ _ _ _ _ _ _ _ _ h)
  · obtain ⟨M1, eMz9⟩ : ∃ M1, M1 = Mz9 := ⟨_, rfl⟩; subst eMz9
    rcases qz9 with ⟨v2, hxz9, h⟩ | ⟨hxz9, h⟩ | ⟨hxz9, h⟩ <;> cases hxz9
    · exact h.elim
    · exact h.elim
set_option maxHeartbeats 4000000 in
set_option maxRecDepth 20000 in
theorem vL_law_477 {X : am_Cx} {G : am_Gx} {d : Nat} (hX : am_ok X rL_law G (d + 1)) (hret : ∀ {pc : Nat} {lv : List (Nat × Value)} {M : am_Hp} {bc bs : Nat}, decode rL_law.2.1 pc = .ok (.ireturn, 1) → am_J X pc lv [.int (1 : Int32)] M bc bs) {bc bs : Nat} (R490 : Nat → Int32 → Int32 → Int32 → Int32 → Nat → am_Hp → Nat → Nat → Prop) (k490 : ∀ (x1 : Nat) (x3 : Int32) (x4 : Int32) (x6 : Int32) (x7 : Int32) (x8 : Nat) (M : am_Hp) (bc bs : Nat), R490 x1 x3 x4 x6 x7 x8 M bc bs → am_J X 490 [(1, .ref x1), (3, .int x3), (4, .int x4), (6, .int x6), (7, .int x7), (8, .ref x8)] [] M bc bs) {a1 : Nat} {a3 : Int32} {a4 : Int32} {a6 : Int32} {a7 : Int32} {a8 : Nat} {M : am_Hp} (h : hp_T M (a8) = 7 ∧ (2 ≤ bc ∧ (12 ≤ bs ∧ (am_CT G d rX6_stepsUntilBoarding [.ref a8, .int (0 : Int32)] M 2 12 (fun oz9 M1 => (∃ v2 : Int32, oz9 = .inl (some (.int v2)) ∧ (((v2 = (a6 + (1 : Int32))) → (R490 a1 a3 a4 a6 a7 a8 M1 (bc - 2) (bs - 12))) ∧ (¬ (v2 = (a6 + (1 : Int32))) → (False)))) ∨ ((oz9 = .inr "java/lang/IndexOutOfBoundsException" ∧ False)) ∨ ((oz9 = .inr "java/util/NoSuchElementException" ∧ False))))))) : am_J X 477 [(1, .ref a1), (3, .int a3), (4, .int a4), (6, .int a6), (7, .int a7), (8, .ref a8)] [] M bc bs := by
  refine j_aload hX eL_law_477 5 rfl ?_
  refine j_iconst (v := (0 : Int32)) hX eL_law_479 (by decide) ?_
  obtain ⟨t3, h⟩ := h
  obtain ⟨b4, b5, h⟩ := h
  refine j_callV (a := a8) (q := (RX6, TX6, 9)) (r' := rX6_stepsUntilBoarding) (As := [.int (0 : Int32)]) (rest := []) (d1 := d) hX eL_law_480 mm_LiftGroupLaw_246 rfl t3 (by decide) rfl h rfl (Nat.le_refl _) b4 b5 (Nat.le_of_ble_eq_true rfl) (fun vz9 Mz9 qz9 => ?_) (fun Ez9 Mz9 qz9 => ?_)
  · obtain ⟨M1, eMz9⟩ : ∃ M1, M1 = Mz9 := ⟨_, rfl⟩; subst eMz9
    rcases qz9 with ⟨v2, hxz9, h⟩ | ⟨hxz9, h⟩ | ⟨hxz9, h⟩ <;> cases hxz9
    refine j_iload hX eL_law_483 3 rfl ?_
    refine j_iconst (v := (1 : Int32)) hX eL_law_485 (by decide) ?_
    refine j_iadd hX eL_law_486 ?_
    refine j_icmp_ne hX 640 eL_law_487 (by decide) (fun c6 => ?_) (fun c6 => ?_)
    · replace h := h.2 c6
      refine j_iconst (v := (0 : Int32)) hX eL_law_640 (by decide) ?_
      exact h.elim
    · replace h := h.1 c6
      exact j_sub [0, 1, 2, 3, 4, 5] rfl (k490 _ _ _ _ _ _ _ _ _ h)
  · obtain ⟨M1, eMz9⟩ : ∃ M1, M1 = Mz9 := ⟨_, rfl⟩; subst eMz9
    rcases qz9 with ⟨v2, hxz9, h⟩ | ⟨hxz9, h⟩ | ⟨hxz9, h⟩ <;> cases hxz9
    · exact h.elim
    · exact h.elim
set_option maxHeartbeats 4000000 in
set_option maxRecDepth 20000 in
theorem vL_law_490 {X : am_Cx} {G : am_Gx} {d : Nat} (hX : am_ok X rL_law G (d + 1)) (hret : ∀ {pc : Nat} {lv : List (Nat × Value)} {M : am_Hp} {bc bs : Nat}, decode rL_law.2.1 pc = .ok (.ireturn, 1) → am_J X pc lv [.int (1 : Int32)] M bc bs) {bc bs : Nat} (R505 : Nat → Int32 → Int32 → Int32 → Int32 → Nat → am_Hp → Nat → Nat → Prop) (k505 : ∀ (x1 : Nat) (x3 : Int32) (x4 : Int32) (x6 : Int32) (x7 : Int32) (x8 : Nat) (M : am_Hp) (bc bs : Nat), R505 x1 x3 x4 x6 x7 x8 M bc bs → am_J X 505 [(1, .ref x1), (3, .int x3), (4, .int x4), (6, .int x6), (7, .int x7), (8, .ref x8)] [] M bc bs) {a1 : Nat} {a3 : Int32} {a4 : Int32} {a6 : Int32} {a7 : Int32} {a8 : Nat} {M : am_Hp} (h : hp_T M (a8) = 7 ∧ (2 ≤ bc ∧ (12 ≤ bs ∧ (am_CT G d rX6_stepsUntilArrival [.ref a8, .int (0 : Int32)] M 2 12 (fun oz9 M1 => (∃ v2 : Int32, oz9 = .inl (some (.int v2)) ∧ (((v2 = (((2 : Int32) * a6) + (4 : Int32))) → (R505 a1 a3 a4 a6 a7 a8 M1 (bc - 2) (bs - 12))) ∧ (¬ (v2 = (((2 : Int32) * a6) + (4 : Int32))) → (False)))) ∨ ((oz9 = .inr "java/lang/IndexOutOfBoundsException" ∧ False)) ∨ ((oz9 = .inr "java/util/NoSuchElementException" ∧ False))))))) : am_J X 490 [(1, .ref a1), (3, .int a3), (4, .int a4), (6, .int a6), (7, .int a7), (8, .ref a8)] [] M bc bs := by
  refine j_aload hX eL_law_490 5 rfl ?_
  refine j_iconst (v := (0 : Int32)) hX eL_law_492 (by decide) ?_
  obtain ⟨t3, h⟩ := h
  obtain ⟨b4, b5, h⟩ := h
  refine j_callV (a := a8) (q := (RX6, TX6, 9)) (r' := rX6_stepsUntilArrival) (As := [.int (0 : Int32)]) (rest := []) (d1 := d) hX eL_law_493 mm_LiftGroupLaw_249 rfl t3 (by decide) rfl h rfl (Nat.le_refl _) b4 b5 (Nat.le_of_ble_eq_true rfl) (fun vz9 Mz9 qz9 => ?_) (fun Ez9 Mz9 qz9 => ?_)
  · obtain ⟨M1, eMz9⟩ : ∃ M1, M1 = Mz9 := ⟨_, rfl⟩; subst eMz9
    rcases qz9 with ⟨v2, hxz9, h⟩ | ⟨hxz9, h⟩ | ⟨hxz9, h⟩ <;> cases hxz9
    refine j_iconst (v := (2 : Int32)) hX eL_law_496 (by decide) ?_
    refine j_iload hX eL_law_497 3 rfl ?_
    refine j_imul hX eL_law_499 ?_
    refine j_iconst (v := (4 : Int32)) hX eL_law_500 (by decide) ?_
    refine j_iadd hX eL_law_501 ?_
    refine j_icmp_ne hX 640 eL_law_502 (by decide) (fun c6 => ?_) (fun c6 => ?_)
    · replace h := h.2 c6
      refine j_iconst (v := (0 : Int32)) hX eL_law_640 (by decide) ?_
      exact h.elim
    · replace h := h.1 c6
      exact j_sub [0, 1, 2, 3, 4, 5] rfl (k505 _ _ _ _ _ _ _ _ _ h)
  · obtain ⟨M1, eMz9⟩ : ∃ M1, M1 = Mz9 := ⟨_, rfl⟩; subst eMz9
    rcases qz9 with ⟨v2, hxz9, h⟩ | ⟨hxz9, h⟩ | ⟨hxz9, h⟩ <;> cases hxz9
    · exact h.elim
    · exact h.elim
set_option maxHeartbeats 4000000 in
set_option maxRecDepth 20000 in
theorem vL_law_505 {X : am_Cx} {G : am_Gx} {d : Nat} (hX : am_ok X rL_law G (d + 1)) (hret : ∀ {pc : Nat} {lv : List (Nat × Value)} {M : am_Hp} {bc bs : Nat}, decode rL_law.2.1 pc = .ok (.ireturn, 1) → am_J X pc lv [.int (1 : Int32)] M bc bs) {bc bs : Nat} (R516 : Nat → Int32 → Int32 → Int32 → Int32 → Nat → am_Hp → Nat → Nat → Prop) (k516 : ∀ (x1 : Nat) (x3 : Int32) (x4 : Int32) (x6 : Int32) (x7 : Int32) (x8 : Nat) (M : am_Hp) (bc bs : Nat), R516 x1 x3 x4 x6 x7 x8 M bc bs → am_J X 516 [(1, .ref x1), (3, .int x3), (4, .int x4), (6, .int x6), (7, .int x7), (8, .ref x8)] [] M bc bs) {a1 : Nat} {a3 : Int32} {a4 : Int32} {a6 : Int32} {a7 : Int32} {a8 : Nat} {M : am_Hp} (h : hp_T M (a8) = 7 ∧ (2 ≤ bc ∧ (12 ≤ bs ∧ (am_CT G d rX6_nextStop [.ref a8, .int (0 : Int32)] M 2 12 (fun oz9 M1 => (∃ v2 : Int32, oz9 = .inl (some (.int v2)) ∧ (((v2 = a6) → (R516 a1 a3 a4 a6 a7 a8 M1 (bc - 2) (bs - 12))) ∧ (¬ (v2 = a6) → (False)))) ∨ ((oz9 = .inr "java/lang/IndexOutOfBoundsException" ∧ False)) ∨ ((oz9 = .inr "java/util/NoSuchElementException" ∧ False))))))) : am_J X 505 [(1, .ref a1), (3, .int a3), (4, .int a4), (6, .int a6), (7, .int a7), (8, .ref a8)] [] M bc bs := by
  refine j_aload hX eL_law_505 5 rfl ?_
  refine j_iconst (v := (0 : Int32)) hX eL_law_507 (by decide) ?_
  obtain ⟨t3, h⟩ := h
  obtain ⟨b4, b5, h⟩ := h
  refine j_callV (a := a8) (q := (RX6, TX6, 9)) (r' := rX6_nextStop) (As := [.int (0 : Int32)]) (rest := []) (d1 := d) hX eL_law_508 mm_LiftGroupLaw_252 rfl t3 (by decide) rfl h rfl (Nat.le_refl _) b4 b5 (Nat.le_of_ble_eq_true rfl) (fun vz9 Mz9 qz9 => ?_) (fun Ez9 Mz9 qz9 => ?_)
  · obtain ⟨M1, eMz9⟩ : ∃ M1, M1 = Mz9 := ⟨_, rfl⟩; subst eMz9
    rcases qz9 with ⟨v2, hxz9, h⟩ | ⟨hxz9, h⟩ | ⟨hxz9, h⟩ <;> cases hxz9
    refine j_iload hX eL_law_511 3 rfl ?_
    refine j_icmp_ne hX 640 eL_law_513 (by decide) (fun c6 => ?_) (fun c6 => ?_)
    · replace h := h.2 c6
      refine j_iconst (v := (0 : Int32)) hX eL_law_640 (by decide) ?_
      exact h.elim
    · replace h := h.1 c6
      exact j_sub [0, 1, 2, 3, 4, 5] rfl (k516 _ _ _ _ _ _ _ _ _ h)
  · obtain ⟨M1, eMz9⟩ : ∃ M1, M1 = Mz9 := ⟨_, rfl⟩; subst eMz9
    rcases qz9 with ⟨v2, hxz9, h⟩ | ⟨hxz9, h⟩ | ⟨hxz9, h⟩ <;> cases hxz9
    · exact h.elim
    · exact h.elim
set_option maxHeartbeats 4000000 in
set_option maxRecDepth 20000 in
theorem vL_law_516 {X : am_Cx} {G : am_Gx} {d : Nat} (hX : am_ok X rL_law G (d + 1)) (hret : ∀ {pc : Nat} {lv : List (Nat × Value)} {M : am_Hp} {bc bs : Nat}, decode rL_law.2.1 pc = .ok (.ireturn, 1) → am_J X pc lv [.int (1 : Int32)] M bc bs) {bc bs : Nat} (R529 : Nat → Int32 → Int32 → Int32 → Int32 → Nat → am_Hp → Nat → Nat → Prop) (k529 : ∀ (x1 : Nat) (x3 : Int32) (x4 : Int32) (x6 : Int32) (x7 : Int32) (x8 : Nat) (M : am_Hp) (bc bs : Nat), R529 x1 x3 x4 x6 x7 x8 M bc bs → am_J X 529 [(1, .ref x1), (3, .int x3), (4, .int x4), (6, .int x6), (7, .int x7), (8, .ref x8)] [] M bc bs) {a1 : Nat} {a3 : Int32} {a4 : Int32} {a6 : Int32} {a7 : Int32} {a8 : Nat} {M : am_Hp} (h : hp_T M (a8) = 7 ∧ (2 ≤ bc ∧ (12 ≤ bs ∧ (am_CT G d rX6_estimate [.ref a8, .int (0 : Int32), .int (9 : Int32)] M 2 12 (fun oz9 M1 => (∃ v2 : Int32, oz9 = .inl (some (.int v2)) ∧ (((v2 = (9 : Int32)) → (R529 a1 a3 a4 a6 a7 a8 M1 (bc - 2) (bs - 12))) ∧ (¬ (v2 = (9 : Int32)) → (False)))) ∨ ((oz9 = .inr "java/lang/IllegalArgumentException" ∧ False)) ∨ ((oz9 = .inr "java/lang/IndexOutOfBoundsException" ∧ False))))))) : am_J X 516 [(1, .ref a1), (3, .int a3), (4, .int a4), (6, .int a6), (7, .int a7), (8, .ref a8)] [] M bc bs := by
  refine j_aload hX eL_law_516 5 rfl ?_
  refine j_iconst (v := (0 : Int32)) hX eL_law_518 (by decide) ?_
  refine j_bipush (v := (9 : Int32)) hX eL_law_519 (by decide) ?_
  obtain ⟨t3, h⟩ := h
  obtain ⟨b4, b5, h⟩ := h
  refine j_callV (a := a8) (q := (RX6, TX6, 9)) (r' := rX6_estimate) (As := [.int (0 : Int32), .int (9 : Int32)]) (rest := []) (d1 := d) hX eL_law_521 mm_LiftGroupLaw_255 rfl t3 (by decide) rfl h rfl (Nat.le_refl _) b4 b5 (Nat.le_of_ble_eq_true rfl) (fun vz9 Mz9 qz9 => ?_) (fun Ez9 Mz9 qz9 => ?_)
  · obtain ⟨M1, eMz9⟩ : ∃ M1, M1 = Mz9 := ⟨_, rfl⟩; subst eMz9
    rcases qz9 with ⟨v2, hxz9, h⟩ | ⟨hxz9, h⟩ | ⟨hxz9, h⟩ <;> cases hxz9
    refine j_bipush (v := (9 : Int32)) hX eL_law_524 (by decide) ?_
    refine j_icmp_ne hX 640 eL_law_526 (by decide) (fun c6 => ?_) (fun c6 => ?_)
    · replace h := h.2 c6
      refine j_iconst (v := (0 : Int32)) hX eL_law_640 (by decide) ?_
      exact h.elim
    · replace h := h.1 c6
      exact j_sub [0, 1, 2, 3, 4, 5] rfl (k529 _ _ _ _ _ _ _ _ _ h)
  · obtain ⟨M1, eMz9⟩ : ∃ M1, M1 = Mz9 := ⟨_, rfl⟩; subst eMz9
    rcases qz9 with ⟨v2, hxz9, h⟩ | ⟨hxz9, h⟩ | ⟨hxz9, h⟩ <;> cases hxz9
    · exact h.elim
    · exact h.elim
set_option maxHeartbeats 4000000 in
set_option maxRecDepth 20000 in
theorem vL_law_529 {X : am_Cx} {G : am_Gx} {d : Nat} (hX : am_ok X rL_law G (d + 1)) (hret : ∀ {pc : Nat} {lv : List (Nat × Value)} {M : am_Hp} {bc bs : Nat}, decode rL_law.2.1 pc = .ok (.ireturn, 1) → am_J X pc lv [.int (1 : Int32)] M bc bs) {bc bs : Nat} (R543 : Nat → Int32 → Int32 → Int32 → Int32 → Nat → am_Hp → Nat → Nat → Prop) (k543 : ∀ (x1 : Nat) (x3 : Int32) (x4 : Int32) (x6 : Int32) (x7 : Int32) (x8 : Nat) (M : am_Hp) (bc bs : Nat), R543 x1 x3 x4 x6 x7 x8 M bc bs → am_J X 543 [(1, .ref x1), (3, .int x3), (4, .int x4), (6, .int x6), (7, .int x7), (8, .ref x8)] [] M bc bs) {a1 : Nat} {a3 : Int32} {a4 : Int32} {a6 : Int32} {a7 : Int32} {a8 : Nat} {M : am_Hp} (h : hp_T M (a8) = 7 ∧ (1 ≤ bc ∧ (6 ≤ bs ∧ (am_CT G d rX6_tripsWithin [.ref a8, .int (((2 : Int32) * a6) + (3 : Int32))] M 1 6 (fun oz9 M1 => (∃ v2 : Int32, oz9 = .inl (some (.int v2)) ∧ (((v2 = 0) → (R543 a1 a3 a4 a6 a7 a8 M1 (bc - 1) (bs - 6))) ∧ (¬ (v2 = 0) → (False)))) ∨ ((oz9 = .inr "java/lang/IllegalArgumentException" ∧ False))))))) : am_J X 529 [(1, .ref a1), (3, .int a3), (4, .int a4), (6, .int a6), (7, .int a7), (8, .ref a8)] [] M bc bs := by
  refine j_aload hX eL_law_529 5 rfl ?_
  refine j_iconst (v := (2 : Int32)) hX eL_law_531 (by decide) ?_
  refine j_iload hX eL_law_532 3 rfl ?_
  refine j_imul hX eL_law_534 ?_
  refine j_iconst (v := (3 : Int32)) hX eL_law_535 (by decide) ?_
  refine j_iadd hX eL_law_536 ?_
  obtain ⟨t3, h⟩ := h
  obtain ⟨b4, b5, h⟩ := h
  refine j_callV (a := a8) (q := (RX6, TX6, 9)) (r' := rX6_tripsWithin) (As := [.int (((2 : Int32) * a6) + (3 : Int32))]) (rest := []) (d1 := d) hX eL_law_537 mm_LiftGroupLaw_240 rfl t3 (by decide) rfl h rfl (Nat.le_refl _) b4 b5 (Nat.le_of_ble_eq_true rfl) (fun vz9 Mz9 qz9 => ?_) (fun Ez9 Mz9 qz9 => ?_)
  · obtain ⟨M1, eMz9⟩ : ∃ M1, M1 = Mz9 := ⟨_, rfl⟩; subst eMz9
    rcases qz9 with ⟨v2, hxz9, h⟩ | ⟨hxz9, h⟩ <;> cases hxz9
    refine j_if_ne hX 640 eL_law_540 (by decide) (fun c6 => ?_) (fun c6 => ?_)
    · replace h := h.2 c6
      refine j_iconst (v := (0 : Int32)) hX eL_law_640 (by decide) ?_
      exact h.elim
    · replace h := h.1 c6
      exact j_sub [0, 1, 2, 3, 4, 5] rfl (k543 _ _ _ _ _ _ _ _ _ h)
  · obtain ⟨M1, eMz9⟩ : ∃ M1, M1 = Mz9 := ⟨_, rfl⟩; subst eMz9
    rcases qz9 with ⟨v2, hxz9, h⟩ | ⟨hxz9, h⟩ <;> cases hxz9
    exact h.elim
set_option maxHeartbeats 4000000 in
set_option maxRecDepth 20000 in
theorem vL_law_543 {X : am_Cx} {G : am_Gx} {d : Nat} (hX : am_ok X rL_law G (d + 1)) (hret : ∀ {pc : Nat} {lv : List (Nat × Value)} {M : am_Hp} {bc bs : Nat}, decode rL_law.2.1 pc = .ok (.ireturn, 1) → am_J X pc lv [.int (1 : Int32)] M bc bs) {bc bs : Nat} (R558 : Nat → Int32 → Int32 → Int32 → Int32 → Nat → am_Hp → Nat → Nat → Prop) (k558 : ∀ (x1 : Nat) (x3 : Int32) (x4 : Int32) (x6 : Int32) (x7 : Int32) (x8 : Nat) (M : am_Hp) (bc bs : Nat), R558 x1 x3 x4 x6 x7 x8 M bc bs → am_J X 558 [(1, .ref x1), (3, .int x3), (4, .int x4), (6, .int x6), (7, .int x7), (8, .ref x8)] [] M bc bs) {a1 : Nat} {a3 : Int32} {a4 : Int32} {a6 : Int32} {a7 : Int32} {a8 : Nat} {M : am_Hp} (h : hp_T M (a8) = 7 ∧ (1 ≤ bc ∧ (6 ≤ bs ∧ (am_CT G d rX6_tripsWithin [.ref a8, .int (((2 : Int32) * a6) + (4 : Int32))] M 1 6 (fun oz9 M1 => (∃ v2 : Int32, oz9 = .inl (some (.int v2)) ∧ (((v2 = (1 : Int32)) → (R558 a1 a3 a4 a6 a7 a8 M1 (bc - 1) (bs - 6))) ∧ (¬ (v2 = (1 : Int32)) → (False)))) ∨ ((oz9 = .inr "java/lang/IllegalArgumentException" ∧ False))))))) : am_J X 543 [(1, .ref a1), (3, .int a3), (4, .int a4), (6, .int a6), (7, .int a7), (8, .ref a8)] [] M bc bs := by
  refine j_aload hX eL_law_543 5 rfl ?_
  refine j_iconst (v := (2 : Int32)) hX eL_law_545 (by decide) ?_
  refine j_iload hX eL_law_546 3 rfl ?_
  refine j_imul hX eL_law_548 ?_
  refine j_iconst (v := (4 : Int32)) hX eL_law_549 (by decide) ?_
  refine j_iadd hX eL_law_550 ?_
  obtain ⟨t3, h⟩ := h
  obtain ⟨b4, b5, h⟩ := h
  refine j_callV (a := a8) (q := (RX6, TX6, 9)) (r' := rX6_tripsWithin) (As := [.int (((2 : Int32) * a6) + (4 : Int32))]) (rest := []) (d1 := d) hX eL_law_551 mm_LiftGroupLaw_240 rfl t3 (by decide) rfl h rfl (Nat.le_refl _) b4 b5 (Nat.le_of_ble_eq_true rfl) (fun vz9 Mz9 qz9 => ?_) (fun Ez9 Mz9 qz9 => ?_)
  · obtain ⟨M1, eMz9⟩ : ∃ M1, M1 = Mz9 := ⟨_, rfl⟩; subst eMz9
    rcases qz9 with ⟨v2, hxz9, h⟩ | ⟨hxz9, h⟩ <;> cases hxz9
    refine j_iconst (v := (1 : Int32)) hX eL_law_554 (by decide) ?_
    refine j_icmp_ne hX 640 eL_law_555 (by decide) (fun c6 => ?_) (fun c6 => ?_)
    · replace h := h.2 c6
      refine j_iconst (v := (0 : Int32)) hX eL_law_640 (by decide) ?_
      exact h.elim
    · replace h := h.1 c6
      exact j_sub [0, 1, 2, 3, 4, 5] rfl (k558 _ _ _ _ _ _ _ _ _ h)
  · obtain ⟨M1, eMz9⟩ : ∃ M1, M1 = Mz9 := ⟨_, rfl⟩; subst eMz9
    rcases qz9 with ⟨v2, hxz9, h⟩ | ⟨hxz9, h⟩ <;> cases hxz9
    exact h.elim
set_option maxHeartbeats 4000000 in
set_option maxRecDepth 20000 in
theorem vL_law_558 {X : am_Cx} {G : am_Gx} {d : Nat} (hX : am_ok X rL_law G (d + 1)) (hret : ∀ {pc : Nat} {lv : List (Nat × Value)} {M : am_Hp} {bc bs : Nat}, decode rL_law.2.1 pc = .ok (.ireturn, 1) → am_J X pc lv [.int (1 : Int32)] M bc bs) {bc bs : Nat} (R568 : Nat → Int32 → Int32 → Int32 → Int32 → Nat → am_Hp → Nat → Nat → Prop) (k568 : ∀ (x1 : Nat) (x3 : Int32) (x4 : Int32) (x6 : Int32) (x7 : Int32) (x8 : Nat) (M : am_Hp) (bc bs : Nat), R568 x1 x3 x4 x6 x7 x8 M bc bs → am_J X 568 [(1, .ref x1), (3, .int x3), (4, .int x4), (6, .int x6), (7, .int x7), (8, .ref x8)] [] M bc bs) {a1 : Nat} {a3 : Int32} {a4 : Int32} {a6 : Int32} {a7 : Int32} {a8 : Nat} {M : am_Hp} (h : hp_T M (a8) = 7 ∧ (1 ≤ bc ∧ (6 ≤ bs ∧ (am_CT G d rX6_advance [.ref a8, .int a6] M 1 6 (fun oz9 M1 => (∃ v2 : Int32, oz9 = .inl (some (.int v2)) ∧ (((v2 = 0) → (R568 a1 a3 a4 a6 a7 a8 M1 (bc - 1) (bs - 6))) ∧ (¬ (v2 = 0) → (False)))) ∨ ((oz9 = .inr "java/lang/IllegalArgumentException" ∧ False)) ∨ ((oz9 = .inr "java/lang/IllegalStateException" ∧ False)) ∨ ((oz9 = .inr "java/lang/IndexOutOfBoundsException" ∧ False)) ∨ ((oz9 = .inr "java/lang/UnsupportedOperationException" ∧ False))))))) : am_J X 558 [(1, .ref a1), (3, .int a3), (4, .int a4), (6, .int a6), (7, .int a7), (8, .ref a8)] [] M bc bs := by
  refine j_aload hX eL_law_558 5 rfl ?_
  refine j_iload hX eL_law_560 3 rfl ?_
  obtain ⟨t3, h⟩ := h
  obtain ⟨b4, b5, h⟩ := h
  refine j_callV (a := a8) (q := (RX6, TX6, 9)) (r' := rX6_advance) (As := [.int a6]) (rest := []) (d1 := d) hX eL_law_562 mm_LiftGroupLaw_63 rfl t3 (by decide) rfl h rfl (Nat.le_refl _) b4 b5 (Nat.le_of_ble_eq_true rfl) (fun vz9 Mz9 qz9 => ?_) (fun Ez9 Mz9 qz9 => ?_)
  · obtain ⟨M1, eMz9⟩ : ∃ M1, M1 = Mz9 := ⟨_, rfl⟩; subst eMz9
    rcases qz9 with ⟨v2, hxz9, h⟩ | ⟨hxz9, h⟩ | ⟨hxz9, h⟩ | ⟨hxz9, h⟩ | ⟨hxz9, h⟩ <;> cases hxz9
    refine j_if_ne hX 640 eL_law_565 (by decide) (fun c6 => ?_) (fun c6 => ?_)
    · replace h := h.2 c6
      refine j_iconst (v := (0 : Int32)) hX eL_law_640 (by decide) ?_
      exact h.elim
    · replace h := h.1 c6
      exact j_sub [0, 1, 2, 3, 4, 5] rfl (k568 _ _ _ _ _ _ _ _ _ h)
  · obtain ⟨M1, eMz9⟩ : ∃ M1, M1 = Mz9 := ⟨_, rfl⟩; subst eMz9
    rcases qz9 with ⟨v2, hxz9, h⟩ | ⟨hxz9, h⟩ | ⟨hxz9, h⟩ | ⟨hxz9, h⟩ | ⟨hxz9, h⟩ <;> cases hxz9
    · exact h.elim
    · exact h.elim
    · exact h.elim
    · exact h.elim
set_option maxHeartbeats 4000000 in
set_option maxRecDepth 20000 in
theorem vL_law_568 {X : am_Cx} {G : am_Gx} {d : Nat} (hX : am_ok X rL_law G (d + 1)) (hret : ∀ {pc : Nat} {lv : List (Nat × Value)} {M : am_Hp} {bc bs : Nat}, decode rL_law.2.1 pc = .ok (.ireturn, 1) → am_J X pc lv [.int (1 : Int32)] M bc bs) {bc bs : Nat} (R579 : Nat → Int32 → Int32 → Int32 → Int32 → Nat → am_Hp → Nat → Nat → Prop) (k579 : ∀ (x1 : Nat) (x3 : Int32) (x4 : Int32) (x6 : Int32) (x7 : Int32) (x8 : Nat) (M : am_Hp) (bc bs : Nat), R579 x1 x3 x4 x6 x7 x8 M bc bs → am_J X 579 [(1, .ref x1), (3, .int x3), (4, .int x4), (6, .int x6), (7, .int x7), (8, .ref x8)] [] M bc bs) {a1 : Nat} {a3 : Int32} {a4 : Int32} {a6 : Int32} {a7 : Int32} {a8 : Nat} {M : am_Hp} (h : hp_T M (a8) = 7 ∧ (1 ≤ bc ∧ (6 ≤ bs ∧ (am_CT G d rX6_floor [.ref a8, .int (0 : Int32)] M 1 6 (fun oz9 M1 => (∃ v2 : Int32, oz9 = .inl (some (.int v2)) ∧ (((v2 = a6) → (R579 a1 a3 a4 a6 a7 a8 M1 (bc - 1) (bs - 6))) ∧ (¬ (v2 = a6) → (False)))) ∨ ((oz9 = .inr "java/lang/IndexOutOfBoundsException" ∧ False))))))) : am_J X 568 [(1, .ref a1), (3, .int a3), (4, .int a4), (6, .int a6), (7, .int a7), (8, .ref a8)] [] M bc bs := by
  refine j_aload hX eL_law_568 5 rfl ?_
  refine j_iconst (v := (0 : Int32)) hX eL_law_570 (by decide) ?_
  obtain ⟨t3, h⟩ := h
  obtain ⟨b4, b5, h⟩ := h
  refine j_callV (a := a8) (q := (RX6, TX6, 9)) (r' := rX6_floor) (As := [.int (0 : Int32)]) (rest := []) (d1 := d) hX eL_law_571 mm_LiftGroupLaw_76 rfl t3 (by decide) rfl h rfl (Nat.le_refl _) b4 b5 (Nat.le_of_ble_eq_true rfl) (fun vz9 Mz9 qz9 => ?_) (fun Ez9 Mz9 qz9 => ?_)
  · obtain ⟨M1, eMz9⟩ : ∃ M1, M1 = Mz9 := ⟨_, rfl⟩; subst eMz9
    rcases qz9 with ⟨v2, hxz9, h⟩ | ⟨hxz9, h⟩ <;> cases hxz9
    refine j_iload hX eL_law_574 3 rfl ?_
    refine j_icmp_ne hX 640 eL_law_576 (by decide) (fun c6 => ?_) (fun c6 => ?_)
    · replace h := h.2 c6
      refine j_iconst (v := (0 : Int32)) hX eL_law_640 (by decide) ?_
      exact h.elim
    · replace h := h.1 c6
      exact j_sub [0, 1, 2, 3, 4, 5] rfl (k579 _ _ _ _ _ _ _ _ _ h)
  · obtain ⟨M1, eMz9⟩ : ∃ M1, M1 = Mz9 := ⟨_, rfl⟩; subst eMz9
    rcases qz9 with ⟨v2, hxz9, h⟩ | ⟨hxz9, h⟩ <;> cases hxz9
    exact h.elim
set_option maxHeartbeats 4000000 in
set_option maxRecDepth 20000 in
theorem vL_law_579 {X : am_Cx} {G : am_Gx} {d : Nat} (hX : am_ok X rL_law G (d + 1)) (hret : ∀ {pc : Nat} {lv : List (Nat × Value)} {M : am_Hp} {bc bs : Nat}, decode rL_law.2.1 pc = .ok (.ireturn, 1) → am_J X pc lv [.int (1 : Int32)] M bc bs) {bc bs : Nat} (R589 : Nat → Int32 → Int32 → Int32 → Int32 → Nat → am_Hp → Nat → Nat → Prop) (k589 : ∀ (x1 : Nat) (x3 : Int32) (x4 : Int32) (x6 : Int32) (x7 : Int32) (x8 : Nat) (M : am_Hp) (bc bs : Nat), R589 x1 x3 x4 x6 x7 x8 M bc bs → am_J X 589 [(1, .ref x1), (3, .int x3), (4, .int x4), (6, .int x6), (7, .int x7), (8, .ref x8)] [] M bc bs) {a1 : Nat} {a3 : Int32} {a4 : Int32} {a6 : Int32} {a7 : Int32} {a8 : Nat} {M : am_Hp} (h : hp_T M (a8) = 7 ∧ (1 ≤ bc ∧ (6 ≤ bs ∧ (am_CT G d rX6_direction [.ref a8, .int (0 : Int32)] M 1 6 (fun oz9 M1 => (∃ v2 : Int32, oz9 = .inl (some (.int v2)) ∧ (((v2 = (1 : Int32)) → (R589 a1 a3 a4 a6 a7 a8 M1 (bc - 1) (bs - 6))) ∧ (¬ (v2 = (1 : Int32)) → (False)))) ∨ ((oz9 = .inr "java/lang/IndexOutOfBoundsException" ∧ False))))))) : am_J X 579 [(1, .ref a1), (3, .int a3), (4, .int a4), (6, .int a6), (7, .int a7), (8, .ref a8)] [] M bc bs := by
  refine j_aload hX eL_law_579 5 rfl ?_
  refine j_iconst (v := (0 : Int32)) hX eL_law_581 (by decide) ?_
  obtain ⟨t3, h⟩ := h
  obtain ⟨b4, b5, h⟩ := h
  refine j_callV (a := a8) (q := (RX6, TX6, 9)) (r' := rX6_direction) (As := [.int (0 : Int32)]) (rest := []) (d1 := d) hX eL_law_582 mm_LiftGroupLaw_79 rfl t3 (by decide) rfl h rfl (Nat.le_refl _) b4 b5 (Nat.le_of_ble_eq_true rfl) (fun vz9 Mz9 qz9 => ?_) (fun Ez9 Mz9 qz9 => ?_)
  · obtain ⟨M1, eMz9⟩ : ∃ M1, M1 = Mz9 := ⟨_, rfl⟩; subst eMz9
    rcases qz9 with ⟨v2, hxz9, h⟩ | ⟨hxz9, h⟩ <;> cases hxz9
    refine j_iconst (v := (1 : Int32)) hX eL_law_585 (by decide) ?_
    refine j_icmp_ne hX 640 eL_law_586 (by decide) (fun c6 => ?_) (fun c6 => ?_)
    · replace h := h.2 c6
      refine j_iconst (v := (0 : Int32)) hX eL_law_640 (by decide) ?_
      exact h.elim
    · replace h := h.1 c6
      exact j_sub [0, 1, 2, 3, 4, 5] rfl (k589 _ _ _ _ _ _ _ _ _ h)
  · obtain ⟨M1, eMz9⟩ : ∃ M1, M1 = Mz9 := ⟨_, rfl⟩; subst eMz9
    rcases qz9 with ⟨v2, hxz9, h⟩ | ⟨hxz9, h⟩ <;> cases hxz9
    exact h.elim
set_option maxHeartbeats 4000000 in
set_option maxRecDepth 20000 in
theorem vL_law_589 {X : am_Cx} {G : am_Gx} {d : Nat} (hX : am_ok X rL_law G (d + 1)) (hret : ∀ {pc : Nat} {lv : List (Nat × Value)} {M : am_Hp} {bc bs : Nat}, decode rL_law.2.1 pc = .ok (.ireturn, 1) → am_J X pc lv [.int (1 : Int32)] M bc bs) {bc bs : Nat} (R602 : Nat → Int32 → Int32 → Int32 → Int32 → Nat → am_Hp → Nat → Nat → Prop) (k602 : ∀ (x1 : Nat) (x3 : Int32) (x4 : Int32) (x6 : Int32) (x7 : Int32) (x8 : Nat) (M : am_Hp) (bc bs : Nat), R602 x1 x3 x4 x6 x7 x8 M bc bs → am_J X 602 [(1, .ref x1), (3, .int x3), (4, .int x4), (6, .int x6), (7, .int x7), (8, .ref x8)] [] M bc bs) {a1 : Nat} {a3 : Int32} {a4 : Int32} {a6 : Int32} {a7 : Int32} {a8 : Nat} {M : am_Hp} (h : hp_T M (a8) = 7 ∧ (1 ≤ bc ∧ (6 ≤ bs ∧ (am_CT G d rX6_energy [.ref a8, .int (0 : Int32)] M 1 6 (fun oz9 M1 => (∃ v2 : Int32, oz9 = .inl (some (.int v2)) ∧ (((v2 = ((2 : Int32) * a6)) → (R602 a1 a3 a4 a6 a7 a8 M1 (bc - 1) (bs - 6))) ∧ (¬ (v2 = ((2 : Int32) * a6)) → (False)))) ∨ ((oz9 = .inr "java/lang/IndexOutOfBoundsException" ∧ False))))))) : am_J X 589 [(1, .ref a1), (3, .int a3), (4, .int a4), (6, .int a6), (7, .int a7), (8, .ref a8)] [] M bc bs := by
  refine j_aload hX eL_law_589 5 rfl ?_
  refine j_iconst (v := (0 : Int32)) hX eL_law_591 (by decide) ?_
  obtain ⟨t3, h⟩ := h
  obtain ⟨b4, b5, h⟩ := h
  refine j_callV (a := a8) (q := (RX6, TX6, 9)) (r' := rX6_energy) (As := [.int (0 : Int32)]) (rest := []) (d1 := d) hX eL_law_592 mm_LiftGroupLaw_92 rfl t3 (by decide) rfl h rfl (Nat.le_refl _) b4 b5 (Nat.le_of_ble_eq_true rfl) (fun vz9 Mz9 qz9 => ?_) (fun Ez9 Mz9 qz9 => ?_)
  · obtain ⟨M1, eMz9⟩ : ∃ M1, M1 = Mz9 := ⟨_, rfl⟩; subst eMz9
    rcases qz9 with ⟨v2, hxz9, h⟩ | ⟨hxz9, h⟩ <;> cases hxz9
    refine j_iconst (v := (2 : Int32)) hX eL_law_595 (by decide) ?_
    refine j_iload hX eL_law_596 3 rfl ?_
    refine j_imul hX eL_law_598 ?_
    refine j_icmp_ne hX 640 eL_law_599 (by decide) (fun c6 => ?_) (fun c6 => ?_)
    · replace h := h.2 c6
      refine j_iconst (v := (0 : Int32)) hX eL_law_640 (by decide) ?_
      exact h.elim
    · replace h := h.1 c6
      exact j_sub [0, 1, 2, 3, 4, 5] rfl (k602 _ _ _ _ _ _ _ _ _ h)
  · obtain ⟨M1, eMz9⟩ : ∃ M1, M1 = Mz9 := ⟨_, rfl⟩; subst eMz9
    rcases qz9 with ⟨v2, hxz9, h⟩ | ⟨hxz9, h⟩ <;> cases hxz9
    exact h.elim
set_option maxHeartbeats 4000000 in
set_option maxRecDepth 20000 in
theorem vL_law_602 {X : am_Cx} {G : am_Gx} {d : Nat} (hX : am_ok X rL_law G (d + 1)) (hret : ∀ {pc : Nat} {lv : List (Nat × Value)} {M : am_Hp} {bc bs : Nat}, decode rL_law.2.1 pc = .ok (.ireturn, 1) → am_J X pc lv [.int (1 : Int32)] M bc bs) {bc bs : Nat} (R616 : Nat → Int32 → Int32 → Int32 → Int32 → Nat → am_Hp → Nat → Nat → Prop) (k616 : ∀ (x1 : Nat) (x3 : Int32) (x4 : Int32) (x6 : Int32) (x7 : Int32) (x8 : Nat) (M : am_Hp) (bc bs : Nat), R616 x1 x3 x4 x6 x7 x8 M bc bs → am_J X 616 [(1, .ref x1), (3, .int x3), (4, .int x4), (6, .int x6), (7, .int x7), (8, .ref x8)] [] M bc bs) {a1 : Nat} {a3 : Int32} {a4 : Int32} {a6 : Int32} {a7 : Int32} {a8 : Nat} {M : am_Hp} (h : hp_T M (a8) = 7 ∧ (2 ≤ bc ∧ (12 ≤ bs ∧ (am_CT G d rX6_estimate [.ref a8, .int (0 : Int32), .int (a6 + (1 : Int32))] M 2 12 (fun oz9 M1 => (∃ v2 : Int32, oz9 = .inl (some (.int v2)) ∧ (((v2 = (1 : Int32)) → (R616 a1 a3 a4 a6 a7 a8 M1 (bc - 2) (bs - 12))) ∧ (¬ (v2 = (1 : Int32)) → (False)))) ∨ ((oz9 = .inr "java/lang/IllegalArgumentException" ∧ False)) ∨ ((oz9 = .inr "java/lang/IndexOutOfBoundsException" ∧ False))))))) : am_J X 602 [(1, .ref a1), (3, .int a3), (4, .int a4), (6, .int a6), (7, .int a7), (8, .ref a8)] [] M bc bs := by
  refine j_aload hX eL_law_602 5 rfl ?_
  refine j_iconst (v := (0 : Int32)) hX eL_law_604 (by decide) ?_
  refine j_iload hX eL_law_605 3 rfl ?_
  refine j_iconst (v := (1 : Int32)) hX eL_law_607 (by decide) ?_
  refine j_iadd hX eL_law_608 ?_
  obtain ⟨t3, h⟩ := h
  obtain ⟨b4, b5, h⟩ := h
  refine j_callV (a := a8) (q := (RX6, TX6, 9)) (r' := rX6_estimate) (As := [.int (0 : Int32), .int (a6 + (1 : Int32))]) (rest := []) (d1 := d) hX eL_law_609 mm_LiftGroupLaw_255 rfl t3 (by decide) rfl h rfl (Nat.le_refl _) b4 b5 (Nat.le_of_ble_eq_true rfl) (fun vz9 Mz9 qz9 => ?_) (fun Ez9 Mz9 qz9 => ?_)
  · obtain ⟨M1, eMz9⟩ : ∃ M1, M1 = Mz9 := ⟨_, rfl⟩; subst eMz9
    rcases qz9 with ⟨v2, hxz9, h⟩ | ⟨hxz9, h⟩ | ⟨hxz9, h⟩ <;> cases hxz9
    refine j_iconst (v := (1 : Int32)) hX eL_law_612 (by decide) ?_
    refine j_icmp_ne hX 640 eL_law_613 (by decide) (fun c6 => ?_) (fun c6 => ?_)
    · replace h := h.2 c6
      refine j_iconst (v := (0 : Int32)) hX eL_law_640 (by decide) ?_
      exact h.elim
    · replace h := h.1 c6
      exact j_sub [0, 1, 2, 3, 4, 5] rfl (k616 _ _ _ _ _ _ _ _ _ h)
  · obtain ⟨M1, eMz9⟩ : ∃ M1, M1 = Mz9 := ⟨_, rfl⟩; subst eMz9
    rcases qz9 with ⟨v2, hxz9, h⟩ | ⟨hxz9, h⟩ | ⟨hxz9, h⟩ <;> cases hxz9
    · exact h.elim
    · exact h.elim
set_option maxHeartbeats 4000000 in
set_option maxRecDepth 20000 in
theorem vL_law_616 {X : am_Cx} {G : am_Gx} {d : Nat} (hX : am_ok X rL_law G (d + 1)) (hret : ∀ {pc : Nat} {lv : List (Nat × Value)} {M : am_Hp} {bc bs : Nat}, decode rL_law.2.1 pc = .ok (.ireturn, 1) → am_J X pc lv [.int (1 : Int32)] M bc bs) {bc bs : Nat} (R628 : Nat → Int32 → Int32 → Int32 → Int32 → Nat → am_Hp → Nat → Nat → Prop) (k628 : ∀ (x1 : Nat) (x3 : Int32) (x4 : Int32) (x6 : Int32) (x7 : Int32) (x8 : Nat) (M : am_Hp) (bc bs : Nat), R628 x1 x3 x4 x6 x7 x8 M bc bs → am_J X 628 [(1, .ref x1), (3, .int x3), (4, .int x4), (6, .int x6), (7, .int x7), (8, .ref x8)] [] M bc bs) {a1 : Nat} {a3 : Int32} {a4 : Int32} {a6 : Int32} {a7 : Int32} {a8 : Nat} {M : am_Hp} (h : hp_T M (a8) = 7 ∧ (2 ≤ bc ∧ (12 ≤ bs ∧ (am_CT G d rX6_estimate [.ref a8, .int (0 : Int32), .int (0 : Int32)] M 2 12 (fun oz9 M1 => (∃ v2 : Int32, oz9 = .inl (some (.int v2)) ∧ (((v2 = a6) → (R628 a1 a3 a4 a6 a7 a8 M1 (bc - 2) (bs - 12))) ∧ (¬ (v2 = a6) → (False)))) ∨ ((oz9 = .inr "java/lang/IllegalArgumentException" ∧ False)) ∨ ((oz9 = .inr "java/lang/IndexOutOfBoundsException" ∧ False))))))) : am_J X 616 [(1, .ref a1), (3, .int a3), (4, .int a4), (6, .int a6), (7, .int a7), (8, .ref a8)] [] M bc bs := by
  refine j_aload hX eL_law_616 5 rfl ?_
  refine j_iconst (v := (0 : Int32)) hX eL_law_618 (by decide) ?_
  refine j_iconst (v := (0 : Int32)) hX eL_law_619 (by decide) ?_
  obtain ⟨t3, h⟩ := h
  obtain ⟨b4, b5, h⟩ := h
  refine j_callV (a := a8) (q := (RX6, TX6, 9)) (r' := rX6_estimate) (As := [.int (0 : Int32), .int (0 : Int32)]) (rest := []) (d1 := d) hX eL_law_620 mm_LiftGroupLaw_255 rfl t3 (by decide) rfl h rfl (Nat.le_refl _) b4 b5 (Nat.le_of_ble_eq_true rfl) (fun vz9 Mz9 qz9 => ?_) (fun Ez9 Mz9 qz9 => ?_)
  · obtain ⟨M1, eMz9⟩ : ∃ M1, M1 = Mz9 := ⟨_, rfl⟩; subst eMz9
    rcases qz9 with ⟨v2, hxz9, h⟩ | ⟨hxz9, h⟩ | ⟨hxz9, h⟩ <;> cases hxz9
    refine j_iload hX eL_law_623 3 rfl ?_
    refine j_icmp_ne hX 640 eL_law_625 (by decide) (fun c6 => ?_) (fun c6 => ?_)
    · replace h := h.2 c6
      refine j_iconst (v := (0 : Int32)) hX eL_law_640 (by decide) ?_
      exact h.elim
    · replace h := h.1 c6
      exact j_sub [0, 1, 2, 3, 4, 5] rfl (k628 _ _ _ _ _ _ _ _ _ h)
  · obtain ⟨M1, eMz9⟩ : ∃ M1, M1 = Mz9 := ⟨_, rfl⟩; subst eMz9
    rcases qz9 with ⟨v2, hxz9, h⟩ | ⟨hxz9, h⟩ | ⟨hxz9, h⟩ <;> cases hxz9
    · exact h.elim
    · exact h.elim
set_option maxHeartbeats 4000000 in
set_option maxRecDepth 20000 in
theorem vL_law_628 {X : am_Cx} {G : am_Gx} {d : Nat} (hX : am_ok X rL_law G (d + 1)) (hret : ∀ {pc : Nat} {lv : List (Nat × Value)} {M : am_Hp} {bc bs : Nat}, decode rL_law.2.1 pc = .ok (.ireturn, 1) → am_J X pc lv [.int (1 : Int32)] M bc bs) {bc bs : Nat} (R642 : Nat → Int32 → Int32 → Int32 → Int32 → Nat → am_Hp → Nat → Nat → Prop) (k642 : ∀ (x1 : Nat) (x3 : Int32) (x4 : Int32) (x6 : Int32) (x7 : Int32) (x8 : Nat) (M : am_Hp) (bc bs : Nat), R642 x1 x3 x4 x6 x7 x8 M bc bs → am_J X 642 [(1, .ref x1), (3, .int x3), (4, .int x4), (6, .int x6), (7, .int x7), (8, .ref x8)] [] M bc bs) {a1 : Nat} {a3 : Int32} {a4 : Int32} {a6 : Int32} {a7 : Int32} {a8 : Nat} {M : am_Hp} (h : hp_T M (a8) = 7 ∧ (2 ≤ bc ∧ (12 ≤ bs ∧ (am_CT G d rX6_estimateByWalk [.ref a8, .int (0 : Int32), .int (0 : Int32)] M 2 12 (fun oz9 M1 => (∃ v2 : Int32, oz9 = .inl (some (.int v2)) ∧ (((v2 = a6) → (R642 a1 a3 a4 a6 a7 a8 M1 (bc - 2) (bs - 12))) ∧ (¬ (v2 = a6) → (False)))) ∨ ((oz9 = .inr "java/lang/IllegalArgumentException" ∧ False)) ∨ ((oz9 = .inr "java/lang/IndexOutOfBoundsException" ∧ False))))))) : am_J X 628 [(1, .ref a1), (3, .int a3), (4, .int a4), (6, .int a6), (7, .int a7), (8, .ref a8)] [] M bc bs := by
  refine j_aload hX eL_law_628 5 rfl ?_
  refine j_iconst (v := (0 : Int32)) hX eL_law_630 (by decide) ?_
  refine j_iconst (v := (0 : Int32)) hX eL_law_631 (by decide) ?_
  obtain ⟨t3, h⟩ := h
  obtain ⟨b4, b5, h⟩ := h
  refine j_callV (a := a8) (q := (RX6, TX6, 9)) (r' := rX6_estimateByWalk) (As := [.int (0 : Int32), .int (0 : Int32)]) (rest := []) (d1 := d) hX eL_law_632 mm_LiftGroupLaw_257 rfl t3 (by decide) rfl h rfl (Nat.le_refl _) b4 b5 (Nat.le_of_ble_eq_true rfl) (fun vz9 Mz9 qz9 => ?_) (fun Ez9 Mz9 qz9 => ?_)
  · obtain ⟨M1, eMz9⟩ : ∃ M1, M1 = Mz9 := ⟨_, rfl⟩; subst eMz9
    rcases qz9 with ⟨v2, hxz9, h⟩ | ⟨hxz9, h⟩ | ⟨hxz9, h⟩ <;> cases hxz9
    refine j_iload hX eL_law_635 3 rfl ?_
    refine j_icmp_eq hX 642 eL_law_637 (by decide) (fun c6 => ?_) (fun c6 => ?_)
    · replace h := h.1 c6
      exact j_sub [0, 1, 2, 3, 4, 5] rfl (k642 _ _ _ _ _ _ _ _ _ h)
    · replace h := h.2 c6
      refine j_iconst (v := (0 : Int32)) hX eL_law_640 (by decide) ?_
      exact h.elim
  · obtain ⟨M1, eMz9⟩ : ∃ M1, M1 = Mz9 := ⟨_, rfl⟩; subst eMz9
    rcases qz9 with ⟨v2, hxz9, h⟩ | ⟨hxz9, h⟩ | ⟨hxz9, h⟩ <;> cases hxz9
    · exact h.elim
    · exact h.elim
set_option maxHeartbeats 4000000 in
set_option maxRecDepth 20000 in
theorem vL_law_642 {X : am_Cx} {G : am_Gx} {d : Nat} (hX : am_ok X rL_law G (d + 1)) (hret : ∀ {pc : Nat} {lv : List (Nat × Value)} {M : am_Hp} {bc bs : Nat}, decode rL_law.2.1 pc = .ok (.ireturn, 1) → am_J X pc lv [.int (1 : Int32)] M bc bs) {bc bs : Nat} (R651 : Nat → Int32 → Int32 → Int32 → Int32 → Nat → am_Hp → Nat → Nat → Prop) (k651 : ∀ (x1 : Nat) (x3 : Int32) (x4 : Int32) (x6 : Int32) (x7 : Int32) (x8 : Nat) (M : am_Hp) (bc bs : Nat), R651 x1 x3 x4 x6 x7 x8 M bc bs → am_J X 651 [(1, .ref x1), (3, .int x3), (4, .int x4), (6, .int x6), (7, .int x7), (8, .ref x8)] [] M bc bs) {a1 : Nat} {a3 : Int32} {a4 : Int32} {a6 : Int32} {a7 : Int32} {a8 : Nat} {M : am_Hp} (h : hp_T M (a8) = 7 ∧ (1 ≤ bc ∧ (6 ≤ bs ∧ (am_CT G d rX6_advance [.ref a8, .int (1 : Int32)] M 1 6 (fun oz9 M1 => (∃ v2 : Int32, oz9 = .inl (some (.int v2)) ∧ (((v2 = 0) → (R651 a1 a3 a4 a6 a7 a8 M1 (bc - 1) (bs - 6))) ∧ (¬ (v2 = 0) → (False)))) ∨ ((oz9 = .inr "java/lang/IllegalArgumentException" ∧ False)) ∨ ((oz9 = .inr "java/lang/IllegalStateException" ∧ False)) ∨ ((oz9 = .inr "java/lang/IndexOutOfBoundsException" ∧ False)) ∨ ((oz9 = .inr "java/lang/UnsupportedOperationException" ∧ False))))))) : am_J X 642 [(1, .ref a1), (3, .int a3), (4, .int a4), (6, .int a6), (7, .int a7), (8, .ref a8)] [] M bc bs := by
  refine j_aload hX eL_law_642 5 rfl ?_
  refine j_iconst (v := (1 : Int32)) hX eL_law_644 (by decide) ?_
  obtain ⟨t3, h⟩ := h
  obtain ⟨b4, b5, h⟩ := h
  refine j_callV (a := a8) (q := (RX6, TX6, 9)) (r' := rX6_advance) (As := [.int (1 : Int32)]) (rest := []) (d1 := d) hX eL_law_645 mm_LiftGroupLaw_63 rfl t3 (by decide) rfl h rfl (Nat.le_refl _) b4 b5 (Nat.le_of_ble_eq_true rfl) (fun vz9 Mz9 qz9 => ?_) (fun Ez9 Mz9 qz9 => ?_)
  · obtain ⟨M1, eMz9⟩ : ∃ M1, M1 = Mz9 := ⟨_, rfl⟩; subst eMz9
    rcases qz9 with ⟨v2, hxz9, h⟩ | ⟨hxz9, h⟩ | ⟨hxz9, h⟩ | ⟨hxz9, h⟩ | ⟨hxz9, h⟩ <;> cases hxz9
    refine j_if_ne hX 818 eL_law_648 (by decide) (fun c6 => ?_) (fun c6 => ?_)
    · replace h := h.2 c6
      refine j_iconst (v := (0 : Int32)) hX eL_law_818 (by decide) ?_
      exact h.elim
    · replace h := h.1 c6
      exact j_sub [0, 1, 2, 3, 4, 5] rfl (k651 _ _ _ _ _ _ _ _ _ h)
  · obtain ⟨M1, eMz9⟩ : ∃ M1, M1 = Mz9 := ⟨_, rfl⟩; subst eMz9
    rcases qz9 with ⟨v2, hxz9, h⟩ | ⟨hxz9, h⟩ | ⟨hxz9, h⟩ | ⟨hxz9, h⟩ | ⟨hxz9, h⟩ <;> cases hxz9
    · exact h.elim
    · exact h.elim
    · exact h.elim
    · exact h.elim
set_option maxHeartbeats 4000000 in
set_option maxRecDepth 20000 in
theorem vL_law_651 {X : am_Cx} {G : am_Gx} {d : Nat} (hX : am_ok X rL_law G (d + 1)) (hret : ∀ {pc : Nat} {lv : List (Nat × Value)} {M : am_Hp} {bc bs : Nat}, decode rL_law.2.1 pc = .ok (.ireturn, 1) → am_J X pc lv [.int (1 : Int32)] M bc bs) {bc bs : Nat} (R660 : Nat → Int32 → Int32 → Int32 → Int32 → Nat → am_Hp → Nat → Nat → Prop) (k660 : ∀ (x1 : Nat) (x3 : Int32) (x4 : Int32) (x6 : Int32) (x7 : Int32) (x8 : Nat) (M : am_Hp) (bc bs : Nat), R660 x1 x3 x4 x6 x7 x8 M bc bs → am_J X 660 [(1, .ref x1), (3, .int x3), (4, .int x4), (6, .int x6), (7, .int x7), (8, .ref x8)] [] M bc bs) {a1 : Nat} {a3 : Int32} {a4 : Int32} {a6 : Int32} {a7 : Int32} {a8 : Nat} {M : am_Hp} (h : hp_T M (a8) = 7 ∧ (1 ≤ bc ∧ (6 ≤ bs ∧ (am_CT G d rX6_isInCar [.ref a8, .int (0 : Int32)] M 1 6 (fun oz9 M1 => (∃ v2 : Int32, oz9 = .inl (some (.int v2)) ∧ (((v2 = 0) → (False)) ∧ (¬ (v2 = 0) → (R660 a1 a3 a4 a6 a7 a8 M1 (bc - 1) (bs - 6))))) ∨ ((oz9 = .inr "java/lang/IndexOutOfBoundsException" ∧ False))))))) : am_J X 651 [(1, .ref a1), (3, .int a3), (4, .int a4), (6, .int a6), (7, .int a7), (8, .ref a8)] [] M bc bs := by
  refine j_aload hX eL_law_651 5 rfl ?_
  refine j_iconst (v := (0 : Int32)) hX eL_law_653 (by decide) ?_
  obtain ⟨t3, h⟩ := h
  obtain ⟨b4, b5, h⟩ := h
  refine j_callV (a := a8) (q := (RX6, TX6, 9)) (r' := rX6_isInCar) (As := [.int (0 : Int32)]) (rest := []) (d1 := d) hX eL_law_654 mm_LiftGroupLaw_117 rfl t3 (by decide) rfl h rfl (Nat.le_refl _) b4 b5 (Nat.le_of_ble_eq_true rfl) (fun vz9 Mz9 qz9 => ?_) (fun Ez9 Mz9 qz9 => ?_)
  · obtain ⟨M1, eMz9⟩ : ∃ M1, M1 = Mz9 := ⟨_, rfl⟩; subst eMz9
    rcases qz9 with ⟨v2, hxz9, h⟩ | ⟨hxz9, h⟩ <;> cases hxz9
    refine j_if_eq hX 818 eL_law_657 (by decide) (fun c6 => ?_) (fun c6 => ?_)
    · replace h := h.1 c6
      refine j_iconst (v := (0 : Int32)) hX eL_law_818 (by decide) ?_
      exact h.elim
    · replace h := h.2 c6
      exact j_sub [0, 1, 2, 3, 4, 5] rfl (k660 _ _ _ _ _ _ _ _ _ h)
  · obtain ⟨M1, eMz9⟩ : ∃ M1, M1 = Mz9 := ⟨_, rfl⟩; subst eMz9
    rcases qz9 with ⟨v2, hxz9, h⟩ | ⟨hxz9, h⟩ <;> cases hxz9
    exact h.elim
set_option maxHeartbeats 4000000 in
set_option maxRecDepth 20000 in
theorem vL_law_660 {X : am_Cx} {G : am_Gx} {d : Nat} (hX : am_ok X rL_law G (d + 1)) (hret : ∀ {pc : Nat} {lv : List (Nat × Value)} {M : am_Hp} {bc bs : Nat}, decode rL_law.2.1 pc = .ok (.ireturn, 1) → am_J X pc lv [.int (1 : Int32)] M bc bs) {bc bs : Nat} (R670 : Nat → Int32 → Int32 → Int32 → Int32 → Nat → am_Hp → Nat → Nat → Prop) (k670 : ∀ (x1 : Nat) (x3 : Int32) (x4 : Int32) (x6 : Int32) (x7 : Int32) (x8 : Nat) (M : am_Hp) (bc bs : Nat), R670 x1 x3 x4 x6 x7 x8 M bc bs → am_J X 670 [(1, .ref x1), (3, .int x3), (4, .int x4), (6, .int x6), (7, .int x7), (8, .ref x8)] [] M bc bs) {a1 : Nat} {a3 : Int32} {a4 : Int32} {a6 : Int32} {a7 : Int32} {a8 : Nat} {M : am_Hp} (h : hp_T M (a8) = 7 ∧ (1 ≤ bc ∧ (6 ≤ bs ∧ (am_CT G d rX6_doorSteps [.ref a8, .int (0 : Int32)] M 1 6 (fun oz9 M1 => (∃ v2 : Int32, oz9 = .inl (some (.int v2)) ∧ (((v2 = (2 : Int32)) → (R670 a1 a3 a4 a6 a7 a8 M1 (bc - 1) (bs - 6))) ∧ (¬ (v2 = (2 : Int32)) → (False)))) ∨ ((oz9 = .inr "java/lang/IndexOutOfBoundsException" ∧ False))))))) : am_J X 660 [(1, .ref a1), (3, .int a3), (4, .int a4), (6, .int a6), (7, .int a7), (8, .ref a8)] [] M bc bs := by
  refine j_aload hX eL_law_660 5 rfl ?_
  refine j_iconst (v := (0 : Int32)) hX eL_law_662 (by decide) ?_
  obtain ⟨t3, h⟩ := h
  obtain ⟨b4, b5, h⟩ := h
  refine j_callV (a := a8) (q := (RX6, TX6, 9)) (r' := rX6_doorSteps) (As := [.int (0 : Int32)]) (rest := []) (d1 := d) hX eL_law_663 mm_LiftGroupLaw_85 rfl t3 (by decide) rfl h rfl (Nat.le_refl _) b4 b5 (Nat.le_of_ble_eq_true rfl) (fun vz9 Mz9 qz9 => ?_) (fun Ez9 Mz9 qz9 => ?_)
  · obtain ⟨M1, eMz9⟩ : ∃ M1, M1 = Mz9 := ⟨_, rfl⟩; subst eMz9
    rcases qz9 with ⟨v2, hxz9, h⟩ | ⟨hxz9, h⟩ <;> cases hxz9
    refine j_iconst (v := (2 : Int32)) hX eL_law_666 (by decide) ?_
    refine j_icmp_ne hX 818 eL_law_667 (by decide) (fun c6 => ?_) (fun c6 => ?_)
    · replace h := h.2 c6
      refine j_iconst (v := (0 : Int32)) hX eL_law_818 (by decide) ?_
      exact h.elim
    · replace h := h.1 c6
      exact j_sub [0, 1, 2, 3, 4, 5] rfl (k670 _ _ _ _ _ _ _ _ _ h)
  · obtain ⟨M1, eMz9⟩ : ∃ M1, M1 = Mz9 := ⟨_, rfl⟩; subst eMz9
    rcases qz9 with ⟨v2, hxz9, h⟩ | ⟨hxz9, h⟩ <;> cases hxz9
    exact h.elim
set_option maxHeartbeats 4000000 in
set_option maxRecDepth 20000 in
theorem vL_law_670 {X : am_Cx} {G : am_Gx} {d : Nat} (hX : am_ok X rL_law G (d + 1)) (hret : ∀ {pc : Nat} {lv : List (Nat × Value)} {M : am_Hp} {bc bs : Nat}, decode rL_law.2.1 pc = .ok (.ireturn, 1) → am_J X pc lv [.int (1 : Int32)] M bc bs) {bc bs : Nat} (R683 : Nat → Int32 → Int32 → Int32 → Int32 → Nat → am_Hp → Nat → Nat → Prop) (k683 : ∀ (x1 : Nat) (x3 : Int32) (x4 : Int32) (x6 : Int32) (x7 : Int32) (x8 : Nat) (M : am_Hp) (bc bs : Nat), R683 x1 x3 x4 x6 x7 x8 M bc bs → am_J X 683 [(1, .ref x1), (3, .int x3), (4, .int x4), (6, .int x6), (7, .int x7), (8, .ref x8)] [] M bc bs) {a1 : Nat} {a3 : Int32} {a4 : Int32} {a6 : Int32} {a7 : Int32} {a8 : Nat} {M : am_Hp} (h : hp_T M (a8) = 7 ∧ (1 ≤ bc ∧ (6 ≤ bs ∧ (am_CT G d rX6_waitingTime [.ref a8, .int (0 : Int32)] M 1 6 (fun oz9 M1 => (∃ v2 : Int32, oz9 = .inl (some (.int v2)) ∧ (((v2 = (a6 + (1 : Int32))) → (R683 a1 a3 a4 a6 a7 a8 M1 (bc - 1) (bs - 6))) ∧ (¬ (v2 = (a6 + (1 : Int32))) → (False)))) ∨ ((oz9 = .inr "java/lang/IndexOutOfBoundsException" ∧ False))))))) : am_J X 670 [(1, .ref a1), (3, .int a3), (4, .int a4), (6, .int a6), (7, .int a7), (8, .ref a8)] [] M bc bs := by
  refine j_aload hX eL_law_670 5 rfl ?_
  refine j_iconst (v := (0 : Int32)) hX eL_law_672 (by decide) ?_
  obtain ⟨t3, h⟩ := h
  obtain ⟨b4, b5, h⟩ := h
  refine j_callV (a := a8) (q := (RX6, TX6, 9)) (r' := rX6_waitingTime) (As := [.int (0 : Int32)]) (rest := []) (d1 := d) hX eL_law_673 mm_LiftGroupLaw_110 rfl t3 (by decide) rfl h rfl (Nat.le_refl _) b4 b5 (Nat.le_of_ble_eq_true rfl) (fun vz9 Mz9 qz9 => ?_) (fun Ez9 Mz9 qz9 => ?_)
  · obtain ⟨M1, eMz9⟩ : ∃ M1, M1 = Mz9 := ⟨_, rfl⟩; subst eMz9
    rcases qz9 with ⟨v2, hxz9, h⟩ | ⟨hxz9, h⟩ <;> cases hxz9
    refine j_iload hX eL_law_676 3 rfl ?_
    refine j_iconst (v := (1 : Int32)) hX eL_law_678 (by decide) ?_
    refine j_iadd hX eL_law_679 ?_
    refine j_icmp_ne hX 818 eL_law_680 (by decide) (fun c6 => ?_) (fun c6 => ?_)
    · replace h := h.2 c6
      refine j_iconst (v := (0 : Int32)) hX eL_law_818 (by decide) ?_
      exact h.elim
    · replace h := h.1 c6
      exact j_sub [0, 1, 2, 3, 4, 5] rfl (k683 _ _ _ _ _ _ _ _ _ h)
  · obtain ⟨M1, eMz9⟩ : ∃ M1, M1 = Mz9 := ⟨_, rfl⟩; subst eMz9
    rcases qz9 with ⟨v2, hxz9, h⟩ | ⟨hxz9, h⟩ <;> cases hxz9
    exact h.elim
set_option maxHeartbeats 4000000 in
set_option maxRecDepth 20000 in
theorem vL_law_683 {X : am_Cx} {G : am_Gx} {d : Nat} (hX : am_ok X rL_law G (d + 1)) (hret : ∀ {pc : Nat} {lv : List (Nat × Value)} {M : am_Hp} {bc bs : Nat}, decode rL_law.2.1 pc = .ok (.ireturn, 1) → am_J X pc lv [.int (1 : Int32)] M bc bs) {bc bs : Nat} (R694 : Nat → Int32 → Int32 → Int32 → Int32 → Nat → am_Hp → Nat → Nat → Prop) (k694 : ∀ (x1 : Nat) (x3 : Int32) (x4 : Int32) (x6 : Int32) (x7 : Int32) (x8 : Nat) (M : am_Hp) (bc bs : Nat), R694 x1 x3 x4 x6 x7 x8 M bc bs → am_J X 694 [(1, .ref x1), (3, .int x3), (4, .int x4), (6, .int x6), (7, .int x7), (8, .ref x8)] [] M bc bs) {a1 : Nat} {a3 : Int32} {a4 : Int32} {a6 : Int32} {a7 : Int32} {a8 : Nat} {M : am_Hp} (h : hp_T M (a8) = 7 ∧ (1 ≤ bc ∧ (6 ≤ bs ∧ (am_CT G d rX6_load [.ref a8, .int (0 : Int32)] M 1 6 (fun oz9 M1 => (∃ v2 : Int32, oz9 = .inl (some (.int v2)) ∧ (((v2 = a7) → (R694 a1 a3 a4 a6 a7 a8 M1 (bc - 1) (bs - 6))) ∧ (¬ (v2 = a7) → (False)))) ∨ ((oz9 = .inr "java/lang/IndexOutOfBoundsException" ∧ False))))))) : am_J X 683 [(1, .ref a1), (3, .int a3), (4, .int a4), (6, .int a6), (7, .int a7), (8, .ref a8)] [] M bc bs := by
  refine j_aload hX eL_law_683 5 rfl ?_
  refine j_iconst (v := (0 : Int32)) hX eL_law_685 (by decide) ?_
  obtain ⟨t3, h⟩ := h
  obtain ⟨b4, b5, h⟩ := h
  refine j_callV (a := a8) (q := (RX6, TX6, 9)) (r' := rX6_load) (As := [.int (0 : Int32)]) (rest := []) (d1 := d) hX eL_law_686 mm_LiftGroupLaw_260 rfl t3 (by decide) rfl h rfl (Nat.le_refl _) b4 b5 (Nat.le_of_ble_eq_true rfl) (fun vz9 Mz9 qz9 => ?_) (fun Ez9 Mz9 qz9 => ?_)
  · obtain ⟨M1, eMz9⟩ : ∃ M1, M1 = Mz9 := ⟨_, rfl⟩; subst eMz9
    rcases qz9 with ⟨v2, hxz9, h⟩ | ⟨hxz9, h⟩ <;> cases hxz9
    refine j_iload hX eL_law_689 4 rfl ?_
    refine j_icmp_ne hX 818 eL_law_691 (by decide) (fun c6 => ?_) (fun c6 => ?_)
    · replace h := h.2 c6
      refine j_iconst (v := (0 : Int32)) hX eL_law_818 (by decide) ?_
      exact h.elim
    · replace h := h.1 c6
      exact j_sub [0, 1, 2, 3, 4, 5] rfl (k694 _ _ _ _ _ _ _ _ _ h)
  · obtain ⟨M1, eMz9⟩ : ∃ M1, M1 = Mz9 := ⟨_, rfl⟩; subst eMz9
    rcases qz9 with ⟨v2, hxz9, h⟩ | ⟨hxz9, h⟩ <;> cases hxz9
    exact h.elim
set_option maxHeartbeats 4000000 in
set_option maxRecDepth 20000 in
theorem vL_law_694 {X : am_Cx} {G : am_Gx} {d : Nat} (hX : am_ok X rL_law G (d + 1)) (hret : ∀ {pc : Nat} {lv : List (Nat × Value)} {M : am_Hp} {bc bs : Nat}, decode rL_law.2.1 pc = .ok (.ireturn, 1) → am_J X pc lv [.int (1 : Int32)] M bc bs) {bc bs : Nat} (R708 : Nat → Int32 → Int32 → Int32 → Int32 → Nat → am_Hp → Nat → Nat → Prop) (k708 : ∀ (x1 : Nat) (x3 : Int32) (x4 : Int32) (x6 : Int32) (x7 : Int32) (x8 : Nat) (M : am_Hp) (bc bs : Nat), R708 x1 x3 x4 x6 x7 x8 M bc bs → am_J X 708 [(1, .ref x1), (3, .int x3), (4, .int x4), (6, .int x6), (7, .int x7), (8, .ref x8)] [] M bc bs) {a1 : Nat} {a3 : Int32} {a4 : Int32} {a6 : Int32} {a7 : Int32} {a8 : Nat} {M : am_Hp} (h : 1 ≤ bc ∧ (6 ≤ bs ∧ (am_CT G d rL_act [.ref a8, .int (1 : Int32), .int (0 : Int32), .int (0 : Int32), .int (0 : Int32)] M 1 6 (fun oz9 M1 => ∃ v2 : Int32, oz9 = .inl (some (.int v2)) ∧ (((v2 = (-2 : Int32)) → (R708 a1 a3 a4 a6 a7 a8 M1 (bc - 1) (bs - 6))) ∧ (¬ (v2 = (-2 : Int32)) → (False))))))) : am_J X 694 [(1, .ref a1), (3, .int a3), (4, .int a4), (6, .int a6), (7, .int a7), (8, .ref a8)] [] M bc bs := by
  refine j_aload hX eL_law_694 5 rfl ?_
  refine j_iconst (v := (1 : Int32)) hX eL_law_696 (by decide) ?_
  refine j_iconst (v := (0 : Int32)) hX eL_law_697 (by decide) ?_
  refine j_iconst (v := (0 : Int32)) hX eL_law_698 (by decide) ?_
  refine j_iconst (v := (0 : Int32)) hX eL_law_699 (by decide) ?_
  obtain ⟨b3, b4, h⟩ := h
  refine j_callSX (r' := rL_act) (As := [.ref a8, .int (1 : Int32), .int (0 : Int32), .int (0 : Int32), .int (0 : Int32)]) (rest := []) (d1 := d) hX eL_law_700 mm_LiftGroupLaw_30 (by decide) rfl h rfl (Nat.le_refl _) b3 b4 (Nat.le_of_ble_eq_true rfl) (fun vz9 Mz9 qz9 => ?_) (fun Ez9 Mz9 qz9 => ?_)
  · obtain ⟨M1, eMz9⟩ : ∃ M1, M1 = Mz9 := ⟨_, rfl⟩; subst eMz9
    obtain ⟨v2, hxz9, h⟩ := qz9
    cases hxz9
    refine j_bipush (v := (-2 : Int32)) hX eL_law_703 (by decide) ?_
    refine j_icmp_ne hX 818 eL_law_705 (by decide) (fun c5 => ?_) (fun c5 => ?_)
    · replace h := h.2 c5
      refine j_iconst (v := (0 : Int32)) hX eL_law_818 (by decide) ?_
      exact h.elim
    · replace h := h.1 c5
      exact j_sub [0, 1, 2, 3, 4, 5] rfl (k708 _ _ _ _ _ _ _ _ _ h)
  · obtain ⟨v2, hxz9, h⟩ := qz9
    cases hxz9
set_option maxHeartbeats 4000000 in
set_option maxRecDepth 20000 in
theorem vL_law_708 {X : am_Cx} {G : am_Gx} {d : Nat} (hX : am_ok X rL_law G (d + 1)) (hret : ∀ {pc : Nat} {lv : List (Nat × Value)} {M : am_Hp} {bc bs : Nat}, decode rL_law.2.1 pc = .ok (.ireturn, 1) → am_J X pc lv [.int (1 : Int32)] M bc bs) {bc bs : Nat} (R733 : Nat → Int32 → Int32 → Int32 → Nat → Int32 → Int32 → am_Hp → Nat → Nat → Prop) (k733 : ∀ (x1 : Nat) (x3 : Int32) (x4 : Int32) (x6 : Int32) (x8 : Nat) (y0 : Int32) (y1 : Int32) (M : am_Hp) (bc bs : Nat), R733 x1 x3 x4 x6 x8 y0 y1 M bc bs → am_J X 733 [(1, .ref x1), (3, .int x3), (4, .int x4), (6, .int x6), (8, .ref x8)] [.int y0, .int y1] M bc bs) {a1 : Nat} {a3 : Int32} {a4 : Int32} {a6 : Int32} {a7 : Int32} {a8 : Nat} {M : am_Hp} (h : 1 ≤ bc ∧ (6 ≤ bs ∧ (am_CT G d rL_act [.ref a8, .int (5 : Int32), .int (0 : Int32), .int (100 : Int32), .int (0 : Int32)] M 1 6 (fun oz9 M1 => ∃ v2 : Int32, oz9 = .inl (some (.int v2)) ∧ (((a7 ≤ (100 : Int32)) → (R733 a1 a3 a4 a6 a8 (400 : Int32) v2 M1 (bc - 1) (bs - 6))) ∧ (¬ (a7 ≤ (100 : Int32)) → (R733 a1 a3 a4 a6 a8 (-3 : Int32) v2 M1 (bc - 1) (bs - 6)))))))) : am_J X 708 [(1, .ref a1), (3, .int a3), (4, .int a4), (6, .int a6), (7, .int a7), (8, .ref a8)] [] M bc bs := by
  refine j_aload hX eL_law_708 5 rfl ?_
  refine j_iconst (v := (5 : Int32)) hX eL_law_710 (by decide) ?_
  refine j_iconst (v := (0 : Int32)) hX eL_law_711 (by decide) ?_
  refine j_bipush (v := (100 : Int32)) hX eL_law_712 (by decide) ?_
  refine j_iconst (v := (0 : Int32)) hX eL_law_714 (by decide) ?_
  obtain ⟨b3, b4, h⟩ := h
  refine j_callSX (r' := rL_act) (As := [.ref a8, .int (5 : Int32), .int (0 : Int32), .int (100 : Int32), .int (0 : Int32)]) (rest := []) (d1 := d) hX eL_law_715 mm_LiftGroupLaw_30 (by decide) rfl h rfl (Nat.le_refl _) b3 b4 (Nat.le_of_ble_eq_true rfl) (fun vz9 Mz9 qz9 => ?_) (fun Ez9 Mz9 qz9 => ?_)
  · obtain ⟨M1, eMz9⟩ : ∃ M1, M1 = Mz9 := ⟨_, rfl⟩; subst eMz9
    obtain ⟨v2, hxz9, h⟩ := qz9
    cases hxz9
    refine j_iload hX eL_law_718 4 rfl ?_
    refine j_bipush (v := (100 : Int32)) hX eL_law_720 (by decide) ?_
    refine j_icmp_le hX 730 eL_law_722 (by decide) (fun c5 => ?_) (fun c5 => ?_)
    · replace h := h.1 c5
      refine j_sipush (v := (400 : Int32)) hX eL_law_730 (by decide) ?_
      exact j_sub [0, 1, 2, 3, 5] rfl (k733 _ _ _ _ _ _ _ _ _ _ h)
    · replace h := h.2 c5
      refine j_bipush (v := (-3 : Int32)) hX eL_law_725 (by decide) ?_
      refine j_goto hX 733 eL_law_727 (by decide) ?_
      exact j_sub [0, 1, 2, 3, 5] rfl (k733 _ _ _ _ _ _ _ _ _ _ h)
  · obtain ⟨v2, hxz9, h⟩ := qz9
    cases hxz9
set_option maxHeartbeats 4000000 in
set_option maxRecDepth 20000 in
theorem vL_law_733 {X : am_Cx} {G : am_Gx} {d : Nat} (hX : am_ok X rL_law G (d + 1)) (hret : ∀ {pc : Nat} {lv : List (Nat × Value)} {M : am_Hp} {bc bs : Nat}, decode rL_law.2.1 pc = .ok (.ireturn, 1) → am_J X pc lv [.int (1 : Int32)] M bc bs) {bc bs : Nat} (R736 : Nat → Int32 → Int32 → Int32 → Nat → am_Hp → Nat → Nat → Prop) (k736 : ∀ (x1 : Nat) (x3 : Int32) (x4 : Int32) (x6 : Int32) (x8 : Nat) (M : am_Hp) (bc bs : Nat), R736 x1 x3 x4 x6 x8 M bc bs → am_J X 736 [(1, .ref x1), (3, .int x3), (4, .int x4), (6, .int x6), (8, .ref x8)] [] M bc bs) {a1 : Nat} {a3 : Int32} {a4 : Int32} {a6 : Int32} {a8 : Nat} {s0 : Int32} {s1 : Int32} {M : am_Hp} (h : ((s1 = s0) → (R736 a1 a3 a4 a6 a8 M bc bs)) ∧ (¬ (s1 = s0) → (False))) : am_J X 733 [(1, .ref a1), (3, .int a3), (4, .int a4), (6, .int a6), (8, .ref a8)] [.int s0, .int s1] M bc bs := by
  refine j_icmp_ne hX 818 eL_law_733 (by decide) (fun c1 => ?_) (fun c1 => ?_)
  · replace h := h.2 c1
    refine j_iconst (v := (0 : Int32)) hX eL_law_818 (by decide) ?_
    exact h.elim
  · replace h := h.1 c1
    exact j_sub [0, 1, 2, 3, 4] rfl (k736 _ _ _ _ _ _ _ _ h)
set_option maxHeartbeats 4000000 in
set_option maxRecDepth 20000 in
theorem vL_law_736 {X : am_Cx} {G : am_Gx} {d : Nat} (hX : am_ok X rL_law G (d + 1)) (hret : ∀ {pc : Nat} {lv : List (Nat × Value)} {M : am_Hp} {bc bs : Nat}, decode rL_law.2.1 pc = .ok (.ireturn, 1) → am_J X pc lv [.int (1 : Int32)] M bc bs) {bc bs : Nat} (R750 : Nat → Int32 → Int32 → Int32 → Nat → am_Hp → Nat → Nat → Prop) (k750 : ∀ (x1 : Nat) (x3 : Int32) (x4 : Int32) (x6 : Int32) (x8 : Nat) (M : am_Hp) (bc bs : Nat), R750 x1 x3 x4 x6 x8 M bc bs → am_J X 750 [(1, .ref x1), (3, .int x3), (4, .int x4), (6, .int x6), (8, .ref x8)] [] M bc bs) {a1 : Nat} {a3 : Int32} {a4 : Int32} {a6 : Int32} {a8 : Nat} {M : am_Hp} (h : hp_T M (a8) = 7 ∧ (1 ≤ bc ∧ (6 ≤ bs ∧ (am_CT G d rX6_setCapacity [.ref a8, .int (0 : Int32), .int (400 : Int32)] M 1 6 (fun oz9 M1 => (∃ v2 : Int32, oz9 = .inl (some (.int v2)) ∧ (((v2 < (100 : Int32)) → (False)) ∧ (¬ (v2 < (100 : Int32)) → (R750 a1 a3 a4 a6 a8 M1 (bc - 1) (bs - 6))))) ∨ ((oz9 = .inr "java/lang/IllegalArgumentException" ∧ False)) ∨ ((oz9 = .inr "java/lang/IllegalStateException" ∧ False)) ∨ ((oz9 = .inr "java/lang/IndexOutOfBoundsException" ∧ False)) ∨ ((oz9 = .inr "java/lang/UnsupportedOperationException" ∧ False))))))) : am_J X 736 [(1, .ref a1), (3, .int a3), (4, .int a4), (6, .int a6), (8, .ref a8)] [] M bc bs := by
  refine j_aload hX eL_law_736 4 rfl ?_
  refine j_iconst (v := (0 : Int32)) hX eL_law_738 (by decide) ?_
  refine j_sipush (v := (400 : Int32)) hX eL_law_739 (by decide) ?_
  obtain ⟨t3, h⟩ := h
  obtain ⟨b4, b5, h⟩ := h
  refine j_callV (a := a8) (q := (RX6, TX6, 9)) (r' := rX6_setCapacity) (As := [.int (0 : Int32), .int (400 : Int32)]) (rest := []) (d1 := d) hX eL_law_742 mm_LiftGroupLaw_60 rfl t3 (by decide) rfl h rfl (Nat.le_refl _) b4 b5 (Nat.le_of_ble_eq_true rfl) (fun vz9 Mz9 qz9 => ?_) (fun Ez9 Mz9 qz9 => ?_)
  · obtain ⟨M1, eMz9⟩ : ∃ M1, M1 = Mz9 := ⟨_, rfl⟩; subst eMz9
    rcases qz9 with ⟨v2, hxz9, h⟩ | ⟨hxz9, h⟩ | ⟨hxz9, h⟩ | ⟨hxz9, h⟩ | ⟨hxz9, h⟩ <;> cases hxz9
    refine j_bipush (v := (100 : Int32)) hX eL_law_745 (by decide) ?_
    refine j_icmp_lt hX 818 eL_law_747 (by decide) (fun c6 => ?_) (fun c6 => ?_)
    · replace h := h.1 c6
      refine j_iconst (v := (0 : Int32)) hX eL_law_818 (by decide) ?_
      exact h.elim
    · replace h := h.2 c6
      exact j_sub [0, 1, 2, 3, 4] rfl (k750 _ _ _ _ _ _ _ _ h)
  · obtain ⟨M1, eMz9⟩ : ∃ M1, M1 = Mz9 := ⟨_, rfl⟩; subst eMz9
    rcases qz9 with ⟨v2, hxz9, h⟩ | ⟨hxz9, h⟩ | ⟨hxz9, h⟩ | ⟨hxz9, h⟩ | ⟨hxz9, h⟩ <;> cases hxz9
    · exact h.elim
    · exact h.elim
    · exact h.elim
    · exact h.elim
set_option maxHeartbeats 4000000 in
set_option maxRecDepth 20000 in
theorem vL_law_750 {X : am_Cx} {G : am_Gx} {d : Nat} (hX : am_ok X rL_law G (d + 1)) (hret : ∀ {pc : Nat} {lv : List (Nat × Value)} {M : am_Hp} {bc bs : Nat}, decode rL_law.2.1 pc = .ok (.ireturn, 1) → am_J X pc lv [.int (1 : Int32)] M bc bs) {bc bs : Nat} (R761 : Nat → Int32 → Int32 → Int32 → Nat → am_Hp → Nat → Nat → Prop) (k761 : ∀ (x1 : Nat) (x3 : Int32) (x4 : Int32) (x6 : Int32) (x8 : Nat) (M : am_Hp) (bc bs : Nat), R761 x1 x3 x4 x6 x8 M bc bs → am_J X 761 [(1, .ref x1), (3, .int x3), (4, .int x4), (6, .int x6), (8, .ref x8)] [] M bc bs) {a1 : Nat} {a3 : Int32} {a4 : Int32} {a6 : Int32} {a8 : Nat} {M : am_Hp} (h : hp_T M (a8) = 7 ∧ (1 ≤ bc ∧ (6 ≤ bs ∧ (am_CT G d rX6_holdDoors [.ref a8, .int (0 : Int32), .int (1 : Int32)] M 1 6 (fun oz9 M1 => (∃ v2 : Int32, oz9 = .inl (some (.int v2)) ∧ (((v2 = (2 : Int32)) → (R761 a1 a3 a4 a6 a8 M1 (bc - 1) (bs - 6))) ∧ (¬ (v2 = (2 : Int32)) → (False)))) ∨ ((oz9 = .inr "java/lang/IllegalArgumentException" ∧ False)) ∨ ((oz9 = .inr "java/lang/IllegalStateException" ∧ False)) ∨ ((oz9 = .inr "java/lang/IndexOutOfBoundsException" ∧ False)) ∨ ((oz9 = .inr "java/lang/UnsupportedOperationException" ∧ False))))))) : am_J X 750 [(1, .ref a1), (3, .int a3), (4, .int a4), (6, .int a6), (8, .ref a8)] [] M bc bs := by
  refine j_aload hX eL_law_750 4 rfl ?_
  refine j_iconst (v := (0 : Int32)) hX eL_law_752 (by decide) ?_
  refine j_iconst (v := (1 : Int32)) hX eL_law_753 (by decide) ?_
  obtain ⟨t3, h⟩ := h
  obtain ⟨b4, b5, h⟩ := h
  refine j_callV (a := a8) (q := (RX6, TX6, 9)) (r' := rX6_holdDoors) (As := [.int (0 : Int32), .int (1 : Int32)]) (rest := []) (d1 := d) hX eL_law_754 mm_LiftGroupLaw_51 rfl t3 (by decide) rfl h rfl (Nat.le_refl _) b4 b5 (Nat.le_of_ble_eq_true rfl) (fun vz9 Mz9 qz9 => ?_) (fun Ez9 Mz9 qz9 => ?_)
  · obtain ⟨M1, eMz9⟩ : ∃ M1, M1 = Mz9 := ⟨_, rfl⟩; subst eMz9
    rcases qz9 with ⟨v2, hxz9, h⟩ | ⟨hxz9, h⟩ | ⟨hxz9, h⟩ | ⟨hxz9, h⟩ | ⟨hxz9, h⟩ <;> cases hxz9
    refine j_iconst (v := (2 : Int32)) hX eL_law_757 (by decide) ?_
    refine j_icmp_ne hX 818 eL_law_758 (by decide) (fun c6 => ?_) (fun c6 => ?_)
    · replace h := h.2 c6
      refine j_iconst (v := (0 : Int32)) hX eL_law_818 (by decide) ?_
      exact h.elim
    · replace h := h.1 c6
      exact j_sub [0, 1, 2, 3, 4] rfl (k761 _ _ _ _ _ _ _ _ h)
  · obtain ⟨M1, eMz9⟩ : ∃ M1, M1 = Mz9 := ⟨_, rfl⟩; subst eMz9
    rcases qz9 with ⟨v2, hxz9, h⟩ | ⟨hxz9, h⟩ | ⟨hxz9, h⟩ | ⟨hxz9, h⟩ | ⟨hxz9, h⟩ <;> cases hxz9
    · exact h.elim
    · exact h.elim
    · exact h.elim
    · exact h.elim
set_option maxHeartbeats 4000000 in
set_option maxRecDepth 20000 in
theorem vL_law_761 {X : am_Cx} {G : am_Gx} {d : Nat} (hX : am_ok X rL_law G (d + 1)) (hret : ∀ {pc : Nat} {lv : List (Nat × Value)} {M : am_Hp} {bc bs : Nat}, decode rL_law.2.1 pc = .ok (.ireturn, 1) → am_J X pc lv [.int (1 : Int32)] M bc bs) {bc bs : Nat} (R770 : Nat → Int32 → Int32 → Int32 → Nat → am_Hp → Nat → Nat → Prop) (k770 : ∀ (x1 : Nat) (x3 : Int32) (x4 : Int32) (x6 : Int32) (x8 : Nat) (M : am_Hp) (bc bs : Nat), R770 x1 x3 x4 x6 x8 M bc bs → am_J X 770 [(1, .ref x1), (3, .int x3), (4, .int x4), (6, .int x6), (8, .ref x8)] [] M bc bs) {a1 : Nat} {a3 : Int32} {a4 : Int32} {a6 : Int32} {a8 : Nat} {M : am_Hp} (h : hp_T M (a8) = 7 ∧ (1 ≤ bc ∧ (6 ≤ bs ∧ (am_CT G d rX6_advance [.ref a8, .int (1 : Int32)] M 1 6 (fun oz9 M1 => (∃ v2 : Int32, oz9 = .inl (some (.int v2)) ∧ (((v2 = 0) → (R770 a1 a3 a4 a6 a8 M1 (bc - 1) (bs - 6))) ∧ (¬ (v2 = 0) → (False)))) ∨ ((oz9 = .inr "java/lang/IllegalArgumentException" ∧ False)) ∨ ((oz9 = .inr "java/lang/IllegalStateException" ∧ False)) ∨ ((oz9 = .inr "java/lang/IndexOutOfBoundsException" ∧ False)) ∨ ((oz9 = .inr "java/lang/UnsupportedOperationException" ∧ False))))))) : am_J X 761 [(1, .ref a1), (3, .int a3), (4, .int a4), (6, .int a6), (8, .ref a8)] [] M bc bs := by
  refine j_aload hX eL_law_761 4 rfl ?_
  refine j_iconst (v := (1 : Int32)) hX eL_law_763 (by decide) ?_
  obtain ⟨t3, h⟩ := h
  obtain ⟨b4, b5, h⟩ := h
  refine j_callV (a := a8) (q := (RX6, TX6, 9)) (r' := rX6_advance) (As := [.int (1 : Int32)]) (rest := []) (d1 := d) hX eL_law_764 mm_LiftGroupLaw_63 rfl t3 (by decide) rfl h rfl (Nat.le_refl _) b4 b5 (Nat.le_of_ble_eq_true rfl) (fun vz9 Mz9 qz9 => ?_) (fun Ez9 Mz9 qz9 => ?_)
  · obtain ⟨M1, eMz9⟩ : ∃ M1, M1 = Mz9 := ⟨_, rfl⟩; subst eMz9
    rcases qz9 with ⟨v2, hxz9, h⟩ | ⟨hxz9, h⟩ | ⟨hxz9, h⟩ | ⟨hxz9, h⟩ | ⟨hxz9, h⟩ <;> cases hxz9
    refine j_if_ne hX 818 eL_law_767 (by decide) (fun c6 => ?_) (fun c6 => ?_)
    · replace h := h.2 c6
      refine j_iconst (v := (0 : Int32)) hX eL_law_818 (by decide) ?_
      exact h.elim
    · replace h := h.1 c6
      exact j_sub [0, 1, 2, 3, 4] rfl (k770 _ _ _ _ _ _ _ _ h)
  · obtain ⟨M1, eMz9⟩ : ∃ M1, M1 = Mz9 := ⟨_, rfl⟩; subst eMz9
    rcases qz9 with ⟨v2, hxz9, h⟩ | ⟨hxz9, h⟩ | ⟨hxz9, h⟩ | ⟨hxz9, h⟩ | ⟨hxz9, h⟩ <;> cases hxz9
    · exact h.elim
    · exact h.elim
    · exact h.elim
    · exact h.elim
set_option maxHeartbeats 4000000 in
set_option maxRecDepth 20000 in
theorem vL_law_770 {X : am_Cx} {G : am_Gx} {d : Nat} (hX : am_ok X rL_law G (d + 1)) (hret : ∀ {pc : Nat} {lv : List (Nat × Value)} {M : am_Hp} {bc bs : Nat}, decode rL_law.2.1 pc = .ok (.ireturn, 1) → am_J X pc lv [.int (1 : Int32)] M bc bs) {bc bs : Nat} (R779 : Nat → Int32 → Int32 → Int32 → Nat → am_Hp → Nat → Nat → Prop) (k779 : ∀ (x1 : Nat) (x3 : Int32) (x4 : Int32) (x6 : Int32) (x8 : Nat) (M : am_Hp) (bc bs : Nat), R779 x1 x3 x4 x6 x8 M bc bs → am_J X 779 [(1, .ref x1), (3, .int x3), (4, .int x4), (6, .int x6), (8, .ref x8)] [] M bc bs) {a1 : Nat} {a3 : Int32} {a4 : Int32} {a6 : Int32} {a8 : Nat} {M : am_Hp} (h : hp_T M (a8) = 7 ∧ (1 ≤ bc ∧ (6 ≤ bs ∧ (am_CT G d rX6_doorSteps [.ref a8, .int (0 : Int32)] M 1 6 (fun oz9 M1 => (∃ v2 : Int32, oz9 = .inl (some (.int v2)) ∧ (((v2 = 0) → (R779 a1 a3 a4 a6 a8 M1 (bc - 1) (bs - 6))) ∧ (¬ (v2 = 0) → (False)))) ∨ ((oz9 = .inr "java/lang/IndexOutOfBoundsException" ∧ False))))))) : am_J X 770 [(1, .ref a1), (3, .int a3), (4, .int a4), (6, .int a6), (8, .ref a8)] [] M bc bs := by
  refine j_aload hX eL_law_770 4 rfl ?_
  refine j_iconst (v := (0 : Int32)) hX eL_law_772 (by decide) ?_
  obtain ⟨t3, h⟩ := h
  obtain ⟨b4, b5, h⟩ := h
  refine j_callV (a := a8) (q := (RX6, TX6, 9)) (r' := rX6_doorSteps) (As := [.int (0 : Int32)]) (rest := []) (d1 := d) hX eL_law_773 mm_LiftGroupLaw_85 rfl t3 (by decide) rfl h rfl (Nat.le_refl _) b4 b5 (Nat.le_of_ble_eq_true rfl) (fun vz9 Mz9 qz9 => ?_) (fun Ez9 Mz9 qz9 => ?_)
  · obtain ⟨M1, eMz9⟩ : ∃ M1, M1 = Mz9 := ⟨_, rfl⟩; subst eMz9
    rcases qz9 with ⟨v2, hxz9, h⟩ | ⟨hxz9, h⟩ <;> cases hxz9
    refine j_if_ne hX 818 eL_law_776 (by decide) (fun c6 => ?_) (fun c6 => ?_)
    · replace h := h.2 c6
      refine j_iconst (v := (0 : Int32)) hX eL_law_818 (by decide) ?_
      exact h.elim
    · replace h := h.1 c6
      exact j_sub [0, 1, 2, 3, 4] rfl (k779 _ _ _ _ _ _ _ _ h)
  · obtain ⟨M1, eMz9⟩ : ∃ M1, M1 = Mz9 := ⟨_, rfl⟩; subst eMz9
    rcases qz9 with ⟨v2, hxz9, h⟩ | ⟨hxz9, h⟩ <;> cases hxz9
    exact h.elim
set_option maxHeartbeats 4000000 in
set_option maxRecDepth 20000 in
theorem vL_law_779 {X : am_Cx} {G : am_Gx} {d : Nat} (hX : am_ok X rL_law G (d + 1)) (hret : ∀ {pc : Nat} {lv : List (Nat × Value)} {M : am_Hp} {bc bs : Nat}, decode rL_law.2.1 pc = .ok (.ireturn, 1) → am_J X pc lv [.int (1 : Int32)] M bc bs) {bc bs : Nat} (R789 : Nat → Int32 → Int32 → Int32 → Nat → am_Hp → Nat → Nat → Prop) (k789 : ∀ (x1 : Nat) (x3 : Int32) (x4 : Int32) (x6 : Int32) (x8 : Nat) (M : am_Hp) (bc bs : Nat), R789 x1 x3 x4 x6 x8 M bc bs → am_J X 789 [(1, .ref x1), (3, .int x3), (4, .int x4), (6, .int x6), (8, .ref x8)] [] M bc bs) {a1 : Nat} {a3 : Int32} {a4 : Int32} {a6 : Int32} {a8 : Nat} {M : am_Hp} (h : hp_T M (a8) = 7 ∧ (1 ≤ bc ∧ (6 ≤ bs ∧ (am_CT G d rX6_advance [.ref a8, .int a6] M 1 6 (fun oz9 M1 => (∃ v2 : Int32, oz9 = .inl (some (.int v2)) ∧ (((v2 = 0) → (R789 a1 a3 a4 a6 a8 M1 (bc - 1) (bs - 6))) ∧ (¬ (v2 = 0) → (False)))) ∨ ((oz9 = .inr "java/lang/IllegalArgumentException" ∧ False)) ∨ ((oz9 = .inr "java/lang/IllegalStateException" ∧ False)) ∨ ((oz9 = .inr "java/lang/IndexOutOfBoundsException" ∧ False)) ∨ ((oz9 = .inr "java/lang/UnsupportedOperationException" ∧ False))))))) : am_J X 779 [(1, .ref a1), (3, .int a3), (4, .int a4), (6, .int a6), (8, .ref a8)] [] M bc bs := by
  refine j_aload hX eL_law_779 4 rfl ?_
  refine j_iload hX eL_law_781 3 rfl ?_
  obtain ⟨t3, h⟩ := h
  obtain ⟨b4, b5, h⟩ := h
  refine j_callV (a := a8) (q := (RX6, TX6, 9)) (r' := rX6_advance) (As := [.int a6]) (rest := []) (d1 := d) hX eL_law_783 mm_LiftGroupLaw_63 rfl t3 (by decide) rfl h rfl (Nat.le_refl _) b4 b5 (Nat.le_of_ble_eq_true rfl) (fun vz9 Mz9 qz9 => ?_) (fun Ez9 Mz9 qz9 => ?_)
  · obtain ⟨M1, eMz9⟩ : ∃ M1, M1 = Mz9 := ⟨_, rfl⟩; subst eMz9
    rcases qz9 with ⟨v2, hxz9, h⟩ | ⟨hxz9, h⟩ | ⟨hxz9, h⟩ | ⟨hxz9, h⟩ | ⟨hxz9, h⟩ <;> cases hxz9
    refine j_if_ne hX 818 eL_law_786 (by decide) (fun c6 => ?_) (fun c6 => ?_)
    · replace h := h.2 c6
      refine j_iconst (v := (0 : Int32)) hX eL_law_818 (by decide) ?_
      exact h.elim
    · replace h := h.1 c6
      exact j_sub [0, 1, 2, 3, 4] rfl (k789 _ _ _ _ _ _ _ _ h)
  · obtain ⟨M1, eMz9⟩ : ∃ M1, M1 = Mz9 := ⟨_, rfl⟩; subst eMz9
    rcases qz9 with ⟨v2, hxz9, h⟩ | ⟨hxz9, h⟩ | ⟨hxz9, h⟩ | ⟨hxz9, h⟩ | ⟨hxz9, h⟩ <;> cases hxz9
    · exact h.elim
    · exact h.elim
    · exact h.elim
    · exact h.elim
set_option maxHeartbeats 4000000 in
set_option maxRecDepth 20000 in
theorem vL_law_789 {X : am_Cx} {G : am_Gx} {d : Nat} (hX : am_ok X rL_law G (d + 1)) (hret : ∀ {pc : Nat} {lv : List (Nat × Value)} {M : am_Hp} {bc bs : Nat}, decode rL_law.2.1 pc = .ok (.ireturn, 1) → am_J X pc lv [.int (1 : Int32)] M bc bs) {bc bs : Nat} (R798 : Nat → Int32 → Int32 → Int32 → Nat → am_Hp → Nat → Nat → Prop) (k798 : ∀ (x1 : Nat) (x3 : Int32) (x4 : Int32) (x6 : Int32) (x8 : Nat) (M : am_Hp) (bc bs : Nat), R798 x1 x3 x4 x6 x8 M bc bs → am_J X 798 [(1, .ref x1), (3, .int x3), (4, .int x4), (6, .int x6), (8, .ref x8)] [] M bc bs) {a1 : Nat} {a3 : Int32} {a4 : Int32} {a6 : Int32} {a8 : Nat} {M : am_Hp} (h : hp_T M (a8) = 7 ∧ (1 ≤ bc ∧ (6 ≤ bs ∧ (am_CT G d rX6_floor [.ref a8, .int (0 : Int32)] M 1 6 (fun oz9 M1 => (∃ v2 : Int32, oz9 = .inl (some (.int v2)) ∧ (((v2 = 0) → (R798 a1 a3 a4 a6 a8 M1 (bc - 1) (bs - 6))) ∧ (¬ (v2 = 0) → (False)))) ∨ ((oz9 = .inr "java/lang/IndexOutOfBoundsException" ∧ False))))))) : am_J X 789 [(1, .ref a1), (3, .int a3), (4, .int a4), (6, .int a6), (8, .ref a8)] [] M bc bs := by
  refine j_aload hX eL_law_789 4 rfl ?_
  refine j_iconst (v := (0 : Int32)) hX eL_law_791 (by decide) ?_
  obtain ⟨t3, h⟩ := h
  obtain ⟨b4, b5, h⟩ := h
  refine j_callV (a := a8) (q := (RX6, TX6, 9)) (r' := rX6_floor) (As := [.int (0 : Int32)]) (rest := []) (d1 := d) hX eL_law_792 mm_LiftGroupLaw_76 rfl t3 (by decide) rfl h rfl (Nat.le_refl _) b4 b5 (Nat.le_of_ble_eq_true rfl) (fun vz9 Mz9 qz9 => ?_) (fun Ez9 Mz9 qz9 => ?_)
  · obtain ⟨M1, eMz9⟩ : ∃ M1, M1 = Mz9 := ⟨_, rfl⟩; subst eMz9
    rcases qz9 with ⟨v2, hxz9, h⟩ | ⟨hxz9, h⟩ <;> cases hxz9
    refine j_if_ne hX 818 eL_law_795 (by decide) (fun c6 => ?_) (fun c6 => ?_)
    · replace h := h.2 c6
      refine j_iconst (v := (0 : Int32)) hX eL_law_818 (by decide) ?_
      exact h.elim
    · replace h := h.1 c6
      exact j_sub [0, 1, 2, 3, 4] rfl (k798 _ _ _ _ _ _ _ _ h)
  · obtain ⟨M1, eMz9⟩ : ∃ M1, M1 = Mz9 := ⟨_, rfl⟩; subst eMz9
    rcases qz9 with ⟨v2, hxz9, h⟩ | ⟨hxz9, h⟩ <;> cases hxz9
    exact h.elim
set_option maxHeartbeats 4000000 in
set_option maxRecDepth 20000 in
theorem vL_law_798 {X : am_Cx} {G : am_Gx} {d : Nat} (hX : am_ok X rL_law G (d + 1)) (hret : ∀ {pc : Nat} {lv : List (Nat × Value)} {M : am_Hp} {bc bs : Nat}, decode rL_law.2.1 pc = .ok (.ireturn, 1) → am_J X pc lv [.int (1 : Int32)] M bc bs) {bc bs : Nat} (R808 : Nat → Int32 → Int32 → Int32 → Nat → am_Hp → Nat → Nat → Prop) (k808 : ∀ (x1 : Nat) (x3 : Int32) (x4 : Int32) (x6 : Int32) (x8 : Nat) (M : am_Hp) (bc bs : Nat), R808 x1 x3 x4 x6 x8 M bc bs → am_J X 808 [(1, .ref x1), (3, .int x3), (4, .int x4), (6, .int x6), (8, .ref x8)] [] M bc bs) {a1 : Nat} {a3 : Int32} {a4 : Int32} {a6 : Int32} {a8 : Nat} {M : am_Hp} (h : hp_T M (a8) = 7 ∧ (1 ≤ bc ∧ (6 ≤ bs ∧ (am_CT G d rX6_direction [.ref a8, .int (0 : Int32)] M 1 6 (fun oz9 M1 => (∃ v2 : Int32, oz9 = .inl (some (.int v2)) ∧ (((v2 = (-1 : Int32)) → (R808 a1 a3 a4 a6 a8 M1 (bc - 1) (bs - 6))) ∧ (¬ (v2 = (-1 : Int32)) → (False)))) ∨ ((oz9 = .inr "java/lang/IndexOutOfBoundsException" ∧ False))))))) : am_J X 798 [(1, .ref a1), (3, .int a3), (4, .int a4), (6, .int a6), (8, .ref a8)] [] M bc bs := by
  refine j_aload hX eL_law_798 4 rfl ?_
  refine j_iconst (v := (0 : Int32)) hX eL_law_800 (by decide) ?_
  obtain ⟨t3, h⟩ := h
  obtain ⟨b4, b5, h⟩ := h
  refine j_callV (a := a8) (q := (RX6, TX6, 9)) (r' := rX6_direction) (As := [.int (0 : Int32)]) (rest := []) (d1 := d) hX eL_law_801 mm_LiftGroupLaw_79 rfl t3 (by decide) rfl h rfl (Nat.le_refl _) b4 b5 (Nat.le_of_ble_eq_true rfl) (fun vz9 Mz9 qz9 => ?_) (fun Ez9 Mz9 qz9 => ?_)
  · obtain ⟨M1, eMz9⟩ : ∃ M1, M1 = Mz9 := ⟨_, rfl⟩; subst eMz9
    rcases qz9 with ⟨v2, hxz9, h⟩ | ⟨hxz9, h⟩ <;> cases hxz9
    refine j_iconst (v := (-1 : Int32)) hX eL_law_804 (by decide) ?_
    refine j_icmp_ne hX 818 eL_law_805 (by decide) (fun c6 => ?_) (fun c6 => ?_)
    · replace h := h.2 c6
      refine j_iconst (v := (0 : Int32)) hX eL_law_818 (by decide) ?_
      exact h.elim
    · replace h := h.1 c6
      exact j_sub [0, 1, 2, 3, 4] rfl (k808 _ _ _ _ _ _ _ _ h)
  · obtain ⟨M1, eMz9⟩ : ∃ M1, M1 = Mz9 := ⟨_, rfl⟩; subst eMz9
    rcases qz9 with ⟨v2, hxz9, h⟩ | ⟨hxz9, h⟩ <;> cases hxz9
    exact h.elim
set_option maxHeartbeats 4000000 in
set_option maxRecDepth 20000 in
theorem vL_law_808 {X : am_Cx} {G : am_Gx} {d : Nat} (hX : am_ok X rL_law G (d + 1)) (hret : ∀ {pc : Nat} {lv : List (Nat × Value)} {M : am_Hp} {bc bs : Nat}, decode rL_law.2.1 pc = .ok (.ireturn, 1) → am_J X pc lv [.int (1 : Int32)] M bc bs) {bc bs : Nat} (R820 : Nat → Int32 → Int32 → Int32 → Nat → am_Hp → Nat → Nat → Prop) (k820 : ∀ (x1 : Nat) (x3 : Int32) (x4 : Int32) (x6 : Int32) (x8 : Nat) (M : am_Hp) (bc bs : Nat), R820 x1 x3 x4 x6 x8 M bc bs → am_J X 820 [(1, .ref x1), (3, .int x3), (4, .int x4), (6, .int x6), (8, .ref x8)] [] M bc bs) {a1 : Nat} {a3 : Int32} {a4 : Int32} {a6 : Int32} {a8 : Nat} {M : am_Hp} (h : hp_T M (a8) = 7 ∧ (1 ≤ bc ∧ (6 ≤ bs ∧ (am_CT G d rX6_advance [.ref a8, .int (1 : Int32)] M 1 6 (fun oz9 M1 => (∃ v2 : Int32, oz9 = .inl (some (.int v2)) ∧ (((v2 = (1 : Int32)) → (R820 a1 a3 a4 a6 a8 M1 (bc - 1) (bs - 6))) ∧ (¬ (v2 = (1 : Int32)) → (False)))) ∨ ((oz9 = .inr "java/lang/IllegalArgumentException" ∧ False)) ∨ ((oz9 = .inr "java/lang/IllegalStateException" ∧ False)) ∨ ((oz9 = .inr "java/lang/IndexOutOfBoundsException" ∧ False)) ∨ ((oz9 = .inr "java/lang/UnsupportedOperationException" ∧ False))))))) : am_J X 808 [(1, .ref a1), (3, .int a3), (4, .int a4), (6, .int a6), (8, .ref a8)] [] M bc bs := by
  refine j_aload hX eL_law_808 4 rfl ?_
  refine j_iconst (v := (1 : Int32)) hX eL_law_810 (by decide) ?_
  obtain ⟨t3, h⟩ := h
  obtain ⟨b4, b5, h⟩ := h
  refine j_callV (a := a8) (q := (RX6, TX6, 9)) (r' := rX6_advance) (As := [.int (1 : Int32)]) (rest := []) (d1 := d) hX eL_law_811 mm_LiftGroupLaw_63 rfl t3 (by decide) rfl h rfl (Nat.le_refl _) b4 b5 (Nat.le_of_ble_eq_true rfl) (fun vz9 Mz9 qz9 => ?_) (fun Ez9 Mz9 qz9 => ?_)
  · obtain ⟨M1, eMz9⟩ : ∃ M1, M1 = Mz9 := ⟨_, rfl⟩; subst eMz9
    rcases qz9 with ⟨v2, hxz9, h⟩ | ⟨hxz9, h⟩ | ⟨hxz9, h⟩ | ⟨hxz9, h⟩ | ⟨hxz9, h⟩ <;> cases hxz9
    refine j_iconst (v := (1 : Int32)) hX eL_law_814 (by decide) ?_
    refine j_icmp_eq hX 820 eL_law_815 (by decide) (fun c6 => ?_) (fun c6 => ?_)
    · replace h := h.1 c6
      exact j_sub [0, 1, 2, 3, 4] rfl (k820 _ _ _ _ _ _ _ _ h)
    · replace h := h.2 c6
      refine j_iconst (v := (0 : Int32)) hX eL_law_818 (by decide) ?_
      exact h.elim
  · obtain ⟨M1, eMz9⟩ : ∃ M1, M1 = Mz9 := ⟨_, rfl⟩; subst eMz9
    rcases qz9 with ⟨v2, hxz9, h⟩ | ⟨hxz9, h⟩ | ⟨hxz9, h⟩ | ⟨hxz9, h⟩ | ⟨hxz9, h⟩ <;> cases hxz9
    · exact h.elim
    · exact h.elim
    · exact h.elim
    · exact h.elim
set_option maxHeartbeats 4000000 in
set_option maxRecDepth 20000 in
theorem vL_law_820 {X : am_Cx} {G : am_Gx} {d : Nat} (hX : am_ok X rL_law G (d + 1)) (hret : ∀ {pc : Nat} {lv : List (Nat × Value)} {M : am_Hp} {bc bs : Nat}, decode rL_law.2.1 pc = .ok (.ireturn, 1) → am_J X pc lv [.int (1 : Int32)] M bc bs) {bc bs : Nat} (R828 : Nat → Int32 → Int32 → Int32 → Nat → am_Hp → Nat → Nat → Prop) (k828 : ∀ (x1 : Nat) (x3 : Int32) (x4 : Int32) (x6 : Int32) (x8 : Nat) (M : am_Hp) (bc bs : Nat), R828 x1 x3 x4 x6 x8 M bc bs → am_J X 828 [(1, .ref x1), (3, .int x3), (4, .int x4), (6, .int x6), (8, .ref x8)] [] M bc bs) {a1 : Nat} {a3 : Int32} {a4 : Int32} {a6 : Int32} {a8 : Nat} {M : am_Hp} (h : hp_T M (a8) = 7 ∧ (am_CT G d rX6_passengerCount [.ref a8] M 0 0 (fun oz9 M1 => ∃ v2 : Int32, oz9 = .inl (some (.int v2)) ∧ (((v2 = 0) → (R828 a1 a3 a4 a6 a8 M1 bc bs)) ∧ (¬ (v2 = 0) → (False)))))) : am_J X 820 [(1, .ref a1), (3, .int a3), (4, .int a4), (6, .int a6), (8, .ref a8)] [] M bc bs := by
  refine j_aload hX eL_law_820 4 rfl ?_
  obtain ⟨t3, h⟩ := h
  refine j_callV (a := a8) (q := (RX6, TX6, 9)) (r' := rX6_passengerCount) (As := []) (rest := []) (d1 := d) hX eL_law_822 mm_LiftGroupLaw_34 rfl t3 (by decide) rfl h rfl (Nat.le_refl _) (Nat.zero_le _) (Nat.zero_le _) (Nat.le_of_ble_eq_true rfl) (fun vz9 Mz9 qz9 => ?_) (fun Ez9 Mz9 qz9 => ?_)
  · obtain ⟨M1, eMz9⟩ : ∃ M1, M1 = Mz9 := ⟨_, rfl⟩; subst eMz9
    obtain ⟨v2, hxz9, h⟩ := qz9
    cases hxz9
    refine j_if_ne hX 952 eL_law_825 (by decide) (fun c4 => ?_) (fun c4 => ?_)
    · replace h := h.2 c4
      refine j_iconst (v := (0 : Int32)) hX eL_law_952 (by decide) ?_
      exact h.elim
    · replace h := h.1 c4
      exact j_sub [0, 1, 2, 3, 4] rfl (k828 _ _ _ _ _ _ _ _ h)
  · obtain ⟨v2, hxz9, h⟩ := qz9
    cases hxz9
set_option maxHeartbeats 4000000 in
set_option maxRecDepth 20000 in
theorem vL_law_828 {X : am_Cx} {G : am_Gx} {d : Nat} (hX : am_ok X rL_law G (d + 1)) (hret : ∀ {pc : Nat} {lv : List (Nat × Value)} {M : am_Hp} {bc bs : Nat}, decode rL_law.2.1 pc = .ok (.ireturn, 1) → am_J X pc lv [.int (1 : Int32)] M bc bs) {bc bs : Nat} (R838 : Nat → Int32 → Int32 → Int32 → Nat → am_Hp → Nat → Nat → Prop) (k838 : ∀ (x1 : Nat) (x3 : Int32) (x4 : Int32) (x6 : Int32) (x8 : Nat) (M : am_Hp) (bc bs : Nat), R838 x1 x3 x4 x6 x8 M bc bs → am_J X 838 [(1, .ref x1), (3, .int x3), (4, .int x4), (6, .int x6), (8, .ref x8)] [] M bc bs) {a1 : Nat} {a3 : Int32} {a4 : Int32} {a6 : Int32} {a8 : Nat} {M : am_Hp} (h : hp_T M (a8) = 7 ∧ (1 ≤ bc ∧ (6 ≤ bs ∧ (am_CT G d rX6_tripNumber [.ref a8, .int (0 : Int32)] M 1 6 (fun oz9 M1 => (∃ v2 : Int32, oz9 = .inl (some (.int v2)) ∧ (((v2 = (1 : Int32)) → (R838 a1 a3 a4 a6 a8 M1 (bc - 1) (bs - 6))) ∧ (¬ (v2 = (1 : Int32)) → (False)))) ∨ ((oz9 = .inr "java/util/NoSuchElementException" ∧ False))))))) : am_J X 828 [(1, .ref a1), (3, .int a3), (4, .int a4), (6, .int a6), (8, .ref a8)] [] M bc bs := by
  refine j_aload hX eL_law_828 4 rfl ?_
  refine j_iconst (v := (0 : Int32)) hX eL_law_830 (by decide) ?_
  obtain ⟨t3, h⟩ := h
  obtain ⟨b4, b5, h⟩ := h
  refine j_callV (a := a8) (q := (RX6, TX6, 9)) (r' := rX6_tripNumber) (As := [.int (0 : Int32)]) (rest := []) (d1 := d) hX eL_law_831 mm_LiftGroupLaw_262 rfl t3 (by decide) rfl h rfl (Nat.le_refl _) b4 b5 (Nat.le_of_ble_eq_true rfl) (fun vz9 Mz9 qz9 => ?_) (fun Ez9 Mz9 qz9 => ?_)
  · obtain ⟨M1, eMz9⟩ : ∃ M1, M1 = Mz9 := ⟨_, rfl⟩; subst eMz9
    rcases qz9 with ⟨v2, hxz9, h⟩ | ⟨hxz9, h⟩ <;> cases hxz9
    refine j_iconst (v := (1 : Int32)) hX eL_law_834 (by decide) ?_
    refine j_icmp_ne hX 952 eL_law_835 (by decide) (fun c6 => ?_) (fun c6 => ?_)
    · replace h := h.2 c6
      refine j_iconst (v := (0 : Int32)) hX eL_law_952 (by decide) ?_
      exact h.elim
    · replace h := h.1 c6
      exact j_sub [0, 1, 2, 3, 4] rfl (k838 _ _ _ _ _ _ _ _ h)
  · obtain ⟨M1, eMz9⟩ : ∃ M1, M1 = Mz9 := ⟨_, rfl⟩; subst eMz9
    rcases qz9 with ⟨v2, hxz9, h⟩ | ⟨hxz9, h⟩ <;> cases hxz9
    exact h.elim
set_option maxHeartbeats 4000000 in
set_option maxRecDepth 20000 in
theorem vL_law_838 {X : am_Cx} {G : am_Gx} {d : Nat} (hX : am_ok X rL_law G (d + 1)) (hret : ∀ {pc : Nat} {lv : List (Nat × Value)} {M : am_Hp} {bc bs : Nat}, decode rL_law.2.1 pc = .ok (.ireturn, 1) → am_J X pc lv [.int (1 : Int32)] M bc bs) {bc bs : Nat} (R847 : Nat → Int32 → Int32 → Int32 → Nat → am_Hp → Nat → Nat → Prop) (k847 : ∀ (x1 : Nat) (x3 : Int32) (x4 : Int32) (x6 : Int32) (x8 : Nat) (M : am_Hp) (bc bs : Nat), R847 x1 x3 x4 x6 x8 M bc bs → am_J X 847 [(1, .ref x1), (3, .int x3), (4, .int x4), (6, .int x6), (8, .ref x8)] [] M bc bs) {a1 : Nat} {a3 : Int32} {a4 : Int32} {a6 : Int32} {a8 : Nat} {M : am_Hp} (h : hp_T M (a8) = 7 ∧ (1 ≤ bc ∧ (6 ≤ bs ∧ (am_CT G d rX6_tripCar [.ref a8, .int (0 : Int32)] M 1 6 (fun oz9 M1 => (∃ v2 : Int32, oz9 = .inl (some (.int v2)) ∧ (((v2 = 0) → (R847 a1 a3 a4 a6 a8 M1 (bc - 1) (bs - 6))) ∧ (¬ (v2 = 0) → (False)))) ∨ ((oz9 = .inr "java/util/NoSuchElementException" ∧ False))))))) : am_J X 838 [(1, .ref a1), (3, .int a3), (4, .int a4), (6, .int a6), (8, .ref a8)] [] M bc bs := by
  refine j_aload hX eL_law_838 4 rfl ?_
  refine j_iconst (v := (0 : Int32)) hX eL_law_840 (by decide) ?_
  obtain ⟨t3, h⟩ := h
  obtain ⟨b4, b5, h⟩ := h
  refine j_callV (a := a8) (q := (RX6, TX6, 9)) (r' := rX6_tripCar) (As := [.int (0 : Int32)]) (rest := []) (d1 := d) hX eL_law_841 mm_LiftGroupLaw_265 rfl t3 (by decide) rfl h rfl (Nat.le_refl _) b4 b5 (Nat.le_of_ble_eq_true rfl) (fun vz9 Mz9 qz9 => ?_) (fun Ez9 Mz9 qz9 => ?_)
  · obtain ⟨M1, eMz9⟩ : ∃ M1, M1 = Mz9 := ⟨_, rfl⟩; subst eMz9
    rcases qz9 with ⟨v2, hxz9, h⟩ | ⟨hxz9, h⟩ <;> cases hxz9
    refine j_if_ne hX 952 eL_law_844 (by decide) (fun c6 => ?_) (fun c6 => ?_)
    · replace h := h.2 c6
      refine j_iconst (v := (0 : Int32)) hX eL_law_952 (by decide) ?_
      exact h.elim
    · replace h := h.1 c6
      exact j_sub [0, 1, 2, 3, 4] rfl (k847 _ _ _ _ _ _ _ _ h)
  · obtain ⟨M1, eMz9⟩ : ∃ M1, M1 = Mz9 := ⟨_, rfl⟩; subst eMz9
    rcases qz9 with ⟨v2, hxz9, h⟩ | ⟨hxz9, h⟩ <;> cases hxz9
    exact h.elim
set_option maxHeartbeats 4000000 in
set_option maxRecDepth 20000 in
theorem vL_law_847 {X : am_Cx} {G : am_Gx} {d : Nat} (hX : am_ok X rL_law G (d + 1)) (hret : ∀ {pc : Nat} {lv : List (Nat × Value)} {M : am_Hp} {bc bs : Nat}, decode rL_law.2.1 pc = .ok (.ireturn, 1) → am_J X pc lv [.int (1 : Int32)] M bc bs) {bc bs : Nat} (R860 : Nat → Int32 → Int32 → Int32 → Nat → am_Hp → Nat → Nat → Prop) (k860 : ∀ (x1 : Nat) (x3 : Int32) (x4 : Int32) (x6 : Int32) (x8 : Nat) (M : am_Hp) (bc bs : Nat), R860 x1 x3 x4 x6 x8 M bc bs → am_J X 860 [(1, .ref x1), (3, .int x3), (4, .int x4), (6, .int x6), (8, .ref x8)] [] M bc bs) {a1 : Nat} {a3 : Int32} {a4 : Int32} {a6 : Int32} {a8 : Nat} {M : am_Hp} (h : hp_T M (a8) = 7 ∧ (1 ≤ bc ∧ (6 ≤ bs ∧ (am_CT G d rX6_tripWaiting [.ref a8, .int (0 : Int32)] M 1 6 (fun oz9 M1 => (∃ v2 : Int32, oz9 = .inl (some (.int v2)) ∧ (((v2 = (a6 + (1 : Int32))) → (R860 a1 a3 a4 a6 a8 M1 (bc - 1) (bs - 6))) ∧ (¬ (v2 = (a6 + (1 : Int32))) → (False)))) ∨ ((oz9 = .inr "java/util/NoSuchElementException" ∧ False))))))) : am_J X 847 [(1, .ref a1), (3, .int a3), (4, .int a4), (6, .int a6), (8, .ref a8)] [] M bc bs := by
  refine j_aload hX eL_law_847 4 rfl ?_
  refine j_iconst (v := (0 : Int32)) hX eL_law_849 (by decide) ?_
  obtain ⟨t3, h⟩ := h
  obtain ⟨b4, b5, h⟩ := h
  refine j_callV (a := a8) (q := (RX6, TX6, 9)) (r' := rX6_tripWaiting) (As := [.int (0 : Int32)]) (rest := []) (d1 := d) hX eL_law_850 mm_LiftGroupLaw_268 rfl t3 (by decide) rfl h rfl (Nat.le_refl _) b4 b5 (Nat.le_of_ble_eq_true rfl) (fun vz9 Mz9 qz9 => ?_) (fun Ez9 Mz9 qz9 => ?_)
  · obtain ⟨M1, eMz9⟩ : ∃ M1, M1 = Mz9 := ⟨_, rfl⟩; subst eMz9
    rcases qz9 with ⟨v2, hxz9, h⟩ | ⟨hxz9, h⟩ <;> cases hxz9
    refine j_iload hX eL_law_853 3 rfl ?_
    refine j_iconst (v := (1 : Int32)) hX eL_law_855 (by decide) ?_
    refine j_iadd hX eL_law_856 ?_
    refine j_icmp_ne hX 952 eL_law_857 (by decide) (fun c6 => ?_) (fun c6 => ?_)
    · replace h := h.2 c6
      refine j_iconst (v := (0 : Int32)) hX eL_law_952 (by decide) ?_
      exact h.elim
    · replace h := h.1 c6
      exact j_sub [0, 1, 2, 3, 4] rfl (k860 _ _ _ _ _ _ _ _ h)
  · obtain ⟨M1, eMz9⟩ : ∃ M1, M1 = Mz9 := ⟨_, rfl⟩; subst eMz9
    rcases qz9 with ⟨v2, hxz9, h⟩ | ⟨hxz9, h⟩ <;> cases hxz9
    exact h.elim
set_option maxHeartbeats 4000000 in
set_option maxRecDepth 20000 in
theorem vL_law_860 {X : am_Cx} {G : am_Gx} {d : Nat} (hX : am_ok X rL_law G (d + 1)) (hret : ∀ {pc : Nat} {lv : List (Nat × Value)} {M : am_Hp} {bc bs : Nat}, decode rL_law.2.1 pc = .ok (.ireturn, 1) → am_J X pc lv [.int (1 : Int32)] M bc bs) {bc bs : Nat} (R870 : Nat → Int32 → Int32 → Int32 → Nat → am_Hp → Nat → Nat → Prop) (k870 : ∀ (x1 : Nat) (x3 : Int32) (x4 : Int32) (x6 : Int32) (x8 : Nat) (M : am_Hp) (bc bs : Nat), R870 x1 x3 x4 x6 x8 M bc bs → am_J X 870 [(1, .ref x1), (3, .int x3), (4, .int x4), (6, .int x6), (8, .ref x8)] [] M bc bs) {a1 : Nat} {a3 : Int32} {a4 : Int32} {a6 : Int32} {a8 : Nat} {M : am_Hp} (h : hp_T M (a8) = 7 ∧ (am_CT G d rX6_floorsUp [.ref a8] M 0 0 (fun oz9 M1 => ∃ v2 : Int32, oz9 = .inl (some (.int v2)) ∧ (((v2 = a6) → (R870 a1 a3 a4 a6 a8 M1 bc bs)) ∧ (¬ (v2 = a6) → (False)))))) : am_J X 860 [(1, .ref a1), (3, .int a3), (4, .int a4), (6, .int a6), (8, .ref a8)] [] M bc bs := by
  refine j_aload hX eL_law_860 4 rfl ?_
  obtain ⟨t3, h⟩ := h
  refine j_callV (a := a8) (q := (RX6, TX6, 9)) (r' := rX6_floorsUp) (As := []) (rest := []) (d1 := d) hX eL_law_862 mm_LiftGroupLaw_271 rfl t3 (by decide) rfl h rfl (Nat.le_refl _) (Nat.zero_le _) (Nat.zero_le _) (Nat.le_of_ble_eq_true rfl) (fun vz9 Mz9 qz9 => ?_) (fun Ez9 Mz9 qz9 => ?_)
  · obtain ⟨M1, eMz9⟩ : ∃ M1, M1 = Mz9 := ⟨_, rfl⟩; subst eMz9
    obtain ⟨v2, hxz9, h⟩ := qz9
    cases hxz9
    refine j_iload hX eL_law_865 3 rfl ?_
    refine j_icmp_ne hX 952 eL_law_867 (by decide) (fun c4 => ?_) (fun c4 => ?_)
    · replace h := h.2 c4
      refine j_iconst (v := (0 : Int32)) hX eL_law_952 (by decide) ?_
      exact h.elim
    · replace h := h.1 c4
      exact j_sub [0, 1, 2, 3, 4] rfl (k870 _ _ _ _ _ _ _ _ h)
  · obtain ⟨v2, hxz9, h⟩ := qz9
    cases hxz9
set_option maxHeartbeats 4000000 in
set_option maxRecDepth 20000 in
theorem vL_law_870 {X : am_Cx} {G : am_Gx} {d : Nat} (hX : am_ok X rL_law G (d + 1)) (hret : ∀ {pc : Nat} {lv : List (Nat × Value)} {M : am_Hp} {bc bs : Nat}, decode rL_law.2.1 pc = .ok (.ireturn, 1) → am_J X pc lv [.int (1 : Int32)] M bc bs) {bc bs : Nat} (R880 : Nat → Int32 → Int32 → Int32 → Nat → am_Hp → Nat → Nat → Prop) (k880 : ∀ (x1 : Nat) (x3 : Int32) (x4 : Int32) (x6 : Int32) (x8 : Nat) (M : am_Hp) (bc bs : Nat), R880 x1 x3 x4 x6 x8 M bc bs → am_J X 880 [(1, .ref x1), (3, .int x3), (4, .int x4), (6, .int x6), (8, .ref x8)] [] M bc bs) {a1 : Nat} {a3 : Int32} {a4 : Int32} {a6 : Int32} {a8 : Nat} {M : am_Hp} (h : hp_T M (a8) = 7 ∧ (am_CT G d rX6_floorsDown [.ref a8] M 0 0 (fun oz9 M1 => ∃ v2 : Int32, oz9 = .inl (some (.int v2)) ∧ (((v2 = a6) → (R880 a1 a3 a4 a6 a8 M1 bc bs)) ∧ (¬ (v2 = a6) → (False)))))) : am_J X 870 [(1, .ref a1), (3, .int a3), (4, .int a4), (6, .int a6), (8, .ref a8)] [] M bc bs := by
  refine j_aload hX eL_law_870 4 rfl ?_
  obtain ⟨t3, h⟩ := h
  refine j_callV (a := a8) (q := (RX6, TX6, 9)) (r' := rX6_floorsDown) (As := []) (rest := []) (d1 := d) hX eL_law_872 mm_LiftGroupLaw_274 rfl t3 (by decide) rfl h rfl (Nat.le_refl _) (Nat.zero_le _) (Nat.zero_le _) (Nat.le_of_ble_eq_true rfl) (fun vz9 Mz9 qz9 => ?_) (fun Ez9 Mz9 qz9 => ?_)
  · obtain ⟨M1, eMz9⟩ : ∃ M1, M1 = Mz9 := ⟨_, rfl⟩; subst eMz9
    obtain ⟨v2, hxz9, h⟩ := qz9
    cases hxz9
    refine j_iload hX eL_law_875 3 rfl ?_
    refine j_icmp_ne hX 952 eL_law_877 (by decide) (fun c4 => ?_) (fun c4 => ?_)
    · replace h := h.2 c4
      refine j_iconst (v := (0 : Int32)) hX eL_law_952 (by decide) ?_
      exact h.elim
    · replace h := h.1 c4
      exact j_sub [0, 1, 2, 3, 4] rfl (k880 _ _ _ _ _ _ _ _ h)
  · obtain ⟨v2, hxz9, h⟩ := qz9
    cases hxz9
set_option maxHeartbeats 4000000 in
set_option maxRecDepth 20000 in
theorem vL_law_880 {X : am_Cx} {G : am_Gx} {d : Nat} (hX : am_ok X rL_law G (d + 1)) (hret : ∀ {pc : Nat} {lv : List (Nat × Value)} {M : am_Hp} {bc bs : Nat}, decode rL_law.2.1 pc = .ok (.ireturn, 1) → am_J X pc lv [.int (1 : Int32)] M bc bs) {bc bs : Nat} (R889 : Nat → Int32 → Int32 → Int32 → Nat → am_Hp → Nat → Nat → Prop) (k889 : ∀ (x1 : Nat) (x3 : Int32) (x4 : Int32) (x6 : Int32) (x8 : Nat) (M : am_Hp) (bc bs : Nat), R889 x1 x3 x4 x6 x8 M bc bs → am_J X 889 [(1, .ref x1), (3, .int x3), (4, .int x4), (6, .int x6), (8, .ref x8)] [] M bc bs) {a1 : Nat} {a3 : Int32} {a4 : Int32} {a6 : Int32} {a8 : Nat} {M : am_Hp} (h : hp_T M (a8) = 7 ∧ (am_CT G d rX6_doorOpenings [.ref a8] M 0 0 (fun oz9 M1 => ∃ v2 : Int32, oz9 = .inl (some (.int v2)) ∧ (((v2 = (2 : Int32)) → (R889 a1 a3 a4 a6 a8 M1 bc bs)) ∧ (¬ (v2 = (2 : Int32)) → (False)))))) : am_J X 880 [(1, .ref a1), (3, .int a3), (4, .int a4), (6, .int a6), (8, .ref a8)] [] M bc bs := by
  refine j_aload hX eL_law_880 4 rfl ?_
  obtain ⟨t3, h⟩ := h
  refine j_callV (a := a8) (q := (RX6, TX6, 9)) (r' := rX6_doorOpenings) (As := []) (rest := []) (d1 := d) hX eL_law_882 mm_LiftGroupLaw_277 rfl t3 (by decide) rfl h rfl (Nat.le_refl _) (Nat.zero_le _) (Nat.zero_le _) (Nat.le_of_ble_eq_true rfl) (fun vz9 Mz9 qz9 => ?_) (fun Ez9 Mz9 qz9 => ?_)
  · obtain ⟨M1, eMz9⟩ : ∃ M1, M1 = Mz9 := ⟨_, rfl⟩; subst eMz9
    obtain ⟨v2, hxz9, h⟩ := qz9
    cases hxz9
    refine j_iconst (v := (2 : Int32)) hX eL_law_885 (by decide) ?_
    refine j_icmp_ne hX 952 eL_law_886 (by decide) (fun c4 => ?_) (fun c4 => ?_)
    · replace h := h.2 c4
      refine j_iconst (v := (0 : Int32)) hX eL_law_952 (by decide) ?_
      exact h.elim
    · replace h := h.1 c4
      exact j_sub [0, 1, 2, 3, 4] rfl (k889 _ _ _ _ _ _ _ _ h)
  · obtain ⟨v2, hxz9, h⟩ := qz9
    cases hxz9
set_option maxHeartbeats 4000000 in
set_option maxRecDepth 20000 in
theorem vL_law_889 {X : am_Cx} {G : am_Gx} {d : Nat} (hX : am_ok X rL_law G (d + 1)) (hret : ∀ {pc : Nat} {lv : List (Nat × Value)} {M : am_Hp} {bc bs : Nat}, decode rL_law.2.1 pc = .ok (.ireturn, 1) → am_J X pc lv [.int (1 : Int32)] M bc bs) {bc bs : Nat} (R909 : Nat → Int32 → Int32 → Int32 → Nat → am_Hp → Nat → Nat → Prop) (k909 : ∀ (x1 : Nat) (x3 : Int32) (x4 : Int32) (x6 : Int32) (x8 : Nat) (M : am_Hp) (bc bs : Nat), R909 x1 x3 x4 x6 x8 M bc bs → am_J X 909 [(1, .ref x1), (3, .int x3), (4, .int x4), (6, .int x6), (8, .ref x8)] [] M bc bs) {a1 : Nat} {a3 : Int32} {a4 : Int32} {a6 : Int32} {a8 : Nat} {M : am_Hp} (h : hp_T M (a8) = 7 ∧ (am_CT G d rX6_totalEnergy [.ref a8] M 0 0 (fun oz9 M1 => ∃ l2 : Int64, oz9 = .inl (some (.long l2)) ∧ ((((lg_cmp l2 (((3 : Int64) * ((a6).toInt64)) + (2 : Int64))) = 0) → (R909 a1 a3 a4 a6 a8 M1 bc bs)) ∧ (¬ ((lg_cmp l2 (((3 : Int64) * ((a6).toInt64)) + (2 : Int64))) = 0) → (False)))))) : am_J X 889 [(1, .ref a1), (3, .int a3), (4, .int a4), (6, .int a6), (8, .ref a8)] [] M bc bs := by
  refine j_aload hX eL_law_889 4 rfl ?_
  obtain ⟨t3, h⟩ := h
  refine j_callV (a := a8) (q := (RX6, TX6, 9)) (r' := rX6_totalEnergy) (As := []) (rest := []) (d1 := d) hX eL_law_891 mm_LiftGroupLaw_134 rfl t3 (by decide) rfl h rfl (Nat.le_refl _) (Nat.zero_le _) (Nat.zero_le _) (Nat.le_of_ble_eq_true rfl) (fun vz9 Mz9 qz9 => ?_) (fun Ez9 Mz9 qz9 => ?_)
  · obtain ⟨M1, eMz9⟩ : ∃ M1, M1 = Mz9 := ⟨_, rfl⟩; subst eMz9
    obtain ⟨l2, hxz9, h⟩ := qz9
    cases hxz9
    refine j_ldcL hX eL_law_894 tw_1497 ?_
    refine j_iload hX eL_law_897 3 rfl ?_
    refine j_i2l hX eL_law_899 ?_
    refine j_lmul hX eL_law_900 ?_
    refine j_ldcL hX eL_law_901 tw_1498 ?_
    refine j_ladd hX eL_law_904 ?_
    refine j_lcmp hX eL_law_905 ?_
    refine j_if_ne hX 952 eL_law_906 (by decide) (fun c4 => ?_) (fun c4 => ?_)
    · replace h := h.2 c4
      refine j_iconst (v := (0 : Int32)) hX eL_law_952 (by decide) ?_
      exact h.elim
    · replace h := h.1 c4
      exact j_sub [0, 1, 2, 3, 4] rfl (k909 _ _ _ _ _ _ _ _ h)
  · obtain ⟨l2, hxz9, h⟩ := qz9
    cases hxz9
set_option maxHeartbeats 4000000 in
set_option maxRecDepth 20000 in
theorem vL_law_909 {X : am_Cx} {G : am_Gx} {d : Nat} (hX : am_ok X rL_law G (d + 1)) (hret : ∀ {pc : Nat} {lv : List (Nat × Value)} {M : am_Hp} {bc bs : Nat}, decode rL_law.2.1 pc = .ok (.ireturn, 1) → am_J X pc lv [.int (1 : Int32)] M bc bs) {bc bs : Nat} (R929 : Nat → Int32 → Int32 → Int32 → Nat → am_Hp → Nat → Nat → Prop) (k929 : ∀ (x1 : Nat) (x3 : Int32) (x4 : Int32) (x6 : Int32) (x8 : Nat) (M : am_Hp) (bc bs : Nat), R929 x1 x3 x4 x6 x8 M bc bs → am_J X 929 [(1, .ref x1), (3, .int x3), (4, .int x4), (6, .int x6), (8, .ref x8)] [] M bc bs) {a1 : Nat} {a3 : Int32} {a4 : Int32} {a6 : Int32} {a8 : Nat} {M : am_Hp} (h : hp_T M (a8) = 7 ∧ (am_CT G d rX6_totalEnergyByMoves [.ref a8] M 0 0 (fun oz9 M1 => ∃ l2 : Int64, oz9 = .inl (some (.long l2)) ∧ ((((lg_cmp l2 (((3 : Int64) * ((a6).toInt64)) + (2 : Int64))) = 0) → (R929 a1 a3 a4 a6 a8 M1 bc bs)) ∧ (¬ ((lg_cmp l2 (((3 : Int64) * ((a6).toInt64)) + (2 : Int64))) = 0) → (False)))))) : am_J X 909 [(1, .ref a1), (3, .int a3), (4, .int a4), (6, .int a6), (8, .ref a8)] [] M bc bs := by
  refine j_aload hX eL_law_909 4 rfl ?_
  obtain ⟨t3, h⟩ := h
  refine j_callV (a := a8) (q := (RX6, TX6, 9)) (r' := rX6_totalEnergyByMoves) (As := []) (rest := []) (d1 := d) hX eL_law_911 mm_LiftGroupLaw_284 rfl t3 (by decide) rfl h rfl (Nat.le_refl _) (Nat.zero_le _) (Nat.zero_le _) (Nat.le_of_ble_eq_true rfl) (fun vz9 Mz9 qz9 => ?_) (fun Ez9 Mz9 qz9 => ?_)
  · obtain ⟨M1, eMz9⟩ : ∃ M1, M1 = Mz9 := ⟨_, rfl⟩; subst eMz9
    obtain ⟨l2, hxz9, h⟩ := qz9
    cases hxz9
    refine j_ldcL hX eL_law_914 tw_1497 ?_
    refine j_iload hX eL_law_917 3 rfl ?_
    refine j_i2l hX eL_law_919 ?_
    refine j_lmul hX eL_law_920 ?_
    refine j_ldcL hX eL_law_921 tw_1498 ?_
    refine j_ladd hX eL_law_924 ?_
    refine j_lcmp hX eL_law_925 ?_
    refine j_if_ne hX 952 eL_law_926 (by decide) (fun c4 => ?_) (fun c4 => ?_)
    · replace h := h.2 c4
      refine j_iconst (v := (0 : Int32)) hX eL_law_952 (by decide) ?_
      exact h.elim
    · replace h := h.1 c4
      exact j_sub [0, 1, 2, 3, 4] rfl (k929 _ _ _ _ _ _ _ _ h)
  · obtain ⟨l2, hxz9, h⟩ := qz9
    cases hxz9
set_option maxHeartbeats 4000000 in
set_option maxRecDepth 20000 in
theorem vL_law_929 {X : am_Cx} {G : am_Gx} {d : Nat} (hX : am_ok X rL_law G (d + 1)) (hret : ∀ {pc : Nat} {lv : List (Nat × Value)} {M : am_Hp} {bc bs : Nat}, decode rL_law.2.1 pc = .ok (.ireturn, 1) → am_J X pc lv [.int (1 : Int32)] M bc bs) {bc bs : Nat} (R943 : Nat → Int32 → Int32 → Nat → am_Hp → Nat → Nat → Prop) (k943 : ∀ (x1 : Nat) (x3 : Int32) (x4 : Int32) (x8 : Nat) (M : am_Hp) (bc bs : Nat), R943 x1 x3 x4 x8 M bc bs → am_J X 943 [(1, .ref x1), (3, .int x3), (4, .int x4), (8, .ref x8)] [] M bc bs) {a1 : Nat} {a3 : Int32} {a4 : Int32} {a6 : Int32} {a8 : Nat} {M : am_Hp} (h : hp_T M (a8) = 7 ∧ (1 ≤ bc ∧ (6 ≤ bs ∧ (am_CT G d rX6_meanWaiting [.ref a8] M 1 6 (fun oz9 M1 => (∃ d2 : UInt64, oz9 = .inl (some (.double d2)) ∧ ((((Op.cmpValue (FP.dcmp d2 ((FP.i2d (a6 + (1 : Int32))))) CmpOp.l) = 0) → (R943 a1 a3 a4 a8 M1 (bc - 1) (bs - 6))) ∧ (¬ ((Op.cmpValue (FP.dcmp d2 ((FP.i2d (a6 + (1 : Int32))))) CmpOp.l) = 0) → (False)))) ∨ ((oz9 = .inr "java/lang/ArithmeticException" ∧ False))))))) : am_J X 929 [(1, .ref a1), (3, .int a3), (4, .int a4), (6, .int a6), (8, .ref a8)] [] M bc bs := by
  refine j_aload hX eL_law_929 4 rfl ?_
  obtain ⟨t3, h⟩ := h
  obtain ⟨b4, b5, h⟩ := h
  refine j_callV (a := a8) (q := (RX6, TX6, 9)) (r' := rX6_meanWaiting) (As := []) (rest := []) (d1 := d) hX eL_law_931 mm_LiftGroupLaw_287 rfl t3 (by decide) rfl h rfl (Nat.le_refl _) b4 b5 (Nat.le_of_ble_eq_true rfl) (fun vz9 Mz9 qz9 => ?_) (fun Ez9 Mz9 qz9 => ?_)
  · obtain ⟨M1, eMz9⟩ : ∃ M1, M1 = Mz9 := ⟨_, rfl⟩; subst eMz9
    rcases qz9 with ⟨d2, hxz9, h⟩ | ⟨hxz9, h⟩ <;> cases hxz9
    refine j_iload hX eL_law_934 3 rfl ?_
    refine j_iconst (v := (1 : Int32)) hX eL_law_936 (by decide) ?_
    refine j_iadd hX eL_law_937 ?_
    refine j_i2d hX eL_law_938 ?_
    refine j_dcmp hX eL_law_939 ?_
    refine j_if_ne hX 952 eL_law_940 (by decide) (fun c6 => ?_) (fun c6 => ?_)
    · replace h := h.2 c6
      refine j_iconst (v := (0 : Int32)) hX eL_law_952 (by decide) ?_
      exact h.elim
    · replace h := h.1 c6
      exact j_sub [0, 1, 2, 4] rfl (k943 _ _ _ _ _ _ _ h)
  · obtain ⟨M1, eMz9⟩ : ∃ M1, M1 = Mz9 := ⟨_, rfl⟩; subst eMz9
    rcases qz9 with ⟨d2, hxz9, h⟩ | ⟨hxz9, h⟩ <;> cases hxz9
    exact h.elim
set_option maxHeartbeats 4000000 in
set_option maxRecDepth 20000 in
theorem vL_law_943 {X : am_Cx} {G : am_Gx} {d : Nat} (hX : am_ok X rL_law G (d + 1)) (hret : ∀ {pc : Nat} {lv : List (Nat × Value)} {M : am_Hp} {bc bs : Nat}, decode rL_law.2.1 pc = .ok (.ireturn, 1) → am_J X pc lv [.int (1 : Int32)] M bc bs) {bc bs : Nat} (R954 : Nat → Int32 → Int32 → Nat → am_Hp → Nat → Nat → Prop) (k954 : ∀ (x1 : Nat) (x3 : Int32) (x4 : Int32) (x8 : Nat) (M : am_Hp) (bc bs : Nat), R954 x1 x3 x4 x8 M bc bs → am_J X 954 [(1, .ref x1), (3, .int x3), (4, .int x4), (8, .ref x8)] [] M bc bs) {a1 : Nat} {a3 : Int32} {a4 : Int32} {a8 : Nat} {M : am_Hp} (h : hp_T M (a8) = 7 ∧ (1 ≤ bc ∧ (6 ≤ bs ∧ (am_CT G d rX6_carByEnergy [.ref a8, .int (0 : Int32)] M 1 6 (fun oz9 M1 => (∃ v2 : Int32, oz9 = .inl (some (.int v2)) ∧ (((v2 = 0) → (R954 a1 a3 a4 a8 M1 (bc - 1) (bs - 6))) ∧ (¬ (v2 = 0) → (False)))) ∨ ((oz9 = .inr "java/util/NoSuchElementException" ∧ False))))))) : am_J X 943 [(1, .ref a1), (3, .int a3), (4, .int a4), (8, .ref a8)] [] M bc bs := by
  refine j_aload hX eL_law_943 3 rfl ?_
  refine j_iconst (v := (0 : Int32)) hX eL_law_945 (by decide) ?_
  obtain ⟨t3, h⟩ := h
  obtain ⟨b4, b5, h⟩ := h
  refine j_callV (a := a8) (q := (RX6, TX6, 9)) (r' := rX6_carByEnergy) (As := [.int (0 : Int32)]) (rest := []) (d1 := d) hX eL_law_946 mm_LiftGroupLaw_243 rfl t3 (by decide) rfl h rfl (Nat.le_refl _) b4 b5 (Nat.le_of_ble_eq_true rfl) (fun vz9 Mz9 qz9 => ?_) (fun Ez9 Mz9 qz9 => ?_)
  · obtain ⟨M1, eMz9⟩ : ∃ M1, M1 = Mz9 := ⟨_, rfl⟩; subst eMz9
    rcases qz9 with ⟨v2, hxz9, h⟩ | ⟨hxz9, h⟩ <;> cases hxz9
    refine j_if_eq hX 954 eL_law_949 (by decide) (fun c6 => ?_) (fun c6 => ?_)
    · replace h := h.1 c6
      exact j_sub [0, 1, 2, 3] rfl (k954 _ _ _ _ _ _ _ h)
    · replace h := h.2 c6
      refine j_iconst (v := (0 : Int32)) hX eL_law_952 (by decide) ?_
      exact h.elim
  · obtain ⟨M1, eMz9⟩ : ∃ M1, M1 = Mz9 := ⟨_, rfl⟩; subst eMz9
    rcases qz9 with ⟨v2, hxz9, h⟩ | ⟨hxz9, h⟩ <;> cases hxz9
    exact h.elim
set_option maxHeartbeats 4000000 in
set_option maxRecDepth 20000 in
theorem vL_law_954 {X : am_Cx} {G : am_Gx} {d : Nat} (hX : am_ok X rL_law G (d + 1)) (hret : ∀ {pc : Nat} {lv : List (Nat × Value)} {M : am_Hp} {bc bs : Nat}, decode rL_law.2.1 pc = .ok (.ireturn, 1) → am_J X pc lv [.int (1 : Int32)] M bc bs) {bc bs : Nat} (R963 : Nat → Int32 → Int32 → Nat → am_Hp → Nat → Nat → Prop) (k963 : ∀ (x1 : Nat) (x3 : Int32) (x4 : Int32) (x8 : Nat) (M : am_Hp) (bc bs : Nat), R963 x1 x3 x4 x8 M bc bs → am_J X 963 [(1, .ref x1), (3, .int x3), (4, .int x4), (8, .ref x8)] [] M bc bs) {a1 : Nat} {a3 : Int32} {a4 : Int32} {a8 : Nat} {M : am_Hp} (h : hp_T M (a8) = 7 ∧ (1 ≤ bc ∧ (6 ≤ bs ∧ (am_CT G d rX6_stopCar [.ref a8, .int (0 : Int32)] M 1 6 (fun oz9 M1 => (∃ v2 : Int32, oz9 = .inl (some (.int v2)) ∧ (((v2 = 0) → (R963 a1 a3 a4 a8 M1 (bc - 1) (bs - 6))) ∧ (¬ (v2 = 0) → (False)))) ∨ ((oz9 = .inr "java/lang/IllegalArgumentException" ∧ False)) ∨ ((oz9 = .inr "java/lang/IllegalStateException" ∧ False)) ∨ ((oz9 = .inr "java/lang/IndexOutOfBoundsException" ∧ False)) ∨ ((oz9 = .inr "java/lang/UnsupportedOperationException" ∧ False))))))) : am_J X 954 [(1, .ref a1), (3, .int a3), (4, .int a4), (8, .ref a8)] [] M bc bs := by
  refine j_aload hX eL_law_954 3 rfl ?_
  refine j_iconst (v := (0 : Int32)) hX eL_law_956 (by decide) ?_
  obtain ⟨t3, h⟩ := h
  obtain ⟨b4, b5, h⟩ := h
  refine j_callV (a := a8) (q := (RX6, TX6, 9)) (r' := rX6_stopCar) (As := [.int (0 : Int32)]) (rest := []) (d1 := d) hX eL_law_957 mm_LiftGroupLaw_54 rfl t3 (by decide) rfl h rfl (Nat.le_refl _) b4 b5 (Nat.le_of_ble_eq_true rfl) (fun vz9 Mz9 qz9 => ?_) (fun Ez9 Mz9 qz9 => ?_)
  · obtain ⟨M1, eMz9⟩ : ∃ M1, M1 = Mz9 := ⟨_, rfl⟩; subst eMz9
    rcases qz9 with ⟨v2, hxz9, h⟩ | ⟨hxz9, h⟩ | ⟨hxz9, h⟩ | ⟨hxz9, h⟩ | ⟨hxz9, h⟩ <;> cases hxz9
    refine j_if_ne hX 1129 eL_law_960 (by decide) (fun c6 => ?_) (fun c6 => ?_)
    · replace h := h.2 c6
      refine j_iconst (v := (0 : Int32)) hX eL_law_1129 (by decide) ?_
      exact h.elim
    · replace h := h.1 c6
      exact j_sub [0, 1, 2, 3] rfl (k963 _ _ _ _ _ _ _ h)
  · obtain ⟨M1, eMz9⟩ : ∃ M1, M1 = Mz9 := ⟨_, rfl⟩; subst eMz9
    rcases qz9 with ⟨v2, hxz9, h⟩ | ⟨hxz9, h⟩ | ⟨hxz9, h⟩ | ⟨hxz9, h⟩ | ⟨hxz9, h⟩ <;> cases hxz9
    · exact h.elim
    · exact h.elim
    · exact h.elim
    · exact h.elim
set_option maxHeartbeats 4000000 in
set_option maxRecDepth 20000 in
theorem vL_law_963 {X : am_Cx} {G : am_Gx} {d : Nat} (hX : am_ok X rL_law G (d + 1)) (hret : ∀ {pc : Nat} {lv : List (Nat × Value)} {M : am_Hp} {bc bs : Nat}, decode rL_law.2.1 pc = .ok (.ireturn, 1) → am_J X pc lv [.int (1 : Int32)] M bc bs) {bc bs : Nat} (R977 : Nat → Int32 → Int32 → Nat → am_Hp → Nat → Nat → Prop) (k977 : ∀ (x1 : Nat) (x3 : Int32) (x4 : Int32) (x8 : Nat) (M : am_Hp) (bc bs : Nat), R977 x1 x3 x4 x8 M bc bs → am_J X 977 [(1, .ref x1), (3, .int x3), (4, .int x4), (8, .ref x8)] [] M bc bs) {a1 : Nat} {a3 : Int32} {a4 : Int32} {a8 : Nat} {M : am_Hp} (h : hp_T M (a8) = 7 ∧ (1 ≤ bc ∧ (6 ≤ bs ∧ (am_CT G d rX6_addPassenger [.ref a8, .int (0 : Int32), .int (9 : Int32), .int (150 : Int32)] M 1 6 (fun oz9 M1 => (∃ v2 : Int32, oz9 = .inl (some (.int v2)) ∧ (((v2 = 0) → (R977 a1 a3 a4 a8 M1 (bc - 1) (bs - 6))) ∧ (¬ (v2 = 0) → (False)))) ∨ ((oz9 = .inr "java/lang/IllegalArgumentException" ∧ False)) ∨ ((oz9 = .inr "java/lang/IllegalStateException" ∧ False)) ∨ ((oz9 = .inr "java/lang/IndexOutOfBoundsException" ∧ False)) ∨ ((oz9 = .inr "java/lang/UnsupportedOperationException" ∧ False))))))) : am_J X 963 [(1, .ref a1), (3, .int a3), (4, .int a4), (8, .ref a8)] [] M bc bs := by
  refine j_aload hX eL_law_963 3 rfl ?_
  refine j_iconst (v := (0 : Int32)) hX eL_law_965 (by decide) ?_
  refine j_bipush (v := (9 : Int32)) hX eL_law_966 (by decide) ?_
  refine j_sipush (v := (150 : Int32)) hX eL_law_968 (by decide) ?_
  obtain ⟨t3, h⟩ := h
  obtain ⟨b4, b5, h⟩ := h
  refine j_callV (a := a8) (q := (RX6, TX6, 9)) (r' := rX6_addPassenger) (As := [.int (0 : Int32), .int (9 : Int32), .int (150 : Int32)]) (rest := []) (d1 := d) hX eL_law_971 mm_LiftGroupLaw_43 rfl t3 (by decide) rfl h rfl (Nat.le_refl _) b4 b5 (Nat.le_of_ble_eq_true rfl) (fun vz9 Mz9 qz9 => ?_) (fun Ez9 Mz9 qz9 => ?_)
  · obtain ⟨M1, eMz9⟩ : ∃ M1, M1 = Mz9 := ⟨_, rfl⟩; subst eMz9
    rcases qz9 with ⟨v2, hxz9, h⟩ | ⟨hxz9, h⟩ | ⟨hxz9, h⟩ | ⟨hxz9, h⟩ | ⟨hxz9, h⟩ <;> cases hxz9
    refine j_if_ne hX 1129 eL_law_974 (by decide) (fun c6 => ?_) (fun c6 => ?_)
    · replace h := h.2 c6
      refine j_iconst (v := (0 : Int32)) hX eL_law_1129 (by decide) ?_
      exact h.elim
    · replace h := h.1 c6
      exact j_sub [0, 1, 2, 3] rfl (k977 _ _ _ _ _ _ _ h)
  · obtain ⟨M1, eMz9⟩ : ∃ M1, M1 = Mz9 := ⟨_, rfl⟩; subst eMz9
    rcases qz9 with ⟨v2, hxz9, h⟩ | ⟨hxz9, h⟩ | ⟨hxz9, h⟩ | ⟨hxz9, h⟩ | ⟨hxz9, h⟩ <;> cases hxz9
    · exact h.elim
    · exact h.elim
    · exact h.elim
    · exact h.elim
set_option maxHeartbeats 4000000 in
set_option maxRecDepth 20000 in
theorem vL_law_977 {X : am_Cx} {G : am_Gx} {d : Nat} (hX : am_ok X rL_law G (d + 1)) (hret : ∀ {pc : Nat} {lv : List (Nat × Value)} {M : am_Hp} {bc bs : Nat}, decode rL_law.2.1 pc = .ok (.ireturn, 1) → am_J X pc lv [.int (1 : Int32)] M bc bs) {bc bs : Nat} (R987 : Nat → Int32 → Int32 → Nat → am_Hp → Nat → Nat → Prop) (k987 : ∀ (x1 : Nat) (x3 : Int32) (x4 : Int32) (x8 : Nat) (M : am_Hp) (bc bs : Nat), R987 x1 x3 x4 x8 M bc bs → am_J X 987 [(1, .ref x1), (3, .int x3), (4, .int x4), (8, .ref x8)] [] M bc bs) {a1 : Nat} {a3 : Int32} {a4 : Int32} {a8 : Nat} {M : am_Hp} (h : hp_T M (a8) = 7 ∧ (2 ≤ bc ∧ (12 ≤ bs ∧ (am_CT G d rX6_carOf [.ref a8, .int (0 : Int32)] M 2 12 (fun oz9 M1 => (∃ v2 : Int32, oz9 = .inl (some (.int v2)) ∧ (((v2 = (1 : Int32)) → (R987 a1 a3 a4 a8 M1 (bc - 2) (bs - 12))) ∧ (¬ (v2 = (1 : Int32)) → (False)))) ∨ ((oz9 = .inr "java/lang/IndexOutOfBoundsException" ∧ False)) ∨ ((oz9 = .inr "java/util/NoSuchElementException" ∧ False))))))) : am_J X 977 [(1, .ref a1), (3, .int a3), (4, .int a4), (8, .ref a8)] [] M bc bs := by
  refine j_aload hX eL_law_977 3 rfl ?_
  refine j_iconst (v := (0 : Int32)) hX eL_law_979 (by decide) ?_
  obtain ⟨t3, h⟩ := h
  obtain ⟨b4, b5, h⟩ := h
  refine j_callV (a := a8) (q := (RX6, TX6, 9)) (r' := rX6_carOf) (As := [.int (0 : Int32)]) (rest := []) (d1 := d) hX eL_law_980 mm_LiftGroupLaw_124 rfl t3 (by decide) rfl h rfl (Nat.le_refl _) b4 b5 (Nat.le_of_ble_eq_true rfl) (fun vz9 Mz9 qz9 => ?_) (fun Ez9 Mz9 qz9 => ?_)
  · obtain ⟨M1, eMz9⟩ : ∃ M1, M1 = Mz9 := ⟨_, rfl⟩; subst eMz9
    rcases qz9 with ⟨v2, hxz9, h⟩ | ⟨hxz9, h⟩ | ⟨hxz9, h⟩ <;> cases hxz9
    refine j_iconst (v := (1 : Int32)) hX eL_law_983 (by decide) ?_
    refine j_icmp_ne hX 1129 eL_law_984 (by decide) (fun c6 => ?_) (fun c6 => ?_)
    · replace h := h.2 c6
      refine j_iconst (v := (0 : Int32)) hX eL_law_1129 (by decide) ?_
      exact h.elim
    · replace h := h.1 c6
      exact j_sub [0, 1, 2, 3] rfl (k987 _ _ _ _ _ _ _ h)
  · obtain ⟨M1, eMz9⟩ : ∃ M1, M1 = Mz9 := ⟨_, rfl⟩; subst eMz9
    rcases qz9 with ⟨v2, hxz9, h⟩ | ⟨hxz9, h⟩ | ⟨hxz9, h⟩ <;> cases hxz9
    · exact h.elim
    · exact h.elim
set_option maxHeartbeats 4000000 in
set_option maxRecDepth 20000 in
theorem vL_law_987 {X : am_Cx} {G : am_Gx} {d : Nat} (hX : am_ok X rL_law G (d + 1)) (hret : ∀ {pc : Nat} {lv : List (Nat × Value)} {M : am_Hp} {bc bs : Nat}, decode rL_law.2.1 pc = .ok (.ireturn, 1) → am_J X pc lv [.int (1 : Int32)] M bc bs) {bc bs : Nat} (R1002 : Nat → Int32 → Int32 → Nat → am_Hp → Nat → Nat → Prop) (k1002 : ∀ (x1 : Nat) (x3 : Int32) (x4 : Int32) (x8 : Nat) (M : am_Hp) (bc bs : Nat), R1002 x1 x3 x4 x8 M bc bs → am_J X 1002 [(1, .ref x1), (3, .int x3), (4, .int x4), (8, .ref x8)] [] M bc bs) {a1 : Nat} {a3 : Int32} {a4 : Int32} {a8 : Nat} {M : am_Hp} (h : hp_T M (a8) = 7 ∧ (1 ≤ bc ∧ (6 ≤ bs ∧ (am_CT G d rX6_setCapacity [.ref a8, .int (1 : Int32), .int (149 : Int32)] M 1 6 (fun oz9 M1 => (∃ v2 : Int32, oz9 = .inl (some (.int v2)) ∧ (((v2 = (400 : Int32)) → (R1002 a1 a3 a4 a8 M1 (bc - 1) (bs - 6))) ∧ (¬ (v2 = (400 : Int32)) → (False)))) ∨ ((oz9 = .inr "java/lang/IllegalArgumentException" ∧ False)) ∨ ((oz9 = .inr "java/lang/IllegalStateException" ∧ False)) ∨ ((oz9 = .inr "java/lang/IndexOutOfBoundsException" ∧ False)) ∨ ((oz9 = .inr "java/lang/UnsupportedOperationException" ∧ False))))))) : am_J X 987 [(1, .ref a1), (3, .int a3), (4, .int a4), (8, .ref a8)] [] M bc bs := by
  refine j_aload hX eL_law_987 3 rfl ?_
  refine j_iconst (v := (1 : Int32)) hX eL_law_989 (by decide) ?_
  refine j_sipush (v := (149 : Int32)) hX eL_law_990 (by decide) ?_
  obtain ⟨t3, h⟩ := h
  obtain ⟨b4, b5, h⟩ := h
  refine j_callV (a := a8) (q := (RX6, TX6, 9)) (r' := rX6_setCapacity) (As := [.int (1 : Int32), .int (149 : Int32)]) (rest := []) (d1 := d) hX eL_law_993 mm_LiftGroupLaw_60 rfl t3 (by decide) rfl h rfl (Nat.le_refl _) b4 b5 (Nat.le_of_ble_eq_true rfl) (fun vz9 Mz9 qz9 => ?_) (fun Ez9 Mz9 qz9 => ?_)
  · obtain ⟨M1, eMz9⟩ : ∃ M1, M1 = Mz9 := ⟨_, rfl⟩; subst eMz9
    rcases qz9 with ⟨v2, hxz9, h⟩ | ⟨hxz9, h⟩ | ⟨hxz9, h⟩ | ⟨hxz9, h⟩ | ⟨hxz9, h⟩ <;> cases hxz9
    refine j_sipush (v := (400 : Int32)) hX eL_law_996 (by decide) ?_
    refine j_icmp_ne hX 1129 eL_law_999 (by decide) (fun c6 => ?_) (fun c6 => ?_)
    · replace h := h.2 c6
      refine j_iconst (v := (0 : Int32)) hX eL_law_1129 (by decide) ?_
      exact h.elim
    · replace h := h.1 c6
      exact j_sub [0, 1, 2, 3] rfl (k1002 _ _ _ _ _ _ _ h)
  · obtain ⟨M1, eMz9⟩ : ∃ M1, M1 = Mz9 := ⟨_, rfl⟩; subst eMz9
    rcases qz9 with ⟨v2, hxz9, h⟩ | ⟨hxz9, h⟩ | ⟨hxz9, h⟩ | ⟨hxz9, h⟩ | ⟨hxz9, h⟩ <;> cases hxz9
    · exact h.elim
    · exact h.elim
    · exact h.elim
    · exact h.elim
set_option maxHeartbeats 4000000 in
set_option maxRecDepth 20000 in
theorem vL_law_1002 {X : am_Cx} {G : am_Gx} {d : Nat} (hX : am_ok X rL_law G (d + 1)) (hret : ∀ {pc : Nat} {lv : List (Nat × Value)} {M : am_Hp} {bc bs : Nat}, decode rL_law.2.1 pc = .ok (.ireturn, 1) → am_J X pc lv [.int (1 : Int32)] M bc bs) {bc bs : Nat} (R1011 : Nat → Int32 → Int32 → Nat → am_Hp → Nat → Nat → Prop) (k1011 : ∀ (x1 : Nat) (x3 : Int32) (x4 : Int32) (x8 : Nat) (M : am_Hp) (bc bs : Nat), R1011 x1 x3 x4 x8 M bc bs → am_J X 1011 [(1, .ref x1), (3, .int x3), (4, .int x4), (8, .ref x8)] [] M bc bs) {a1 : Nat} {a3 : Int32} {a4 : Int32} {a8 : Nat} {M : am_Hp} (h : hp_T M (a8) = 7 ∧ (1 ≤ bc ∧ (6 ≤ bs ∧ (am_CT G d rX6_advance [.ref a8, .int (1 : Int32)] M 1 6 (fun oz9 M1 => (∃ v2 : Int32, oz9 = .inl (some (.int v2)) ∧ (((v2 = 0) → (R1011 a1 a3 a4 a8 M1 (bc - 1) (bs - 6))) ∧ (¬ (v2 = 0) → (False)))) ∨ ((oz9 = .inr "java/lang/IllegalArgumentException" ∧ False)) ∨ ((oz9 = .inr "java/lang/IllegalStateException" ∧ False)) ∨ ((oz9 = .inr "java/lang/IndexOutOfBoundsException" ∧ False)) ∨ ((oz9 = .inr "java/lang/UnsupportedOperationException" ∧ False))))))) : am_J X 1002 [(1, .ref a1), (3, .int a3), (4, .int a4), (8, .ref a8)] [] M bc bs := by
  refine j_aload hX eL_law_1002 3 rfl ?_
  refine j_iconst (v := (1 : Int32)) hX eL_law_1004 (by decide) ?_
  obtain ⟨t3, h⟩ := h
  obtain ⟨b4, b5, h⟩ := h
  refine j_callV (a := a8) (q := (RX6, TX6, 9)) (r' := rX6_advance) (As := [.int (1 : Int32)]) (rest := []) (d1 := d) hX eL_law_1005 mm_LiftGroupLaw_63 rfl t3 (by decide) rfl h rfl (Nat.le_refl _) b4 b5 (Nat.le_of_ble_eq_true rfl) (fun vz9 Mz9 qz9 => ?_) (fun Ez9 Mz9 qz9 => ?_)
  · obtain ⟨M1, eMz9⟩ : ∃ M1, M1 = Mz9 := ⟨_, rfl⟩; subst eMz9
    rcases qz9 with ⟨v2, hxz9, h⟩ | ⟨hxz9, h⟩ | ⟨hxz9, h⟩ | ⟨hxz9, h⟩ | ⟨hxz9, h⟩ <;> cases hxz9
    refine j_if_ne hX 1129 eL_law_1008 (by decide) (fun c6 => ?_) (fun c6 => ?_)
    · replace h := h.2 c6
      refine j_iconst (v := (0 : Int32)) hX eL_law_1129 (by decide) ?_
      exact h.elim
    · replace h := h.1 c6
      exact j_sub [0, 1, 2, 3] rfl (k1011 _ _ _ _ _ _ _ h)
  · obtain ⟨M1, eMz9⟩ : ∃ M1, M1 = Mz9 := ⟨_, rfl⟩; subst eMz9
    rcases qz9 with ⟨v2, hxz9, h⟩ | ⟨hxz9, h⟩ | ⟨hxz9, h⟩ | ⟨hxz9, h⟩ | ⟨hxz9, h⟩ <;> cases hxz9
    · exact h.elim
    · exact h.elim
    · exact h.elim
    · exact h.elim
set_option maxHeartbeats 4000000 in
set_option maxRecDepth 20000 in
theorem vL_law_1011 {X : am_Cx} {G : am_Gx} {d : Nat} (hX : am_ok X rL_law G (d + 1)) (hret : ∀ {pc : Nat} {lv : List (Nat × Value)} {M : am_Hp} {bc bs : Nat}, decode rL_law.2.1 pc = .ok (.ireturn, 1) → am_J X pc lv [.int (1 : Int32)] M bc bs) {bc bs : Nat} (R1020 : Nat → Int32 → Int32 → Nat → am_Hp → Nat → Nat → Prop) (k1020 : ∀ (x1 : Nat) (x3 : Int32) (x4 : Int32) (x8 : Nat) (M : am_Hp) (bc bs : Nat), R1020 x1 x3 x4 x8 M bc bs → am_J X 1020 [(1, .ref x1), (3, .int x3), (4, .int x4), (8, .ref x8)] [] M bc bs) {a1 : Nat} {a3 : Int32} {a4 : Int32} {a8 : Nat} {M : am_Hp} (h : hp_T M (a8) = 7 ∧ (1 ≤ bc ∧ (6 ≤ bs ∧ (am_CT G d rX6_isInCar [.ref a8, .int (0 : Int32)] M 1 6 (fun oz9 M1 => (∃ v2 : Int32, oz9 = .inl (some (.int v2)) ∧ (((v2 = 0) → (R1020 a1 a3 a4 a8 M1 (bc - 1) (bs - 6))) ∧ (¬ (v2 = 0) → (False)))) ∨ ((oz9 = .inr "java/lang/IndexOutOfBoundsException" ∧ False))))))) : am_J X 1011 [(1, .ref a1), (3, .int a3), (4, .int a4), (8, .ref a8)] [] M bc bs := by
  refine j_aload hX eL_law_1011 3 rfl ?_
  refine j_iconst (v := (0 : Int32)) hX eL_law_1013 (by decide) ?_
  obtain ⟨t3, h⟩ := h
  obtain ⟨b4, b5, h⟩ := h
  refine j_callV (a := a8) (q := (RX6, TX6, 9)) (r' := rX6_isInCar) (As := [.int (0 : Int32)]) (rest := []) (d1 := d) hX eL_law_1014 mm_LiftGroupLaw_117 rfl t3 (by decide) rfl h rfl (Nat.le_refl _) b4 b5 (Nat.le_of_ble_eq_true rfl) (fun vz9 Mz9 qz9 => ?_) (fun Ez9 Mz9 qz9 => ?_)
  · obtain ⟨M1, eMz9⟩ : ∃ M1, M1 = Mz9 := ⟨_, rfl⟩; subst eMz9
    rcases qz9 with ⟨v2, hxz9, h⟩ | ⟨hxz9, h⟩ <;> cases hxz9
    refine j_if_ne hX 1129 eL_law_1017 (by decide) (fun c6 => ?_) (fun c6 => ?_)
    · replace h := h.2 c6
      refine j_iconst (v := (0 : Int32)) hX eL_law_1129 (by decide) ?_
      exact h.elim
    · replace h := h.1 c6
      exact j_sub [0, 1, 2, 3] rfl (k1020 _ _ _ _ _ _ _ h)
  · obtain ⟨M1, eMz9⟩ : ∃ M1, M1 = Mz9 := ⟨_, rfl⟩; subst eMz9
    rcases qz9 with ⟨v2, hxz9, h⟩ | ⟨hxz9, h⟩ <;> cases hxz9
    exact h.elim
set_option maxHeartbeats 4000000 in
set_option maxRecDepth 20000 in
theorem vL_law_1020 {X : am_Cx} {G : am_Gx} {d : Nat} (hX : am_ok X rL_law G (d + 1)) (hret : ∀ {pc : Nat} {lv : List (Nat × Value)} {M : am_Hp} {bc bs : Nat}, decode rL_law.2.1 pc = .ok (.ireturn, 1) → am_J X pc lv [.int (1 : Int32)] M bc bs) {bc bs : Nat} (R1030 : Nat → Int32 → Int32 → Nat → am_Hp → Nat → Nat → Prop) (k1030 : ∀ (x1 : Nat) (x3 : Int32) (x4 : Int32) (x8 : Nat) (M : am_Hp) (bc bs : Nat), R1030 x1 x3 x4 x8 M bc bs → am_J X 1030 [(1, .ref x1), (3, .int x3), (4, .int x4), (8, .ref x8)] [] M bc bs) {a1 : Nat} {a3 : Int32} {a4 : Int32} {a8 : Nat} {M : am_Hp} (h : hp_T M (a8) = 7 ∧ (1 ≤ bc ∧ (6 ≤ bs ∧ (am_CT G d rX6_doorSteps [.ref a8, .int (1 : Int32)] M 1 6 (fun oz9 M1 => (∃ v2 : Int32, oz9 = .inl (some (.int v2)) ∧ (((v2 = (2 : Int32)) → (R1030 a1 a3 a4 a8 M1 (bc - 1) (bs - 6))) ∧ (¬ (v2 = (2 : Int32)) → (False)))) ∨ ((oz9 = .inr "java/lang/IndexOutOfBoundsException" ∧ False))))))) : am_J X 1020 [(1, .ref a1), (3, .int a3), (4, .int a4), (8, .ref a8)] [] M bc bs := by
  refine j_aload hX eL_law_1020 3 rfl ?_
  refine j_iconst (v := (1 : Int32)) hX eL_law_1022 (by decide) ?_
  obtain ⟨t3, h⟩ := h
  obtain ⟨b4, b5, h⟩ := h
  refine j_callV (a := a8) (q := (RX6, TX6, 9)) (r' := rX6_doorSteps) (As := [.int (1 : Int32)]) (rest := []) (d1 := d) hX eL_law_1023 mm_LiftGroupLaw_85 rfl t3 (by decide) rfl h rfl (Nat.le_refl _) b4 b5 (Nat.le_of_ble_eq_true rfl) (fun vz9 Mz9 qz9 => ?_) (fun Ez9 Mz9 qz9 => ?_)
  · obtain ⟨M1, eMz9⟩ : ∃ M1, M1 = Mz9 := ⟨_, rfl⟩; subst eMz9
    rcases qz9 with ⟨v2, hxz9, h⟩ | ⟨hxz9, h⟩ <;> cases hxz9
    refine j_iconst (v := (2 : Int32)) hX eL_law_1026 (by decide) ?_
    refine j_icmp_ne hX 1129 eL_law_1027 (by decide) (fun c6 => ?_) (fun c6 => ?_)
    · replace h := h.2 c6
      refine j_iconst (v := (0 : Int32)) hX eL_law_1129 (by decide) ?_
      exact h.elim
    · replace h := h.1 c6
      exact j_sub [0, 1, 2, 3] rfl (k1030 _ _ _ _ _ _ _ h)
  · obtain ⟨M1, eMz9⟩ : ∃ M1, M1 = Mz9 := ⟨_, rfl⟩; subst eMz9
    rcases qz9 with ⟨v2, hxz9, h⟩ | ⟨hxz9, h⟩ <;> cases hxz9
    exact h.elim
set_option maxHeartbeats 4000000 in
set_option maxRecDepth 20000 in
theorem vL_law_1030 {X : am_Cx} {G : am_Gx} {d : Nat} (hX : am_ok X rL_law G (d + 1)) (hret : ∀ {pc : Nat} {lv : List (Nat × Value)} {M : am_Hp} {bc bs : Nat}, decode rL_law.2.1 pc = .ok (.ireturn, 1) → am_J X pc lv [.int (1 : Int32)] M bc bs) {bc bs : Nat} (R1043 : Nat → Int32 → Int32 → Nat → am_Hp → Nat → Nat → Prop) (k1043 : ∀ (x1 : Nat) (x3 : Int32) (x4 : Int32) (x8 : Nat) (M : am_Hp) (bc bs : Nat), R1043 x1 x3 x4 x8 M bc bs → am_J X 1043 [(1, .ref x1), (3, .int x3), (4, .int x4), (8, .ref x8)] [] M bc bs) {a1 : Nat} {a3 : Int32} {a4 : Int32} {a8 : Nat} {M : am_Hp} (h : hp_T M (a8) = 7 ∧ (2 ≤ bc ∧ (12 ≤ bs ∧ (am_CT G d rX6_bestCar [.ref a8, .int (0 : Int32), .int (150 : Int32)] M 2 12 (fun oz9 M1 => (∃ v2 : Int32, oz9 = .inl (some (.int v2)) ∧ (((v2 = (2 : Int32)) → (R1043 a1 a3 a4 a8 M1 (bc - 2) (bs - 12))) ∧ (¬ (v2 = (2 : Int32)) → (False)))) ∨ ((oz9 = .inr "java/lang/IllegalArgumentException" ∧ False)) ∨ ((oz9 = .inr "java/util/NoSuchElementException" ∧ False))))))) : am_J X 1030 [(1, .ref a1), (3, .int a3), (4, .int a4), (8, .ref a8)] [] M bc bs := by
  refine j_aload hX eL_law_1030 3 rfl ?_
  refine j_iconst (v := (0 : Int32)) hX eL_law_1032 (by decide) ?_
  refine j_sipush (v := (150 : Int32)) hX eL_law_1033 (by decide) ?_
  obtain ⟨t3, h⟩ := h
  obtain ⟨b4, b5, h⟩ := h
  refine j_callV (a := a8) (q := (RX6, TX6, 9)) (r' := rX6_bestCar) (As := [.int (0 : Int32), .int (150 : Int32)]) (rest := []) (d1 := d) hX eL_law_1036 mm_LiftGroupLaw_237 rfl t3 (by decide) rfl h rfl (Nat.le_refl _) b4 b5 (Nat.le_of_ble_eq_true rfl) (fun vz9 Mz9 qz9 => ?_) (fun Ez9 Mz9 qz9 => ?_)
  · obtain ⟨M1, eMz9⟩ : ∃ M1, M1 = Mz9 := ⟨_, rfl⟩; subst eMz9
    rcases qz9 with ⟨v2, hxz9, h⟩ | ⟨hxz9, h⟩ | ⟨hxz9, h⟩ <;> cases hxz9
    refine j_iconst (v := (2 : Int32)) hX eL_law_1039 (by decide) ?_
    refine j_icmp_ne hX 1129 eL_law_1040 (by decide) (fun c6 => ?_) (fun c6 => ?_)
    · replace h := h.2 c6
      refine j_iconst (v := (0 : Int32)) hX eL_law_1129 (by decide) ?_
      exact h.elim
    · replace h := h.1 c6
      exact j_sub [0, 1, 2, 3] rfl (k1043 _ _ _ _ _ _ _ h)
  · obtain ⟨M1, eMz9⟩ : ∃ M1, M1 = Mz9 := ⟨_, rfl⟩; subst eMz9
    rcases qz9 with ⟨v2, hxz9, h⟩ | ⟨hxz9, h⟩ | ⟨hxz9, h⟩ <;> cases hxz9
    · exact h.elim
    · exact h.elim
set_option maxHeartbeats 4000000 in
set_option maxRecDepth 20000 in
theorem vL_law_1043 {X : am_Cx} {G : am_Gx} {d : Nat} (hX : am_ok X rL_law G (d + 1)) (hret : ∀ {pc : Nat} {lv : List (Nat × Value)} {M : am_Hp} {bc bs : Nat}, decode rL_law.2.1 pc = .ok (.ireturn, 1) → am_J X pc lv [.int (1 : Int32)] M bc bs) {bc bs : Nat} (R1052 : Nat → Int32 → Int32 → Nat → am_Hp → Nat → Nat → Prop) (k1052 : ∀ (x1 : Nat) (x3 : Int32) (x4 : Int32) (x8 : Nat) (M : am_Hp) (bc bs : Nat), R1052 x1 x3 x4 x8 M bc bs → am_J X 1052 [(1, .ref x1), (3, .int x3), (4, .int x4), (8, .ref x8)] [] M bc bs) {a1 : Nat} {a3 : Int32} {a4 : Int32} {a8 : Nat} {M : am_Hp} (h : hp_T M (a8) = 7 ∧ (1 ≤ bc ∧ (6 ≤ bs ∧ (am_CT G d rX6_advance [.ref a8, .int (1 : Int32)] M 1 6 (fun oz9 M1 => (∃ v2 : Int32, oz9 = .inl (some (.int v2)) ∧ (((v2 = 0) → (R1052 a1 a3 a4 a8 M1 (bc - 1) (bs - 6))) ∧ (¬ (v2 = 0) → (False)))) ∨ ((oz9 = .inr "java/lang/IllegalArgumentException" ∧ False)) ∨ ((oz9 = .inr "java/lang/IllegalStateException" ∧ False)) ∨ ((oz9 = .inr "java/lang/IndexOutOfBoundsException" ∧ False)) ∨ ((oz9 = .inr "java/lang/UnsupportedOperationException" ∧ False))))))) : am_J X 1043 [(1, .ref a1), (3, .int a3), (4, .int a4), (8, .ref a8)] [] M bc bs := by
  refine j_aload hX eL_law_1043 3 rfl ?_
  refine j_iconst (v := (1 : Int32)) hX eL_law_1045 (by decide) ?_
  obtain ⟨t3, h⟩ := h
  obtain ⟨b4, b5, h⟩ := h
  refine j_callV (a := a8) (q := (RX6, TX6, 9)) (r' := rX6_advance) (As := [.int (1 : Int32)]) (rest := []) (d1 := d) hX eL_law_1046 mm_LiftGroupLaw_63 rfl t3 (by decide) rfl h rfl (Nat.le_refl _) b4 b5 (Nat.le_of_ble_eq_true rfl) (fun vz9 Mz9 qz9 => ?_) (fun Ez9 Mz9 qz9 => ?_)
  · obtain ⟨M1, eMz9⟩ : ∃ M1, M1 = Mz9 := ⟨_, rfl⟩; subst eMz9
    rcases qz9 with ⟨v2, hxz9, h⟩ | ⟨hxz9, h⟩ | ⟨hxz9, h⟩ | ⟨hxz9, h⟩ | ⟨hxz9, h⟩ <;> cases hxz9
    refine j_if_ne hX 1129 eL_law_1049 (by decide) (fun c6 => ?_) (fun c6 => ?_)
    · replace h := h.2 c6
      refine j_iconst (v := (0 : Int32)) hX eL_law_1129 (by decide) ?_
      exact h.elim
    · replace h := h.1 c6
      exact j_sub [0, 1, 2, 3] rfl (k1052 _ _ _ _ _ _ _ h)
  · obtain ⟨M1, eMz9⟩ : ∃ M1, M1 = Mz9 := ⟨_, rfl⟩; subst eMz9
    rcases qz9 with ⟨v2, hxz9, h⟩ | ⟨hxz9, h⟩ | ⟨hxz9, h⟩ | ⟨hxz9, h⟩ | ⟨hxz9, h⟩ <;> cases hxz9
    · exact h.elim
    · exact h.elim
    · exact h.elim
    · exact h.elim
set_option maxHeartbeats 4000000 in
set_option maxRecDepth 20000 in
theorem vL_law_1052 {X : am_Cx} {G : am_Gx} {d : Nat} (hX : am_ok X rL_law G (d + 1)) (hret : ∀ {pc : Nat} {lv : List (Nat × Value)} {M : am_Hp} {bc bs : Nat}, decode rL_law.2.1 pc = .ok (.ireturn, 1) → am_J X pc lv [.int (1 : Int32)] M bc bs) {bc bs : Nat} (R1061 : Nat → Int32 → Int32 → Nat → am_Hp → Nat → Nat → Prop) (k1061 : ∀ (x1 : Nat) (x3 : Int32) (x4 : Int32) (x8 : Nat) (M : am_Hp) (bc bs : Nat), R1061 x1 x3 x4 x8 M bc bs → am_J X 1061 [(1, .ref x1), (3, .int x3), (4, .int x4), (8, .ref x8)] [] M bc bs) {a1 : Nat} {a3 : Int32} {a4 : Int32} {a8 : Nat} {M : am_Hp} (h : hp_T M (a8) = 7 ∧ (1 ≤ bc ∧ (6 ≤ bs ∧ (am_CT G d rX6_isInCar [.ref a8, .int (0 : Int32)] M 1 6 (fun oz9 M1 => (∃ v2 : Int32, oz9 = .inl (some (.int v2)) ∧ (((v2 = 0) → (False)) ∧ (¬ (v2 = 0) → (R1061 a1 a3 a4 a8 M1 (bc - 1) (bs - 6))))) ∨ ((oz9 = .inr "java/lang/IndexOutOfBoundsException" ∧ False))))))) : am_J X 1052 [(1, .ref a1), (3, .int a3), (4, .int a4), (8, .ref a8)] [] M bc bs := by
  refine j_aload hX eL_law_1052 3 rfl ?_
  refine j_iconst (v := (0 : Int32)) hX eL_law_1054 (by decide) ?_
  obtain ⟨t3, h⟩ := h
  obtain ⟨b4, b5, h⟩ := h
  refine j_callV (a := a8) (q := (RX6, TX6, 9)) (r' := rX6_isInCar) (As := [.int (0 : Int32)]) (rest := []) (d1 := d) hX eL_law_1055 mm_LiftGroupLaw_117 rfl t3 (by decide) rfl h rfl (Nat.le_refl _) b4 b5 (Nat.le_of_ble_eq_true rfl) (fun vz9 Mz9 qz9 => ?_) (fun Ez9 Mz9 qz9 => ?_)
  · obtain ⟨M1, eMz9⟩ : ∃ M1, M1 = Mz9 := ⟨_, rfl⟩; subst eMz9
    rcases qz9 with ⟨v2, hxz9, h⟩ | ⟨hxz9, h⟩ <;> cases hxz9
    refine j_if_eq hX 1129 eL_law_1058 (by decide) (fun c6 => ?_) (fun c6 => ?_)
    · replace h := h.1 c6
      refine j_iconst (v := (0 : Int32)) hX eL_law_1129 (by decide) ?_
      exact h.elim
    · replace h := h.2 c6
      exact j_sub [0, 1, 2, 3] rfl (k1061 _ _ _ _ _ _ _ h)
  · obtain ⟨M1, eMz9⟩ : ∃ M1, M1 = Mz9 := ⟨_, rfl⟩; subst eMz9
    rcases qz9 with ⟨v2, hxz9, h⟩ | ⟨hxz9, h⟩ <;> cases hxz9
    exact h.elim
set_option maxHeartbeats 4000000 in
set_option maxRecDepth 20000 in
theorem vL_law_1061 {X : am_Cx} {G : am_Gx} {d : Nat} (hX : am_ok X rL_law G (d + 1)) (hret : ∀ {pc : Nat} {lv : List (Nat × Value)} {M : am_Hp} {bc bs : Nat}, decode rL_law.2.1 pc = .ok (.ireturn, 1) → am_J X pc lv [.int (1 : Int32)] M bc bs) {bc bs : Nat} (R1071 : Nat → Int32 → Int32 → Nat → am_Hp → Nat → Nat → Prop) (k1071 : ∀ (x1 : Nat) (x3 : Int32) (x4 : Int32) (x8 : Nat) (M : am_Hp) (bc bs : Nat), R1071 x1 x3 x4 x8 M bc bs → am_J X 1071 [(1, .ref x1), (3, .int x3), (4, .int x4), (8, .ref x8)] [] M bc bs) {a1 : Nat} {a3 : Int32} {a4 : Int32} {a8 : Nat} {M : am_Hp} (h : hp_T M (a8) = 7 ∧ (2 ≤ bc ∧ (12 ≤ bs ∧ (am_CT G d rX6_carOf [.ref a8, .int (0 : Int32)] M 2 12 (fun oz9 M1 => (∃ v2 : Int32, oz9 = .inl (some (.int v2)) ∧ (((v2 = (2 : Int32)) → (R1071 a1 a3 a4 a8 M1 (bc - 2) (bs - 12))) ∧ (¬ (v2 = (2 : Int32)) → (False)))) ∨ ((oz9 = .inr "java/lang/IndexOutOfBoundsException" ∧ False)) ∨ ((oz9 = .inr "java/util/NoSuchElementException" ∧ False))))))) : am_J X 1061 [(1, .ref a1), (3, .int a3), (4, .int a4), (8, .ref a8)] [] M bc bs := by
  refine j_aload hX eL_law_1061 3 rfl ?_
  refine j_iconst (v := (0 : Int32)) hX eL_law_1063 (by decide) ?_
  obtain ⟨t3, h⟩ := h
  obtain ⟨b4, b5, h⟩ := h
  refine j_callV (a := a8) (q := (RX6, TX6, 9)) (r' := rX6_carOf) (As := [.int (0 : Int32)]) (rest := []) (d1 := d) hX eL_law_1064 mm_LiftGroupLaw_124 rfl t3 (by decide) rfl h rfl (Nat.le_refl _) b4 b5 (Nat.le_of_ble_eq_true rfl) (fun vz9 Mz9 qz9 => ?_) (fun Ez9 Mz9 qz9 => ?_)
  · obtain ⟨M1, eMz9⟩ : ∃ M1, M1 = Mz9 := ⟨_, rfl⟩; subst eMz9
    rcases qz9 with ⟨v2, hxz9, h⟩ | ⟨hxz9, h⟩ | ⟨hxz9, h⟩ <;> cases hxz9
    refine j_iconst (v := (2 : Int32)) hX eL_law_1067 (by decide) ?_
    refine j_icmp_ne hX 1129 eL_law_1068 (by decide) (fun c6 => ?_) (fun c6 => ?_)
    · replace h := h.2 c6
      refine j_iconst (v := (0 : Int32)) hX eL_law_1129 (by decide) ?_
      exact h.elim
    · replace h := h.1 c6
      exact j_sub [0, 1, 2, 3] rfl (k1071 _ _ _ _ _ _ _ h)
  · obtain ⟨M1, eMz9⟩ : ∃ M1, M1 = Mz9 := ⟨_, rfl⟩; subst eMz9
    rcases qz9 with ⟨v2, hxz9, h⟩ | ⟨hxz9, h⟩ | ⟨hxz9, h⟩ <;> cases hxz9
    · exact h.elim
    · exact h.elim
set_option maxHeartbeats 4000000 in
set_option maxRecDepth 20000 in
theorem vL_law_1071 {X : am_Cx} {G : am_Gx} {d : Nat} (hX : am_ok X rL_law G (d + 1)) (hret : ∀ {pc : Nat} {lv : List (Nat × Value)} {M : am_Hp} {bc bs : Nat}, decode rL_law.2.1 pc = .ok (.ireturn, 1) → am_J X pc lv [.int (1 : Int32)] M bc bs) {bc bs : Nat} (R1081 : Nat → Int32 → Int32 → Nat → am_Hp → Nat → Nat → Prop) (k1081 : ∀ (x1 : Nat) (x3 : Int32) (x4 : Int32) (x8 : Nat) (M : am_Hp) (bc bs : Nat), R1081 x1 x3 x4 x8 M bc bs → am_J X 1081 [(1, .ref x1), (3, .int x3), (4, .int x4), (8, .ref x8)] [] M bc bs) {a1 : Nat} {a3 : Int32} {a4 : Int32} {a8 : Nat} {M : am_Hp} (h : hp_T M (a8) = 7 ∧ (1 ≤ bc ∧ (6 ≤ bs ∧ (am_CT G d rX6_number [.ref a8, .int (0 : Int32)] M 1 6 (fun oz9 M1 => (∃ v2 : Int32, oz9 = .inl (some (.int v2)) ∧ (((v2 = (2 : Int32)) → (R1081 a1 a3 a4 a8 M1 (bc - 1) (bs - 6))) ∧ (¬ (v2 = (2 : Int32)) → (False)))) ∨ ((oz9 = .inr "java/lang/IndexOutOfBoundsException" ∧ False))))))) : am_J X 1071 [(1, .ref a1), (3, .int a3), (4, .int a4), (8, .ref a8)] [] M bc bs := by
  refine j_aload hX eL_law_1071 3 rfl ?_
  refine j_iconst (v := (0 : Int32)) hX eL_law_1073 (by decide) ?_
  obtain ⟨t3, h⟩ := h
  obtain ⟨b4, b5, h⟩ := h
  refine j_callV (a := a8) (q := (RX6, TX6, 9)) (r' := rX6_number) (As := [.int (0 : Int32)]) (rest := []) (d1 := d) hX eL_law_1074 mm_LiftGroupLaw_98 rfl t3 (by decide) rfl h rfl (Nat.le_refl _) b4 b5 (Nat.le_of_ble_eq_true rfl) (fun vz9 Mz9 qz9 => ?_) (fun Ez9 Mz9 qz9 => ?_)
  · obtain ⟨M1, eMz9⟩ : ∃ M1, M1 = Mz9 := ⟨_, rfl⟩; subst eMz9
    rcases qz9 with ⟨v2, hxz9, h⟩ | ⟨hxz9, h⟩ <;> cases hxz9
    refine j_iconst (v := (2 : Int32)) hX eL_law_1077 (by decide) ?_
    refine j_icmp_ne hX 1129 eL_law_1078 (by decide) (fun c6 => ?_) (fun c6 => ?_)
    · replace h := h.2 c6
      refine j_iconst (v := (0 : Int32)) hX eL_law_1129 (by decide) ?_
      exact h.elim
    · replace h := h.1 c6
      exact j_sub [0, 1, 2, 3] rfl (k1081 _ _ _ _ _ _ _ h)
  · obtain ⟨M1, eMz9⟩ : ∃ M1, M1 = Mz9 := ⟨_, rfl⟩; subst eMz9
    rcases qz9 with ⟨v2, hxz9, h⟩ | ⟨hxz9, h⟩ <;> cases hxz9
    exact h.elim
set_option maxHeartbeats 4000000 in
set_option maxRecDepth 20000 in
theorem vL_law_1081 {X : am_Cx} {G : am_Gx} {d : Nat} (hX : am_ok X rL_law G (d + 1)) (hret : ∀ {pc : Nat} {lv : List (Nat × Value)} {M : am_Hp} {bc bs : Nat}, decode rL_law.2.1 pc = .ok (.ireturn, 1) → am_J X pc lv [.int (1 : Int32)] M bc bs) {bc bs : Nat} (R1090 : Nat → Int32 → Int32 → Nat → am_Hp → Nat → Nat → Prop) (k1090 : ∀ (x1 : Nat) (x3 : Int32) (x4 : Int32) (x8 : Nat) (M : am_Hp) (bc bs : Nat), R1090 x1 x3 x4 x8 M bc bs → am_J X 1090 [(1, .ref x1), (3, .int x3), (4, .int x4), (8, .ref x8)] [] M bc bs) {a1 : Nat} {a3 : Int32} {a4 : Int32} {a8 : Nat} {M : am_Hp} (h : hp_T M (a8) = 7 ∧ (1 ≤ bc ∧ (6 ≤ bs ∧ (am_CT G d rX6_stopCar [.ref a8, .int (2 : Int32)] M 1 6 (fun oz9 M1 => (∃ v2 : Int32, oz9 = .inl (some (.int v2)) ∧ (((v2 = 0) → (R1090 a1 a3 a4 a8 M1 (bc - 1) (bs - 6))) ∧ (¬ (v2 = 0) → (False)))) ∨ ((oz9 = .inr "java/lang/IllegalArgumentException" ∧ False)) ∨ ((oz9 = .inr "java/lang/IllegalStateException" ∧ False)) ∨ ((oz9 = .inr "java/lang/IndexOutOfBoundsException" ∧ False)) ∨ ((oz9 = .inr "java/lang/UnsupportedOperationException" ∧ False))))))) : am_J X 1081 [(1, .ref a1), (3, .int a3), (4, .int a4), (8, .ref a8)] [] M bc bs := by
  refine j_aload hX eL_law_1081 3 rfl ?_
  refine j_iconst (v := (2 : Int32)) hX eL_law_1083 (by decide) ?_
  obtain ⟨t3, h⟩ := h
  obtain ⟨b4, b5, h⟩ := h
  refine j_callV (a := a8) (q := (RX6, TX6, 9)) (r' := rX6_stopCar) (As := [.int (2 : Int32)]) (rest := []) (d1 := d) hX eL_law_1084 mm_LiftGroupLaw_54 rfl t3 (by decide) rfl h rfl (Nat.le_refl _) b4 b5 (Nat.le_of_ble_eq_true rfl) (fun vz9 Mz9 qz9 => ?_) (fun Ez9 Mz9 qz9 => ?_)
  · obtain ⟨M1, eMz9⟩ : ∃ M1, M1 = Mz9 := ⟨_, rfl⟩; subst eMz9
    rcases qz9 with ⟨v2, hxz9, h⟩ | ⟨hxz9, h⟩ | ⟨hxz9, h⟩ | ⟨hxz9, h⟩ | ⟨hxz9, h⟩ <;> cases hxz9
    refine j_if_ne hX 1129 eL_law_1087 (by decide) (fun c6 => ?_) (fun c6 => ?_)
    · replace h := h.2 c6
      refine j_iconst (v := (0 : Int32)) hX eL_law_1129 (by decide) ?_
      exact h.elim
    · replace h := h.1 c6
      exact j_sub [0, 1, 2, 3] rfl (k1090 _ _ _ _ _ _ _ h)
  · obtain ⟨M1, eMz9⟩ : ∃ M1, M1 = Mz9 := ⟨_, rfl⟩; subst eMz9
    rcases qz9 with ⟨v2, hxz9, h⟩ | ⟨hxz9, h⟩ | ⟨hxz9, h⟩ | ⟨hxz9, h⟩ | ⟨hxz9, h⟩ <;> cases hxz9
    · exact h.elim
    · exact h.elim
    · exact h.elim
    · exact h.elim
set_option maxHeartbeats 4000000 in
set_option maxRecDepth 20000 in
theorem vL_law_1090 {X : am_Cx} {G : am_Gx} {d : Nat} (hX : am_ok X rL_law G (d + 1)) (hret : ∀ {pc : Nat} {lv : List (Nat × Value)} {M : am_Hp} {bc bs : Nat}, decode rL_law.2.1 pc = .ok (.ireturn, 1) → am_J X pc lv [.int (1 : Int32)] M bc bs) {bc bs : Nat} (R1100 : Nat → Int32 → Int32 → Nat → am_Hp → Nat → Nat → Prop) (k1100 : ∀ (x1 : Nat) (x3 : Int32) (x4 : Int32) (x8 : Nat) (M : am_Hp) (bc bs : Nat), R1100 x1 x3 x4 x8 M bc bs → am_J X 1100 [(1, .ref x1), (3, .int x3), (4, .int x4), (8, .ref x8)] [] M bc bs) {a1 : Nat} {a3 : Int32} {a4 : Int32} {a8 : Nat} {M : am_Hp} (h : hp_T M (a8) = 7 ∧ (1 ≤ bc ∧ (6 ≤ bs ∧ (am_CT G d rX6_passengersIn [.ref a8, .int (2 : Int32)] M 1 6 (fun oz9 M1 => (∃ v2 : Int32, oz9 = .inl (some (.int v2)) ∧ (((v2 = (1 : Int32)) → (R1100 a1 a3 a4 a8 M1 (bc - 1) (bs - 6))) ∧ (¬ (v2 = (1 : Int32)) → (False)))) ∨ ((oz9 = .inr "java/lang/IndexOutOfBoundsException" ∧ False))))))) : am_J X 1090 [(1, .ref a1), (3, .int a3), (4, .int a4), (8, .ref a8)] [] M bc bs := by
  refine j_aload hX eL_law_1090 3 rfl ?_
  refine j_iconst (v := (2 : Int32)) hX eL_law_1092 (by decide) ?_
  obtain ⟨t3, h⟩ := h
  obtain ⟨b4, b5, h⟩ := h
  refine j_callV (a := a8) (q := (RX6, TX6, 9)) (r' := rX6_passengersIn) (As := [.int (2 : Int32)]) (rest := []) (d1 := d) hX eL_law_1093 mm_LiftGroupLaw_291 rfl t3 (by decide) rfl h rfl (Nat.le_refl _) b4 b5 (Nat.le_of_ble_eq_true rfl) (fun vz9 Mz9 qz9 => ?_) (fun Ez9 Mz9 qz9 => ?_)
  · obtain ⟨M1, eMz9⟩ : ∃ M1, M1 = Mz9 := ⟨_, rfl⟩; subst eMz9
    rcases qz9 with ⟨v2, hxz9, h⟩ | ⟨hxz9, h⟩ <;> cases hxz9
    refine j_iconst (v := (1 : Int32)) hX eL_law_1096 (by decide) ?_
    refine j_icmp_ne hX 1129 eL_law_1097 (by decide) (fun c6 => ?_) (fun c6 => ?_)
    · replace h := h.2 c6
      refine j_iconst (v := (0 : Int32)) hX eL_law_1129 (by decide) ?_
      exact h.elim
    · replace h := h.1 c6
      exact j_sub [0, 1, 2, 3] rfl (k1100 _ _ _ _ _ _ _ h)
  · obtain ⟨M1, eMz9⟩ : ∃ M1, M1 = Mz9 := ⟨_, rfl⟩; subst eMz9
    rcases qz9 with ⟨v2, hxz9, h⟩ | ⟨hxz9, h⟩ <;> cases hxz9
    exact h.elim
set_option maxHeartbeats 4000000 in
set_option maxRecDepth 20000 in
theorem vL_law_1100 {X : am_Cx} {G : am_Gx} {d : Nat} (hX : am_ok X rL_law G (d + 1)) (hret : ∀ {pc : Nat} {lv : List (Nat × Value)} {M : am_Hp} {bc bs : Nat}, decode rL_law.2.1 pc = .ok (.ireturn, 1) → am_J X pc lv [.int (1 : Int32)] M bc bs) {bc bs : Nat} (R1111 : Nat → Int32 → Int32 → Nat → am_Hp → Nat → Nat → Prop) (k1111 : ∀ (x1 : Nat) (x3 : Int32) (x4 : Int32) (x8 : Nat) (M : am_Hp) (bc bs : Nat), R1111 x1 x3 x4 x8 M bc bs → am_J X 1111 [(1, .ref x1), (3, .int x3), (4, .int x4), (8, .ref x8)] [] M bc bs) {a1 : Nat} {a3 : Int32} {a4 : Int32} {a8 : Nat} {M : am_Hp} (h : hp_T M (a8) = 7 ∧ (2 ≤ bc ∧ (12 ≤ bs ∧ (am_CT G d rX6_nextStop [.ref a8, .int (2 : Int32)] M 2 12 (fun oz9 M1 => (∃ v2 : Int32, oz9 = .inl (some (.int v2)) ∧ (((v2 = (9 : Int32)) → (R1111 a1 a3 a4 a8 M1 (bc - 2) (bs - 12))) ∧ (¬ (v2 = (9 : Int32)) → (False)))) ∨ ((oz9 = .inr "java/lang/IndexOutOfBoundsException" ∧ False)) ∨ ((oz9 = .inr "java/util/NoSuchElementException" ∧ False))))))) : am_J X 1100 [(1, .ref a1), (3, .int a3), (4, .int a4), (8, .ref a8)] [] M bc bs := by
  refine j_aload hX eL_law_1100 3 rfl ?_
  refine j_iconst (v := (2 : Int32)) hX eL_law_1102 (by decide) ?_
  obtain ⟨t3, h⟩ := h
  obtain ⟨b4, b5, h⟩ := h
  refine j_callV (a := a8) (q := (RX6, TX6, 9)) (r' := rX6_nextStop) (As := [.int (2 : Int32)]) (rest := []) (d1 := d) hX eL_law_1103 mm_LiftGroupLaw_252 rfl t3 (by decide) rfl h rfl (Nat.le_refl _) b4 b5 (Nat.le_of_ble_eq_true rfl) (fun vz9 Mz9 qz9 => ?_) (fun Ez9 Mz9 qz9 => ?_)
  · obtain ⟨M1, eMz9⟩ : ∃ M1, M1 = Mz9 := ⟨_, rfl⟩; subst eMz9
    rcases qz9 with ⟨v2, hxz9, h⟩ | ⟨hxz9, h⟩ | ⟨hxz9, h⟩ <;> cases hxz9
    refine j_bipush (v := (9 : Int32)) hX eL_law_1106 (by decide) ?_
    refine j_icmp_ne hX 1129 eL_law_1108 (by decide) (fun c6 => ?_) (fun c6 => ?_)
    · replace h := h.2 c6
      refine j_iconst (v := (0 : Int32)) hX eL_law_1129 (by decide) ?_
      exact h.elim
    · replace h := h.1 c6
      exact j_sub [0, 1, 2, 3] rfl (k1111 _ _ _ _ _ _ _ h)
  · obtain ⟨M1, eMz9⟩ : ∃ M1, M1 = Mz9 := ⟨_, rfl⟩; subst eMz9
    rcases qz9 with ⟨v2, hxz9, h⟩ | ⟨hxz9, h⟩ | ⟨hxz9, h⟩ <;> cases hxz9
    · exact h.elim
    · exact h.elim
set_option maxHeartbeats 4000000 in
set_option maxRecDepth 20000 in
theorem vL_law_1111 {X : am_Cx} {G : am_Gx} {d : Nat} (hX : am_ok X rL_law G (d + 1)) (hret : ∀ {pc : Nat} {lv : List (Nat × Value)} {M : am_Hp} {bc bs : Nat}, decode rL_law.2.1 pc = .ok (.ireturn, 1) → am_J X pc lv [.int (1 : Int32)] M bc bs) {bc bs : Nat} (R1121 : Nat → Int32 → Int32 → Nat → am_Hp → Nat → Nat → Prop) (k1121 : ∀ (x1 : Nat) (x3 : Int32) (x4 : Int32) (x8 : Nat) (M : am_Hp) (bc bs : Nat), R1121 x1 x3 x4 x8 M bc bs → am_J X 1121 [(1, .ref x1), (3, .int x3), (4, .int x4), (8, .ref x8)] [] M bc bs) {a1 : Nat} {a3 : Int32} {a4 : Int32} {a8 : Nat} {M : am_Hp} (h : hp_T M (a8) = 7 ∧ (1 ≤ bc ∧ (6 ≤ bs ∧ (am_CT G d rX6_startCar [.ref a8, .int (0 : Int32)] M 1 6 (fun oz9 M1 => (∃ v2 : Int32, oz9 = .inl (some (.int v2)) ∧ (((v2 = (2 : Int32)) → (R1121 a1 a3 a4 a8 M1 (bc - 1) (bs - 6))) ∧ (¬ (v2 = (2 : Int32)) → (False)))) ∨ ((oz9 = .inr "java/lang/IllegalArgumentException" ∧ False)) ∨ ((oz9 = .inr "java/lang/IllegalStateException" ∧ False)) ∨ ((oz9 = .inr "java/lang/IndexOutOfBoundsException" ∧ False)) ∨ ((oz9 = .inr "java/lang/UnsupportedOperationException" ∧ False))))))) : am_J X 1111 [(1, .ref a1), (3, .int a3), (4, .int a4), (8, .ref a8)] [] M bc bs := by
  refine j_aload hX eL_law_1111 3 rfl ?_
  refine j_iconst (v := (0 : Int32)) hX eL_law_1113 (by decide) ?_
  obtain ⟨t3, h⟩ := h
  obtain ⟨b4, b5, h⟩ := h
  refine j_callV (a := a8) (q := (RX6, TX6, 9)) (r' := rX6_startCar) (As := [.int (0 : Int32)]) (rest := []) (d1 := d) hX eL_law_1114 mm_LiftGroupLaw_57 rfl t3 (by decide) rfl h rfl (Nat.le_refl _) b4 b5 (Nat.le_of_ble_eq_true rfl) (fun vz9 Mz9 qz9 => ?_) (fun Ez9 Mz9 qz9 => ?_)
  · obtain ⟨M1, eMz9⟩ : ∃ M1, M1 = Mz9 := ⟨_, rfl⟩; subst eMz9
    rcases qz9 with ⟨v2, hxz9, h⟩ | ⟨hxz9, h⟩ | ⟨hxz9, h⟩ | ⟨hxz9, h⟩ | ⟨hxz9, h⟩ <;> cases hxz9
    refine j_iconst (v := (2 : Int32)) hX eL_law_1117 (by decide) ?_
    refine j_icmp_ne hX 1129 eL_law_1118 (by decide) (fun c6 => ?_) (fun c6 => ?_)
    · replace h := h.2 c6
      refine j_iconst (v := (0 : Int32)) hX eL_law_1129 (by decide) ?_
      exact h.elim
    · replace h := h.1 c6
      exact j_sub [0, 1, 2, 3] rfl (k1121 _ _ _ _ _ _ _ h)
  · obtain ⟨M1, eMz9⟩ : ∃ M1, M1 = Mz9 := ⟨_, rfl⟩; subst eMz9
    rcases qz9 with ⟨v2, hxz9, h⟩ | ⟨hxz9, h⟩ | ⟨hxz9, h⟩ | ⟨hxz9, h⟩ | ⟨hxz9, h⟩ <;> cases hxz9
    · exact h.elim
    · exact h.elim
    · exact h.elim
    · exact h.elim
set_option maxHeartbeats 4000000 in
set_option maxRecDepth 20000 in
theorem vL_law_1121 {X : am_Cx} {G : am_Gx} {d : Nat} (hX : am_ok X rL_law G (d + 1)) (hret : ∀ {pc : Nat} {lv : List (Nat × Value)} {M : am_Hp} {bc bs : Nat}, decode rL_law.2.1 pc = .ok (.ireturn, 1) → am_J X pc lv [.int (1 : Int32)] M bc bs) {bc bs : Nat} (R1131 : Nat → Int32 → Int32 → am_Hp → Nat → Nat → Prop) (k1131 : ∀ (x1 : Nat) (x3 : Int32) (x4 : Int32) (M : am_Hp) (bc bs : Nat), R1131 x1 x3 x4 M bc bs → am_J X 1131 [(1, .ref x1), (3, .int x3), (4, .int x4)] [] M bc bs) {a1 : Nat} {a3 : Int32} {a4 : Int32} {a8 : Nat} {M : am_Hp} (h : hp_T M (a8) = 7 ∧ (am_CT G d rX6_isConsistent [.ref a8] M 0 0 (fun oz9 M1 => ∃ v2 : Int32, oz9 = .inl (some (.int v2)) ∧ (((v2 = 0) → (False)) ∧ (¬ (v2 = 0) → (R1131 a1 a3 a4 M1 bc bs)))))) : am_J X 1121 [(1, .ref a1), (3, .int a3), (4, .int a4), (8, .ref a8)] [] M bc bs := by
  refine j_aload hX eL_law_1121 3 rfl ?_
  obtain ⟨t3, h⟩ := h
  refine j_callV (a := a8) (q := (RX6, TX6, 9)) (r' := rX6_isConsistent) (As := []) (rest := []) (d1 := d) hX eL_law_1123 mm_LiftGroupLaw_234 rfl t3 (by decide) rfl h rfl (Nat.le_refl _) (Nat.zero_le _) (Nat.zero_le _) (Nat.le_of_ble_eq_true rfl) (fun vz9 Mz9 qz9 => ?_) (fun Ez9 Mz9 qz9 => ?_)
  · obtain ⟨M1, eMz9⟩ : ∃ M1, M1 = Mz9 := ⟨_, rfl⟩; subst eMz9
    obtain ⟨v2, hxz9, h⟩ := qz9
    cases hxz9
    refine j_if_ne hX 1131 eL_law_1126 (by decide) (fun c4 => ?_) (fun c4 => ?_)
    · replace h := h.2 c4
      exact j_sub [0, 1, 2] rfl (k1131 _ _ _ _ _ _ h)
    · replace h := h.1 c4
      refine j_iconst (v := (0 : Int32)) hX eL_law_1129 (by decide) ?_
      exact h.elim
  · obtain ⟨v2, hxz9, h⟩ := qz9
    cases hxz9
set_option maxHeartbeats 4000000 in
set_option maxRecDepth 20000 in
theorem vL_law_1131 {X : am_Cx} {G : am_Gx} {d : Nat} (hX : am_ok X rL_law G (d + 1)) (hret : ∀ {pc : Nat} {lv : List (Nat × Value)} {M : am_Hp} {bc bs : Nat}, decode rL_law.2.1 pc = .ok (.ireturn, 1) → am_J X pc lv [.int (1 : Int32)] M bc bs) {bc bs : Nat} (R1139 : Nat → Int32 → am_Hp → Nat → Nat → Prop) (k1139 : ∀ (x1 : Nat) (x4 : Int32) (M : am_Hp) (bc bs : Nat), R1139 x1 x4 M bc bs → am_J X 1139 [(1, .ref x1), (4, .int x4)] [] M bc bs) {a1 : Nat} {a3 : Int32} {a4 : Int32} {M : am_Hp} (h : hp_T M (a1) = 7 ∧ (1 ≤ bc ∧ (6 ≤ bs ∧ (am_CT G d rX6_restore [.ref a1] M 1 6 (fun oz9 M1 => (∃ v2 : Int32, oz9 = .inl (some (.int v2)) ∧ (((v2 = a3) → (R1139 a1 a4 M1 (bc - 1) (bs - 6))) ∧ (¬ (v2 = a3) → (False)))) ∨ ((oz9 = .inr "java/lang/IllegalStateException" ∧ False))))))) : am_J X 1131 [(1, .ref a1), (3, .int a3), (4, .int a4)] [] M bc bs := by
  refine j_aload_n hX eL_law_1131 0 rfl ?_
  obtain ⟨t3, h⟩ := h
  obtain ⟨b4, b5, h⟩ := h
  refine j_callV (a := a1) (q := (RX6, TX6, 9)) (r' := rX6_restore) (As := []) (rest := []) (d1 := d) hX eL_law_1132 mm_LiftGroupLaw_294 rfl t3 (by decide) rfl h rfl (Nat.le_refl _) b4 b5 (Nat.le_of_ble_eq_true rfl) (fun vz9 Mz9 qz9 => ?_) (fun Ez9 Mz9 qz9 => ?_)
  · obtain ⟨M1, eMz9⟩ : ∃ M1, M1 = Mz9 := ⟨_, rfl⟩; subst eMz9
    rcases qz9 with ⟨v2, hxz9, h⟩ | ⟨hxz9, h⟩ <;> cases hxz9
    refine j_iload_n hX eL_law_1135 1 rfl ?_
    refine j_icmp_ne hX 1152 eL_law_1136 (by decide) (fun c6 => ?_) (fun c6 => ?_)
    · replace h := h.2 c6
      refine j_iconst (v := (0 : Int32)) hX eL_law_1152 (by decide) ?_
      exact h.elim
    · replace h := h.1 c6
      exact j_sub [0, 2] rfl (k1139 _ _ _ _ _ h)
  · obtain ⟨M1, eMz9⟩ : ∃ M1, M1 = Mz9 := ⟨_, rfl⟩; subst eMz9
    rcases qz9 with ⟨v2, hxz9, h⟩ | ⟨hxz9, h⟩ <;> cases hxz9
    exact h.elim
set_option maxHeartbeats 4000000 in
set_option maxRecDepth 20000 in
theorem vL_law_1139 {X : am_Cx} {G : am_Gx} {d : Nat} (hX : am_ok X rL_law G (d + 1)) (hret : ∀ {pc : Nat} {lv : List (Nat × Value)} {M : am_Hp} {bc bs : Nat}, decode rL_law.2.1 pc = .ok (.ireturn, 1) → am_J X pc lv [.int (1 : Int32)] M bc bs) {bc bs : Nat}  {a1 : Nat} {a4 : Int32} {M : am_Hp} (h : 170 ≤ bc ∧ (1200 ≤ bs ∧ (am_CT G d rL_state [.ref a1] M 170 1200 (fun oz9 M1 => (∃ v2 : Int32, oz9 = .inl (some (.int v2)) ∧ (((v2 = a4) → (True)) ∧ (¬ (v2 = a4) → (False)))) ∨ ((oz9 = .inr "java/lang/IndexOutOfBoundsException" ∧ False)))))) : am_J X 1139 [(1, .ref a1), (4, .int a4)] [] M bc bs := by
  refine j_aload_n hX eL_law_1139 0 rfl ?_
  obtain ⟨b3, b4, h⟩ := h
  refine j_callS (r' := rL_state) (As := [.ref a1]) (rest := []) (d1 := d) hX eL_law_1140 mm_LiftGroupLaw_182 rfl rfl h rfl (Nat.le_refl _) b3 b4 (Nat.le_of_ble_eq_true rfl) (fun vz9 Mz9 qz9 => ?_) (fun Ez9 Mz9 qz9 => ?_)
  · obtain ⟨M1, eMz9⟩ : ∃ M1, M1 = Mz9 := ⟨_, rfl⟩; subst eMz9
    rcases qz9 with ⟨v2, hxz9, h⟩ | ⟨hxz9, h⟩ <;> cases hxz9
    refine j_iload hX eL_law_1143 1 rfl ?_
    refine j_icmp_ne hX 1152 eL_law_1145 (by decide) (fun c5 => ?_) (fun c5 => ?_)
    · replace h := h.2 c5
      refine j_iconst (v := (0 : Int32)) hX eL_law_1152 (by decide) ?_
      exact h.elim
    · replace h := h.1 c5
      refine j_iconst (v := (1 : Int32)) hX eL_law_1148 (by decide) ?_
      refine j_goto hX 1153 eL_law_1149 (by decide) ?_
      exact hret eL_law_1153
  · obtain ⟨M1, eMz9⟩ : ∃ M1, M1 = Mz9 := ⟨_, rfl⟩; subst eMz9
    rcases qz9 with ⟨v2, hxz9, h⟩ | ⟨hxz9, h⟩ <;> cases hxz9
    exact h.elim
