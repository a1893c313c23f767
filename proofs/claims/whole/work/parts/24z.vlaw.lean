set_option maxHeartbeats 4000000 in
set_option maxRecDepth 20000 in
theorem vL_law_0 {X : am_Cx} {G : am_Gx} {d : Nat} (hX : am_ok X rL_law G (d + 1)) (hret : ∀ {pc : Nat} {lv : List (Nat × Value)} {M : am_Hp} {bc bs : Nat}, decode rL_law.2.1 pc = .ok (.ireturn, 1) → am_J X pc lv [.int (1 : Int32)] M bc bs) {bc bs : Nat} (R28 : Nat → Nat → Nat → Nat → Nat → Int32 → am_Hp → Nat → Nat → Prop) (k28 : ∀ (x0 : Nat) (x1 : Nat) (x2 : Nat) (x3 : Nat) (x4 : Nat) (x5 : Int32) (M : am_Hp) (bc bs : Nat), R28 x0 x1 x2 x3 x4 x5 M bc bs → am_J X 28 [(0, .ref x0), (1, .ref x1), (2, .ref x2), (3, .ref x3), (4, .ref x4), (5, .int x5)] [] M bc bs) {a0 : Nat} {M : am_Hp} (h : 1 ≤ bc ∧ (9 ≤ bs ∧ (∀ p1 : Nat, hp_T M p1 = 0 → p1 ≠ 0 → (∀ M7 : am_Hp, M7 = hp_o M p1 7 → (264 ≤ (bc - 1) ∧ (1969 ≤ (bs - 9) ∧ (am_CT G d rX6_init [.ref p1] M7 264 1969 (fun oz9 M9 => oz9 = .inl none ∧ (1 ≤ ((bc - 1) - 264) ∧ (17 ≤ ((bs - 9) - 1969) ∧ (∀ p13 : Nat, hp_T M9 p13 = 0 → p13 ≠ 0 → (∀ M19 : am_Hp, M19 = hp_o M9 p13 8 → (8 ≤ (((bc - 1) - 264) - 1) ∧ (2052 ≤ (((bs - 9) - 1969) - 17) ∧ (am_CT G d rX7_init [.ref p13] M19 8 2052 (fun oz9 M21 => oz9 = .inl none ∧ (¬ (1 : Int32) < 0 ∧ (((1 : Int32)).toNatClampNeg * componentBytes .long ≤ 536870912 ∧ (1 ≤ ((((bc - 1) - 264) - 1) - 8) ∧ (((1 : Int32)).toNatClampNeg ≤ ((((bs - 9) - 1969) - 17) - 2052) ∧ (∀ p29 : Nat, hp_T M21 p29 = 0 → p29 ≠ 0 → (∀ M32 : am_Hp, M32 = hp_a M21 p29 23 ((1 : Int32)).toNatClampNeg → (¬ (1 : Int32) < 0 ∧ (((1 : Int32)).toNatClampNeg * componentBytes .double ≤ 536870912 ∧ (1 ≤ (((((bc - 1) - 264) - 1) - 8) - 1) ∧ (((1 : Int32)).toNatClampNeg ≤ (((((bs - 9) - 1969) - 17) - 2052) - ((1 : Int32)).toNatClampNeg) ∧ (∀ p38 : Nat, hp_T M32 p38 = 0 → p38 ≠ 0 → (∀ M41 : am_Hp, M41 = hp_a M32 p38 24 ((1 : Int32)).toNatClampNeg → (R28 a0 p1 p13 p29 p38 (0 : Int32) M41 ((((((bc - 1) - 264) - 1) - 8) - 1) - 1) ((((((bs - 9) - 1969) - 17) - 2052) - ((1 : Int32)).toNatClampNeg) - ((1 : Int32)).toNatClampNeg)))))))))))))))))))))))))))))) : am_J X 0 [(0, .ref a0)] [] M bc bs := by
  obtain ⟨b5, b6, h⟩ := h
  refine j_new (q := (RX6, TX6, 9)) hX eL_law_0 rfl (by decide) tw_32 tw_33 tw_1 dv_6 b5 b6 (fun p1 o3 z4 => ?_)
  replace h := h p1 o3 z4
  refine j_nmM (fun M7 eM7 => ?_)
  replace h := h M7 eM7
  have t8 : hp_T M7 (p1) = 7 := by rw [eM7]; exact hp_Tn
  refine j_dup hX eL_law_3 rfl ?_
  obtain ⟨b11, b12, h⟩ := h
  refine j_callI (a := p1) (r' := rX6_init) (As := []) (rest := [.ref p1]) (d1 := d) hX eL_law_4 mm_LiftGroupLaw_175 rfl h rfl (Nat.le_refl _) b11 b12 (Nat.le_of_ble_eq_true rfl) (fun vz9 Mz9 qz9 => ?_) (fun Ez9 Mz9 qz9 => ?_)
  · obtain ⟨M9, eMz9⟩ : ∃ M9, M9 = Mz9 := ⟨_, rfl⟩; subst eMz9
    obtain ⟨hxz9, h⟩ := qz9
    cases hxz9
    refine j_astore_n (lv' := [(1, .ref p1), (0, .ref a0)]) hX eL_law_7 rfl (by decide) rfl ?_
    obtain ⟨b17, b18, h⟩ := h
    refine j_new (q := (RX7, TX7, 17)) hX eL_law_8 rfl (by decide) tw_1513 tw_1514 tw_12 dv_7 b17 b18 (fun p13 o15 z16 => ?_)
    replace h := h p13 o15 z16
    refine j_nmM (fun M19 eM19 => ?_)
    replace h := h M19 eM19
    have t20 : hp_T M19 (p13) = 8 := by rw [eM19]; exact hp_Tn
    refine j_dup hX eL_law_11 rfl ?_
    obtain ⟨b23, b24, h⟩ := h
    refine j_callI (a := p13) (r' := rX7_init) (As := []) (rest := [.ref p13]) (d1 := d) hX eL_law_12 mm_LiftGroupLaw_178 rfl h rfl (Nat.le_refl _) b23 b24 (Nat.le_of_ble_eq_true rfl) (fun vz9 Mz9 qz9 => ?_) (fun Ez9 Mz9 qz9 => ?_)
    · obtain ⟨M21, eMz9⟩ : ∃ M21, M21 = Mz9 := ⟨_, rfl⟩; subst eMz9
      obtain ⟨hxz9, h⟩ := qz9
      cases hxz9
      refine j_astore_n (lv' := [(2, .ref p13), (1, .ref p1), (0, .ref a0)]) hX eL_law_15 rfl (by decide) rfl ?_
      refine j_iconst (v := (1 : Int32)) hX eL_law_16 (by decide) ?_
      obtain ⟨n25, n26, b27, b28, h⟩ := h
      refine j_newa_l hX eL_law_17 tw_2029 n25 n26 b27 b28 (fun p29 o30 z31 => ?_)
      replace h := h p29 o30 z31
      refine j_nmM (fun M32 eM32 => ?_)
      replace h := h M32 eM32
      have t33 : hp_T M32 (p29) = 23 := by rw [eM32]; exact hp_Tna
      refine j_astore_n (lv' := [(3, .ref p29), (2, .ref p13), (1, .ref p1), (0, .ref a0)]) hX eL_law_19 rfl (by decide) rfl ?_
      refine j_iconst (v := (1 : Int32)) hX eL_law_20 (by decide) ?_
      obtain ⟨n34, n35, b36, b37, h⟩ := h
      refine j_newa_d hX eL_law_21 tw_2030 n34 n35 b36 b37 (fun p38 o39 z40 => ?_)
      replace h := h p38 o39 z40
      refine j_nmM (fun M41 eM41 => ?_)
      replace h := h M41 eM41
      have t42 : hp_T M41 (p29) = 23 := by rw [eM41]; exact (hp_Ta o39 t33 (by decide)).trans rfl
      have t43 : hp_T M41 (p38) = 24 := by rw [eM41]; exact hp_Tna
      refine j_astore (lv' := [(4, .ref p38), (3, .ref p29), (2, .ref p13), (1, .ref p1), (0, .ref a0)]) hX eL_law_23 (by decide) rfl ?_
      refine j_iconst (v := (0 : Int32)) hX eL_law_25 (by decide) ?_
      refine j_istore (lv' := [(5, .int (0 : Int32)), (4, .ref p38), (3, .ref p29), (2, .ref p13), (1, .ref p1), (0, .ref a0)]) hX eL_law_26 (by decide) rfl ?_
      exact j_sub [5, 4, 3, 2, 1, 0] rfl (k28 _ _ _ _ _ _ _ _ _ h)
    · obtain ⟨hxz9, h⟩ := qz9
      cases hxz9
  · obtain ⟨hxz9, h⟩ := qz9
    cases hxz9
set_option maxHeartbeats 4000000 in
set_option maxRecDepth 20000 in
theorem vL_law_28 {X : am_Cx} {G : am_Gx} {d : Nat} (hX : am_ok X rL_law G (d + 1)) (hret : ∀ {pc : Nat} {lv : List (Nat × Value)} {M : am_Hp} {bc bs : Nat}, decode rL_law.2.1 pc = .ok (.ireturn, 1) → am_J X pc lv [.int (1 : Int32)] M bc bs) {bc bs : Nat} (R296 : Nat → Nat → Nat → Nat → Nat → Int32 → am_Hp → Nat → Nat → Prop) (k296 : ∀ (x0 : Nat) (x1 : Nat) (x2 : Nat) (x3 : Nat) (x4 : Nat) (x5 : Int32) (M : am_Hp) (bc bs : Nat), R296 x0 x1 x2 x3 x4 x5 M bc bs → am_J X 296 [(0, .ref x0), (1, .ref x1), (2, .ref x2), (3, .ref x3), (4, .ref x4), (5, .int x5)] [] M bc bs) (R376 : Nat → Nat → Nat → Nat → Nat → Int32 → am_Hp → Nat → Nat → Prop) (k376 : ∀ (x0 : Nat) (x1 : Nat) (x2 : Nat) (x3 : Nat) (x4 : Nat) (x5 : Int32) (M : am_Hp) (bc bs : Nat), R376 x0 x1 x2 x3 x4 x5 M bc bs → am_J X 376 [(0, .ref x0), (1, .ref x1), (2, .ref x2), (3, .ref x3), (4, .ref x4), (5, .int x5)] [] M bc bs) (R432 : Nat → Nat → Nat → Nat → Nat → Int32 → am_Hp → Nat → Nat → Prop) (k432 : ∀ (x0 : Nat) (x1 : Nat) (x2 : Nat) (x3 : Nat) (x4 : Nat) (x5 : Int32) (M : am_Hp) (bc bs : Nat), R432 x0 x1 x2 x3 x4 x5 M bc bs → am_J X 432 [(0, .ref x0), (1, .ref x1), (2, .ref x2), (3, .ref x3), (4, .ref x4), (5, .int x5)] [] M bc bs) (R500 : Nat → Nat → Nat → Nat → Nat → Int32 → am_Hp → Nat → Nat → Prop) (k500 : ∀ (x0 : Nat) (x1 : Nat) (x2 : Nat) (x3 : Nat) (x4 : Nat) (x5 : Int32) (M : am_Hp) (bc bs : Nat), R500 x0 x1 x2 x3 x4 x5 M bc bs → am_J X 500 [(0, .ref x0), (1, .ref x1), (2, .ref x2), (3, .ref x3), (4, .ref x4), (5, .int x5)] [] M bc bs) (R556 : Nat → Nat → Nat → Nat → Nat → Int32 → am_Hp → Nat → Nat → Prop) (k556 : ∀ (x0 : Nat) (x1 : Nat) (x2 : Nat) (x3 : Nat) (x4 : Nat) (x5 : Int32) (M : am_Hp) (bc bs : Nat), R556 x0 x1 x2 x3 x4 x5 M bc bs → am_J X 556 [(0, .ref x0), (1, .ref x1), (2, .ref x2), (3, .ref x3), (4, .ref x4), (5, .int x5)] [] M bc bs) (R612 : Nat → Nat → Nat → Nat → Nat → Int32 → am_Hp → Nat → Nat → Prop) (k612 : ∀ (x0 : Nat) (x1 : Nat) (x2 : Nat) (x3 : Nat) (x4 : Nat) (x5 : Int32) (M : am_Hp) (bc bs : Nat), R612 x0 x1 x2 x3 x4 x5 M bc bs → am_J X 612 [(0, .ref x0), (1, .ref x1), (2, .ref x2), (3, .ref x3), (4, .ref x4), (5, .int x5)] [] M bc bs) (R680 : Nat → Nat → Nat → Nat → Nat → Int32 → am_Hp → Nat → Nat → Prop) (k680 : ∀ (x0 : Nat) (x1 : Nat) (x2 : Nat) (x3 : Nat) (x4 : Nat) (x5 : Int32) (M : am_Hp) (bc bs : Nat), R680 x0 x1 x2 x3 x4 x5 M bc bs → am_J X 680 [(0, .ref x0), (1, .ref x1), (2, .ref x2), (3, .ref x3), (4, .ref x4), (5, .int x5)] [] M bc bs) (R736 : Nat → Nat → Nat → Nat → Nat → Int32 → am_Hp → Nat → Nat → Prop) (k736 : ∀ (x0 : Nat) (x1 : Nat) (x2 : Nat) (x3 : Nat) (x4 : Nat) (x5 : Int32) (M : am_Hp) (bc bs : Nat), R736 x0 x1 x2 x3 x4 x5 M bc bs → am_J X 736 [(0, .ref x0), (1, .ref x1), (2, .ref x2), (3, .ref x3), (4, .ref x4), (5, .int x5)] [] M bc bs) (R749 : Nat → Nat → Nat → Nat → Nat → Int32 → am_Hp → Nat → Nat → Prop) (k749 : ∀ (x0 : Nat) (x1 : Nat) (x2 : Nat) (x3 : Nat) (x4 : Nat) (x5 : Int32) (M : am_Hp) (bc bs : Nat), R749 x0 x1 x2 x3 x4 x5 M bc bs → am_J X 749 [(0, .ref x0), (1, .ref x1), (2, .ref x2), (3, .ref x3), (4, .ref x4), (5, .int x5)] [] M bc bs) (R805 : Nat → Nat → Nat → Nat → Nat → Int32 → am_Hp → Nat → Nat → Prop) (k805 : ∀ (x0 : Nat) (x1 : Nat) (x2 : Nat) (x3 : Nat) (x4 : Nat) (x5 : Int32) (M : am_Hp) (bc bs : Nat), R805 x0 x1 x2 x3 x4 x5 M bc bs → am_J X 805 [(0, .ref x0), (1, .ref x1), (2, .ref x2), (3, .ref x3), (4, .ref x4), (5, .int x5)] [] M bc bs) (R861 : Nat → Nat → Nat → Nat → Nat → Int32 → am_Hp → Nat → Nat → Prop) (k861 : ∀ (x0 : Nat) (x1 : Nat) (x2 : Nat) (x3 : Nat) (x4 : Nat) (x5 : Int32) (M : am_Hp) (bc bs : Nat), R861 x0 x1 x2 x3 x4 x5 M bc bs → am_J X 861 [(0, .ref x0), (1, .ref x1), (2, .ref x2), (3, .ref x3), (4, .ref x4), (5, .int x5)] [] M bc bs) (R917 : Nat → Nat → Nat → Nat → Nat → Int32 → am_Hp → Nat → Nat → Prop) (k917 : ∀ (x0 : Nat) (x1 : Nat) (x2 : Nat) (x3 : Nat) (x4 : Nat) (x5 : Int32) (M : am_Hp) (bc bs : Nat), R917 x0 x1 x2 x3 x4 x5 M bc bs → am_J X 917 [(0, .ref x0), (1, .ref x1), (2, .ref x2), (3, .ref x3), (4, .ref x4), (5, .int x5)] [] M bc bs) (R973 : Nat → Nat → Nat → Nat → Nat → Int32 → am_Hp → Nat → Nat → Prop) (k973 : ∀ (x0 : Nat) (x1 : Nat) (x2 : Nat) (x3 : Nat) (x4 : Nat) (x5 : Int32) (M : am_Hp) (bc bs : Nat), R973 x0 x1 x2 x3 x4 x5 M bc bs → am_J X 973 [(0, .ref x0), (1, .ref x1), (2, .ref x2), (3, .ref x3), (4, .ref x4), (5, .int x5)] [] M bc bs) (R1029 : Nat → Nat → Nat → Nat → Nat → Int32 → am_Hp → Nat → Nat → Prop) (k1029 : ∀ (x0 : Nat) (x1 : Nat) (x2 : Nat) (x3 : Nat) (x4 : Nat) (x5 : Int32) (M : am_Hp) (bc bs : Nat), R1029 x0 x1 x2 x3 x4 x5 M bc bs → am_J X 1029 [(0, .ref x0), (1, .ref x1), (2, .ref x2), (3, .ref x3), (4, .ref x4), (5, .int x5)] [] M bc bs) (R1085 : Nat → Nat → Nat → Nat → Nat → Int32 → am_Hp → Nat → Nat → Prop) (k1085 : ∀ (x0 : Nat) (x1 : Nat) (x2 : Nat) (x3 : Nat) (x4 : Nat) (x5 : Int32) (M : am_Hp) (bc bs : Nat), R1085 x0 x1 x2 x3 x4 x5 M bc bs → am_J X 1085 [(0, .ref x0), (1, .ref x1), (2, .ref x2), (3, .ref x3), (4, .ref x4), (5, .int x5)] [] M bc bs) (R1141 : Nat → Nat → Nat → Nat → Nat → Int32 → am_Hp → Nat → Nat → Prop) (k1141 : ∀ (x0 : Nat) (x1 : Nat) (x2 : Nat) (x3 : Nat) (x4 : Nat) (x5 : Int32) (M : am_Hp) (bc bs : Nat), R1141 x0 x1 x2 x3 x4 x5 M bc bs → am_J X 1141 [(0, .ref x0), (1, .ref x1), (2, .ref x2), (3, .ref x3), (4, .ref x4), (5, .int x5)] [] M bc bs) (R1204 : Nat → Nat → Nat → Nat → Nat → Int32 → am_Hp → Nat → Nat → Prop) (k1204 : ∀ (x0 : Nat) (x1 : Nat) (x2 : Nat) (x3 : Nat) (x4 : Nat) (x5 : Int32) (M : am_Hp) (bc bs : Nat), R1204 x0 x1 x2 x3 x4 x5 M bc bs → am_J X 1204 [(0, .ref x0), (1, .ref x1), (2, .ref x2), (3, .ref x3), (4, .ref x4), (5, .int x5)] [] M bc bs) (R1260 : Nat → Nat → Nat → Nat → Nat → Int32 → am_Hp → Nat → Nat → Prop) (k1260 : ∀ (x0 : Nat) (x1 : Nat) (x2 : Nat) (x3 : Nat) (x4 : Nat) (x5 : Int32) (M : am_Hp) (bc bs : Nat), R1260 x0 x1 x2 x3 x4 x5 M bc bs → am_J X 1260 [(0, .ref x0), (1, .ref x1), (2, .ref x2), (3, .ref x3), (4, .ref x4), (5, .int x5)] [] M bc bs) (R1335 : Nat → Nat → Nat → Nat → Nat → Int32 → am_Hp → Nat → Nat → Prop) (k1335 : ∀ (x0 : Nat) (x1 : Nat) (x2 : Nat) (x3 : Nat) (x4 : Nat) (x5 : Int32) (M : am_Hp) (bc bs : Nat), R1335 x0 x1 x2 x3 x4 x5 M bc bs → am_J X 1335 [(0, .ref x0), (1, .ref x1), (2, .ref x2), (3, .ref x3), (4, .ref x4), (5, .int x5)] [] M bc bs) (R1391 : Nat → Nat → Nat → Nat → Nat → Int32 → am_Hp → Nat → Nat → Prop) (k1391 : ∀ (x0 : Nat) (x1 : Nat) (x2 : Nat) (x3 : Nat) (x4 : Nat) (x5 : Int32) (M : am_Hp) (bc bs : Nat), R1391 x0 x1 x2 x3 x4 x5 M bc bs → am_J X 1391 [(0, .ref x0), (1, .ref x1), (2, .ref x2), (3, .ref x3), (4, .ref x4), (5, .int x5)] [] M bc bs) (R1447 : Nat → Nat → Nat → Nat → Nat → Int32 → am_Hp → Nat → Nat → Prop) (k1447 : ∀ (x0 : Nat) (x1 : Nat) (x2 : Nat) (x3 : Nat) (x4 : Nat) (x5 : Int32) (M : am_Hp) (bc bs : Nat), R1447 x0 x1 x2 x3 x4 x5 M bc bs → am_J X 1447 [(0, .ref x0), (1, .ref x1), (2, .ref x2), (3, .ref x3), (4, .ref x4), (5, .int x5)] [] M bc bs) (R1460 : Nat → Nat → Nat → Nat → Nat → Int32 → am_Hp → Nat → Nat → Prop) (k1460 : ∀ (x0 : Nat) (x1 : Nat) (x2 : Nat) (x3 : Nat) (x4 : Nat) (x5 : Int32) (M : am_Hp) (bc bs : Nat), R1460 x0 x1 x2 x3 x4 x5 M bc bs → am_J X 1460 [(0, .ref x0), (1, .ref x1), (2, .ref x2), (3, .ref x3), (4, .ref x4), (5, .int x5)] [] M bc bs) (R1516 : Nat → Nat → Nat → Nat → Nat → Int32 → am_Hp → Nat → Nat → Prop) (k1516 : ∀ (x0 : Nat) (x1 : Nat) (x2 : Nat) (x3 : Nat) (x4 : Nat) (x5 : Int32) (M : am_Hp) (bc bs : Nat), R1516 x0 x1 x2 x3 x4 x5 M bc bs → am_J X 1516 [(0, .ref x0), (1, .ref x1), (2, .ref x2), (3, .ref x3), (4, .ref x4), (5, .int x5)] [] M bc bs) (R1572 : Nat → Nat → Nat → Nat → Nat → Int32 → am_Hp → Nat → Nat → Prop) (k1572 : ∀ (x0 : Nat) (x1 : Nat) (x2 : Nat) (x3 : Nat) (x4 : Nat) (x5 : Int32) (M : am_Hp) (bc bs : Nat), R1572 x0 x1 x2 x3 x4 x5 M bc bs → am_J X 1572 [(0, .ref x0), (1, .ref x1), (2, .ref x2), (3, .ref x3), (4, .ref x4), (5, .int x5)] [] M bc bs) (R1628 : Nat → Nat → Nat → Nat → Nat → Int32 → am_Hp → Nat → Nat → Prop) (k1628 : ∀ (x0 : Nat) (x1 : Nat) (x2 : Nat) (x3 : Nat) (x4 : Nat) (x5 : Int32) (M : am_Hp) (bc bs : Nat), R1628 x0 x1 x2 x3 x4 x5 M bc bs → am_J X 1628 [(0, .ref x0), (1, .ref x1), (2, .ref x2), (3, .ref x3), (4, .ref x4), (5, .int x5)] [] M bc bs) (R1684 : Nat → Nat → Nat → Nat → Nat → Int32 → am_Hp → Nat → Nat → Prop) (k1684 : ∀ (x0 : Nat) (x1 : Nat) (x2 : Nat) (x3 : Nat) (x4 : Nat) (x5 : Int32) (M : am_Hp) (bc bs : Nat), R1684 x0 x1 x2 x3 x4 x5 M bc bs → am_J X 1684 [(0, .ref x0), (1, .ref x1), (2, .ref x2), (3, .ref x3), (4, .ref x4), (5, .int x5)] [] M bc bs) (R1740 : Nat → Nat → Nat → Nat → Nat → Int32 → am_Hp → Nat → Nat → Prop) (k1740 : ∀ (x0 : Nat) (x1 : Nat) (x2 : Nat) (x3 : Nat) (x4 : Nat) (x5 : Int32) (M : am_Hp) (bc bs : Nat), R1740 x0 x1 x2 x3 x4 x5 M bc bs → am_J X 1740 [(0, .ref x0), (1, .ref x1), (2, .ref x2), (3, .ref x3), (4, .ref x4), (5, .int x5)] [] M bc bs) (R1803 : Nat → Nat → Nat → Nat → Nat → Int32 → am_Hp → Nat → Nat → Prop) (k1803 : ∀ (x0 : Nat) (x1 : Nat) (x2 : Nat) (x3 : Nat) (x4 : Nat) (x5 : Int32) (M : am_Hp) (bc bs : Nat), R1803 x0 x1 x2 x3 x4 x5 M bc bs → am_J X 1803 [(0, .ref x0), (1, .ref x1), (2, .ref x2), (3, .ref x3), (4, .ref x4), (5, .int x5)] [] M bc bs) (R1859 : Nat → Nat → Nat → Nat → Nat → Int32 → am_Hp → Nat → Nat → Prop) (k1859 : ∀ (x0 : Nat) (x1 : Nat) (x2 : Nat) (x3 : Nat) (x4 : Nat) (x5 : Int32) (M : am_Hp) (bc bs : Nat), R1859 x0 x1 x2 x3 x4 x5 M bc bs → am_J X 1859 [(0, .ref x0), (1, .ref x1), (2, .ref x2), (3, .ref x3), (4, .ref x4), (5, .int x5)] [] M bc bs) (R1915 : Nat → Nat → Nat → Nat → Nat → Int32 → am_Hp → Nat → Nat → Prop) (k1915 : ∀ (x0 : Nat) (x1 : Nat) (x2 : Nat) (x3 : Nat) (x4 : Nat) (x5 : Int32) (M : am_Hp) (bc bs : Nat), R1915 x0 x1 x2 x3 x4 x5 M bc bs → am_J X 1915 [(0, .ref x0), (1, .ref x1), (2, .ref x2), (3, .ref x3), (4, .ref x4), (5, .int x5)] [] M bc bs) (R1983 : Nat → Nat → Nat → Nat → Nat → Int32 → am_Hp → Nat → Nat → Prop) (k1983 : ∀ (x0 : Nat) (x1 : Nat) (x2 : Nat) (x3 : Nat) (x4 : Nat) (x5 : Int32) (M : am_Hp) (bc bs : Nat), R1983 x0 x1 x2 x3 x4 x5 M bc bs → am_J X 1983 [(0, .ref x0), (1, .ref x1), (2, .ref x2), (3, .ref x3), (4, .ref x4), (5, .int x5)] [] M bc bs) (R2051 : Nat → Nat → Nat → Nat → Nat → Int32 → am_Hp → Nat → Nat → Prop) (k2051 : ∀ (x0 : Nat) (x1 : Nat) (x2 : Nat) (x3 : Nat) (x4 : Nat) (x5 : Int32) (M : am_Hp) (bc bs : Nat), R2051 x0 x1 x2 x3 x4 x5 M bc bs → am_J X 2051 [(0, .ref x0), (1, .ref x1), (2, .ref x2), (3, .ref x3), (4, .ref x4), (5, .int x5)] [] M bc bs) (R2119 : Nat → Nat → Nat → Nat → Nat → Int32 → am_Hp → Nat → Nat → Prop) (k2119 : ∀ (x0 : Nat) (x1 : Nat) (x2 : Nat) (x3 : Nat) (x4 : Nat) (x5 : Int32) (M : am_Hp) (bc bs : Nat), R2119 x0 x1 x2 x3 x4 x5 M bc bs → am_J X 2119 [(0, .ref x0), (1, .ref x1), (2, .ref x2), (3, .ref x3), (4, .ref x4), (5, .int x5)] [] M bc bs) (R2175 : Nat → Nat → Nat → Nat → Nat → Int32 → am_Hp → Nat → Nat → Prop) (k2175 : ∀ (x0 : Nat) (x1 : Nat) (x2 : Nat) (x3 : Nat) (x4 : Nat) (x5 : Int32) (M : am_Hp) (bc bs : Nat), R2175 x0 x1 x2 x3 x4 x5 M bc bs → am_J X 2175 [(0, .ref x0), (1, .ref x1), (2, .ref x2), (3, .ref x3), (4, .ref x4), (5, .int x5)] [] M bc bs) (R2231 : Nat → Nat → Nat → Nat → Nat → Int32 → am_Hp → Nat → Nat → Prop) (k2231 : ∀ (x0 : Nat) (x1 : Nat) (x2 : Nat) (x3 : Nat) (x4 : Nat) (x5 : Int32) (M : am_Hp) (bc bs : Nat), R2231 x0 x1 x2 x3 x4 x5 M bc bs → am_J X 2231 [(0, .ref x0), (1, .ref x1), (2, .ref x2), (3, .ref x3), (4, .ref x4), (5, .int x5)] [] M bc bs) (R2287 : Nat → Nat → Nat → Nat → Nat → Int32 → am_Hp → Nat → Nat → Prop) (k2287 : ∀ (x0 : Nat) (x1 : Nat) (x2 : Nat) (x3 : Nat) (x4 : Nat) (x5 : Int32) (M : am_Hp) (bc bs : Nat), R2287 x0 x1 x2 x3 x4 x5 M bc bs → am_J X 2287 [(0, .ref x0), (1, .ref x1), (2, .ref x2), (3, .ref x3), (4, .ref x4), (5, .int x5)] [] M bc bs) (R2343 : Nat → Nat → Nat → Nat → Nat → Int32 → am_Hp → Nat → Nat → Prop) (k2343 : ∀ (x0 : Nat) (x1 : Nat) (x2 : Nat) (x3 : Nat) (x4 : Nat) (x5 : Int32) (M : am_Hp) (bc bs : Nat), R2343 x0 x1 x2 x3 x4 x5 M bc bs → am_J X 2343 [(0, .ref x0), (1, .ref x1), (2, .ref x2), (3, .ref x3), (4, .ref x4), (5, .int x5)] [] M bc bs) (R2399 : Nat → Nat → Nat → Nat → Nat → Int32 → am_Hp → Nat → Nat → Prop) (k2399 : ∀ (x0 : Nat) (x1 : Nat) (x2 : Nat) (x3 : Nat) (x4 : Nat) (x5 : Int32) (M : am_Hp) (bc bs : Nat), R2399 x0 x1 x2 x3 x4 x5 M bc bs → am_J X 2399 [(0, .ref x0), (1, .ref x1), (2, .ref x2), (3, .ref x3), (4, .ref x4), (5, .int x5)] [] M bc bs) (R2455 : Nat → Nat → Nat → Nat → Nat → Int32 → am_Hp → Nat → Nat → Prop) (k2455 : ∀ (x0 : Nat) (x1 : Nat) (x2 : Nat) (x3 : Nat) (x4 : Nat) (x5 : Int32) (M : am_Hp) (bc bs : Nat), R2455 x0 x1 x2 x3 x4 x5 M bc bs → am_J X 2455 [(0, .ref x0), (1, .ref x1), (2, .ref x2), (3, .ref x3), (4, .ref x4), (5, .int x5)] [] M bc bs) (R2511 : Nat → Nat → Nat → Nat → Nat → Int32 → am_Hp → Nat → Nat → Prop) (k2511 : ∀ (x0 : Nat) (x1 : Nat) (x2 : Nat) (x3 : Nat) (x4 : Nat) (x5 : Int32) (M : am_Hp) (bc bs : Nat), R2511 x0 x1 x2 x3 x4 x5 M bc bs → am_J X 2511 [(0, .ref x0), (1, .ref x1), (2, .ref x2), (3, .ref x3), (4, .ref x4), (5, .int x5)] [] M bc bs) (R2567 : Nat → Nat → Nat → Nat → Nat → Int32 → am_Hp → Nat → Nat → Prop) (k2567 : ∀ (x0 : Nat) (x1 : Nat) (x2 : Nat) (x3 : Nat) (x4 : Nat) (x5 : Int32) (M : am_Hp) (bc bs : Nat), R2567 x0 x1 x2 x3 x4 x5 M bc bs → am_J X 2567 [(0, .ref x0), (1, .ref x1), (2, .ref x2), (3, .ref x3), (4, .ref x4), (5, .int x5)] [] M bc bs) (R2580 : Nat → Nat → Nat → Nat → Nat → Int32 → am_Hp → Nat → Nat → Prop) (k2580 : ∀ (x0 : Nat) (x1 : Nat) (x2 : Nat) (x3 : Nat) (x4 : Nat) (x5 : Int32) (M : am_Hp) (bc bs : Nat), R2580 x0 x1 x2 x3 x4 x5 M bc bs → am_J X 2580 [(0, .ref x0), (1, .ref x1), (2, .ref x2), (3, .ref x3), (4, .ref x4), (5, .int x5)] [] M bc bs) (R2594 : Nat → Nat → Nat → Nat → Nat → Int32 → am_Hp → Nat → Nat → Prop) (k2594 : ∀ (x0 : Nat) (x1 : Nat) (x2 : Nat) (x3 : Nat) (x4 : Nat) (x5 : Int32) (M : am_Hp) (bc bs : Nat), R2594 x0 x1 x2 x3 x4 x5 M bc bs → am_J X 2594 [(0, .ref x0), (1, .ref x1), (2, .ref x2), (3, .ref x3), (4, .ref x4), (5, .int x5)] [] M bc bs) (R2608 : Nat → Nat → Nat → Nat → Nat → Int32 → am_Hp → Nat → Nat → Prop) (k2608 : ∀ (x0 : Nat) (x1 : Nat) (x2 : Nat) (x3 : Nat) (x4 : Nat) (x5 : Int32) (M : am_Hp) (bc bs : Nat), R2608 x0 x1 x2 x3 x4 x5 M bc bs → am_J X 2608 [(0, .ref x0), (1, .ref x1), (2, .ref x2), (3, .ref x3), (4, .ref x4), (5, .int x5)] [] M bc bs) (R2621 : Nat → Nat → Nat → Nat → Nat → Int32 → am_Hp → Nat → Nat → Prop) (k2621 : ∀ (x0 : Nat) (x1 : Nat) (x2 : Nat) (x3 : Nat) (x4 : Nat) (x5 : Int32) (M : am_Hp) (bc bs : Nat), R2621 x0 x1 x2 x3 x4 x5 M bc bs → am_J X 2621 [(0, .ref x0), (1, .ref x1), (2, .ref x2), (3, .ref x3), (4, .ref x4), (5, .int x5)] [] M bc bs) (R2634 : Nat → Nat → Nat → Nat → Nat → Int32 → am_Hp → Nat → Nat → Prop) (k2634 : ∀ (x0 : Nat) (x1 : Nat) (x2 : Nat) (x3 : Nat) (x4 : Nat) (x5 : Int32) (M : am_Hp) (bc bs : Nat), R2634 x0 x1 x2 x3 x4 x5 M bc bs → am_J X 2634 [(0, .ref x0), (1, .ref x1), (2, .ref x2), (3, .ref x3), (4, .ref x4), (5, .int x5)] [] M bc bs) (R2647 : Nat → Nat → Nat → Nat → Nat → Int32 → am_Hp → Nat → Nat → Prop) (k2647 : ∀ (x0 : Nat) (x1 : Nat) (x2 : Nat) (x3 : Nat) (x4 : Nat) (x5 : Int32) (M : am_Hp) (bc bs : Nat), R2647 x0 x1 x2 x3 x4 x5 M bc bs → am_J X 2647 [(0, .ref x0), (1, .ref x1), (2, .ref x2), (3, .ref x3), (4, .ref x4), (5, .int x5)] [] M bc bs) (R2712 : Nat → Nat → Nat → Nat → Nat → Int32 → am_Hp → Nat → Nat → Prop) (k2712 : ∀ (x0 : Nat) (x1 : Nat) (x2 : Nat) (x3 : Nat) (x4 : Nat) (x5 : Int32) (M : am_Hp) (bc bs : Nat), R2712 x0 x1 x2 x3 x4 x5 M bc bs → am_J X 2712 [(0, .ref x0), (1, .ref x1), (2, .ref x2), (3, .ref x3), (4, .ref x4), (5, .int x5)] [] M bc bs) (R2790 : Nat → Nat → Nat → Nat → Nat → Int32 → am_Hp → Nat → Nat → Prop) (k2790 : ∀ (x0 : Nat) (x1 : Nat) (x2 : Nat) (x3 : Nat) (x4 : Nat) (x5 : Int32) (M : am_Hp) (bc bs : Nat), R2790 x0 x1 x2 x3 x4 x5 M bc bs → am_J X 2790 [(0, .ref x0), (1, .ref x1), (2, .ref x2), (3, .ref x3), (4, .ref x4), (5, .int x5)] [] M bc bs) (R2803 : Nat → Nat → Nat → Nat → Nat → Int32 → am_Hp → Nat → Nat → Prop) (k2803 : ∀ (x0 : Nat) (x1 : Nat) (x2 : Nat) (x3 : Nat) (x4 : Nat) (x5 : Int32) (M : am_Hp) (bc bs : Nat), R2803 x0 x1 x2 x3 x4 x5 M bc bs → am_J X 2803 [(0, .ref x0), (1, .ref x1), (2, .ref x2), (3, .ref x3), (4, .ref x4), (5, .int x5)] [] M bc bs) (R2859 : Nat → Nat → Nat → Nat → Nat → Int32 → am_Hp → Nat → Nat → Prop) (k2859 : ∀ (x0 : Nat) (x1 : Nat) (x2 : Nat) (x3 : Nat) (x4 : Nat) (x5 : Int32) (M : am_Hp) (bc bs : Nat), R2859 x0 x1 x2 x3 x4 x5 M bc bs → am_J X 2859 [(0, .ref x0), (1, .ref x1), (2, .ref x2), (3, .ref x3), (4, .ref x4), (5, .int x5)] [] M bc bs) (R2872 : Nat → Nat → Nat → Nat → Nat → Int32 → am_Hp → Nat → Nat → Prop) (k2872 : ∀ (x0 : Nat) (x1 : Nat) (x2 : Nat) (x3 : Nat) (x4 : Nat) (x5 : Int32) (M : am_Hp) (bc bs : Nat), R2872 x0 x1 x2 x3 x4 x5 M bc bs → am_J X 2872 [(0, .ref x0), (1, .ref x1), (2, .ref x2), (3, .ref x3), (4, .ref x4), (5, .int x5)] [] M bc bs) (R2928 : Nat → Nat → Nat → Nat → Nat → Int32 → am_Hp → Nat → Nat → Prop) (k2928 : ∀ (x0 : Nat) (x1 : Nat) (x2 : Nat) (x3 : Nat) (x4 : Nat) (x5 : Int32) (M : am_Hp) (bc bs : Nat), R2928 x0 x1 x2 x3 x4 x5 M bc bs → am_J X 2928 [(0, .ref x0), (1, .ref x1), (2, .ref x2), (3, .ref x3), (4, .ref x4), (5, .int x5)] [] M bc bs) (R2986 : Nat → Nat → Nat → Nat → Nat → Int32 → am_Hp → Nat → Nat → Prop) (k2986 : ∀ (x0 : Nat) (x1 : Nat) (x2 : Nat) (x3 : Nat) (x4 : Nat) (x5 : Int32) (M : am_Hp) (bc bs : Nat), R2986 x0 x1 x2 x3 x4 x5 M bc bs → am_J X 2986 [(0, .ref x0), (1, .ref x1), (2, .ref x2), (3, .ref x3), (4, .ref x4), (5, .int x5)] [] M bc bs) (R3030 : Nat → Nat → Nat → Nat → Nat → Int32 → am_Hp → Nat → Nat → Prop) (k3030 : ∀ (x0 : Nat) (x1 : Nat) (x2 : Nat) (x3 : Nat) (x4 : Nat) (x5 : Int32) (M : am_Hp) (bc bs : Nat), R3030 x0 x1 x2 x3 x4 x5 M bc bs → am_J X 3030 [(0, .ref x0), (1, .ref x1), (2, .ref x2), (3, .ref x3), (4, .ref x4), (5, .int x5)] [] M bc bs) (R3074 : Nat → Nat → Nat → Nat → Nat → Int32 → am_Hp → Nat → Nat → Prop) (k3074 : ∀ (x0 : Nat) (x1 : Nat) (x2 : Nat) (x3 : Nat) (x4 : Nat) (x5 : Int32) (M : am_Hp) (bc bs : Nat), R3074 x0 x1 x2 x3 x4 x5 M bc bs → am_J X 3074 [(0, .ref x0), (1, .ref x1), (2, .ref x2), (3, .ref x3), (4, .ref x4), (5, .int x5)] [] M bc bs) (R3118 : Nat → Nat → Nat → Nat → Nat → Int32 → am_Hp → Nat → Nat → Prop) (k3118 : ∀ (x0 : Nat) (x1 : Nat) (x2 : Nat) (x3 : Nat) (x4 : Nat) (x5 : Int32) (M : am_Hp) (bc bs : Nat), R3118 x0 x1 x2 x3 x4 x5 M bc bs → am_J X 3118 [(0, .ref x0), (1, .ref x1), (2, .ref x2), (3, .ref x3), (4, .ref x4), (5, .int x5)] [] M bc bs) (R3162 : Nat → Nat → Nat → Nat → Nat → Int32 → am_Hp → Nat → Nat → Prop) (k3162 : ∀ (x0 : Nat) (x1 : Nat) (x2 : Nat) (x3 : Nat) (x4 : Nat) (x5 : Int32) (M : am_Hp) (bc bs : Nat), R3162 x0 x1 x2 x3 x4 x5 M bc bs → am_J X 3162 [(0, .ref x0), (1, .ref x1), (2, .ref x2), (3, .ref x3), (4, .ref x4), (5, .int x5)] [] M bc bs) (R3175 : Nat → Nat → Nat → Nat → Nat → Int32 → am_Hp → Nat → Nat → Prop) (k3175 : ∀ (x0 : Nat) (x1 : Nat) (x2 : Nat) (x3 : Nat) (x4 : Nat) (x5 : Int32) (M : am_Hp) (bc bs : Nat), R3175 x0 x1 x2 x3 x4 x5 M bc bs → am_J X 3175 [(0, .ref x0), (1, .ref x1), (2, .ref x2), (3, .ref x3), (4, .ref x4), (5, .int x5)] [] M bc bs) (R3219 : Nat → Nat → Nat → Nat → Nat → Int32 → am_Hp → Nat → Nat → Prop) (k3219 : ∀ (x0 : Nat) (x1 : Nat) (x2 : Nat) (x3 : Nat) (x4 : Nat) (x5 : Int32) (M : am_Hp) (bc bs : Nat), R3219 x0 x1 x2 x3 x4 x5 M bc bs → am_J X 3219 [(0, .ref x0), (1, .ref x1), (2, .ref x2), (3, .ref x3), (4, .ref x4), (5, .int x5)] [] M bc bs) {a0 : Nat} {a1 : Nat} {a2 : Nat} {a3 : Nat} {a4 : Nat} {a5 : Int32} {M : am_Hp} (h : hp_T M (a0) = 42 ∧ (((((Int32.ofNat (hp_N M a0)) - (4 : Int32)) < a5) → (True)) ∧ (¬ (((Int32.ofNat (hp_N M a0)) - (4 : Int32)) < a5) → (vp_in a5 (hp_N M a0) ∧ ((((hp_E M a0 (a5).toNatClampNeg) &&& (63 : Int32)).toInt < 0 ∨ 58 < ((hp_E M a0 (a5).toNatClampNeg) &&& (63 : Int32)).toInt → (R3219 a0 a1 a2 a3 a4 a5 M bc bs)) ∧ (((hp_E M a0 (a5).toNatClampNeg) &&& (63 : Int32)) = (0 : Int32) → (R296 a0 a1 a2 a3 a4 a5 M bc bs)) ∧ (((hp_E M a0 (a5).toNatClampNeg) &&& (63 : Int32)) = (1 : Int32) → (R376 a0 a1 a2 a3 a4 a5 M bc bs)) ∧ (((hp_E M a0 (a5).toNatClampNeg) &&& (63 : Int32)) = (2 : Int32) → (R432 a0 a1 a2 a3 a4 a5 M bc bs)) ∧ (((hp_E M a0 (a5).toNatClampNeg) &&& (63 : Int32)) = (3 : Int32) → (R500 a0 a1 a2 a3 a4 a5 M bc bs)) ∧ (((hp_E M a0 (a5).toNatClampNeg) &&& (63 : Int32)) = (4 : Int32) → (R556 a0 a1 a2 a3 a4 a5 M bc bs)) ∧ (((hp_E M a0 (a5).toNatClampNeg) &&& (63 : Int32)) = (5 : Int32) → (R612 a0 a1 a2 a3 a4 a5 M bc bs)) ∧ (((hp_E M a0 (a5).toNatClampNeg) &&& (63 : Int32)) = (6 : Int32) → (R680 a0 a1 a2 a3 a4 a5 M bc bs)) ∧ (((hp_E M a0 (a5).toNatClampNeg) &&& (63 : Int32)) = (7 : Int32) → (R736 a0 a1 a2 a3 a4 a5 M bc bs)) ∧ (((hp_E M a0 (a5).toNatClampNeg) &&& (63 : Int32)) = (8 : Int32) → (R749 a0 a1 a2 a3 a4 a5 M bc bs)) ∧ (((hp_E M a0 (a5).toNatClampNeg) &&& (63 : Int32)) = (9 : Int32) → (R805 a0 a1 a2 a3 a4 a5 M bc bs)) ∧ (((hp_E M a0 (a5).toNatClampNeg) &&& (63 : Int32)) = (10 : Int32) → (R861 a0 a1 a2 a3 a4 a5 M bc bs)) ∧ (((hp_E M a0 (a5).toNatClampNeg) &&& (63 : Int32)) = (11 : Int32) → (R917 a0 a1 a2 a3 a4 a5 M bc bs)) ∧ (((hp_E M a0 (a5).toNatClampNeg) &&& (63 : Int32)) = (12 : Int32) → (R973 a0 a1 a2 a3 a4 a5 M bc bs)) ∧ (((hp_E M a0 (a5).toNatClampNeg) &&& (63 : Int32)) = (13 : Int32) → (R1029 a0 a1 a2 a3 a4 a5 M bc bs)) ∧ (((hp_E M a0 (a5).toNatClampNeg) &&& (63 : Int32)) = (14 : Int32) → (R1085 a0 a1 a2 a3 a4 a5 M bc bs)) ∧ (((hp_E M a0 (a5).toNatClampNeg) &&& (63 : Int32)) = (15 : Int32) → (R1141 a0 a1 a2 a3 a4 a5 M bc bs)) ∧ (((hp_E M a0 (a5).toNatClampNeg) &&& (63 : Int32)) = (16 : Int32) → (R1204 a0 a1 a2 a3 a4 a5 M bc bs)) ∧ (((hp_E M a0 (a5).toNatClampNeg) &&& (63 : Int32)) = (17 : Int32) → (R1260 a0 a1 a2 a3 a4 a5 M bc bs)) ∧ (((hp_E M a0 (a5).toNatClampNeg) &&& (63 : Int32)) = (18 : Int32) → (R1335 a0 a1 a2 a3 a4 a5 M bc bs)) ∧ (((hp_E M a0 (a5).toNatClampNeg) &&& (63 : Int32)) = (19 : Int32) → (R1391 a0 a1 a2 a3 a4 a5 M bc bs)) ∧ (((hp_E M a0 (a5).toNatClampNeg) &&& (63 : Int32)) = (20 : Int32) → (R1447 a0 a1 a2 a3 a4 a5 M bc bs)) ∧ (((hp_E M a0 (a5).toNatClampNeg) &&& (63 : Int32)) = (21 : Int32) → (R1460 a0 a1 a2 a3 a4 a5 M bc bs)) ∧ (((hp_E M a0 (a5).toNatClampNeg) &&& (63 : Int32)) = (22 : Int32) → (R1516 a0 a1 a2 a3 a4 a5 M bc bs)) ∧ (((hp_E M a0 (a5).toNatClampNeg) &&& (63 : Int32)) = (23 : Int32) → (R1572 a0 a1 a2 a3 a4 a5 M bc bs)) ∧ (((hp_E M a0 (a5).toNatClampNeg) &&& (63 : Int32)) = (24 : Int32) → (R1628 a0 a1 a2 a3 a4 a5 M bc bs)) ∧ (((hp_E M a0 (a5).toNatClampNeg) &&& (63 : Int32)) = (25 : Int32) → (R1684 a0 a1 a2 a3 a4 a5 M bc bs)) ∧ (((hp_E M a0 (a5).toNatClampNeg) &&& (63 : Int32)) = (26 : Int32) → (R1740 a0 a1 a2 a3 a4 a5 M bc bs)) ∧ (((hp_E M a0 (a5).toNatClampNeg) &&& (63 : Int32)) = (27 : Int32) → (R1803 a0 a1 a2 a3 a4 a5 M bc bs)) ∧ (((hp_E M a0 (a5).toNatClampNeg) &&& (63 : Int32)) = (28 : Int32) → (R1859 a0 a1 a2 a3 a4 a5 M bc bs)) ∧ (((hp_E M a0 (a5).toNatClampNeg) &&& (63 : Int32)) = (29 : Int32) → (R1915 a0 a1 a2 a3 a4 a5 M bc bs)) ∧ (((hp_E M a0 (a5).toNatClampNeg) &&& (63 : Int32)) = (30 : Int32) → (R1983 a0 a1 a2 a3 a4 a5 M bc bs)) ∧ (((hp_E M a0 (a5).toNatClampNeg) &&& (63 : Int32)) = (31 : Int32) → (R2051 a0 a1 a2 a3 a4 a5 M bc bs)) ∧ (((hp_E M a0 (a5).toNatClampNeg) &&& (63 : Int32)) = (32 : Int32) → (R2119 a0 a1 a2 a3 a4 a5 M bc bs)) ∧ (((hp_E M a0 (a5).toNatClampNeg) &&& (63 : Int32)) = (33 : Int32) → (R2175 a0 a1 a2 a3 a4 a5 M bc bs)) ∧ (((hp_E M a0 (a5).toNatClampNeg) &&& (63 : Int32)) = (34 : Int32) → (R2231 a0 a1 a2 a3 a4 a5 M bc bs)) ∧ (((hp_E M a0 (a5).toNatClampNeg) &&& (63 : Int32)) = (35 : Int32) → (R2287 a0 a1 a2 a3 a4 a5 M bc bs)) ∧ (((hp_E M a0 (a5).toNatClampNeg) &&& (63 : Int32)) = (36 : Int32) → (R2343 a0 a1 a2 a3 a4 a5 M bc bs)) ∧ (((hp_E M a0 (a5).toNatClampNeg) &&& (63 : Int32)) = (37 : Int32) → (R2399 a0 a1 a2 a3 a4 a5 M bc bs)) ∧ (((hp_E M a0 (a5).toNatClampNeg) &&& (63 : Int32)) = (38 : Int32) → (R2455 a0 a1 a2 a3 a4 a5 M bc bs)) ∧ (((hp_E M a0 (a5).toNatClampNeg) &&& (63 : Int32)) = (39 : Int32) → (R2511 a0 a1 a2 a3 a4 a5 M bc bs)) ∧ (((hp_E M a0 (a5).toNatClampNeg) &&& (63 : Int32)) = (40 : Int32) → (R2567 a0 a1 a2 a3 a4 a5 M bc bs)) ∧ (((hp_E M a0 (a5).toNatClampNeg) &&& (63 : Int32)) = (41 : Int32) → (R2580 a0 a1 a2 a3 a4 a5 M bc bs)) ∧ (((hp_E M a0 (a5).toNatClampNeg) &&& (63 : Int32)) = (42 : Int32) → (R2594 a0 a1 a2 a3 a4 a5 M bc bs)) ∧ (((hp_E M a0 (a5).toNatClampNeg) &&& (63 : Int32)) = (43 : Int32) → (R2608 a0 a1 a2 a3 a4 a5 M bc bs)) ∧ (((hp_E M a0 (a5).toNatClampNeg) &&& (63 : Int32)) = (44 : Int32) → (R2621 a0 a1 a2 a3 a4 a5 M bc bs)) ∧ (((hp_E M a0 (a5).toNatClampNeg) &&& (63 : Int32)) = (45 : Int32) → (R2634 a0 a1 a2 a3 a4 a5 M bc bs)) ∧ (((hp_E M a0 (a5).toNatClampNeg) &&& (63 : Int32)) = (46 : Int32) → (R2647 a0 a1 a2 a3 a4 a5 M bc bs)) ∧ (((hp_E M a0 (a5).toNatClampNeg) &&& (63 : Int32)) = (47 : Int32) → (R2712 a0 a1 a2 a3 a4 a5 M bc bs)) ∧ (((hp_E M a0 (a5).toNatClampNeg) &&& (63 : Int32)) = (48 : Int32) → (R2790 a0 a1 a2 a3 a4 a5 M bc bs)) ∧ (((hp_E M a0 (a5).toNatClampNeg) &&& (63 : Int32)) = (49 : Int32) → (R2803 a0 a1 a2 a3 a4 a5 M bc bs)) ∧ (((hp_E M a0 (a5).toNatClampNeg) &&& (63 : Int32)) = (50 : Int32) → (R2859 a0 a1 a2 a3 a4 a5 M bc bs)) ∧ (((hp_E M a0 (a5).toNatClampNeg) &&& (63 : Int32)) = (51 : Int32) → (R2872 a0 a1 a2 a3 a4 a5 M bc bs)) ∧ (((hp_E M a0 (a5).toNatClampNeg) &&& (63 : Int32)) = (52 : Int32) → (R2928 a0 a1 a2 a3 a4 a5 M bc bs)) ∧ (((hp_E M a0 (a5).toNatClampNeg) &&& (63 : Int32)) = (53 : Int32) → (R2986 a0 a1 a2 a3 a4 a5 M bc bs)) ∧ (((hp_E M a0 (a5).toNatClampNeg) &&& (63 : Int32)) = (54 : Int32) → (R3030 a0 a1 a2 a3 a4 a5 M bc bs)) ∧ (((hp_E M a0 (a5).toNatClampNeg) &&& (63 : Int32)) = (55 : Int32) → (R3074 a0 a1 a2 a3 a4 a5 M bc bs)) ∧ (((hp_E M a0 (a5).toNatClampNeg) &&& (63 : Int32)) = (56 : Int32) → (R3118 a0 a1 a2 a3 a4 a5 M bc bs)) ∧ (((hp_E M a0 (a5).toNatClampNeg) &&& (63 : Int32)) = (57 : Int32) → (R3162 a0 a1 a2 a3 a4 a5 M bc bs)) ∧ (((hp_E M a0 (a5).toNatClampNeg) &&& (63 : Int32)) = (58 : Int32) → (R3175 a0 a1 a2 a3 a4 a5 M bc bs))))))) : am_J X 28 [(0, .ref a0), (1, .ref a1), (2, .ref a2), (3, .ref a3), (4, .ref a4), (5, .int a5)] [] M bc bs := by
  refine j_iload hX eL_law_28 5 rfl ?_
  refine j_aload_n hX eL_law_30 0 rfl ?_
  obtain ⟨t1, h⟩ := h
  refine j_alen42 hX eL_law_31 t1 ?_
  refine j_iconst (v := (4 : Int32)) hX eL_law_32 (by decide) ?_
  refine j_isub hX eL_law_33 ?_
  refine j_icmp_gt hX 3225 eL_law_34 (by decide) (fun c2 => ?_) (fun c2 => ?_)
  · replace h := h.1 c2
    refine j_iconst (v := (1 : Int32)) hX eL_law_3225 (by decide) ?_
    exact hret eL_law_3226
  · replace h := h.2 c2
    refine j_aload_n hX eL_law_37 0 rfl ?_
    refine j_iload hX eL_law_38 5 rfl ?_
    obtain ⟨i3, h⟩ := h
    refine j_ialdx hX eL_law_40 t1 i3 ?_
    refine j_bipush (v := (63 : Int32)) hX eL_law_41 (by decide) ?_
    refine j_iand hX eL_law_43 ?_
    by_cases hsw : ((hp_E M a0 (a5).toNatClampNeg) &&& (63 : Int32)).toInt < 0 ∨ 58 < ((hp_E M a0 (a5).toNatClampNeg) &&& (63 : Int32)).toInt
    · refine j_tableOut hX 3219 eL_law_44 hsw (by decide) ?_
      replace h := h.1 hsw
      exact j_sub [0, 1, 2, 3, 4, 5] rfl (k3219 _ _ _ _ _ _ _ _ _ h)
    · replace h := h.2
      have hsw1 : ¬ ((hp_E M a0 (a5).toNatClampNeg) &&& (63 : Int32)).toInt < 0 := fun z => hsw (Or.inl z)
      have hsw2 : ¬ 58 < ((hp_E M a0 (a5).toNatClampNeg) &&& (63 : Int32)).toInt := fun z => hsw (Or.inr z)
      have hsw3 : ((hp_E M a0 (a5).toNatClampNeg) &&& (63 : Int32)).toInt = 0 ∨ ((hp_E M a0 (a5).toNatClampNeg) &&& (63 : Int32)).toInt = 1 ∨ ((hp_E M a0 (a5).toNatClampNeg) &&& (63 : Int32)).toInt = 2 ∨ ((hp_E M a0 (a5).toNatClampNeg) &&& (63 : Int32)).toInt = 3 ∨ ((hp_E M a0 (a5).toNatClampNeg) &&& (63 : Int32)).toInt = 4 ∨ ((hp_E M a0 (a5).toNatClampNeg) &&& (63 : Int32)).toInt = 5 ∨ ((hp_E M a0 (a5).toNatClampNeg) &&& (63 : Int32)).toInt = 6 ∨ ((hp_E M a0 (a5).toNatClampNeg) &&& (63 : Int32)).toInt = 7 ∨ ((hp_E M a0 (a5).toNatClampNeg) &&& (63 : Int32)).toInt = 8 ∨ ((hp_E M a0 (a5).toNatClampNeg) &&& (63 : Int32)).toInt = 9 ∨ ((hp_E M a0 (a5).toNatClampNeg) &&& (63 : Int32)).toInt = 10 ∨ ((hp_E M a0 (a5).toNatClampNeg) &&& (63 : Int32)).toInt = 11 ∨ ((hp_E M a0 (a5).toNatClampNeg) &&& (63 : Int32)).toInt = 12 ∨ ((hp_E M a0 (a5).toNatClampNeg) &&& (63 : Int32)).toInt = 13 ∨ ((hp_E M a0 (a5).toNatClampNeg) &&& (63 : Int32)).toInt = 14 ∨ ((hp_E M a0 (a5).toNatClampNeg) &&& (63 : Int32)).toInt = 15 ∨ ((hp_E M a0 (a5).toNatClampNeg) &&& (63 : Int32)).toInt = 16 ∨ ((hp_E M a0 (a5).toNatClampNeg) &&& (63 : Int32)).toInt = 17 ∨ ((hp_E M a0 (a5).toNatClampNeg) &&& (63 : Int32)).toInt = 18 ∨ ((hp_E M a0 (a5).toNatClampNeg) &&& (63 : Int32)).toInt = 19 ∨ ((hp_E M a0 (a5).toNatClampNeg) &&& (63 : Int32)).toInt = 20 ∨ ((hp_E M a0 (a5).toNatClampNeg) &&& (63 : Int32)).toInt = 21 ∨ ((hp_E M a0 (a5).toNatClampNeg) &&& (63 : Int32)).toInt = 22 ∨ ((hp_E M a0 (a5).toNatClampNeg) &&& (63 : Int32)).toInt = 23 ∨ ((hp_E M a0 (a5).toNatClampNeg) &&& (63 : Int32)).toInt = 24 ∨ ((hp_E M a0 (a5).toNatClampNeg) &&& (63 : Int32)).toInt = 25 ∨ ((hp_E M a0 (a5).toNatClampNeg) &&& (63 : Int32)).toInt = 26 ∨ ((hp_E M a0 (a5).toNatClampNeg) &&& (63 : Int32)).toInt = 27 ∨ ((hp_E M a0 (a5).toNatClampNeg) &&& (63 : Int32)).toInt = 28 ∨ ((hp_E M a0 (a5).toNatClampNeg) &&& (63 : Int32)).toInt = 29 ∨ ((hp_E M a0 (a5).toNatClampNeg) &&& (63 : Int32)).toInt = 30 ∨ ((hp_E M a0 (a5).toNatClampNeg) &&& (63 : Int32)).toInt = 31 ∨ ((hp_E M a0 (a5).toNatClampNeg) &&& (63 : Int32)).toInt = 32 ∨ ((hp_E M a0 (a5).toNatClampNeg) &&& (63 : Int32)).toInt = 33 ∨ ((hp_E M a0 (a5).toNatClampNeg) &&& (63 : Int32)).toInt = 34 ∨ ((hp_E M a0 (a5).toNatClampNeg) &&& (63 : Int32)).toInt = 35 ∨ ((hp_E M a0 (a5).toNatClampNeg) &&& (63 : Int32)).toInt = 36 ∨ ((hp_E M a0 (a5).toNatClampNeg) &&& (63 : Int32)).toInt = 37 ∨ ((hp_E M a0 (a5).toNatClampNeg) &&& (63 : Int32)).toInt = 38 ∨ ((hp_E M a0 (a5).toNatClampNeg) &&& (63 : Int32)).toInt = 39 ∨ ((hp_E M a0 (a5).toNatClampNeg) &&& (63 : Int32)).toInt = 40 ∨ ((hp_E M a0 (a5).toNatClampNeg) &&& (63 : Int32)).toInt = 41 ∨ ((hp_E M a0 (a5).toNatClampNeg) &&& (63 : Int32)).toInt = 42 ∨ ((hp_E M a0 (a5).toNatClampNeg) &&& (63 : Int32)).toInt = 43 ∨ ((hp_E M a0 (a5).toNatClampNeg) &&& (63 : Int32)).toInt = 44 ∨ ((hp_E M a0 (a5).toNatClampNeg) &&& (63 : Int32)).toInt = 45 ∨ ((hp_E M a0 (a5).toNatClampNeg) &&& (63 : Int32)).toInt = 46 ∨ ((hp_E M a0 (a5).toNatClampNeg) &&& (63 : Int32)).toInt = 47 ∨ ((hp_E M a0 (a5).toNatClampNeg) &&& (63 : Int32)).toInt = 48 ∨ ((hp_E M a0 (a5).toNatClampNeg) &&& (63 : Int32)).toInt = 49 ∨ ((hp_E M a0 (a5).toNatClampNeg) &&& (63 : Int32)).toInt = 50 ∨ ((hp_E M a0 (a5).toNatClampNeg) &&& (63 : Int32)).toInt = 51 ∨ ((hp_E M a0 (a5).toNatClampNeg) &&& (63 : Int32)).toInt = 52 ∨ ((hp_E M a0 (a5).toNatClampNeg) &&& (63 : Int32)).toInt = 53 ∨ ((hp_E M a0 (a5).toNatClampNeg) &&& (63 : Int32)).toInt = 54 ∨ ((hp_E M a0 (a5).toNatClampNeg) &&& (63 : Int32)).toInt = 55 ∨ ((hp_E M a0 (a5).toNatClampNeg) &&& (63 : Int32)).toInt = 56 ∨ ((hp_E M a0 (a5).toNatClampNeg) &&& (63 : Int32)).toInt = 57 ∨ ((hp_E M a0 (a5).toNatClampNeg) &&& (63 : Int32)).toInt = 58 := by omega
      rcases hsw3 with hk | hk | hk | hk | hk | hk | hk | hk | hk | hk | hk | hk | hk | hk | hk | hk | hk | hk | hk | hk | hk | hk | hk | hk | hk | hk | hk | hk | hk | hk | hk | hk | hk | hk | hk | hk | hk | hk | hk | hk | hk | hk | hk | hk | hk | hk | hk | hk | hk | hk | hk | hk | hk | hk | hk | hk | hk | hk | hk
      · refine j_tableIn hX 296 eL_law_44 hsw1 hsw2 (by rw [hk]; rfl) (by decide) ?_
        replace h := h.1 (am_i32 hk (by decide))
        exact j_sub [0, 1, 2, 3, 4, 5] rfl (k296 _ _ _ _ _ _ _ _ _ h)
      · refine j_tableIn hX 376 eL_law_44 hsw1 hsw2 (by rw [hk]; rfl) (by decide) ?_
        replace h := h.2.1 (am_i32 hk (by decide))
        exact j_sub [0, 1, 2, 3, 4, 5] rfl (k376 _ _ _ _ _ _ _ _ _ h)
      · refine j_tableIn hX 432 eL_law_44 hsw1 hsw2 (by rw [hk]; rfl) (by decide) ?_
        replace h := h.2.2.1 (am_i32 hk (by decide))
        exact j_sub [0, 1, 2, 3, 4, 5] rfl (k432 _ _ _ _ _ _ _ _ _ h)
      · refine j_tableIn hX 500 eL_law_44 hsw1 hsw2 (by rw [hk]; rfl) (by decide) ?_
        replace h := h.2.2.2.1 (am_i32 hk (by decide))
        exact j_sub [0, 1, 2, 3, 4, 5] rfl (k500 _ _ _ _ _ _ _ _ _ h)
      · refine j_tableIn hX 556 eL_law_44 hsw1 hsw2 (by rw [hk]; rfl) (by decide) ?_
        replace h := h.2.2.2.2.1 (am_i32 hk (by decide))
        exact j_sub [0, 1, 2, 3, 4, 5] rfl (k556 _ _ _ _ _ _ _ _ _ h)
      · refine j_tableIn hX 612 eL_law_44 hsw1 hsw2 (by rw [hk]; rfl) (by decide) ?_
        replace h := h.2.2.2.2.2.1 (am_i32 hk (by decide))
        exact j_sub [0, 1, 2, 3, 4, 5] rfl (k612 _ _ _ _ _ _ _ _ _ h)
      · refine j_tableIn hX 680 eL_law_44 hsw1 hsw2 (by rw [hk]; rfl) (by decide) ?_
        replace h := h.2.2.2.2.2.2.1 (am_i32 hk (by decide))
        exact j_sub [0, 1, 2, 3, 4, 5] rfl (k680 _ _ _ _ _ _ _ _ _ h)
      · refine j_tableIn hX 736 eL_law_44 hsw1 hsw2 (by rw [hk]; rfl) (by decide) ?_
        replace h := h.2.2.2.2.2.2.2.1 (am_i32 hk (by decide))
        exact j_sub [0, 1, 2, 3, 4, 5] rfl (k736 _ _ _ _ _ _ _ _ _ h)
      · refine j_tableIn hX 749 eL_law_44 hsw1 hsw2 (by rw [hk]; rfl) (by decide) ?_
        replace h := h.2.2.2.2.2.2.2.2.1 (am_i32 hk (by decide))
        exact j_sub [0, 1, 2, 3, 4, 5] rfl (k749 _ _ _ _ _ _ _ _ _ h)
      · refine j_tableIn hX 805 eL_law_44 hsw1 hsw2 (by rw [hk]; rfl) (by decide) ?_
        replace h := h.2.2.2.2.2.2.2.2.2.1 (am_i32 hk (by decide))
        exact j_sub [0, 1, 2, 3, 4, 5] rfl (k805 _ _ _ _ _ _ _ _ _ h)
      · refine j_tableIn hX 861 eL_law_44 hsw1 hsw2 (by rw [hk]; rfl) (by decide) ?_
        replace h := h.2.2.2.2.2.2.2.2.2.2.1 (am_i32 hk (by decide))
        exact j_sub [0, 1, 2, 3, 4, 5] rfl (k861 _ _ _ _ _ _ _ _ _ h)
      · refine j_tableIn hX 917 eL_law_44 hsw1 hsw2 (by rw [hk]; rfl) (by decide) ?_
        replace h := h.2.2.2.2.2.2.2.2.2.2.2.1 (am_i32 hk (by decide))
        exact j_sub [0, 1, 2, 3, 4, 5] rfl (k917 _ _ _ _ _ _ _ _ _ h)
      · refine j_tableIn hX 973 eL_law_44 hsw1 hsw2 (by rw [hk]; rfl) (by decide) ?_
        replace h := h.2.2.2.2.2.2.2.2.2.2.2.2.1 (am_i32 hk (by decide))
        exact j_sub [0, 1, 2, 3, 4, 5] rfl (k973 _ _ _ _ _ _ _ _ _ h)
      · refine j_tableIn hX 1029 eL_law_44 hsw1 hsw2 (by rw [hk]; rfl) (by decide) ?_
        replace h := h.2.2.2.2.2.2.2.2.2.2.2.2.2.1 (am_i32 hk (by decide))
        exact j_sub [0, 1, 2, 3, 4, 5] rfl (k1029 _ _ _ _ _ _ _ _ _ h)
      · refine j_tableIn hX 1085 eL_law_44 hsw1 hsw2 (by rw [hk]; rfl) (by decide) ?_
        replace h := h.2.2.2.2.2.2.2.2.2.2.2.2.2.2.1 (am_i32 hk (by decide))
        exact j_sub [0, 1, 2, 3, 4, 5] rfl (k1085 _ _ _ _ _ _ _ _ _ h)
      · refine j_tableIn hX 1141 eL_law_44 hsw1 hsw2 (by rw [hk]; rfl) (by decide) ?_
        replace h := h.2.2.2.2.2.2.2.2.2.2.2.2.2.2.2.1 (am_i32 hk (by decide))
        exact j_sub [0, 1, 2, 3, 4, 5] rfl (k1141 _ _ _ _ _ _ _ _ _ h)
      · refine j_tableIn hX 1204 eL_law_44 hsw1 hsw2 (by rw [hk]; rfl) (by decide) ?_
        replace h := h.2.2.2.2.2.2.2.2.2.2.2.2.2.2.2.2.1 (am_i32 hk (by decide))
        exact j_sub [0, 1, 2, 3, 4, 5] rfl (k1204 _ _ _ _ _ _ _ _ _ h)
      · refine j_tableIn hX 1260 eL_law_44 hsw1 hsw2 (by rw [hk]; rfl) (by decide) ?_
        replace h := h.2.2.2.2.2.2.2.2.2.2.2.2.2.2.2.2.2.1 (am_i32 hk (by decide))
        exact j_sub [0, 1, 2, 3, 4, 5] rfl (k1260 _ _ _ _ _ _ _ _ _ h)
      · refine j_tableIn hX 1335 eL_law_44 hsw1 hsw2 (by rw [hk]; rfl) (by decide) ?_
        replace h := h.2.2.2.2.2.2.2.2.2.2.2.2.2.2.2.2.2.2.1 (am_i32 hk (by decide))
        exact j_sub [0, 1, 2, 3, 4, 5] rfl (k1335 _ _ _ _ _ _ _ _ _ h)
      · refine j_tableIn hX 1391 eL_law_44 hsw1 hsw2 (by rw [hk]; rfl) (by decide) ?_
        replace h := h.2.2.2.2.2.2.2.2.2.2.2.2.2.2.2.2.2.2.2.1 (am_i32 hk (by decide))
        exact j_sub [0, 1, 2, 3, 4, 5] rfl (k1391 _ _ _ _ _ _ _ _ _ h)
      · refine j_tableIn hX 1447 eL_law_44 hsw1 hsw2 (by rw [hk]; rfl) (by decide) ?_
        replace h := h.2.2.2.2.2.2.2.2.2.2.2.2.2.2.2.2.2.2.2.2.1 (am_i32 hk (by decide))
        exact j_sub [0, 1, 2, 3, 4, 5] rfl (k1447 _ _ _ _ _ _ _ _ _ h)
      · refine j_tableIn hX 1460 eL_law_44 hsw1 hsw2 (by rw [hk]; rfl) (by decide) ?_
        replace h := h.2.2.2.2.2.2.2.2.2.2.2.2.2.2.2.2.2.2.2.2.2.1 (am_i32 hk (by decide))
        exact j_sub [0, 1, 2, 3, 4, 5] rfl (k1460 _ _ _ _ _ _ _ _ _ h)
      · refine j_tableIn hX 1516 eL_law_44 hsw1 hsw2 (by rw [hk]; rfl) (by decide) ?_
        replace h := h.2.2.2.2.2.2.2.2.2.2.2.2.2.2.2.2.2.2.2.2.2.2.1 (am_i32 hk (by decide))
        exact j_sub [0, 1, 2, 3, 4, 5] rfl (k1516 _ _ _ _ _ _ _ _ _ h)
      · refine j_tableIn hX 1572 eL_law_44 hsw1 hsw2 (by rw [hk]; rfl) (by decide) ?_
        replace h := h.2.2.2.2.2.2.2.2.2.2.2.2.2.2.2.2.2.2.2.2.2.2.2.1 (am_i32 hk (by decide))
        exact j_sub [0, 1, 2, 3, 4, 5] rfl (k1572 _ _ _ _ _ _ _ _ _ h)
      · refine j_tableIn hX 1628 eL_law_44 hsw1 hsw2 (by rw [hk]; rfl) (by decide) ?_
        replace h := h.2.2.2.2.2.2.2.2.2.2.2.2.2.2.2.2.2.2.2.2.2.2.2.2.1 (am_i32 hk (by decide))
        exact j_sub [0, 1, 2, 3, 4, 5] rfl (k1628 _ _ _ _ _ _ _ _ _ h)
      · refine j_tableIn hX 1684 eL_law_44 hsw1 hsw2 (by rw [hk]; rfl) (by decide) ?_
        replace h := h.2.2.2.2.2.2.2.2.2.2.2.2.2.2.2.2.2.2.2.2.2.2.2.2.2.1 (am_i32 hk (by decide))
        exact j_sub [0, 1, 2, 3, 4, 5] rfl (k1684 _ _ _ _ _ _ _ _ _ h)
      · refine j_tableIn hX 1740 eL_law_44 hsw1 hsw2 (by rw [hk]; rfl) (by decide) ?_
        replace h := h.2.2.2.2.2.2.2.2.2.2.2.2.2.2.2.2.2.2.2.2.2.2.2.2.2.2.1 (am_i32 hk (by decide))
        exact j_sub [0, 1, 2, 3, 4, 5] rfl (k1740 _ _ _ _ _ _ _ _ _ h)
      · refine j_tableIn hX 1803 eL_law_44 hsw1 hsw2 (by rw [hk]; rfl) (by decide) ?_
        replace h := h.2.2.2.2.2.2.2.2.2.2.2.2.2.2.2.2.2.2.2.2.2.2.2.2.2.2.2.1 (am_i32 hk (by decide))
        exact j_sub [0, 1, 2, 3, 4, 5] rfl (k1803 _ _ _ _ _ _ _ _ _ h)
      · refine j_tableIn hX 1859 eL_law_44 hsw1 hsw2 (by rw [hk]; rfl) (by decide) ?_
        replace h := h.2.2.2.2.2.2.2.2.2.2.2.2.2.2.2.2.2.2.2.2.2.2.2.2.2.2.2.2.1 (am_i32 hk (by decide))
        exact j_sub [0, 1, 2, 3, 4, 5] rfl (k1859 _ _ _ _ _ _ _ _ _ h)
      · refine j_tableIn hX 1915 eL_law_44 hsw1 hsw2 (by rw [hk]; rfl) (by decide) ?_
        replace h := h.2.2.2.2.2.2.2.2.2.2.2.2.2.2.2.2.2.2.2.2.2.2.2.2.2.2.2.2.2.1 (am_i32 hk (by decide))
        exact j_sub [0, 1, 2, 3, 4, 5] rfl (k1915 _ _ _ _ _ _ _ _ _ h)
      · refine j_tableIn hX 1983 eL_law_44 hsw1 hsw2 (by rw [hk]; rfl) (by decide) ?_
        replace h := h.2.2.2.2.2.2.2.2.2.2.2.2.2.2.2.2.2.2.2.2.2.2.2.2.2.2.2.2.2.2.1 (am_i32 hk (by decide))
        exact j_sub [0, 1, 2, 3, 4, 5] rfl (k1983 _ _ _ _ _ _ _ _ _ h)
      · refine j_tableIn hX 2051 eL_law_44 hsw1 hsw2 (by rw [hk]; rfl) (by decide) ?_
        replace h := h.2.2.2.2.2.2.2.2.2.2.2.2.2.2.2.2.2.2.2.2.2.2.2.2.2.2.2.2.2.2.2.1 (am_i32 hk (by decide))
        exact j_sub [0, 1, 2, 3, 4, 5] rfl (k2051 _ _ _ _ _ _ _ _ _ h)
      · refine j_tableIn hX 2119 eL_law_44 hsw1 hsw2 (by rw [hk]; rfl) (by decide) ?_
        replace h := h.2.2.2.2.2.2.2.2.2.2.2.2.2.2.2.2.2.2.2.2.2.2.2.2.2.2.2.2.2.2.2.2.1 (am_i32 hk (by decide))
        exact j_sub [0, 1, 2, 3, 4, 5] rfl (k2119 _ _ _ _ _ _ _ _ _ h)
      · refine j_tableIn hX 2175 eL_law_44 hsw1 hsw2 (by rw [hk]; rfl) (by decide) ?_
        replace h := h.2.2.2.2.2.2.2.2.2.2.2.2.2.2.2.2.2.2.2.2.2.2.2.2.2.2.2.2.2.2.2.2.2.1 (am_i32 hk (by decide))
        exact j_sub [0, 1, 2, 3, 4, 5] rfl (k2175 _ _ _ _ _ _ _ _ _ h)
      · refine j_tableIn hX 2231 eL_law_44 hsw1 hsw2 (by rw [hk]; rfl) (by decide) ?_
        replace h := h.2.2.2.2.2.2.2.2.2.2.2.2.2.2.2.2.2.2.2.2.2.2.2.2.2.2.2.2.2.2.2.2.2.2.1 (am_i32 hk (by decide))
        exact j_sub [0, 1, 2, 3, 4, 5] rfl (k2231 _ _ _ _ _ _ _ _ _ h)
      · refine j_tableIn hX 2287 eL_law_44 hsw1 hsw2 (by rw [hk]; rfl) (by decide) ?_
        replace h := h.2.2.2.2.2.2.2.2.2.2.2.2.2.2.2.2.2.2.2.2.2.2.2.2.2.2.2.2.2.2.2.2.2.2.2.1 (am_i32 hk (by decide))
        exact j_sub [0, 1, 2, 3, 4, 5] rfl (k2287 _ _ _ _ _ _ _ _ _ h)
      · refine j_tableIn hX 2343 eL_law_44 hsw1 hsw2 (by rw [hk]; rfl) (by decide) ?_
        replace h := h.2.2.2.2.2.2.2.2.2.2.2.2.2.2.2.2.2.2.2.2.2.2.2.2.2.2.2.2.2.2.2.2.2.2.2.2.1 (am_i32 hk (by decide))
        exact j_sub [0, 1, 2, 3, 4, 5] rfl (k2343 _ _ _ _ _ _ _ _ _ h)
      · refine j_tableIn hX 2399 eL_law_44 hsw1 hsw2 (by rw [hk]; rfl) (by decide) ?_
        replace h := h.2.2.2.2.2.2.2.2.2.2.2.2.2.2.2.2.2.2.2.2.2.2.2.2.2.2.2.2.2.2.2.2.2.2.2.2.2.1 (am_i32 hk (by decide))
        exact j_sub [0, 1, 2, 3, 4, 5] rfl (k2399 _ _ _ _ _ _ _ _ _ h)
      · refine j_tableIn hX 2455 eL_law_44 hsw1 hsw2 (by rw [hk]; rfl) (by decide) ?_
        replace h := h.2.2.2.2.2.2.2.2.2.2.2.2.2.2.2.2.2.2.2.2.2.2.2.2.2.2.2.2.2.2.2.2.2.2.2.2.2.2.1 (am_i32 hk (by decide))
        exact j_sub [0, 1, 2, 3, 4, 5] rfl (k2455 _ _ _ _ _ _ _ _ _ h)
      · refine j_tableIn hX 2511 eL_law_44 hsw1 hsw2 (by rw [hk]; rfl) (by decide) ?_
        replace h := h.2.2.2.2.2.2.2.2.2.2.2.2.2.2.2.2.2.2.2.2.2.2.2.2.2.2.2.2.2.2.2.2.2.2.2.2.2.2.2.1 (am_i32 hk (by decide))
        exact j_sub [0, 1, 2, 3, 4, 5] rfl (k2511 _ _ _ _ _ _ _ _ _ h)
      · refine j_tableIn hX 2567 eL_law_44 hsw1 hsw2 (by rw [hk]; rfl) (by decide) ?_
        replace h := h.2.2.2.2.2.2.2.2.2.2.2.2.2.2.2.2.2.2.2.2.2.2.2.2.2.2.2.2.2.2.2.2.2.2.2.2.2.2.2.2.1 (am_i32 hk (by decide))
        exact j_sub [0, 1, 2, 3, 4, 5] rfl (k2567 _ _ _ _ _ _ _ _ _ h)
      · refine j_tableIn hX 2580 eL_law_44 hsw1 hsw2 (by rw [hk]; rfl) (by decide) ?_
        replace h := h.2.2.2.2.2.2.2.2.2.2.2.2.2.2.2.2.2.2.2.2.2.2.2.2.2.2.2.2.2.2.2.2.2.2.2.2.2.2.2.2.2.1 (am_i32 hk (by decide))
        exact j_sub [0, 1, 2, 3, 4, 5] rfl (k2580 _ _ _ _ _ _ _ _ _ h)
      · refine j_tableIn hX 2594 eL_law_44 hsw1 hsw2 (by rw [hk]; rfl) (by decide) ?_
        replace h := h.2.2.2.2.2.2.2.2.2.2.2.2.2.2.2.2.2.2.2.2.2.2.2.2.2.2.2.2.2.2.2.2.2.2.2.2.2.2.2.2.2.2.1 (am_i32 hk (by decide))
        exact j_sub [0, 1, 2, 3, 4, 5] rfl (k2594 _ _ _ _ _ _ _ _ _ h)
      · refine j_tableIn hX 2608 eL_law_44 hsw1 hsw2 (by rw [hk]; rfl) (by decide) ?_
        replace h := h.2.2.2.2.2.2.2.2.2.2.2.2.2.2.2.2.2.2.2.2.2.2.2.2.2.2.2.2.2.2.2.2.2.2.2.2.2.2.2.2.2.2.2.1 (am_i32 hk (by decide))
        exact j_sub [0, 1, 2, 3, 4, 5] rfl (k2608 _ _ _ _ _ _ _ _ _ h)
      · refine j_tableIn hX 2621 eL_law_44 hsw1 hsw2 (by rw [hk]; rfl) (by decide) ?_
        replace h := h.2.2.2.2.2.2.2.2.2.2.2.2.2.2.2.2.2.2.2.2.2.2.2.2.2.2.2.2.2.2.2.2.2.2.2.2.2.2.2.2.2.2.2.2.1 (am_i32 hk (by decide))
        exact j_sub [0, 1, 2, 3, 4, 5] rfl (k2621 _ _ _ _ _ _ _ _ _ h)
      · refine j_tableIn hX 2634 eL_law_44 hsw1 hsw2 (by rw [hk]; rfl) (by decide) ?_
        replace h := h.2.2.2.2.2.2.2.2.2.2.2.2.2.2.2.2.2.2.2.2.2.2.2.2.2.2.2.2.2.2.2.2.2.2.2.2.2.2.2.2.2.2.2.2.2.1 (am_i32 hk (by decide))
        exact j_sub [0, 1, 2, 3, 4, 5] rfl (k2634 _ _ _ _ _ _ _ _ _ h)
      · refine j_tableIn hX 2647 eL_law_44 hsw1 hsw2 (by rw [hk]; rfl) (by decide) ?_
        replace h := h.2.2.2.2.2.2.2.2.2.2.2.2.2.2.2.2.2.2.2.2.2.2.2.2.2.2.2.2.2.2.2.2.2.2.2.2.2.2.2.2.2.2.2.2.2.2.1 (am_i32 hk (by decide))
        exact j_sub [0, 1, 2, 3, 4, 5] rfl (k2647 _ _ _ _ _ _ _ _ _ h)
      · refine j_tableIn hX 2712 eL_law_44 hsw1 hsw2 (by rw [hk]; rfl) (by decide) ?_
        replace h := h.2.2.2.2.2.2.2.2.2.2.2.2.2.2.2.2.2.2.2.2.2.2.2.2.2.2.2.2.2.2.2.2.2.2.2.2.2.2.2.2.2.2.2.2.2.2.2.1 (am_i32 hk (by decide))
        exact j_sub [0, 1, 2, 3, 4, 5] rfl (k2712 _ _ _ _ _ _ _ _ _ h)
      · refine j_tableIn hX 2790 eL_law_44 hsw1 hsw2 (by rw [hk]; rfl) (by decide) ?_
        replace h := h.2.2.2.2.2.2.2.2.2.2.2.2.2.2.2.2.2.2.2.2.2.2.2.2.2.2.2.2.2.2.2.2.2.2.2.2.2.2.2.2.2.2.2.2.2.2.2.2.1 (am_i32 hk (by decide))
        exact j_sub [0, 1, 2, 3, 4, 5] rfl (k2790 _ _ _ _ _ _ _ _ _ h)
      · refine j_tableIn hX 2803 eL_law_44 hsw1 hsw2 (by rw [hk]; rfl) (by decide) ?_
        replace h := h.2.2.2.2.2.2.2.2.2.2.2.2.2.2.2.2.2.2.2.2.2.2.2.2.2.2.2.2.2.2.2.2.2.2.2.2.2.2.2.2.2.2.2.2.2.2.2.2.2.1 (am_i32 hk (by decide))
        exact j_sub [0, 1, 2, 3, 4, 5] rfl (k2803 _ _ _ _ _ _ _ _ _ h)
      · refine j_tableIn hX 2859 eL_law_44 hsw1 hsw2 (by rw [hk]; rfl) (by decide) ?_
        replace h := h.2.2.2.2.2.2.2.2.2.2.2.2.2.2.2.2.2.2.2.2.2.2.2.2.2.2.2.2.2.2.2.2.2.2.2.2.2.2.2.2.2.2.2.2.2.2.2.2.2.2.1 (am_i32 hk (by decide))
        exact j_sub [0, 1, 2, 3, 4, 5] rfl (k2859 _ _ _ _ _ _ _ _ _ h)
      · refine j_tableIn hX 2872 eL_law_44 hsw1 hsw2 (by rw [hk]; rfl) (by decide) ?_
        replace h := h.2.2.2.2.2.2.2.2.2.2.2.2.2.2.2.2.2.2.2.2.2.2.2.2.2.2.2.2.2.2.2.2.2.2.2.2.2.2.2.2.2.2.2.2.2.2.2.2.2.2.2.1 (am_i32 hk (by decide))
        exact j_sub [0, 1, 2, 3, 4, 5] rfl (k2872 _ _ _ _ _ _ _ _ _ h)
      · refine j_tableIn hX 2928 eL_law_44 hsw1 hsw2 (by rw [hk]; rfl) (by decide) ?_
        replace h := h.2.2.2.2.2.2.2.2.2.2.2.2.2.2.2.2.2.2.2.2.2.2.2.2.2.2.2.2.2.2.2.2.2.2.2.2.2.2.2.2.2.2.2.2.2.2.2.2.2.2.2.2.1 (am_i32 hk (by decide))
        exact j_sub [0, 1, 2, 3, 4, 5] rfl (k2928 _ _ _ _ _ _ _ _ _ h)
      · refine j_tableIn hX 2986 eL_law_44 hsw1 hsw2 (by rw [hk]; rfl) (by decide) ?_
        replace h := h.2.2.2.2.2.2.2.2.2.2.2.2.2.2.2.2.2.2.2.2.2.2.2.2.2.2.2.2.2.2.2.2.2.2.2.2.2.2.2.2.2.2.2.2.2.2.2.2.2.2.2.2.2.1 (am_i32 hk (by decide))
        exact j_sub [0, 1, 2, 3, 4, 5] rfl (k2986 _ _ _ _ _ _ _ _ _ h)
      · refine j_tableIn hX 3030 eL_law_44 hsw1 hsw2 (by rw [hk]; rfl) (by decide) ?_
        replace h := h.2.2.2.2.2.2.2.2.2.2.2.2.2.2.2.2.2.2.2.2.2.2.2.2.2.2.2.2.2.2.2.2.2.2.2.2.2.2.2.2.2.2.2.2.2.2.2.2.2.2.2.2.2.2.1 (am_i32 hk (by decide))
        exact j_sub [0, 1, 2, 3, 4, 5] rfl (k3030 _ _ _ _ _ _ _ _ _ h)
      · refine j_tableIn hX 3074 eL_law_44 hsw1 hsw2 (by rw [hk]; rfl) (by decide) ?_
        replace h := h.2.2.2.2.2.2.2.2.2.2.2.2.2.2.2.2.2.2.2.2.2.2.2.2.2.2.2.2.2.2.2.2.2.2.2.2.2.2.2.2.2.2.2.2.2.2.2.2.2.2.2.2.2.2.2.1 (am_i32 hk (by decide))
        exact j_sub [0, 1, 2, 3, 4, 5] rfl (k3074 _ _ _ _ _ _ _ _ _ h)
      · refine j_tableIn hX 3118 eL_law_44 hsw1 hsw2 (by rw [hk]; rfl) (by decide) ?_
        replace h := h.2.2.2.2.2.2.2.2.2.2.2.2.2.2.2.2.2.2.2.2.2.2.2.2.2.2.2.2.2.2.2.2.2.2.2.2.2.2.2.2.2.2.2.2.2.2.2.2.2.2.2.2.2.2.2.2.1 (am_i32 hk (by decide))
        exact j_sub [0, 1, 2, 3, 4, 5] rfl (k3118 _ _ _ _ _ _ _ _ _ h)
      · refine j_tableIn hX 3162 eL_law_44 hsw1 hsw2 (by rw [hk]; rfl) (by decide) ?_
        replace h := h.2.2.2.2.2.2.2.2.2.2.2.2.2.2.2.2.2.2.2.2.2.2.2.2.2.2.2.2.2.2.2.2.2.2.2.2.2.2.2.2.2.2.2.2.2.2.2.2.2.2.2.2.2.2.2.2.2.1 (am_i32 hk (by decide))
        exact j_sub [0, 1, 2, 3, 4, 5] rfl (k3162 _ _ _ _ _ _ _ _ _ h)
      · refine j_tableIn hX 3175 eL_law_44 hsw1 hsw2 (by rw [hk]; rfl) (by decide) ?_
        replace h := h.2.2.2.2.2.2.2.2.2.2.2.2.2.2.2.2.2.2.2.2.2.2.2.2.2.2.2.2.2.2.2.2.2.2.2.2.2.2.2.2.2.2.2.2.2.2.2.2.2.2.2.2.2.2.2.2.2.2 (am_i32 hk (by decide))
        exact j_sub [0, 1, 2, 3, 4, 5] rfl (k3175 _ _ _ _ _ _ _ _ _ h)
set_option maxHeartbeats 4000000 in
set_option maxRecDepth 20000 in
theorem vL_law_3219 {X : am_Cx} {G : am_Gx} {d : Nat} (hX : am_ok X rL_law G (d + 1)) (hret : ∀ {pc : Nat} {lv : List (Nat × Value)} {M : am_Hp} {bc bs : Nat}, decode rL_law.2.1 pc = .ok (.ireturn, 1) → am_J X pc lv [.int (1 : Int32)] M bc bs) {bc bs : Nat} (R28 : Nat → Nat → Nat → Nat → Nat → Int32 → am_Hp → Nat → Nat → Prop) (k28 : ∀ (x0 : Nat) (x1 : Nat) (x2 : Nat) (x3 : Nat) (x4 : Nat) (x5 : Int32) (M : am_Hp) (bc bs : Nat), R28 x0 x1 x2 x3 x4 x5 M bc bs → am_J X 28 [(0, .ref x0), (1, .ref x1), (2, .ref x2), (3, .ref x3), (4, .ref x4), (5, .int x5)] [] M bc bs) {a0 : Nat} {a1 : Nat} {a2 : Nat} {a3 : Nat} {a4 : Nat} {a5 : Int32} {M : am_Hp} (h : ∀ v1 : Int32, v1 = a5 + (4 : Int32) → (R28 a0 a1 a2 a3 a4 v1 M bc bs)) : am_J X 3219 [(0, .ref a0), (1, .ref a1), (2, .ref a2), (3, .ref a3), (4, .ref a4), (5, .int a5)] [] M bc bs := by
  obtain ⟨v1, ev1⟩ : ∃ v1 : Int32, v1 = a5 + (4 : Int32) := ⟨_, rfl⟩
  replace h := h v1 ev1
  refine j_iinc (v := v1) (lv' := [(5, .int v1), (0, .ref a0), (1, .ref a1), (2, .ref a2), (3, .ref a3), (4, .ref a4)]) hX eL_law_3219 5 rfl (by rw [ev1]; rfl) (by decide) rfl ?_
  refine j_goto hX 28 eL_law_3222 (by decide) ?_
  exact j_sub [1, 2, 3, 4, 5, 0] rfl (k28 _ _ _ _ _ _ _ _ _ h)
set_option maxHeartbeats 4000000 in
set_option maxRecDepth 20000 in
theorem vL_law_296 {X : am_Cx} {G : am_Gx} {d : Nat} (hX : am_ok X rL_law G (d + 1)) (hret : ∀ {pc : Nat} {lv : List (Nat × Value)} {M : am_Hp} {bc bs : Nat}, decode rL_law.2.1 pc = .ok (.ireturn, 1) → am_J X pc lv [.int (1 : Int32)] M bc bs) {bc bs : Nat} (R3219 : Nat → Nat → Nat → Nat → Nat → Int32 → am_Hp → Nat → Nat → Prop) (k3219 : ∀ (x0 : Nat) (x1 : Nat) (x2 : Nat) (x3 : Nat) (x4 : Nat) (x5 : Int32) (M : am_Hp) (bc bs : Nat), R3219 x0 x1 x2 x3 x4 x5 M bc bs → am_J X 3219 [(0, .ref x0), (1, .ref x1), (2, .ref x2), (3, .ref x3), (4, .ref x4), (5, .int x5)] [] M bc bs) {a0 : Nat} {a1 : Nat} {a2 : Nat} {a3 : Nat} {a4 : Nat} {a5 : Int32} {M : am_Hp} (h : hp_T M (a0) = 42 ∧ (vp_in (a5 + (1 : Int32)) (hp_N M a0) ∧ (vp_in (a5 + (2 : Int32)) (hp_N M a0) ∧ (vp_in (a5 + (3 : Int32)) (hp_N M a0) ∧ (1 ≤ bc ∧ (6 ≤ bs ∧ (am_CT G d rL_addPassenger [.ref a1, .int (hp_E M a0 ((a5 + (1 : Int32))).toNatClampNeg), .int (hp_E M a0 ((a5 + (2 : Int32))).toNatClampNeg), .int (hp_E M a0 ((a5 + (3 : Int32))).toNatClampNeg), .ref a3] M 1 6 (fun oz9 M5 => (∃ v6 : Int32, oz9 = .inl (some (.int v6)) ∧ (hp_T M5 (a0) = 42 ∧ (vp_in (a5 + (1 : Int32)) (hp_N M5 a0) ∧ (vp_in (a5 + (2 : Int32)) (hp_N M5 a0) ∧ (vp_in (a5 + (3 : Int32)) (hp_N M5 a0) ∧ (hp_T M5 (a2) = 8 ∧ (am_CT G d rX7_addPassenger [.ref a2, .int (hp_E M5 a0 ((a5 + (1 : Int32))).toNatClampNeg), .int (hp_E M5 a0 ((a5 + (2 : Int32))).toNatClampNeg), .int (hp_E M5 a0 ((a5 + (3 : Int32))).toNatClampNeg)] M5 0 0 (fun oz9 M13 => ∃ v14 : Int32, oz9 = .inl (some (.int v14)) ∧ (hp_T M13 (a2) = 8 ∧ (am_CT G d rX7_thrown [.ref a2] M13 0 0 (fun oz9 M16 => ∃ v17 : Int32, oz9 = .inl (some (.int v17)) ∧ (((v17 = v6) → (((v6 = 0) → (hp_T M16 (a3) = 23 ∧ (vp_in (0 : Int32) (hp_N M16 a3) ∧ ((((lg_cmp (hp_L M16 a3 ((0 : Int32)).toNatClampNeg) ((v14).toInt64)) = 0) → (R3219 a0 a1 a2 a3 a4 a5 M16 (bc - 1) (bs - 6))) ∧ (¬ ((lg_cmp (hp_L M16 a3 ((0 : Int32)).toNatClampNeg) ((v14).toInt64)) = 0) → (False)))))) ∧ (¬ (v6 = 0) → (R3219 a0 a1 a2 a3 a4 a5 M16 (bc - 1) (bs - 6))))) ∧ (¬ (v17 = v6) → (False)))))))))))))) ∨ ((oz9 = .inr "java/lang/IndexOutOfBoundsException" ∧ False)) ∨ ((oz9 = .inr "java/lang/UnsupportedOperationException" ∧ False)))))))))) : am_J X 296 [(0, .ref a0), (1, .ref a1), (2, .ref a2), (3, .ref a3), (4, .ref a4), (5, .int a5)] [] M bc bs := by
  refine j_aload_n hX eL_law_296 1 rfl ?_
  refine j_aload_n hX eL_law_297 0 rfl ?_
  refine j_iload hX eL_law_298 5 rfl ?_
  refine j_iconst (v := (1 : Int32)) hX eL_law_300 (by decide) ?_
  refine j_iadd hX eL_law_301 ?_
  obtain ⟨t1, h⟩ := h
  obtain ⟨i2, h⟩ := h
  refine j_ialdx hX eL_law_302 t1 i2 ?_
  refine j_aload_n hX eL_law_303 0 rfl ?_
  refine j_iload hX eL_law_304 5 rfl ?_
  refine j_iconst (v := (2 : Int32)) hX eL_law_306 (by decide) ?_
  refine j_iadd hX eL_law_307 ?_
  obtain ⟨i3, h⟩ := h
  refine j_ialdx hX eL_law_308 t1 i3 ?_
  refine j_aload_n hX eL_law_309 0 rfl ?_
  refine j_iload hX eL_law_310 5 rfl ?_
  refine j_iconst (v := (3 : Int32)) hX eL_law_312 (by decide) ?_
  refine j_iadd hX eL_law_313 ?_
  obtain ⟨i4, h⟩ := h
  refine j_ialdx hX eL_law_314 t1 i4 ?_
  refine j_aload_n hX eL_law_315 3 rfl ?_
  obtain ⟨b7, b8, h⟩ := h
  refine j_callSX (r' := rL_addPassenger) (As := [.ref a1, .int (hp_E M a0 ((a5 + (1 : Int32))).toNatClampNeg), .int (hp_E M a0 ((a5 + (2 : Int32))).toNatClampNeg), .int (hp_E M a0 ((a5 + (3 : Int32))).toNatClampNeg), .ref a3]) (rest := []) (d1 := d) hX eL_law_316 mm_LiftGroupLaw_179 (by decide) rfl h rfl (Nat.le_refl _) b7 b8 (Nat.le_of_ble_eq_true rfl) (fun vz9 Mz9 qz9 => ?_) (fun Ez9 Mz9 qz9 => ?_)
  · obtain ⟨M5, eMz9⟩ : ∃ M5, M5 = Mz9 := ⟨_, rfl⟩; subst eMz9
    rcases qz9 with ⟨v6, hxz9, h⟩ | ⟨hxz9, h⟩ | ⟨hxz9, h⟩ <;> cases hxz9
    refine j_istore (lv' := [(6, .int v6), (0, .ref a0), (1, .ref a1), (2, .ref a2), (3, .ref a3), (4, .ref a4), (5, .int a5)]) hX eL_law_319 (by decide) rfl ?_
    refine j_aload_n hX eL_law_321 3 rfl ?_
    refine j_aload_n hX eL_law_322 1 rfl ?_
    refine j_iload hX eL_law_323 6 rfl ?_
    refine j_iconst (v := (1 : Int32)) hX eL_law_325 (by decide) ?_
    refine j_iadd hX eL_law_326 ?_
    obtain ⟨t9, h⟩ := h
    obtain ⟨i10, h⟩ := h
    refine j_ialdx hX eL_law_327 t9 i10 ?_
    refine j_aload_n hX eL_law_328 1 rfl ?_
    refine j_iload hX eL_law_329 6 rfl ?_
    refine j_iconst (v := (2 : Int32)) hX eL_law_331 (by decide) ?_
    refine j_iadd hX eL_law_332 ?_
    obtain ⟨i11, h⟩ := h
    refine j_ialdx hX eL_law_333 t9 i11 ?_
    refine j_aload_n hX eL_law_334 1 rfl ?_
    refine j_iload hX eL_law_335 6 rfl ?_
    refine j_iconst (v := (3 : Int32)) hX eL_law_337 (by decide) ?_
    refine j_iadd hX eL_law_338 ?_
    obtain ⟨i12, h⟩ := h
    refine j_ialdx hX eL_law_339 t9 i12 ?_
    obtain ⟨t15, h⟩ := h
    refine j_callV (a := a2) (q := (RX7, TX7, 17)) (r' := rX7_addPassenger) (As := [.int (hp_E M5 a0 ((a5 + (1 : Int32))).toNatClampNeg), .int (hp_E M5 a0 ((a5 + (2 : Int32))).toNatClampNeg), .int (hp_E M5 a0 ((a5 + (3 : Int32))).toNatClampNeg)]) (rest := []) (d1 := d) hX eL_law_340 mm_LiftGroupLaw_184 rfl t15 (by decide) rfl h rfl (Nat.le_refl _) (Nat.zero_le _) (Nat.zero_le _) (Nat.le_of_ble_eq_true rfl) (fun vz9 Mz9 qz9 => ?_) (fun Ez9 Mz9 qz9 => ?_)
    · obtain ⟨M13, eMz9⟩ : ∃ M13, M13 = Mz9 := ⟨_, rfl⟩; subst eMz9
      obtain ⟨v14, hxz9, h⟩ := qz9
      cases hxz9
      refine j_istore (lv' := [(7, .int v14), (6, .int v6), (0, .ref a0), (1, .ref a1), (2, .ref a2), (3, .ref a3), (4, .ref a4), (5, .int a5)]) hX eL_law_343 (by decide) rfl ?_
      refine j_aload_n hX eL_law_345 4 rfl ?_
      obtain ⟨t18, h⟩ := h
      refine j_callV (a := a2) (q := (RX7, TX7, 17)) (r' := rX7_thrown) (As := []) (rest := []) (d1 := d) hX eL_law_346 mm_LiftGroupLaw_185 rfl t18 (by decide) rfl h rfl (Nat.le_refl _) (Nat.zero_le _) (Nat.zero_le _) (Nat.le_of_ble_eq_true rfl) (fun vz9 Mz9 qz9 => ?_) (fun Ez9 Mz9 qz9 => ?_)
      · obtain ⟨M16, eMz9⟩ : ∃ M16, M16 = Mz9 := ⟨_, rfl⟩; subst eMz9
        obtain ⟨v17, hxz9, h⟩ := qz9
        cases hxz9
        refine j_iload hX eL_law_349 1 rfl ?_
        refine j_icmp_eq hX 356 eL_law_351 (by decide) (fun c19 => ?_) (fun c19 => ?_)
        · replace h := h.1 c19
          refine j_iload hX eL_law_356 1 rfl ?_
          refine j_if_ne hX 373 eL_law_358 (by decide) (fun c20 => ?_) (fun c20 => ?_)
          · replace h := h.2 c20
            refine j_goto hX 3219 eL_law_373 (by decide) ?_
            exact j_sub [2, 3, 4, 5, 6, 7] rfl (k3219 _ _ _ _ _ _ _ _ _ h)
          · replace h := h.1 c20
            refine j_aload_n hX eL_law_361 5 rfl ?_
            refine j_iconst (v := (0 : Int32)) hX eL_law_362 (by decide) ?_
            obtain ⟨t21, h⟩ := h
            obtain ⟨i22, h⟩ := h
            refine j_lald hX eL_law_363 t21 i22 ?_
            refine j_iload hX eL_law_364 0 rfl ?_
            refine j_i2l hX eL_law_366 ?_
            refine j_lcmp hX eL_law_367 ?_
            refine j_if_eq hX 373 eL_law_368 (by decide) (fun c23 => ?_) (fun c23 => ?_)
            · replace h := h.1 c23
              refine j_goto hX 3219 eL_law_373 (by decide) ?_
              exact j_sub [2, 3, 4, 5, 6, 7] rfl (k3219 _ _ _ _ _ _ _ _ _ h)
            · replace h := h.2 c23
              refine j_iconst (v := (0 : Int32)) hX eL_law_371 (by decide) ?_
              exact h.elim
        · replace h := h.2 c19
          refine j_iconst (v := (0 : Int32)) hX eL_law_354 (by decide) ?_
          exact h.elim
      · obtain ⟨v17, hxz9, h⟩ := qz9
        cases hxz9
    · obtain ⟨v14, hxz9, h⟩ := qz9
      cases hxz9
  · obtain ⟨M5, eMz9⟩ : ∃ M5, M5 = Mz9 := ⟨_, rfl⟩; subst eMz9
    rcases qz9 with ⟨v6, hxz9, h⟩ | ⟨hxz9, h⟩ | ⟨hxz9, h⟩ <;> cases hxz9
    · exact h.elim
    · exact h.elim
set_option maxHeartbeats 4000000 in
set_option maxRecDepth 20000 in
theorem vL_law_376 {X : am_Cx} {G : am_Gx} {d : Nat} (hX : am_ok X rL_law G (d + 1)) (hret : ∀ {pc : Nat} {lv : List (Nat × Value)} {M : am_Hp} {bc bs : Nat}, decode rL_law.2.1 pc = .ok (.ireturn, 1) → am_J X pc lv [.int (1 : Int32)] M bc bs) {bc bs : Nat} (R3219 : Nat → Nat → Nat → Nat → Nat → Int32 → am_Hp → Nat → Nat → Prop) (k3219 : ∀ (x0 : Nat) (x1 : Nat) (x2 : Nat) (x3 : Nat) (x4 : Nat) (x5 : Int32) (M : am_Hp) (bc bs : Nat), R3219 x0 x1 x2 x3 x4 x5 M bc bs → am_J X 3219 [(0, .ref x0), (1, .ref x1), (2, .ref x2), (3, .ref x3), (4, .ref x4), (5, .int x5)] [] M bc bs) {a0 : Nat} {a1 : Nat} {a2 : Nat} {a3 : Nat} {a4 : Nat} {a5 : Int32} {M : am_Hp} (h : hp_T M (a0) = 42 ∧ (vp_in (a5 + (1 : Int32)) (hp_N M a0) ∧ (1 ≤ bc ∧ (6 ≤ bs ∧ (am_CT G d rL_removePassenger [.ref a1, .int (hp_E M a0 ((a5 + (1 : Int32))).toNatClampNeg), .ref a3] M 1 6 (fun oz9 M3 => (∃ v4 : Int32, oz9 = .inl (some (.int v4)) ∧ (hp_T M3 (a0) = 42 ∧ (vp_in (a5 + (1 : Int32)) (hp_N M3 a0) ∧ (hp_T M3 (a2) = 8 ∧ (am_CT G d rX7_removePassenger [.ref a2, .int (hp_E M3 a0 ((a5 + (1 : Int32))).toNatClampNeg)] M3 0 0 (fun oz9 M9 => ∃ v10 : Int32, oz9 = .inl (some (.int v10)) ∧ (hp_T M9 (a2) = 8 ∧ (am_CT G d rX7_thrown [.ref a2] M9 0 0 (fun oz9 M12 => ∃ v13 : Int32, oz9 = .inl (some (.int v13)) ∧ (((v13 = v4) → (((v4 = 0) → (hp_T M12 (a3) = 23 ∧ (vp_in (0 : Int32) (hp_N M12 a3) ∧ ((((lg_cmp (hp_L M12 a3 ((0 : Int32)).toNatClampNeg) ((v10).toInt64)) = 0) → (R3219 a0 a1 a2 a3 a4 a5 M12 (bc - 1) (bs - 6))) ∧ (¬ ((lg_cmp (hp_L M12 a3 ((0 : Int32)).toNatClampNeg) ((v10).toInt64)) = 0) → (False)))))) ∧ (¬ (v4 = 0) → (R3219 a0 a1 a2 a3 a4 a5 M12 (bc - 1) (bs - 6))))) ∧ (¬ (v13 = v4) → (False)))))))))))) ∨ ((oz9 = .inr "java/lang/IllegalArgumentException" ∧ False)) ∨ ((oz9 = .inr "java/lang/UnsupportedOperationException" ∧ False)))))))) : am_J X 376 [(0, .ref a0), (1, .ref a1), (2, .ref a2), (3, .ref a3), (4, .ref a4), (5, .int a5)] [] M bc bs := by
  refine j_aload_n hX eL_law_376 1 rfl ?_
  refine j_aload_n hX eL_law_377 0 rfl ?_
  refine j_iload hX eL_law_378 5 rfl ?_
  refine j_iconst (v := (1 : Int32)) hX eL_law_380 (by decide) ?_
  refine j_iadd hX eL_law_381 ?_
  obtain ⟨t1, h⟩ := h
  obtain ⟨i2, h⟩ := h
  refine j_ialdx hX eL_law_382 t1 i2 ?_
  refine j_aload_n hX eL_law_383 3 rfl ?_
  obtain ⟨b5, b6, h⟩ := h
  refine j_callSX (r' := rL_removePassenger) (As := [.ref a1, .int (hp_E M a0 ((a5 + (1 : Int32))).toNatClampNeg), .ref a3]) (rest := []) (d1 := d) hX eL_law_384 mm_LiftGroupLaw_188 (by decide) rfl h rfl (Nat.le_refl _) b5 b6 (Nat.le_of_ble_eq_true rfl) (fun vz9 Mz9 qz9 => ?_) (fun Ez9 Mz9 qz9 => ?_)
  · obtain ⟨M3, eMz9⟩ : ∃ M3, M3 = Mz9 := ⟨_, rfl⟩; subst eMz9
    rcases qz9 with ⟨v4, hxz9, h⟩ | ⟨hxz9, h⟩ | ⟨hxz9, h⟩ <;> cases hxz9
    refine j_istore (lv' := [(6, .int v4), (0, .ref a0), (1, .ref a1), (2, .ref a2), (3, .ref a3), (4, .ref a4), (5, .int a5)]) hX eL_law_387 (by decide) rfl ?_
    refine j_aload_n hX eL_law_389 3 rfl ?_
    refine j_aload_n hX eL_law_390 1 rfl ?_
    refine j_iload hX eL_law_391 6 rfl ?_
    refine j_iconst (v := (1 : Int32)) hX eL_law_393 (by decide) ?_
    refine j_iadd hX eL_law_394 ?_
    obtain ⟨t7, h⟩ := h
    obtain ⟨i8, h⟩ := h
    refine j_ialdx hX eL_law_395 t7 i8 ?_
    obtain ⟨t11, h⟩ := h
    refine j_callV (a := a2) (q := (RX7, TX7, 17)) (r' := rX7_removePassenger) (As := [.int (hp_E M3 a0 ((a5 + (1 : Int32))).toNatClampNeg)]) (rest := []) (d1 := d) hX eL_law_396 mm_LiftGroupLaw_191 rfl t11 (by decide) rfl h rfl (Nat.le_refl _) (Nat.zero_le _) (Nat.zero_le _) (Nat.le_of_ble_eq_true rfl) (fun vz9 Mz9 qz9 => ?_) (fun Ez9 Mz9 qz9 => ?_)
    · obtain ⟨M9, eMz9⟩ : ∃ M9, M9 = Mz9 := ⟨_, rfl⟩; subst eMz9
      obtain ⟨v10, hxz9, h⟩ := qz9
      cases hxz9
      refine j_istore (lv' := [(7, .int v10), (6, .int v4), (0, .ref a0), (1, .ref a1), (2, .ref a2), (3, .ref a3), (4, .ref a4), (5, .int a5)]) hX eL_law_399 (by decide) rfl ?_
      refine j_aload_n hX eL_law_401 4 rfl ?_
      obtain ⟨t14, h⟩ := h
      refine j_callV (a := a2) (q := (RX7, TX7, 17)) (r' := rX7_thrown) (As := []) (rest := []) (d1 := d) hX eL_law_402 mm_LiftGroupLaw_185 rfl t14 (by decide) rfl h rfl (Nat.le_refl _) (Nat.zero_le _) (Nat.zero_le _) (Nat.le_of_ble_eq_true rfl) (fun vz9 Mz9 qz9 => ?_) (fun Ez9 Mz9 qz9 => ?_)
      · obtain ⟨M12, eMz9⟩ : ∃ M12, M12 = Mz9 := ⟨_, rfl⟩; subst eMz9
        obtain ⟨v13, hxz9, h⟩ := qz9
        cases hxz9
        refine j_iload hX eL_law_405 1 rfl ?_
        refine j_icmp_eq hX 412 eL_law_407 (by decide) (fun c15 => ?_) (fun c15 => ?_)
        · replace h := h.1 c15
          refine j_iload hX eL_law_412 1 rfl ?_
          refine j_if_ne hX 429 eL_law_414 (by decide) (fun c16 => ?_) (fun c16 => ?_)
          · replace h := h.2 c16
            refine j_goto hX 3219 eL_law_429 (by decide) ?_
            exact j_sub [2, 3, 4, 5, 6, 7] rfl (k3219 _ _ _ _ _ _ _ _ _ h)
          · replace h := h.1 c16
            refine j_aload_n hX eL_law_417 5 rfl ?_
            refine j_iconst (v := (0 : Int32)) hX eL_law_418 (by decide) ?_
            obtain ⟨t17, h⟩ := h
            obtain ⟨i18, h⟩ := h
            refine j_lald hX eL_law_419 t17 i18 ?_
            refine j_iload hX eL_law_420 0 rfl ?_
            refine j_i2l hX eL_law_422 ?_
            refine j_lcmp hX eL_law_423 ?_
            refine j_if_eq hX 429 eL_law_424 (by decide) (fun c19 => ?_) (fun c19 => ?_)
            · replace h := h.1 c19
              refine j_goto hX 3219 eL_law_429 (by decide) ?_
              exact j_sub [2, 3, 4, 5, 6, 7] rfl (k3219 _ _ _ _ _ _ _ _ _ h)
            · replace h := h.2 c19
              refine j_iconst (v := (0 : Int32)) hX eL_law_427 (by decide) ?_
              exact h.elim
        · replace h := h.2 c15
          refine j_iconst (v := (0 : Int32)) hX eL_law_410 (by decide) ?_
          exact h.elim
      · obtain ⟨v13, hxz9, h⟩ := qz9
        cases hxz9
    · obtain ⟨v10, hxz9, h⟩ := qz9
      cases hxz9
  · obtain ⟨M3, eMz9⟩ : ∃ M3, M3 = Mz9 := ⟨_, rfl⟩; subst eMz9
    rcases qz9 with ⟨v4, hxz9, h⟩ | ⟨hxz9, h⟩ | ⟨hxz9, h⟩ <;> cases hxz9
    · exact h.elim
    · exact h.elim
set_option maxHeartbeats 4000000 in
set_option maxRecDepth 20000 in
theorem vL_law_432 {X : am_Cx} {G : am_Gx} {d : Nat} (hX : am_ok X rL_law G (d + 1)) (hret : ∀ {pc : Nat} {lv : List (Nat × Value)} {M : am_Hp} {bc bs : Nat}, decode rL_law.2.1 pc = .ok (.ireturn, 1) → am_J X pc lv [.int (1 : Int32)] M bc bs) {bc bs : Nat} (R3219 : Nat → Nat → Nat → Nat → Nat → Int32 → am_Hp → Nat → Nat → Prop) (k3219 : ∀ (x0 : Nat) (x1 : Nat) (x2 : Nat) (x3 : Nat) (x4 : Nat) (x5 : Int32) (M : am_Hp) (bc bs : Nat), R3219 x0 x1 x2 x3 x4 x5 M bc bs → am_J X 3219 [(0, .ref x0), (1, .ref x1), (2, .ref x2), (3, .ref x3), (4, .ref x4), (5, .int x5)] [] M bc bs) {a0 : Nat} {a1 : Nat} {a2 : Nat} {a3 : Nat} {a4 : Nat} {a5 : Int32} {M : am_Hp} (h : hp_T M (a0) = 42 ∧ (vp_in (a5 + (1 : Int32)) (hp_N M a0) ∧ (vp_in (a5 + (2 : Int32)) (hp_N M a0) ∧ (1 ≤ bc ∧ (6 ≤ bs ∧ (am_CT G d rL_holdDoors [.ref a1, .int (hp_E M a0 ((a5 + (1 : Int32))).toNatClampNeg), .int (hp_E M a0 ((a5 + (2 : Int32))).toNatClampNeg), .ref a3] M 1 6 (fun oz9 M4 => (∃ v5 : Int32, oz9 = .inl (some (.int v5)) ∧ (hp_T M4 (a0) = 42 ∧ (vp_in (a5 + (1 : Int32)) (hp_N M4 a0) ∧ (vp_in (a5 + (2 : Int32)) (hp_N M4 a0) ∧ (hp_T M4 (a2) = 8 ∧ (am_CT G d rX7_holdDoors [.ref a2, .int (hp_E M4 a0 ((a5 + (1 : Int32))).toNatClampNeg), .int (hp_E M4 a0 ((a5 + (2 : Int32))).toNatClampNeg)] M4 0 0 (fun oz9 M11 => ∃ v12 : Int32, oz9 = .inl (some (.int v12)) ∧ (hp_T M11 (a2) = 8 ∧ (am_CT G d rX7_thrown [.ref a2] M11 0 0 (fun oz9 M14 => ∃ v15 : Int32, oz9 = .inl (some (.int v15)) ∧ (((v15 = v5) → (((v5 = 0) → (hp_T M14 (a3) = 23 ∧ (vp_in (0 : Int32) (hp_N M14 a3) ∧ ((((lg_cmp (hp_L M14 a3 ((0 : Int32)).toNatClampNeg) ((v12).toInt64)) = 0) → (R3219 a0 a1 a2 a3 a4 a5 M14 (bc - 1) (bs - 6))) ∧ (¬ ((lg_cmp (hp_L M14 a3 ((0 : Int32)).toNatClampNeg) ((v12).toInt64)) = 0) → (False)))))) ∧ (¬ (v5 = 0) → (R3219 a0 a1 a2 a3 a4 a5 M14 (bc - 1) (bs - 6))))) ∧ (¬ (v15 = v5) → (False))))))))))))) ∨ ((oz9 = .inr "java/lang/UnsupportedOperationException" ∧ False))))))))) : am_J X 432 [(0, .ref a0), (1, .ref a1), (2, .ref a2), (3, .ref a3), (4, .ref a4), (5, .int a5)] [] M bc bs := by
  refine j_aload_n hX eL_law_432 1 rfl ?_
  refine j_aload_n hX eL_law_433 0 rfl ?_
  refine j_iload hX eL_law_434 5 rfl ?_
  refine j_iconst (v := (1 : Int32)) hX eL_law_436 (by decide) ?_
  refine j_iadd hX eL_law_437 ?_
  obtain ⟨t1, h⟩ := h
  obtain ⟨i2, h⟩ := h
  refine j_ialdx hX eL_law_438 t1 i2 ?_
  refine j_aload_n hX eL_law_439 0 rfl ?_
  refine j_iload hX eL_law_440 5 rfl ?_
  refine j_iconst (v := (2 : Int32)) hX eL_law_442 (by decide) ?_
  refine j_iadd hX eL_law_443 ?_
  obtain ⟨i3, h⟩ := h
  refine j_ialdx hX eL_law_444 t1 i3 ?_
  refine j_aload_n hX eL_law_445 3 rfl ?_
  obtain ⟨b6, b7, h⟩ := h
  refine j_callSX (r' := rL_holdDoors) (As := [.ref a1, .int (hp_E M a0 ((a5 + (1 : Int32))).toNatClampNeg), .int (hp_E M a0 ((a5 + (2 : Int32))).toNatClampNeg), .ref a3]) (rest := []) (d1 := d) hX eL_law_446 mm_LiftGroupLaw_192 (by decide) rfl h rfl (Nat.le_refl _) b6 b7 (Nat.le_of_ble_eq_true rfl) (fun vz9 Mz9 qz9 => ?_) (fun Ez9 Mz9 qz9 => ?_)
  · obtain ⟨M4, eMz9⟩ : ∃ M4, M4 = Mz9 := ⟨_, rfl⟩; subst eMz9
    rcases qz9 with ⟨v5, hxz9, h⟩ | ⟨hxz9, h⟩ <;> cases hxz9
    refine j_istore (lv' := [(6, .int v5), (0, .ref a0), (1, .ref a1), (2, .ref a2), (3, .ref a3), (4, .ref a4), (5, .int a5)]) hX eL_law_449 (by decide) rfl ?_
    refine j_aload_n hX eL_law_451 3 rfl ?_
    refine j_aload_n hX eL_law_452 1 rfl ?_
    refine j_iload hX eL_law_453 6 rfl ?_
    refine j_iconst (v := (1 : Int32)) hX eL_law_455 (by decide) ?_
    refine j_iadd hX eL_law_456 ?_
    obtain ⟨t8, h⟩ := h
    obtain ⟨i9, h⟩ := h
    refine j_ialdx hX eL_law_457 t8 i9 ?_
    refine j_aload_n hX eL_law_458 1 rfl ?_
    refine j_iload hX eL_law_459 6 rfl ?_
    refine j_iconst (v := (2 : Int32)) hX eL_law_461 (by decide) ?_
    refine j_iadd hX eL_law_462 ?_
    obtain ⟨i10, h⟩ := h
    refine j_ialdx hX eL_law_463 t8 i10 ?_
    obtain ⟨t13, h⟩ := h
    refine j_callV (a := a2) (q := (RX7, TX7, 17)) (r' := rX7_holdDoors) (As := [.int (hp_E M4 a0 ((a5 + (1 : Int32))).toNatClampNeg), .int (hp_E M4 a0 ((a5 + (2 : Int32))).toNatClampNeg)]) (rest := []) (d1 := d) hX eL_law_464 mm_LiftGroupLaw_195 rfl t13 (by decide) rfl h rfl (Nat.le_refl _) (Nat.zero_le _) (Nat.zero_le _) (Nat.le_of_ble_eq_true rfl) (fun vz9 Mz9 qz9 => ?_) (fun Ez9 Mz9 qz9 => ?_)
    · obtain ⟨M11, eMz9⟩ : ∃ M11, M11 = Mz9 := ⟨_, rfl⟩; subst eMz9
      obtain ⟨v12, hxz9, h⟩ := qz9
      cases hxz9
      refine j_istore (lv' := [(7, .int v12), (6, .int v5), (0, .ref a0), (1, .ref a1), (2, .ref a2), (3, .ref a3), (4, .ref a4), (5, .int a5)]) hX eL_law_467 (by decide) rfl ?_
      refine j_aload_n hX eL_law_469 4 rfl ?_
      obtain ⟨t16, h⟩ := h
      refine j_callV (a := a2) (q := (RX7, TX7, 17)) (r' := rX7_thrown) (As := []) (rest := []) (d1 := d) hX eL_law_470 mm_LiftGroupLaw_185 rfl t16 (by decide) rfl h rfl (Nat.le_refl _) (Nat.zero_le _) (Nat.zero_le _) (Nat.le_of_ble_eq_true rfl) (fun vz9 Mz9 qz9 => ?_) (fun Ez9 Mz9 qz9 => ?_)
      · obtain ⟨M14, eMz9⟩ : ∃ M14, M14 = Mz9 := ⟨_, rfl⟩; subst eMz9
        obtain ⟨v15, hxz9, h⟩ := qz9
        cases hxz9
        refine j_iload hX eL_law_473 1 rfl ?_
        refine j_icmp_eq hX 480 eL_law_475 (by decide) (fun c17 => ?_) (fun c17 => ?_)
        · replace h := h.1 c17
          refine j_iload hX eL_law_480 1 rfl ?_
          refine j_if_ne hX 497 eL_law_482 (by decide) (fun c18 => ?_) (fun c18 => ?_)
          · replace h := h.2 c18
            refine j_goto hX 3219 eL_law_497 (by decide) ?_
            exact j_sub [2, 3, 4, 5, 6, 7] rfl (k3219 _ _ _ _ _ _ _ _ _ h)
          · replace h := h.1 c18
            refine j_aload_n hX eL_law_485 5 rfl ?_
            refine j_iconst (v := (0 : Int32)) hX eL_law_486 (by decide) ?_
            obtain ⟨t19, h⟩ := h
            obtain ⟨i20, h⟩ := h
            refine j_lald hX eL_law_487 t19 i20 ?_
            refine j_iload hX eL_law_488 0 rfl ?_
            refine j_i2l hX eL_law_490 ?_
            refine j_lcmp hX eL_law_491 ?_
            refine j_if_eq hX 497 eL_law_492 (by decide) (fun c21 => ?_) (fun c21 => ?_)
            · replace h := h.1 c21
              refine j_goto hX 3219 eL_law_497 (by decide) ?_
              exact j_sub [2, 3, 4, 5, 6, 7] rfl (k3219 _ _ _ _ _ _ _ _ _ h)
            · replace h := h.2 c21
              refine j_iconst (v := (0 : Int32)) hX eL_law_495 (by decide) ?_
              exact h.elim
        · replace h := h.2 c17
          refine j_iconst (v := (0 : Int32)) hX eL_law_478 (by decide) ?_
          exact h.elim
      · obtain ⟨v15, hxz9, h⟩ := qz9
        cases hxz9
    · obtain ⟨v12, hxz9, h⟩ := qz9
      cases hxz9
  · obtain ⟨M4, eMz9⟩ : ∃ M4, M4 = Mz9 := ⟨_, rfl⟩; subst eMz9
    rcases qz9 with ⟨v5, hxz9, h⟩ | ⟨hxz9, h⟩ <;> cases hxz9
    exact h.elim
set_option maxHeartbeats 4000000 in
set_option maxRecDepth 20000 in
theorem vL_law_500 {X : am_Cx} {G : am_Gx} {d : Nat} (hX : am_ok X rL_law G (d + 1)) (hret : ∀ {pc : Nat} {lv : List (Nat × Value)} {M : am_Hp} {bc bs : Nat}, decode rL_law.2.1 pc = .ok (.ireturn, 1) → am_J X pc lv [.int (1 : Int32)] M bc bs) {bc bs : Nat} (R3219 : Nat → Nat → Nat → Nat → Nat → Int32 → am_Hp → Nat → Nat → Prop) (k3219 : ∀ (x0 : Nat) (x1 : Nat) (x2 : Nat) (x3 : Nat) (x4 : Nat) (x5 : Int32) (M : am_Hp) (bc bs : Nat), R3219 x0 x1 x2 x3 x4 x5 M bc bs → am_J X 3219 [(0, .ref x0), (1, .ref x1), (2, .ref x2), (3, .ref x3), (4, .ref x4), (5, .int x5)] [] M bc bs) {a0 : Nat} {a1 : Nat} {a2 : Nat} {a3 : Nat} {a4 : Nat} {a5 : Int32} {M : am_Hp} (h : hp_T M (a0) = 42 ∧ (vp_in (a5 + (1 : Int32)) (hp_N M a0) ∧ (1 ≤ bc ∧ (6 ≤ bs ∧ (am_CT G d rL_stopCar [.ref a1, .int (hp_E M a0 ((a5 + (1 : Int32))).toNatClampNeg), .ref a3] M 1 6 (fun oz9 M3 => (∃ v4 : Int32, oz9 = .inl (some (.int v4)) ∧ (hp_T M3 (a0) = 42 ∧ (vp_in (a5 + (1 : Int32)) (hp_N M3 a0) ∧ (hp_T M3 (a2) = 8 ∧ (am_CT G d rX7_stopCar [.ref a2, .int (hp_E M3 a0 ((a5 + (1 : Int32))).toNatClampNeg)] M3 0 0 (fun oz9 M9 => ∃ v10 : Int32, oz9 = .inl (some (.int v10)) ∧ (hp_T M9 (a2) = 8 ∧ (am_CT G d rX7_thrown [.ref a2] M9 0 0 (fun oz9 M12 => ∃ v13 : Int32, oz9 = .inl (some (.int v13)) ∧ (((v13 = v4) → (((v4 = 0) → (hp_T M12 (a3) = 23 ∧ (vp_in (0 : Int32) (hp_N M12 a3) ∧ ((((lg_cmp (hp_L M12 a3 ((0 : Int32)).toNatClampNeg) ((v10).toInt64)) = 0) → (R3219 a0 a1 a2 a3 a4 a5 M12 (bc - 1) (bs - 6))) ∧ (¬ ((lg_cmp (hp_L M12 a3 ((0 : Int32)).toNatClampNeg) ((v10).toInt64)) = 0) → (False)))))) ∧ (¬ (v4 = 0) → (R3219 a0 a1 a2 a3 a4 a5 M12 (bc - 1) (bs - 6))))) ∧ (¬ (v13 = v4) → (False)))))))))))) ∨ ((oz9 = .inr "java/lang/IllegalArgumentException" ∧ False)) ∨ ((oz9 = .inr "java/lang/UnsupportedOperationException" ∧ False)))))))) : am_J X 500 [(0, .ref a0), (1, .ref a1), (2, .ref a2), (3, .ref a3), (4, .ref a4), (5, .int a5)] [] M bc bs := by
  refine j_aload_n hX eL_law_500 1 rfl ?_
  refine j_aload_n hX eL_law_501 0 rfl ?_
  refine j_iload hX eL_law_502 5 rfl ?_
  refine j_iconst (v := (1 : Int32)) hX eL_law_504 (by decide) ?_
  refine j_iadd hX eL_law_505 ?_
  obtain ⟨t1, h⟩ := h
  obtain ⟨i2, h⟩ := h
  refine j_ialdx hX eL_law_506 t1 i2 ?_
  refine j_aload_n hX eL_law_507 3 rfl ?_
  obtain ⟨b5, b6, h⟩ := h
  refine j_callSX (r' := rL_stopCar) (As := [.ref a1, .int (hp_E M a0 ((a5 + (1 : Int32))).toNatClampNeg), .ref a3]) (rest := []) (d1 := d) hX eL_law_508 mm_LiftGroupLaw_196 (by decide) rfl h rfl (Nat.le_refl _) b5 b6 (Nat.le_of_ble_eq_true rfl) (fun vz9 Mz9 qz9 => ?_) (fun Ez9 Mz9 qz9 => ?_)
  · obtain ⟨M3, eMz9⟩ : ∃ M3, M3 = Mz9 := ⟨_, rfl⟩; subst eMz9
    rcases qz9 with ⟨v4, hxz9, h⟩ | ⟨hxz9, h⟩ | ⟨hxz9, h⟩ <;> cases hxz9
    refine j_istore (lv' := [(6, .int v4), (0, .ref a0), (1, .ref a1), (2, .ref a2), (3, .ref a3), (4, .ref a4), (5, .int a5)]) hX eL_law_511 (by decide) rfl ?_
    refine j_aload_n hX eL_law_513 3 rfl ?_
    refine j_aload_n hX eL_law_514 1 rfl ?_
    refine j_iload hX eL_law_515 6 rfl ?_
    refine j_iconst (v := (1 : Int32)) hX eL_law_517 (by decide) ?_
    refine j_iadd hX eL_law_518 ?_
    obtain ⟨t7, h⟩ := h
    obtain ⟨i8, h⟩ := h
    refine j_ialdx hX eL_law_519 t7 i8 ?_
    obtain ⟨t11, h⟩ := h
    refine j_callV (a := a2) (q := (RX7, TX7, 17)) (r' := rX7_stopCar) (As := [.int (hp_E M3 a0 ((a5 + (1 : Int32))).toNatClampNeg)]) (rest := []) (d1 := d) hX eL_law_520 mm_LiftGroupLaw_198 rfl t11 (by decide) rfl h rfl (Nat.le_refl _) (Nat.zero_le _) (Nat.zero_le _) (Nat.le_of_ble_eq_true rfl) (fun vz9 Mz9 qz9 => ?_) (fun Ez9 Mz9 qz9 => ?_)
    · obtain ⟨M9, eMz9⟩ : ∃ M9, M9 = Mz9 := ⟨_, rfl⟩; subst eMz9
      obtain ⟨v10, hxz9, h⟩ := qz9
      cases hxz9
      refine j_istore (lv' := [(7, .int v10), (6, .int v4), (0, .ref a0), (1, .ref a1), (2, .ref a2), (3, .ref a3), (4, .ref a4), (5, .int a5)]) hX eL_law_523 (by decide) rfl ?_
      refine j_aload_n hX eL_law_525 4 rfl ?_
      obtain ⟨t14, h⟩ := h
      refine j_callV (a := a2) (q := (RX7, TX7, 17)) (r' := rX7_thrown) (As := []) (rest := []) (d1 := d) hX eL_law_526 mm_LiftGroupLaw_185 rfl t14 (by decide) rfl h rfl (Nat.le_refl _) (Nat.zero_le _) (Nat.zero_le _) (Nat.le_of_ble_eq_true rfl) (fun vz9 Mz9 qz9 => ?_) (fun Ez9 Mz9 qz9 => ?_)
      · obtain ⟨M12, eMz9⟩ : ∃ M12, M12 = Mz9 := ⟨_, rfl⟩; subst eMz9
        obtain ⟨v13, hxz9, h⟩ := qz9
        cases hxz9
        refine j_iload hX eL_law_529 1 rfl ?_
        refine j_icmp_eq hX 536 eL_law_531 (by decide) (fun c15 => ?_) (fun c15 => ?_)
        · replace h := h.1 c15
          refine j_iload hX eL_law_536 1 rfl ?_
          refine j_if_ne hX 553 eL_law_538 (by decide) (fun c16 => ?_) (fun c16 => ?_)
          · replace h := h.2 c16
            refine j_goto hX 3219 eL_law_553 (by decide) ?_
            exact j_sub [2, 3, 4, 5, 6, 7] rfl (k3219 _ _ _ _ _ _ _ _ _ h)
          · replace h := h.1 c16
            refine j_aload_n hX eL_law_541 5 rfl ?_
            refine j_iconst (v := (0 : Int32)) hX eL_law_542 (by decide) ?_
            obtain ⟨t17, h⟩ := h
            obtain ⟨i18, h⟩ := h
            refine j_lald hX eL_law_543 t17 i18 ?_
            refine j_iload hX eL_law_544 0 rfl ?_
            refine j_i2l hX eL_law_546 ?_
            refine j_lcmp hX eL_law_547 ?_
            refine j_if_eq hX 553 eL_law_548 (by decide) (fun c19 => ?_) (fun c19 => ?_)
            · replace h := h.1 c19
              refine j_goto hX 3219 eL_law_553 (by decide) ?_
              exact j_sub [2, 3, 4, 5, 6, 7] rfl (k3219 _ _ _ _ _ _ _ _ _ h)
            · replace h := h.2 c19
              refine j_iconst (v := (0 : Int32)) hX eL_law_551 (by decide) ?_
              exact h.elim
        · replace h := h.2 c15
          refine j_iconst (v := (0 : Int32)) hX eL_law_534 (by decide) ?_
          exact h.elim
      · obtain ⟨v13, hxz9, h⟩ := qz9
        cases hxz9
    · obtain ⟨v10, hxz9, h⟩ := qz9
      cases hxz9
  · obtain ⟨M3, eMz9⟩ : ∃ M3, M3 = Mz9 := ⟨_, rfl⟩; subst eMz9
    rcases qz9 with ⟨v4, hxz9, h⟩ | ⟨hxz9, h⟩ | ⟨hxz9, h⟩ <;> cases hxz9
    · exact h.elim
    · exact h.elim
set_option maxHeartbeats 4000000 in
set_option maxRecDepth 20000 in
theorem vL_law_556 {X : am_Cx} {G : am_Gx} {d : Nat} (hX : am_ok X rL_law G (d + 1)) (hret : ∀ {pc : Nat} {lv : List (Nat × Value)} {M : am_Hp} {bc bs : Nat}, decode rL_law.2.1 pc = .ok (.ireturn, 1) → am_J X pc lv [.int (1 : Int32)] M bc bs) {bc bs : Nat} (R3219 : Nat → Nat → Nat → Nat → Nat → Int32 → am_Hp → Nat → Nat → Prop) (k3219 : ∀ (x0 : Nat) (x1 : Nat) (x2 : Nat) (x3 : Nat) (x4 : Nat) (x5 : Int32) (M : am_Hp) (bc bs : Nat), R3219 x0 x1 x2 x3 x4 x5 M bc bs → am_J X 3219 [(0, .ref x0), (1, .ref x1), (2, .ref x2), (3, .ref x3), (4, .ref x4), (5, .int x5)] [] M bc bs) {a0 : Nat} {a1 : Nat} {a2 : Nat} {a3 : Nat} {a4 : Nat} {a5 : Int32} {M : am_Hp} (h : hp_T M (a0) = 42 ∧ (vp_in (a5 + (1 : Int32)) (hp_N M a0) ∧ (1 ≤ bc ∧ (6 ≤ bs ∧ (am_CT G d rL_startCar [.ref a1, .int (hp_E M a0 ((a5 + (1 : Int32))).toNatClampNeg), .ref a3] M 1 6 (fun oz9 M3 => (∃ v4 : Int32, oz9 = .inl (some (.int v4)) ∧ (hp_T M3 (a0) = 42 ∧ (vp_in (a5 + (1 : Int32)) (hp_N M3 a0) ∧ (hp_T M3 (a2) = 8 ∧ (am_CT G d rX7_startCar [.ref a2, .int (hp_E M3 a0 ((a5 + (1 : Int32))).toNatClampNeg)] M3 0 0 (fun oz9 M9 => ∃ v10 : Int32, oz9 = .inl (some (.int v10)) ∧ (hp_T M9 (a2) = 8 ∧ (am_CT G d rX7_thrown [.ref a2] M9 0 0 (fun oz9 M12 => ∃ v13 : Int32, oz9 = .inl (some (.int v13)) ∧ (((v13 = v4) → (((v4 = 0) → (hp_T M12 (a3) = 23 ∧ (vp_in (0 : Int32) (hp_N M12 a3) ∧ ((((lg_cmp (hp_L M12 a3 ((0 : Int32)).toNatClampNeg) ((v10).toInt64)) = 0) → (R3219 a0 a1 a2 a3 a4 a5 M12 (bc - 1) (bs - 6))) ∧ (¬ ((lg_cmp (hp_L M12 a3 ((0 : Int32)).toNatClampNeg) ((v10).toInt64)) = 0) → (False)))))) ∧ (¬ (v4 = 0) → (R3219 a0 a1 a2 a3 a4 a5 M12 (bc - 1) (bs - 6))))) ∧ (¬ (v13 = v4) → (False)))))))))))) ∨ ((oz9 = .inr "java/lang/IllegalArgumentException" ∧ False)) ∨ ((oz9 = .inr "java/lang/UnsupportedOperationException" ∧ False)))))))) : am_J X 556 [(0, .ref a0), (1, .ref a1), (2, .ref a2), (3, .ref a3), (4, .ref a4), (5, .int a5)] [] M bc bs := by
  refine j_aload_n hX eL_law_556 1 rfl ?_
  refine j_aload_n hX eL_law_557 0 rfl ?_
  refine j_iload hX eL_law_558 5 rfl ?_
  refine j_iconst (v := (1 : Int32)) hX eL_law_560 (by decide) ?_
  refine j_iadd hX eL_law_561 ?_
  obtain ⟨t1, h⟩ := h
  obtain ⟨i2, h⟩ := h
  refine j_ialdx hX eL_law_562 t1 i2 ?_
  refine j_aload_n hX eL_law_563 3 rfl ?_
  obtain ⟨b5, b6, h⟩ := h
  refine j_callSX (r' := rL_startCar) (As := [.ref a1, .int (hp_E M a0 ((a5 + (1 : Int32))).toNatClampNeg), .ref a3]) (rest := []) (d1 := d) hX eL_law_564 mm_LiftGroupLaw_199 (by decide) rfl h rfl (Nat.le_refl _) b5 b6 (Nat.le_of_ble_eq_true rfl) (fun vz9 Mz9 qz9 => ?_) (fun Ez9 Mz9 qz9 => ?_)
  · obtain ⟨M3, eMz9⟩ : ∃ M3, M3 = Mz9 := ⟨_, rfl⟩; subst eMz9
    rcases qz9 with ⟨v4, hxz9, h⟩ | ⟨hxz9, h⟩ | ⟨hxz9, h⟩ <;> cases hxz9
    refine j_istore (lv' := [(6, .int v4), (0, .ref a0), (1, .ref a1), (2, .ref a2), (3, .ref a3), (4, .ref a4), (5, .int a5)]) hX eL_law_567 (by decide) rfl ?_
    refine j_aload_n hX eL_law_569 3 rfl ?_
    refine j_aload_n hX eL_law_570 1 rfl ?_
    refine j_iload hX eL_law_571 6 rfl ?_
    refine j_iconst (v := (1 : Int32)) hX eL_law_573 (by decide) ?_
    refine j_iadd hX eL_law_574 ?_
    obtain ⟨t7, h⟩ := h
    obtain ⟨i8, h⟩ := h
    refine j_ialdx hX eL_law_575 t7 i8 ?_
    obtain ⟨t11, h⟩ := h
    refine j_callV (a := a2) (q := (RX7, TX7, 17)) (r' := rX7_startCar) (As := [.int (hp_E M3 a0 ((a5 + (1 : Int32))).toNatClampNeg)]) (rest := []) (d1 := d) hX eL_law_576 mm_LiftGroupLaw_201 rfl t11 (by decide) rfl h rfl (Nat.le_refl _) (Nat.zero_le _) (Nat.zero_le _) (Nat.le_of_ble_eq_true rfl) (fun vz9 Mz9 qz9 => ?_) (fun Ez9 Mz9 qz9 => ?_)
    · obtain ⟨M9, eMz9⟩ : ∃ M9, M9 = Mz9 := ⟨_, rfl⟩; subst eMz9
      obtain ⟨v10, hxz9, h⟩ := qz9
      cases hxz9
      refine j_istore (lv' := [(7, .int v10), (6, .int v4), (0, .ref a0), (1, .ref a1), (2, .ref a2), (3, .ref a3), (4, .ref a4), (5, .int a5)]) hX eL_law_579 (by decide) rfl ?_
      refine j_aload_n hX eL_law_581 4 rfl ?_
      obtain ⟨t14, h⟩ := h
      refine j_callV (a := a2) (q := (RX7, TX7, 17)) (r' := rX7_thrown) (As := []) (rest := []) (d1 := d) hX eL_law_582 mm_LiftGroupLaw_185 rfl t14 (by decide) rfl h rfl (Nat.le_refl _) (Nat.zero_le _) (Nat.zero_le _) (Nat.le_of_ble_eq_true rfl) (fun vz9 Mz9 qz9 => ?_) (fun Ez9 Mz9 qz9 => ?_)
      · obtain ⟨M12, eMz9⟩ : ∃ M12, M12 = Mz9 := ⟨_, rfl⟩; subst eMz9
        obtain ⟨v13, hxz9, h⟩ := qz9
        cases hxz9
        refine j_iload hX eL_law_585 1 rfl ?_
        refine j_icmp_eq hX 592 eL_law_587 (by decide) (fun c15 => ?_) (fun c15 => ?_)
        · replace h := h.1 c15
          refine j_iload hX eL_law_592 1 rfl ?_
          refine j_if_ne hX 609 eL_law_594 (by decide) (fun c16 => ?_) (fun c16 => ?_)
          · replace h := h.2 c16
            refine j_goto hX 3219 eL_law_609 (by decide) ?_
            exact j_sub [2, 3, 4, 5, 6, 7] rfl (k3219 _ _ _ _ _ _ _ _ _ h)
          · replace h := h.1 c16
            refine j_aload_n hX eL_law_597 5 rfl ?_
            refine j_iconst (v := (0 : Int32)) hX eL_law_598 (by decide) ?_
            obtain ⟨t17, h⟩ := h
            obtain ⟨i18, h⟩ := h
            refine j_lald hX eL_law_599 t17 i18 ?_
            refine j_iload hX eL_law_600 0 rfl ?_
            refine j_i2l hX eL_law_602 ?_
            refine j_lcmp hX eL_law_603 ?_
            refine j_if_eq hX 609 eL_law_604 (by decide) (fun c19 => ?_) (fun c19 => ?_)
            · replace h := h.1 c19
              refine j_goto hX 3219 eL_law_609 (by decide) ?_
              exact j_sub [2, 3, 4, 5, 6, 7] rfl (k3219 _ _ _ _ _ _ _ _ _ h)
            · replace h := h.2 c19
              refine j_iconst (v := (0 : Int32)) hX eL_law_607 (by decide) ?_
              exact h.elim
        · replace h := h.2 c15
          refine j_iconst (v := (0 : Int32)) hX eL_law_590 (by decide) ?_
          exact h.elim
      · obtain ⟨v13, hxz9, h⟩ := qz9
        cases hxz9
    · obtain ⟨v10, hxz9, h⟩ := qz9
      cases hxz9
  · obtain ⟨M3, eMz9⟩ : ∃ M3, M3 = Mz9 := ⟨_, rfl⟩; subst eMz9
    rcases qz9 with ⟨v4, hxz9, h⟩ | ⟨hxz9, h⟩ | ⟨hxz9, h⟩ <;> cases hxz9
    · exact h.elim
    · exact h.elim
set_option maxHeartbeats 4000000 in
set_option maxRecDepth 20000 in
theorem vL_law_612 {X : am_Cx} {G : am_Gx} {d : Nat} (hX : am_ok X rL_law G (d + 1)) (hret : ∀ {pc : Nat} {lv : List (Nat × Value)} {M : am_Hp} {bc bs : Nat}, decode rL_law.2.1 pc = .ok (.ireturn, 1) → am_J X pc lv [.int (1 : Int32)] M bc bs) {bc bs : Nat} (R3219 : Nat → Nat → Nat → Nat → Nat → Int32 → am_Hp → Nat → Nat → Prop) (k3219 : ∀ (x0 : Nat) (x1 : Nat) (x2 : Nat) (x3 : Nat) (x4 : Nat) (x5 : Int32) (M : am_Hp) (bc bs : Nat), R3219 x0 x1 x2 x3 x4 x5 M bc bs → am_J X 3219 [(0, .ref x0), (1, .ref x1), (2, .ref x2), (3, .ref x3), (4, .ref x4), (5, .int x5)] [] M bc bs) {a0 : Nat} {a1 : Nat} {a2 : Nat} {a3 : Nat} {a4 : Nat} {a5 : Int32} {M : am_Hp} (h : hp_T M (a0) = 42 ∧ (vp_in (a5 + (1 : Int32)) (hp_N M a0) ∧ (vp_in (a5 + (2 : Int32)) (hp_N M a0) ∧ (1 ≤ bc ∧ (6 ≤ bs ∧ (am_CT G d rL_setCapacity [.ref a1, .int (hp_E M a0 ((a5 + (1 : Int32))).toNatClampNeg), .int (hp_E M a0 ((a5 + (2 : Int32))).toNatClampNeg), .ref a3] M 1 6 (fun oz9 M4 => (∃ v5 : Int32, oz9 = .inl (some (.int v5)) ∧ (hp_T M4 (a0) = 42 ∧ (vp_in (a5 + (1 : Int32)) (hp_N M4 a0) ∧ (vp_in (a5 + (2 : Int32)) (hp_N M4 a0) ∧ (hp_T M4 (a2) = 8 ∧ (am_CT G d rX7_setCapacity [.ref a2, .int (hp_E M4 a0 ((a5 + (1 : Int32))).toNatClampNeg), .int (hp_E M4 a0 ((a5 + (2 : Int32))).toNatClampNeg)] M4 0 0 (fun oz9 M11 => ∃ v12 : Int32, oz9 = .inl (some (.int v12)) ∧ (hp_T M11 (a2) = 8 ∧ (am_CT G d rX7_thrown [.ref a2] M11 0 0 (fun oz9 M14 => ∃ v15 : Int32, oz9 = .inl (some (.int v15)) ∧ (((v15 = v5) → (((v5 = 0) → (hp_T M14 (a3) = 23 ∧ (vp_in (0 : Int32) (hp_N M14 a3) ∧ ((((lg_cmp (hp_L M14 a3 ((0 : Int32)).toNatClampNeg) ((v12).toInt64)) = 0) → (R3219 a0 a1 a2 a3 a4 a5 M14 (bc - 1) (bs - 6))) ∧ (¬ ((lg_cmp (hp_L M14 a3 ((0 : Int32)).toNatClampNeg) ((v12).toInt64)) = 0) → (False)))))) ∧ (¬ (v5 = 0) → (R3219 a0 a1 a2 a3 a4 a5 M14 (bc - 1) (bs - 6))))) ∧ (¬ (v15 = v5) → (False))))))))))))) ∨ ((oz9 = .inr "java/lang/IllegalStateException" ∧ False))))))))) : am_J X 612 [(0, .ref a0), (1, .ref a1), (2, .ref a2), (3, .ref a3), (4, .ref a4), (5, .int a5)] [] M bc bs := by
  refine j_aload_n hX eL_law_612 1 rfl ?_
  refine j_aload_n hX eL_law_613 0 rfl ?_
  refine j_iload hX eL_law_614 5 rfl ?_
  refine j_iconst (v := (1 : Int32)) hX eL_law_616 (by decide) ?_
  refine j_iadd hX eL_law_617 ?_
  obtain ⟨t1, h⟩ := h
  obtain ⟨i2, h⟩ := h
  refine j_ialdx hX eL_law_618 t1 i2 ?_
  refine j_aload_n hX eL_law_619 0 rfl ?_
  refine j_iload hX eL_law_620 5 rfl ?_
  refine j_iconst (v := (2 : Int32)) hX eL_law_622 (by decide) ?_
  refine j_iadd hX eL_law_623 ?_
  obtain ⟨i3, h⟩ := h
  refine j_ialdx hX eL_law_624 t1 i3 ?_
  refine j_aload_n hX eL_law_625 3 rfl ?_
  obtain ⟨b6, b7, h⟩ := h
  refine j_callSX (r' := rL_setCapacity) (As := [.ref a1, .int (hp_E M a0 ((a5 + (1 : Int32))).toNatClampNeg), .int (hp_E M a0 ((a5 + (2 : Int32))).toNatClampNeg), .ref a3]) (rest := []) (d1 := d) hX eL_law_626 mm_LiftGroupLaw_202 (by decide) rfl h rfl (Nat.le_refl _) b6 b7 (Nat.le_of_ble_eq_true rfl) (fun vz9 Mz9 qz9 => ?_) (fun Ez9 Mz9 qz9 => ?_)
  · obtain ⟨M4, eMz9⟩ : ∃ M4, M4 = Mz9 := ⟨_, rfl⟩; subst eMz9
    rcases qz9 with ⟨v5, hxz9, h⟩ | ⟨hxz9, h⟩ <;> cases hxz9
    refine j_istore (lv' := [(6, .int v5), (0, .ref a0), (1, .ref a1), (2, .ref a2), (3, .ref a3), (4, .ref a4), (5, .int a5)]) hX eL_law_629 (by decide) rfl ?_
    refine j_aload_n hX eL_law_631 3 rfl ?_
    refine j_aload_n hX eL_law_632 1 rfl ?_
    refine j_iload hX eL_law_633 6 rfl ?_
    refine j_iconst (v := (1 : Int32)) hX eL_law_635 (by decide) ?_
    refine j_iadd hX eL_law_636 ?_
    obtain ⟨t8, h⟩ := h
    obtain ⟨i9, h⟩ := h
    refine j_ialdx hX eL_law_637 t8 i9 ?_
    refine j_aload_n hX eL_law_638 1 rfl ?_
    refine j_iload hX eL_law_639 6 rfl ?_
    refine j_iconst (v := (2 : Int32)) hX eL_law_641 (by decide) ?_
    refine j_iadd hX eL_law_642 ?_
    obtain ⟨i10, h⟩ := h
    refine j_ialdx hX eL_law_643 t8 i10 ?_
    obtain ⟨t13, h⟩ := h
    refine j_callV (a := a2) (q := (RX7, TX7, 17)) (r' := rX7_setCapacity) (As := [.int (hp_E M4 a0 ((a5 + (1 : Int32))).toNatClampNeg), .int (hp_E M4 a0 ((a5 + (2 : Int32))).toNatClampNeg)]) (rest := []) (d1 := d) hX eL_law_644 mm_LiftGroupLaw_204 rfl t13 (by decide) rfl h rfl (Nat.le_refl _) (Nat.zero_le _) (Nat.zero_le _) (Nat.le_of_ble_eq_true rfl) (fun vz9 Mz9 qz9 => ?_) (fun Ez9 Mz9 qz9 => ?_)
    · obtain ⟨M11, eMz9⟩ : ∃ M11, M11 = Mz9 := ⟨_, rfl⟩; subst eMz9
      obtain ⟨v12, hxz9, h⟩ := qz9
      cases hxz9
      refine j_istore (lv' := [(7, .int v12), (6, .int v5), (0, .ref a0), (1, .ref a1), (2, .ref a2), (3, .ref a3), (4, .ref a4), (5, .int a5)]) hX eL_law_647 (by decide) rfl ?_
      refine j_aload_n hX eL_law_649 4 rfl ?_
      obtain ⟨t16, h⟩ := h
      refine j_callV (a := a2) (q := (RX7, TX7, 17)) (r' := rX7_thrown) (As := []) (rest := []) (d1 := d) hX eL_law_650 mm_LiftGroupLaw_185 rfl t16 (by decide) rfl h rfl (Nat.le_refl _) (Nat.zero_le _) (Nat.zero_le _) (Nat.le_of_ble_eq_true rfl) (fun vz9 Mz9 qz9 => ?_) (fun Ez9 Mz9 qz9 => ?_)
      · obtain ⟨M14, eMz9⟩ : ∃ M14, M14 = Mz9 := ⟨_, rfl⟩; subst eMz9
        obtain ⟨v15, hxz9, h⟩ := qz9
        cases hxz9
        refine j_iload hX eL_law_653 1 rfl ?_
        refine j_icmp_eq hX 660 eL_law_655 (by decide) (fun c17 => ?_) (fun c17 => ?_)
        · replace h := h.1 c17
          refine j_iload hX eL_law_660 1 rfl ?_
          refine j_if_ne hX 677 eL_law_662 (by decide) (fun c18 => ?_) (fun c18 => ?_)
          · replace h := h.2 c18
            refine j_goto hX 3219 eL_law_677 (by decide) ?_
            exact j_sub [2, 3, 4, 5, 6, 7] rfl (k3219 _ _ _ _ _ _ _ _ _ h)
          · replace h := h.1 c18
            refine j_aload_n hX eL_law_665 5 rfl ?_
            refine j_iconst (v := (0 : Int32)) hX eL_law_666 (by decide) ?_
            obtain ⟨t19, h⟩ := h
            obtain ⟨i20, h⟩ := h
            refine j_lald hX eL_law_667 t19 i20 ?_
            refine j_iload hX eL_law_668 0 rfl ?_
            refine j_i2l hX eL_law_670 ?_
            refine j_lcmp hX eL_law_671 ?_
            refine j_if_eq hX 677 eL_law_672 (by decide) (fun c21 => ?_) (fun c21 => ?_)
            · replace h := h.1 c21
              refine j_goto hX 3219 eL_law_677 (by decide) ?_
              exact j_sub [2, 3, 4, 5, 6, 7] rfl (k3219 _ _ _ _ _ _ _ _ _ h)
            · replace h := h.2 c21
              refine j_iconst (v := (0 : Int32)) hX eL_law_675 (by decide) ?_
              exact h.elim
        · replace h := h.2 c17
          refine j_iconst (v := (0 : Int32)) hX eL_law_658 (by decide) ?_
          exact h.elim
      · obtain ⟨v15, hxz9, h⟩ := qz9
        cases hxz9
    · obtain ⟨v12, hxz9, h⟩ := qz9
      cases hxz9
  · obtain ⟨M4, eMz9⟩ : ∃ M4, M4 = Mz9 := ⟨_, rfl⟩; subst eMz9
    rcases qz9 with ⟨v5, hxz9, h⟩ | ⟨hxz9, h⟩ <;> cases hxz9
    exact h.elim
set_option maxHeartbeats 4000000 in
set_option maxRecDepth 20000 in
theorem vL_law_680 {X : am_Cx} {G : am_Gx} {d : Nat} (hX : am_ok X rL_law G (d + 1)) (hret : ∀ {pc : Nat} {lv : List (Nat × Value)} {M : am_Hp} {bc bs : Nat}, decode rL_law.2.1 pc = .ok (.ireturn, 1) → am_J X pc lv [.int (1 : Int32)] M bc bs) {bc bs : Nat} (R3219 : Nat → Nat → Nat → Nat → Nat → Int32 → am_Hp → Nat → Nat → Prop) (k3219 : ∀ (x0 : Nat) (x1 : Nat) (x2 : Nat) (x3 : Nat) (x4 : Nat) (x5 : Int32) (M : am_Hp) (bc bs : Nat), R3219 x0 x1 x2 x3 x4 x5 M bc bs → am_J X 3219 [(0, .ref x0), (1, .ref x1), (2, .ref x2), (3, .ref x3), (4, .ref x4), (5, .int x5)] [] M bc bs) {a0 : Nat} {a1 : Nat} {a2 : Nat} {a3 : Nat} {a4 : Nat} {a5 : Int32} {M : am_Hp} (h : hp_T M (a0) = 42 ∧ (vp_in (a5 + (1 : Int32)) (hp_N M a0) ∧ (1 ≤ bc ∧ (6 ≤ bs ∧ (am_CT G d rL_advance [.ref a1, .int (hp_E M a0 ((a5 + (1 : Int32))).toNatClampNeg), .ref a3] M 1 6 (fun oz9 M3 => (∃ v4 : Int32, oz9 = .inl (some (.int v4)) ∧ (hp_T M3 (a0) = 42 ∧ (vp_in (a5 + (1 : Int32)) (hp_N M3 a0) ∧ (hp_T M3 (a2) = 8 ∧ (am_CT G d rX7_advance [.ref a2, .int (hp_E M3 a0 ((a5 + (1 : Int32))).toNatClampNeg)] M3 0 0 (fun oz9 M9 => ∃ v10 : Int32, oz9 = .inl (some (.int v10)) ∧ (hp_T M9 (a2) = 8 ∧ (am_CT G d rX7_thrown [.ref a2] M9 0 0 (fun oz9 M12 => ∃ v13 : Int32, oz9 = .inl (some (.int v13)) ∧ (((v13 = v4) → (((v4 = 0) → (hp_T M12 (a3) = 23 ∧ (vp_in (0 : Int32) (hp_N M12 a3) ∧ ((((lg_cmp (hp_L M12 a3 ((0 : Int32)).toNatClampNeg) ((v10).toInt64)) = 0) → (R3219 a0 a1 a2 a3 a4 a5 M12 (bc - 1) (bs - 6))) ∧ (¬ ((lg_cmp (hp_L M12 a3 ((0 : Int32)).toNatClampNeg) ((v10).toInt64)) = 0) → (False)))))) ∧ (¬ (v4 = 0) → (R3219 a0 a1 a2 a3 a4 a5 M12 (bc - 1) (bs - 6))))) ∧ (¬ (v13 = v4) → (False)))))))))))) ∨ ((oz9 = .inr "java/lang/IllegalStateException" ∧ False)) ∨ ((oz9 = .inr "java/lang/IndexOutOfBoundsException" ∧ False)) ∨ ((oz9 = .inr "java/lang/UnsupportedOperationException" ∧ False)))))))) : am_J X 680 [(0, .ref a0), (1, .ref a1), (2, .ref a2), (3, .ref a3), (4, .ref a4), (5, .int a5)] [] M bc bs := by
  refine j_aload_n hX eL_law_680 1 rfl ?_
  refine j_aload_n hX eL_law_681 0 rfl ?_
  refine j_iload hX eL_law_682 5 rfl ?_
  refine j_iconst (v := (1 : Int32)) hX eL_law_684 (by decide) ?_
  refine j_iadd hX eL_law_685 ?_
  obtain ⟨t1, h⟩ := h
  obtain ⟨i2, h⟩ := h
  refine j_ialdx hX eL_law_686 t1 i2 ?_
  refine j_aload_n hX eL_law_687 3 rfl ?_
  obtain ⟨b5, b6, h⟩ := h
  refine j_callSX (r' := rL_advance) (As := [.ref a1, .int (hp_E M a0 ((a5 + (1 : Int32))).toNatClampNeg), .ref a3]) (rest := []) (d1 := d) hX eL_law_688 mm_LiftGroupLaw_205 (by decide) rfl h rfl (Nat.le_refl _) b5 b6 (Nat.le_of_ble_eq_true rfl) (fun vz9 Mz9 qz9 => ?_) (fun Ez9 Mz9 qz9 => ?_)
  · obtain ⟨M3, eMz9⟩ : ∃ M3, M3 = Mz9 := ⟨_, rfl⟩; subst eMz9
    rcases qz9 with ⟨v4, hxz9, h⟩ | ⟨hxz9, h⟩ | ⟨hxz9, h⟩ | ⟨hxz9, h⟩ <;> cases hxz9
    refine j_istore (lv' := [(6, .int v4), (0, .ref a0), (1, .ref a1), (2, .ref a2), (3, .ref a3), (4, .ref a4), (5, .int a5)]) hX eL_law_691 (by decide) rfl ?_
    refine j_aload_n hX eL_law_693 3 rfl ?_
    refine j_aload_n hX eL_law_694 1 rfl ?_
    refine j_iload hX eL_law_695 6 rfl ?_
    refine j_iconst (v := (1 : Int32)) hX eL_law_697 (by decide) ?_
    refine j_iadd hX eL_law_698 ?_
    obtain ⟨t7, h⟩ := h
    obtain ⟨i8, h⟩ := h
    refine j_ialdx hX eL_law_699 t7 i8 ?_
    obtain ⟨t11, h⟩ := h
    refine j_callV (a := a2) (q := (RX7, TX7, 17)) (r' := rX7_advance) (As := [.int (hp_E M3 a0 ((a5 + (1 : Int32))).toNatClampNeg)]) (rest := []) (d1 := d) hX eL_law_700 mm_LiftGroupLaw_207 rfl t11 (by decide) rfl h rfl (Nat.le_refl _) (Nat.zero_le _) (Nat.zero_le _) (Nat.le_of_ble_eq_true rfl) (fun vz9 Mz9 qz9 => ?_) (fun Ez9 Mz9 qz9 => ?_)
    · obtain ⟨M9, eMz9⟩ : ∃ M9, M9 = Mz9 := ⟨_, rfl⟩; subst eMz9
      obtain ⟨v10, hxz9, h⟩ := qz9
      cases hxz9
      refine j_istore (lv' := [(7, .int v10), (6, .int v4), (0, .ref a0), (1, .ref a1), (2, .ref a2), (3, .ref a3), (4, .ref a4), (5, .int a5)]) hX eL_law_703 (by decide) rfl ?_
      refine j_aload_n hX eL_law_705 4 rfl ?_
      obtain ⟨t14, h⟩ := h
      refine j_callV (a := a2) (q := (RX7, TX7, 17)) (r' := rX7_thrown) (As := []) (rest := []) (d1 := d) hX eL_law_706 mm_LiftGroupLaw_185 rfl t14 (by decide) rfl h rfl (Nat.le_refl _) (Nat.zero_le _) (Nat.zero_le _) (Nat.le_of_ble_eq_true rfl) (fun vz9 Mz9 qz9 => ?_) (fun Ez9 Mz9 qz9 => ?_)
      · obtain ⟨M12, eMz9⟩ : ∃ M12, M12 = Mz9 := ⟨_, rfl⟩; subst eMz9
        obtain ⟨v13, hxz9, h⟩ := qz9
        cases hxz9
        refine j_iload hX eL_law_709 1 rfl ?_
        refine j_icmp_eq hX 716 eL_law_711 (by decide) (fun c15 => ?_) (fun c15 => ?_)
        · replace h := h.1 c15
          refine j_iload hX eL_law_716 1 rfl ?_
          refine j_if_ne hX 733 eL_law_718 (by decide) (fun c16 => ?_) (fun c16 => ?_)
          · replace h := h.2 c16
            refine j_goto hX 3219 eL_law_733 (by decide) ?_
            exact j_sub [2, 3, 4, 5, 6, 7] rfl (k3219 _ _ _ _ _ _ _ _ _ h)
          · replace h := h.1 c16
            refine j_aload_n hX eL_law_721 5 rfl ?_
            refine j_iconst (v := (0 : Int32)) hX eL_law_722 (by decide) ?_
            obtain ⟨t17, h⟩ := h
            obtain ⟨i18, h⟩ := h
            refine j_lald hX eL_law_723 t17 i18 ?_
            refine j_iload hX eL_law_724 0 rfl ?_
            refine j_i2l hX eL_law_726 ?_
            refine j_lcmp hX eL_law_727 ?_
            refine j_if_eq hX 733 eL_law_728 (by decide) (fun c19 => ?_) (fun c19 => ?_)
            · replace h := h.1 c19
              refine j_goto hX 3219 eL_law_733 (by decide) ?_
              exact j_sub [2, 3, 4, 5, 6, 7] rfl (k3219 _ _ _ _ _ _ _ _ _ h)
            · replace h := h.2 c19
              refine j_iconst (v := (0 : Int32)) hX eL_law_731 (by decide) ?_
              exact h.elim
        · replace h := h.2 c15
          refine j_iconst (v := (0 : Int32)) hX eL_law_714 (by decide) ?_
          exact h.elim
      · obtain ⟨v13, hxz9, h⟩ := qz9
        cases hxz9
    · obtain ⟨v10, hxz9, h⟩ := qz9
      cases hxz9
  · obtain ⟨M3, eMz9⟩ : ∃ M3, M3 = Mz9 := ⟨_, rfl⟩; subst eMz9
    rcases qz9 with ⟨v4, hxz9, h⟩ | ⟨hxz9, h⟩ | ⟨hxz9, h⟩ | ⟨hxz9, h⟩ <;> cases hxz9
    · exact h.elim
    · exact h.elim
    · exact h.elim
set_option maxHeartbeats 4000000 in
set_option maxRecDepth 20000 in
theorem vL_law_736 {X : am_Cx} {G : am_Gx} {d : Nat} (hX : am_ok X rL_law G (d + 1)) (hret : ∀ {pc : Nat} {lv : List (Nat × Value)} {M : am_Hp} {bc bs : Nat}, decode rL_law.2.1 pc = .ok (.ireturn, 1) → am_J X pc lv [.int (1 : Int32)] M bc bs) {bc bs : Nat} (R3219 : Nat → Nat → Nat → Nat → Nat → Int32 → am_Hp → Nat → Nat → Prop) (k3219 : ∀ (x0 : Nat) (x1 : Nat) (x2 : Nat) (x3 : Nat) (x4 : Nat) (x5 : Int32) (M : am_Hp) (bc bs : Nat), R3219 x0 x1 x2 x3 x4 x5 M bc bs → am_J X 3219 [(0, .ref x0), (1, .ref x1), (2, .ref x2), (3, .ref x3), (4, .ref x4), (5, .int x5)] [] M bc bs) {a0 : Nat} {a1 : Nat} {a2 : Nat} {a3 : Nat} {a4 : Nat} {a5 : Int32} {M : am_Hp} (h : hp_T M (a1) = 7 ∧ (am_CT G d rX6_time [.ref a1] M 0 0 (fun oz9 M1 => ∃ v2 : Int32, oz9 = .inl (some (.int v2)) ∧ (hp_T M1 (a2) = 8 ∧ (am_CT G d rX7_time [.ref a2] M1 0 0 (fun oz9 M4 => ∃ v5 : Int32, oz9 = .inl (some (.int v5)) ∧ (((v2 = v5) → (R3219 a0 a1 a2 a3 a4 a5 M4 bc bs)) ∧ (¬ (v2 = v5) → (False))))))))) : am_J X 736 [(0, .ref a0), (1, .ref a1), (2, .ref a2), (3, .ref a3), (4, .ref a4), (5, .int a5)] [] M bc bs := by
  refine j_aload_n hX eL_law_736 1 rfl ?_
  obtain ⟨t3, h⟩ := h
  refine j_callV (a := a1) (q := (RX6, TX6, 9)) (r' := rX6_time) (As := []) (rest := []) (d1 := d) hX eL_law_737 mm_LiftGroupLaw_208 rfl t3 (by decide) rfl h rfl (Nat.le_refl _) (Nat.zero_le _) (Nat.zero_le _) (Nat.le_of_ble_eq_true rfl) (fun vz9 Mz9 qz9 => ?_) (fun Ez9 Mz9 qz9 => ?_)
  · obtain ⟨M1, eMz9⟩ : ∃ M1, M1 = Mz9 := ⟨_, rfl⟩; subst eMz9
    obtain ⟨v2, hxz9, h⟩ := qz9
    cases hxz9
    refine j_aload_n hX eL_law_740 2 rfl ?_
    obtain ⟨t6, h⟩ := h
    refine j_callV (a := a2) (q := (RX7, TX7, 17)) (r' := rX7_time) (As := []) (rest := [.int v2]) (d1 := d) hX eL_law_741 mm_LiftGroupLaw_211 rfl t6 (by decide) rfl h rfl (Nat.le_refl _) (Nat.zero_le _) (Nat.zero_le _) (Nat.le_of_ble_eq_true rfl) (fun vz9 Mz9 qz9 => ?_) (fun Ez9 Mz9 qz9 => ?_)
    · obtain ⟨M4, eMz9⟩ : ∃ M4, M4 = Mz9 := ⟨_, rfl⟩; subst eMz9
      obtain ⟨v5, hxz9, h⟩ := qz9
      cases hxz9
      refine j_icmp_eq hX 3219 eL_law_744 (by decide) (fun c7 => ?_) (fun c7 => ?_)
      · replace h := h.1 c7
        exact j_sub [0, 1, 2, 3, 4, 5] rfl (k3219 _ _ _ _ _ _ _ _ _ h)
      · replace h := h.2 c7
        refine j_iconst (v := (0 : Int32)) hX eL_law_747 (by decide) ?_
        exact h.elim
    · obtain ⟨v5, hxz9, h⟩ := qz9
      cases hxz9
  · obtain ⟨v2, hxz9, h⟩ := qz9
    cases hxz9
set_option maxHeartbeats 4000000 in
set_option maxRecDepth 20000 in
theorem vL_law_749 {X : am_Cx} {G : am_Gx} {d : Nat} (hX : am_ok X rL_law G (d + 1)) (hret : ∀ {pc : Nat} {lv : List (Nat × Value)} {M : am_Hp} {bc bs : Nat}, decode rL_law.2.1 pc = .ok (.ireturn, 1) → am_J X pc lv [.int (1 : Int32)] M bc bs) {bc bs : Nat} (R3219 : Nat → Nat → Nat → Nat → Nat → Int32 → am_Hp → Nat → Nat → Prop) (k3219 : ∀ (x0 : Nat) (x1 : Nat) (x2 : Nat) (x3 : Nat) (x4 : Nat) (x5 : Int32) (M : am_Hp) (bc bs : Nat), R3219 x0 x1 x2 x3 x4 x5 M bc bs → am_J X 3219 [(0, .ref x0), (1, .ref x1), (2, .ref x2), (3, .ref x3), (4, .ref x4), (5, .int x5)] [] M bc bs) {a0 : Nat} {a1 : Nat} {a2 : Nat} {a3 : Nat} {a4 : Nat} {a5 : Int32} {M : am_Hp} (h : hp_T M (a0) = 42 ∧ (vp_in (a5 + (1 : Int32)) (hp_N M a0) ∧ (1 ≤ bc ∧ (6 ≤ bs ∧ (am_CT G d rL_floor [.ref a1, .int (hp_E M a0 ((a5 + (1 : Int32))).toNatClampNeg), .ref a3] M 1 6 (fun oz9 M3 => ∃ v4 : Int32, oz9 = .inl (some (.int v4)) ∧ (hp_T M3 (a0) = 42 ∧ (vp_in (a5 + (1 : Int32)) (hp_N M3 a0) ∧ (hp_T M3 (a2) = 8 ∧ (am_CT G d rX7_floor [.ref a2, .int (hp_E M3 a0 ((a5 + (1 : Int32))).toNatClampNeg)] M3 0 0 (fun oz9 M9 => ∃ v10 : Int32, oz9 = .inl (some (.int v10)) ∧ (hp_T M9 (a2) = 8 ∧ (am_CT G d rX7_thrown [.ref a2] M9 0 0 (fun oz9 M12 => ∃ v13 : Int32, oz9 = .inl (some (.int v13)) ∧ (((v13 = v4) → (((v4 = 0) → (hp_T M12 (a3) = 23 ∧ (vp_in (0 : Int32) (hp_N M12 a3) ∧ ((((lg_cmp (hp_L M12 a3 ((0 : Int32)).toNatClampNeg) ((v10).toInt64)) = 0) → (R3219 a0 a1 a2 a3 a4 a5 M12 (bc - 1) (bs - 6))) ∧ (¬ ((lg_cmp (hp_L M12 a3 ((0 : Int32)).toNatClampNeg) ((v10).toInt64)) = 0) → (False)))))) ∧ (¬ (v4 = 0) → (R3219 a0 a1 a2 a3 a4 a5 M12 (bc - 1) (bs - 6))))) ∧ (¬ (v13 = v4) → (False))))))))))))))))) : am_J X 749 [(0, .ref a0), (1, .ref a1), (2, .ref a2), (3, .ref a3), (4, .ref a4), (5, .int a5)] [] M bc bs := by
  refine j_aload_n hX eL_law_749 1 rfl ?_
  refine j_aload_n hX eL_law_750 0 rfl ?_
  refine j_iload hX eL_law_751 5 rfl ?_
  refine j_iconst (v := (1 : Int32)) hX eL_law_753 (by decide) ?_
  refine j_iadd hX eL_law_754 ?_
  obtain ⟨t1, h⟩ := h
  obtain ⟨i2, h⟩ := h
  refine j_ialdx hX eL_law_755 t1 i2 ?_
  refine j_aload_n hX eL_law_756 3 rfl ?_
  obtain ⟨b5, b6, h⟩ := h
  refine j_callSX (r' := rL_floor) (As := [.ref a1, .int (hp_E M a0 ((a5 + (1 : Int32))).toNatClampNeg), .ref a3]) (rest := []) (d1 := d) hX eL_law_757 mm_LiftGroupLaw_212 (by decide) rfl h rfl (Nat.le_refl _) b5 b6 (Nat.le_of_ble_eq_true rfl) (fun vz9 Mz9 qz9 => ?_) (fun Ez9 Mz9 qz9 => ?_)
  · obtain ⟨M3, eMz9⟩ : ∃ M3, M3 = Mz9 := ⟨_, rfl⟩; subst eMz9
    obtain ⟨v4, hxz9, h⟩ := qz9
    cases hxz9
    refine j_istore (lv' := [(6, .int v4), (0, .ref a0), (1, .ref a1), (2, .ref a2), (3, .ref a3), (4, .ref a4), (5, .int a5)]) hX eL_law_760 (by decide) rfl ?_
    refine j_aload_n hX eL_law_762 3 rfl ?_
    refine j_aload_n hX eL_law_763 1 rfl ?_
    refine j_iload hX eL_law_764 6 rfl ?_
    refine j_iconst (v := (1 : Int32)) hX eL_law_766 (by decide) ?_
    refine j_iadd hX eL_law_767 ?_
    obtain ⟨t7, h⟩ := h
    obtain ⟨i8, h⟩ := h
    refine j_ialdx hX eL_law_768 t7 i8 ?_
    obtain ⟨t11, h⟩ := h
    refine j_callV (a := a2) (q := (RX7, TX7, 17)) (r' := rX7_floor) (As := [.int (hp_E M3 a0 ((a5 + (1 : Int32))).toNatClampNeg)]) (rest := []) (d1 := d) hX eL_law_769 mm_LiftGroupLaw_214 rfl t11 (by decide) rfl h rfl (Nat.le_refl _) (Nat.zero_le _) (Nat.zero_le _) (Nat.le_of_ble_eq_true rfl) (fun vz9 Mz9 qz9 => ?_) (fun Ez9 Mz9 qz9 => ?_)
    · obtain ⟨M9, eMz9⟩ : ∃ M9, M9 = Mz9 := ⟨_, rfl⟩; subst eMz9
      obtain ⟨v10, hxz9, h⟩ := qz9
      cases hxz9
      refine j_istore (lv' := [(7, .int v10), (6, .int v4), (0, .ref a0), (1, .ref a1), (2, .ref a2), (3, .ref a3), (4, .ref a4), (5, .int a5)]) hX eL_law_772 (by decide) rfl ?_
      refine j_aload_n hX eL_law_774 4 rfl ?_
      obtain ⟨t14, h⟩ := h
      refine j_callV (a := a2) (q := (RX7, TX7, 17)) (r' := rX7_thrown) (As := []) (rest := []) (d1 := d) hX eL_law_775 mm_LiftGroupLaw_185 rfl t14 (by decide) rfl h rfl (Nat.le_refl _) (Nat.zero_le _) (Nat.zero_le _) (Nat.le_of_ble_eq_true rfl) (fun vz9 Mz9 qz9 => ?_) (fun Ez9 Mz9 qz9 => ?_)
      · obtain ⟨M12, eMz9⟩ : ∃ M12, M12 = Mz9 := ⟨_, rfl⟩; subst eMz9
        obtain ⟨v13, hxz9, h⟩ := qz9
        cases hxz9
        refine j_iload hX eL_law_778 1 rfl ?_
        refine j_icmp_eq hX 785 eL_law_780 (by decide) (fun c15 => ?_) (fun c15 => ?_)
        · replace h := h.1 c15
          refine j_iload hX eL_law_785 1 rfl ?_
          refine j_if_ne hX 802 eL_law_787 (by decide) (fun c16 => ?_) (fun c16 => ?_)
          · replace h := h.2 c16
            refine j_goto hX 3219 eL_law_802 (by decide) ?_
            exact j_sub [2, 3, 4, 5, 6, 7] rfl (k3219 _ _ _ _ _ _ _ _ _ h)
          · replace h := h.1 c16
            refine j_aload_n hX eL_law_790 5 rfl ?_
            refine j_iconst (v := (0 : Int32)) hX eL_law_791 (by decide) ?_
            obtain ⟨t17, h⟩ := h
            obtain ⟨i18, h⟩ := h
            refine j_lald hX eL_law_792 t17 i18 ?_
            refine j_iload hX eL_law_793 0 rfl ?_
            refine j_i2l hX eL_law_795 ?_
            refine j_lcmp hX eL_law_796 ?_
            refine j_if_eq hX 802 eL_law_797 (by decide) (fun c19 => ?_) (fun c19 => ?_)
            · replace h := h.1 c19
              refine j_goto hX 3219 eL_law_802 (by decide) ?_
              exact j_sub [2, 3, 4, 5, 6, 7] rfl (k3219 _ _ _ _ _ _ _ _ _ h)
            · replace h := h.2 c19
              refine j_iconst (v := (0 : Int32)) hX eL_law_800 (by decide) ?_
              exact h.elim
        · replace h := h.2 c15
          refine j_iconst (v := (0 : Int32)) hX eL_law_783 (by decide) ?_
          exact h.elim
      · obtain ⟨v13, hxz9, h⟩ := qz9
        cases hxz9
    · obtain ⟨v10, hxz9, h⟩ := qz9
      cases hxz9
  · obtain ⟨v4, hxz9, h⟩ := qz9
    cases hxz9
set_option maxHeartbeats 4000000 in
set_option maxRecDepth 20000 in
theorem vL_law_805 {X : am_Cx} {G : am_Gx} {d : Nat} (hX : am_ok X rL_law G (d + 1)) (hret : ∀ {pc : Nat} {lv : List (Nat × Value)} {M : am_Hp} {bc bs : Nat}, decode rL_law.2.1 pc = .ok (.ireturn, 1) → am_J X pc lv [.int (1 : Int32)] M bc bs) {bc bs : Nat} (R3219 : Nat → Nat → Nat → Nat → Nat → Int32 → am_Hp → Nat → Nat → Prop) (k3219 : ∀ (x0 : Nat) (x1 : Nat) (x2 : Nat) (x3 : Nat) (x4 : Nat) (x5 : Int32) (M : am_Hp) (bc bs : Nat), R3219 x0 x1 x2 x3 x4 x5 M bc bs → am_J X 3219 [(0, .ref x0), (1, .ref x1), (2, .ref x2), (3, .ref x3), (4, .ref x4), (5, .int x5)] [] M bc bs) {a0 : Nat} {a1 : Nat} {a2 : Nat} {a3 : Nat} {a4 : Nat} {a5 : Int32} {M : am_Hp} (h : hp_T M (a0) = 42 ∧ (vp_in (a5 + (1 : Int32)) (hp_N M a0) ∧ (1 ≤ bc ∧ (6 ≤ bs ∧ (am_CT G d rL_direction [.ref a1, .int (hp_E M a0 ((a5 + (1 : Int32))).toNatClampNeg), .ref a3] M 1 6 (fun oz9 M3 => ∃ v4 : Int32, oz9 = .inl (some (.int v4)) ∧ (hp_T M3 (a0) = 42 ∧ (vp_in (a5 + (1 : Int32)) (hp_N M3 a0) ∧ (hp_T M3 (a2) = 8 ∧ (am_CT G d rX7_direction [.ref a2, .int (hp_E M3 a0 ((a5 + (1 : Int32))).toNatClampNeg)] M3 0 0 (fun oz9 M9 => ∃ v10 : Int32, oz9 = .inl (some (.int v10)) ∧ (hp_T M9 (a2) = 8 ∧ (am_CT G d rX7_thrown [.ref a2] M9 0 0 (fun oz9 M12 => ∃ v13 : Int32, oz9 = .inl (some (.int v13)) ∧ (((v13 = v4) → (((v4 = 0) → (hp_T M12 (a3) = 23 ∧ (vp_in (0 : Int32) (hp_N M12 a3) ∧ ((((lg_cmp (hp_L M12 a3 ((0 : Int32)).toNatClampNeg) ((v10).toInt64)) = 0) → (R3219 a0 a1 a2 a3 a4 a5 M12 (bc - 1) (bs - 6))) ∧ (¬ ((lg_cmp (hp_L M12 a3 ((0 : Int32)).toNatClampNeg) ((v10).toInt64)) = 0) → (False)))))) ∧ (¬ (v4 = 0) → (R3219 a0 a1 a2 a3 a4 a5 M12 (bc - 1) (bs - 6))))) ∧ (¬ (v13 = v4) → (False))))))))))))))))) : am_J X 805 [(0, .ref a0), (1, .ref a1), (2, .ref a2), (3, .ref a3), (4, .ref a4), (5, .int a5)] [] M bc bs := by
  refine j_aload_n hX eL_law_805 1 rfl ?_
  refine j_aload_n hX eL_law_806 0 rfl ?_
  refine j_iload hX eL_law_807 5 rfl ?_
  refine j_iconst (v := (1 : Int32)) hX eL_law_809 (by decide) ?_
  refine j_iadd hX eL_law_810 ?_
  obtain ⟨t1, h⟩ := h
  obtain ⟨i2, h⟩ := h
  refine j_ialdx hX eL_law_811 t1 i2 ?_
  refine j_aload_n hX eL_law_812 3 rfl ?_
  obtain ⟨b5, b6, h⟩ := h
  refine j_callSX (r' := rL_direction) (As := [.ref a1, .int (hp_E M a0 ((a5 + (1 : Int32))).toNatClampNeg), .ref a3]) (rest := []) (d1 := d) hX eL_law_813 mm_LiftGroupLaw_215 (by decide) rfl h rfl (Nat.le_refl _) b5 b6 (Nat.le_of_ble_eq_true rfl) (fun vz9 Mz9 qz9 => ?_) (fun Ez9 Mz9 qz9 => ?_)
  · obtain ⟨M3, eMz9⟩ : ∃ M3, M3 = Mz9 := ⟨_, rfl⟩; subst eMz9
    obtain ⟨v4, hxz9, h⟩ := qz9
    cases hxz9
    refine j_istore (lv' := [(6, .int v4), (0, .ref a0), (1, .ref a1), (2, .ref a2), (3, .ref a3), (4, .ref a4), (5, .int a5)]) hX eL_law_816 (by decide) rfl ?_
    refine j_aload_n hX eL_law_818 3 rfl ?_
    refine j_aload_n hX eL_law_819 1 rfl ?_
    refine j_iload hX eL_law_820 6 rfl ?_
    refine j_iconst (v := (1 : Int32)) hX eL_law_822 (by decide) ?_
    refine j_iadd hX eL_law_823 ?_
    obtain ⟨t7, h⟩ := h
    obtain ⟨i8, h⟩ := h
    refine j_ialdx hX eL_law_824 t7 i8 ?_
    obtain ⟨t11, h⟩ := h
    refine j_callV (a := a2) (q := (RX7, TX7, 17)) (r' := rX7_direction) (As := [.int (hp_E M3 a0 ((a5 + (1 : Int32))).toNatClampNeg)]) (rest := []) (d1 := d) hX eL_law_825 mm_LiftGroupLaw_217 rfl t11 (by decide) rfl h rfl (Nat.le_refl _) (Nat.zero_le _) (Nat.zero_le _) (Nat.le_of_ble_eq_true rfl) (fun vz9 Mz9 qz9 => ?_) (fun Ez9 Mz9 qz9 => ?_)
    · obtain ⟨M9, eMz9⟩ : ∃ M9, M9 = Mz9 := ⟨_, rfl⟩; subst eMz9
      obtain ⟨v10, hxz9, h⟩ := qz9
      cases hxz9
      refine j_istore (lv' := [(7, .int v10), (6, .int v4), (0, .ref a0), (1, .ref a1), (2, .ref a2), (3, .ref a3), (4, .ref a4), (5, .int a5)]) hX eL_law_828 (by decide) rfl ?_
      refine j_aload_n hX eL_law_830 4 rfl ?_
      obtain ⟨t14, h⟩ := h
      refine j_callV (a := a2) (q := (RX7, TX7, 17)) (r' := rX7_thrown) (As := []) (rest := []) (d1 := d) hX eL_law_831 mm_LiftGroupLaw_185 rfl t14 (by decide) rfl h rfl (Nat.le_refl _) (Nat.zero_le _) (Nat.zero_le _) (Nat.le_of_ble_eq_true rfl) (fun vz9 Mz9 qz9 => ?_) (fun Ez9 Mz9 qz9 => ?_)
      · obtain ⟨M12, eMz9⟩ : ∃ M12, M12 = Mz9 := ⟨_, rfl⟩; subst eMz9
        obtain ⟨v13, hxz9, h⟩ := qz9
        cases hxz9
        refine j_iload hX eL_law_834 1 rfl ?_
        refine j_icmp_eq hX 841 eL_law_836 (by decide) (fun c15 => ?_) (fun c15 => ?_)
        · replace h := h.1 c15
          refine j_iload hX eL_law_841 1 rfl ?_
          refine j_if_ne hX 858 eL_law_843 (by decide) (fun c16 => ?_) (fun c16 => ?_)
          · replace h := h.2 c16
            refine j_goto hX 3219 eL_law_858 (by decide) ?_
            exact j_sub [2, 3, 4, 5, 6, 7] rfl (k3219 _ _ _ _ _ _ _ _ _ h)
          · replace h := h.1 c16
            refine j_aload_n hX eL_law_846 5 rfl ?_
            refine j_iconst (v := (0 : Int32)) hX eL_law_847 (by decide) ?_
            obtain ⟨t17, h⟩ := h
            obtain ⟨i18, h⟩ := h
            refine j_lald hX eL_law_848 t17 i18 ?_
            refine j_iload hX eL_law_849 0 rfl ?_
            refine j_i2l hX eL_law_851 ?_
            refine j_lcmp hX eL_law_852 ?_
            refine j_if_eq hX 858 eL_law_853 (by decide) (fun c19 => ?_) (fun c19 => ?_)
            · replace h := h.1 c19
              refine j_goto hX 3219 eL_law_858 (by decide) ?_
              exact j_sub [2, 3, 4, 5, 6, 7] rfl (k3219 _ _ _ _ _ _ _ _ _ h)
            · replace h := h.2 c19
              refine j_iconst (v := (0 : Int32)) hX eL_law_856 (by decide) ?_
              exact h.elim
        · replace h := h.2 c15
          refine j_iconst (v := (0 : Int32)) hX eL_law_839 (by decide) ?_
          exact h.elim
      · obtain ⟨v13, hxz9, h⟩ := qz9
        cases hxz9
    · obtain ⟨v10, hxz9, h⟩ := qz9
      cases hxz9
  · obtain ⟨v4, hxz9, h⟩ := qz9
    cases hxz9
set_option maxHeartbeats 4000000 in
set_option maxRecDepth 20000 in
theorem vL_law_861 {X : am_Cx} {G : am_Gx} {d : Nat} (hX : am_ok X rL_law G (d + 1)) (hret : ∀ {pc : Nat} {lv : List (Nat × Value)} {M : am_Hp} {bc bs : Nat}, decode rL_law.2.1 pc = .ok (.ireturn, 1) → am_J X pc lv [.int (1 : Int32)] M bc bs) {bc bs : Nat} (R3219 : Nat → Nat → Nat → Nat → Nat → Int32 → am_Hp → Nat → Nat → Prop) (k3219 : ∀ (x0 : Nat) (x1 : Nat) (x2 : Nat) (x3 : Nat) (x4 : Nat) (x5 : Int32) (M : am_Hp) (bc bs : Nat), R3219 x0 x1 x2 x3 x4 x5 M bc bs → am_J X 3219 [(0, .ref x0), (1, .ref x1), (2, .ref x2), (3, .ref x3), (4, .ref x4), (5, .int x5)] [] M bc bs) {a0 : Nat} {a1 : Nat} {a2 : Nat} {a3 : Nat} {a4 : Nat} {a5 : Int32} {M : am_Hp} (h : hp_T M (a0) = 42 ∧ (vp_in (a5 + (1 : Int32)) (hp_N M a0) ∧ (1 ≤ bc ∧ (6 ≤ bs ∧ (am_CT G d rL_capacity [.ref a1, .int (hp_E M a0 ((a5 + (1 : Int32))).toNatClampNeg), .ref a3] M 1 6 (fun oz9 M3 => ∃ v4 : Int32, oz9 = .inl (some (.int v4)) ∧ (hp_T M3 (a0) = 42 ∧ (vp_in (a5 + (1 : Int32)) (hp_N M3 a0) ∧ (hp_T M3 (a2) = 8 ∧ (am_CT G d rX7_capacity [.ref a2, .int (hp_E M3 a0 ((a5 + (1 : Int32))).toNatClampNeg)] M3 0 0 (fun oz9 M9 => ∃ v10 : Int32, oz9 = .inl (some (.int v10)) ∧ (hp_T M9 (a2) = 8 ∧ (am_CT G d rX7_thrown [.ref a2] M9 0 0 (fun oz9 M12 => ∃ v13 : Int32, oz9 = .inl (some (.int v13)) ∧ (((v13 = v4) → (((v4 = 0) → (hp_T M12 (a3) = 23 ∧ (vp_in (0 : Int32) (hp_N M12 a3) ∧ ((((lg_cmp (hp_L M12 a3 ((0 : Int32)).toNatClampNeg) ((v10).toInt64)) = 0) → (R3219 a0 a1 a2 a3 a4 a5 M12 (bc - 1) (bs - 6))) ∧ (¬ ((lg_cmp (hp_L M12 a3 ((0 : Int32)).toNatClampNeg) ((v10).toInt64)) = 0) → (False)))))) ∧ (¬ (v4 = 0) → (R3219 a0 a1 a2 a3 a4 a5 M12 (bc - 1) (bs - 6))))) ∧ (¬ (v13 = v4) → (False))))))))))))))))) : am_J X 861 [(0, .ref a0), (1, .ref a1), (2, .ref a2), (3, .ref a3), (4, .ref a4), (5, .int a5)] [] M bc bs := by
  refine j_aload_n hX eL_law_861 1 rfl ?_
  refine j_aload_n hX eL_law_862 0 rfl ?_
  refine j_iload hX eL_law_863 5 rfl ?_
  refine j_iconst (v := (1 : Int32)) hX eL_law_865 (by decide) ?_
  refine j_iadd hX eL_law_866 ?_
  obtain ⟨t1, h⟩ := h
  obtain ⟨i2, h⟩ := h
  refine j_ialdx hX eL_law_867 t1 i2 ?_
  refine j_aload_n hX eL_law_868 3 rfl ?_
  obtain ⟨b5, b6, h⟩ := h
  refine j_callSX (r' := rL_capacity) (As := [.ref a1, .int (hp_E M a0 ((a5 + (1 : Int32))).toNatClampNeg), .ref a3]) (rest := []) (d1 := d) hX eL_law_869 mm_LiftGroupLaw_218 (by decide) rfl h rfl (Nat.le_refl _) b5 b6 (Nat.le_of_ble_eq_true rfl) (fun vz9 Mz9 qz9 => ?_) (fun Ez9 Mz9 qz9 => ?_)
  · obtain ⟨M3, eMz9⟩ : ∃ M3, M3 = Mz9 := ⟨_, rfl⟩; subst eMz9
    obtain ⟨v4, hxz9, h⟩ := qz9
    cases hxz9
    refine j_istore (lv' := [(6, .int v4), (0, .ref a0), (1, .ref a1), (2, .ref a2), (3, .ref a3), (4, .ref a4), (5, .int a5)]) hX eL_law_872 (by decide) rfl ?_
    refine j_aload_n hX eL_law_874 3 rfl ?_
    refine j_aload_n hX eL_law_875 1 rfl ?_
    refine j_iload hX eL_law_876 6 rfl ?_
    refine j_iconst (v := (1 : Int32)) hX eL_law_878 (by decide) ?_
    refine j_iadd hX eL_law_879 ?_
    obtain ⟨t7, h⟩ := h
    obtain ⟨i8, h⟩ := h
    refine j_ialdx hX eL_law_880 t7 i8 ?_
    obtain ⟨t11, h⟩ := h
    refine j_callV (a := a2) (q := (RX7, TX7, 17)) (r' := rX7_capacity) (As := [.int (hp_E M3 a0 ((a5 + (1 : Int32))).toNatClampNeg)]) (rest := []) (d1 := d) hX eL_law_881 mm_LiftGroupLaw_220 rfl t11 (by decide) rfl h rfl (Nat.le_refl _) (Nat.zero_le _) (Nat.zero_le _) (Nat.le_of_ble_eq_true rfl) (fun vz9 Mz9 qz9 => ?_) (fun Ez9 Mz9 qz9 => ?_)
    · obtain ⟨M9, eMz9⟩ : ∃ M9, M9 = Mz9 := ⟨_, rfl⟩; subst eMz9
      obtain ⟨v10, hxz9, h⟩ := qz9
      cases hxz9
      refine j_istore (lv' := [(7, .int v10), (6, .int v4), (0, .ref a0), (1, .ref a1), (2, .ref a2), (3, .ref a3), (4, .ref a4), (5, .int a5)]) hX eL_law_884 (by decide) rfl ?_
      refine j_aload_n hX eL_law_886 4 rfl ?_
      obtain ⟨t14, h⟩ := h
      refine j_callV (a := a2) (q := (RX7, TX7, 17)) (r' := rX7_thrown) (As := []) (rest := []) (d1 := d) hX eL_law_887 mm_LiftGroupLaw_185 rfl t14 (by decide) rfl h rfl (Nat.le_refl _) (Nat.zero_le _) (Nat.zero_le _) (Nat.le_of_ble_eq_true rfl) (fun vz9 Mz9 qz9 => ?_) (fun Ez9 Mz9 qz9 => ?_)
      · obtain ⟨M12, eMz9⟩ : ∃ M12, M12 = Mz9 := ⟨_, rfl⟩; subst eMz9
        obtain ⟨v13, hxz9, h⟩ := qz9
        cases hxz9
        refine j_iload hX eL_law_890 1 rfl ?_
        refine j_icmp_eq hX 897 eL_law_892 (by decide) (fun c15 => ?_) (fun c15 => ?_)
        · replace h := h.1 c15
          refine j_iload hX eL_law_897 1 rfl ?_
          refine j_if_ne hX 914 eL_law_899 (by decide) (fun c16 => ?_) (fun c16 => ?_)
          · replace h := h.2 c16
            refine j_goto hX 3219 eL_law_914 (by decide) ?_
            exact j_sub [2, 3, 4, 5, 6, 7] rfl (k3219 _ _ _ _ _ _ _ _ _ h)
          · replace h := h.1 c16
            refine j_aload_n hX eL_law_902 5 rfl ?_
            refine j_iconst (v := (0 : Int32)) hX eL_law_903 (by decide) ?_
            obtain ⟨t17, h⟩ := h
            obtain ⟨i18, h⟩ := h
            refine j_lald hX eL_law_904 t17 i18 ?_
            refine j_iload hX eL_law_905 0 rfl ?_
            refine j_i2l hX eL_law_907 ?_
            refine j_lcmp hX eL_law_908 ?_
            refine j_if_eq hX 914 eL_law_909 (by decide) (fun c19 => ?_) (fun c19 => ?_)
            · replace h := h.1 c19
              refine j_goto hX 3219 eL_law_914 (by decide) ?_
              exact j_sub [2, 3, 4, 5, 6, 7] rfl (k3219 _ _ _ _ _ _ _ _ _ h)
            · replace h := h.2 c19
              refine j_iconst (v := (0 : Int32)) hX eL_law_912 (by decide) ?_
              exact h.elim
        · replace h := h.2 c15
          refine j_iconst (v := (0 : Int32)) hX eL_law_895 (by decide) ?_
          exact h.elim
      · obtain ⟨v13, hxz9, h⟩ := qz9
        cases hxz9
    · obtain ⟨v10, hxz9, h⟩ := qz9
      cases hxz9
  · obtain ⟨v4, hxz9, h⟩ := qz9
    cases hxz9
set_option maxHeartbeats 4000000 in
set_option maxRecDepth 20000 in
theorem vL_law_917 {X : am_Cx} {G : am_Gx} {d : Nat} (hX : am_ok X rL_law G (d + 1)) (hret : ∀ {pc : Nat} {lv : List (Nat × Value)} {M : am_Hp} {bc bs : Nat}, decode rL_law.2.1 pc = .ok (.ireturn, 1) → am_J X pc lv [.int (1 : Int32)] M bc bs) {bc bs : Nat} (R3219 : Nat → Nat → Nat → Nat → Nat → Int32 → am_Hp → Nat → Nat → Prop) (k3219 : ∀ (x0 : Nat) (x1 : Nat) (x2 : Nat) (x3 : Nat) (x4 : Nat) (x5 : Int32) (M : am_Hp) (bc bs : Nat), R3219 x0 x1 x2 x3 x4 x5 M bc bs → am_J X 3219 [(0, .ref x0), (1, .ref x1), (2, .ref x2), (3, .ref x3), (4, .ref x4), (5, .int x5)] [] M bc bs) {a0 : Nat} {a1 : Nat} {a2 : Nat} {a3 : Nat} {a4 : Nat} {a5 : Int32} {M : am_Hp} (h : hp_T M (a0) = 42 ∧ (vp_in (a5 + (1 : Int32)) (hp_N M a0) ∧ (1 ≤ bc ∧ (6 ≤ bs ∧ (am_CT G d rL_load [.ref a1, .int (hp_E M a0 ((a5 + (1 : Int32))).toNatClampNeg), .ref a3] M 1 6 (fun oz9 M3 => ∃ v4 : Int32, oz9 = .inl (some (.int v4)) ∧ (hp_T M3 (a0) = 42 ∧ (vp_in (a5 + (1 : Int32)) (hp_N M3 a0) ∧ (hp_T M3 (a2) = 8 ∧ (am_CT G d rX7_load [.ref a2, .int (hp_E M3 a0 ((a5 + (1 : Int32))).toNatClampNeg)] M3 0 0 (fun oz9 M9 => ∃ v10 : Int32, oz9 = .inl (some (.int v10)) ∧ (hp_T M9 (a2) = 8 ∧ (am_CT G d rX7_thrown [.ref a2] M9 0 0 (fun oz9 M12 => ∃ v13 : Int32, oz9 = .inl (some (.int v13)) ∧ (((v13 = v4) → (((v4 = 0) → (hp_T M12 (a3) = 23 ∧ (vp_in (0 : Int32) (hp_N M12 a3) ∧ ((((lg_cmp (hp_L M12 a3 ((0 : Int32)).toNatClampNeg) ((v10).toInt64)) = 0) → (R3219 a0 a1 a2 a3 a4 a5 M12 (bc - 1) (bs - 6))) ∧ (¬ ((lg_cmp (hp_L M12 a3 ((0 : Int32)).toNatClampNeg) ((v10).toInt64)) = 0) → (False)))))) ∧ (¬ (v4 = 0) → (R3219 a0 a1 a2 a3 a4 a5 M12 (bc - 1) (bs - 6))))) ∧ (¬ (v13 = v4) → (False))))))))))))))))) : am_J X 917 [(0, .ref a0), (1, .ref a1), (2, .ref a2), (3, .ref a3), (4, .ref a4), (5, .int a5)] [] M bc bs := by
  refine j_aload_n hX eL_law_917 1 rfl ?_
  refine j_aload_n hX eL_law_918 0 rfl ?_
  refine j_iload hX eL_law_919 5 rfl ?_
  refine j_iconst (v := (1 : Int32)) hX eL_law_921 (by decide) ?_
  refine j_iadd hX eL_law_922 ?_
  obtain ⟨t1, h⟩ := h
  obtain ⟨i2, h⟩ := h
  refine j_ialdx hX eL_law_923 t1 i2 ?_
  refine j_aload_n hX eL_law_924 3 rfl ?_
  obtain ⟨b5, b6, h⟩ := h
  refine j_callSX (r' := rL_load) (As := [.ref a1, .int (hp_E M a0 ((a5 + (1 : Int32))).toNatClampNeg), .ref a3]) (rest := []) (d1 := d) hX eL_law_925 mm_LiftGroupLaw_221 (by decide) rfl h rfl (Nat.le_refl _) b5 b6 (Nat.le_of_ble_eq_true rfl) (fun vz9 Mz9 qz9 => ?_) (fun Ez9 Mz9 qz9 => ?_)
  · obtain ⟨M3, eMz9⟩ : ∃ M3, M3 = Mz9 := ⟨_, rfl⟩; subst eMz9
    obtain ⟨v4, hxz9, h⟩ := qz9
    cases hxz9
    refine j_istore (lv' := [(6, .int v4), (0, .ref a0), (1, .ref a1), (2, .ref a2), (3, .ref a3), (4, .ref a4), (5, .int a5)]) hX eL_law_928 (by decide) rfl ?_
    refine j_aload_n hX eL_law_930 3 rfl ?_
    refine j_aload_n hX eL_law_931 1 rfl ?_
    refine j_iload hX eL_law_932 6 rfl ?_
    refine j_iconst (v := (1 : Int32)) hX eL_law_934 (by decide) ?_
    refine j_iadd hX eL_law_935 ?_
    obtain ⟨t7, h⟩ := h
    obtain ⟨i8, h⟩ := h
    refine j_ialdx hX eL_law_936 t7 i8 ?_
    obtain ⟨t11, h⟩ := h
    refine j_callV (a := a2) (q := (RX7, TX7, 17)) (r' := rX7_load) (As := [.int (hp_E M3 a0 ((a5 + (1 : Int32))).toNatClampNeg)]) (rest := []) (d1 := d) hX eL_law_937 mm_LiftGroupLaw_223 rfl t11 (by decide) rfl h rfl (Nat.le_refl _) (Nat.zero_le _) (Nat.zero_le _) (Nat.le_of_ble_eq_true rfl) (fun vz9 Mz9 qz9 => ?_) (fun Ez9 Mz9 qz9 => ?_)
    · obtain ⟨M9, eMz9⟩ : ∃ M9, M9 = Mz9 := ⟨_, rfl⟩; subst eMz9
      obtain ⟨v10, hxz9, h⟩ := qz9
      cases hxz9
      refine j_istore (lv' := [(7, .int v10), (6, .int v4), (0, .ref a0), (1, .ref a1), (2, .ref a2), (3, .ref a3), (4, .ref a4), (5, .int a5)]) hX eL_law_940 (by decide) rfl ?_
      refine j_aload_n hX eL_law_942 4 rfl ?_
      obtain ⟨t14, h⟩ := h
      refine j_callV (a := a2) (q := (RX7, TX7, 17)) (r' := rX7_thrown) (As := []) (rest := []) (d1 := d) hX eL_law_943 mm_LiftGroupLaw_185 rfl t14 (by decide) rfl h rfl (Nat.le_refl _) (Nat.zero_le _) (Nat.zero_le _) (Nat.le_of_ble_eq_true rfl) (fun vz9 Mz9 qz9 => ?_) (fun Ez9 Mz9 qz9 => ?_)
      · obtain ⟨M12, eMz9⟩ : ∃ M12, M12 = Mz9 := ⟨_, rfl⟩; subst eMz9
        obtain ⟨v13, hxz9, h⟩ := qz9
        cases hxz9
        refine j_iload hX eL_law_946 1 rfl ?_
        refine j_icmp_eq hX 953 eL_law_948 (by decide) (fun c15 => ?_) (fun c15 => ?_)
        · replace h := h.1 c15
          refine j_iload hX eL_law_953 1 rfl ?_
          refine j_if_ne hX 970 eL_law_955 (by decide) (fun c16 => ?_) (fun c16 => ?_)
          · replace h := h.2 c16
            refine j_goto hX 3219 eL_law_970 (by decide) ?_
            exact j_sub [2, 3, 4, 5, 6, 7] rfl (k3219 _ _ _ _ _ _ _ _ _ h)
          · replace h := h.1 c16
            refine j_aload_n hX eL_law_958 5 rfl ?_
            refine j_iconst (v := (0 : Int32)) hX eL_law_959 (by decide) ?_
            obtain ⟨t17, h⟩ := h
            obtain ⟨i18, h⟩ := h
            refine j_lald hX eL_law_960 t17 i18 ?_
            refine j_iload hX eL_law_961 0 rfl ?_
            refine j_i2l hX eL_law_963 ?_
            refine j_lcmp hX eL_law_964 ?_
            refine j_if_eq hX 970 eL_law_965 (by decide) (fun c19 => ?_) (fun c19 => ?_)
            · replace h := h.1 c19
              refine j_goto hX 3219 eL_law_970 (by decide) ?_
              exact j_sub [2, 3, 4, 5, 6, 7] rfl (k3219 _ _ _ _ _ _ _ _ _ h)
            · replace h := h.2 c19
              refine j_iconst (v := (0 : Int32)) hX eL_law_968 (by decide) ?_
              exact h.elim
        · replace h := h.2 c15
          refine j_iconst (v := (0 : Int32)) hX eL_law_951 (by decide) ?_
          exact h.elim
      · obtain ⟨v13, hxz9, h⟩ := qz9
        cases hxz9
    · obtain ⟨v10, hxz9, h⟩ := qz9
      cases hxz9
  · obtain ⟨v4, hxz9, h⟩ := qz9
    cases hxz9
set_option maxHeartbeats 4000000 in
set_option maxRecDepth 20000 in
theorem vL_law_973 {X : am_Cx} {G : am_Gx} {d : Nat} (hX : am_ok X rL_law G (d + 1)) (hret : ∀ {pc : Nat} {lv : List (Nat × Value)} {M : am_Hp} {bc bs : Nat}, decode rL_law.2.1 pc = .ok (.ireturn, 1) → am_J X pc lv [.int (1 : Int32)] M bc bs) {bc bs : Nat} (R3219 : Nat → Nat → Nat → Nat → Nat → Int32 → am_Hp → Nat → Nat → Prop) (k3219 : ∀ (x0 : Nat) (x1 : Nat) (x2 : Nat) (x3 : Nat) (x4 : Nat) (x5 : Int32) (M : am_Hp) (bc bs : Nat), R3219 x0 x1 x2 x3 x4 x5 M bc bs → am_J X 3219 [(0, .ref x0), (1, .ref x1), (2, .ref x2), (3, .ref x3), (4, .ref x4), (5, .int x5)] [] M bc bs) {a0 : Nat} {a1 : Nat} {a2 : Nat} {a3 : Nat} {a4 : Nat} {a5 : Int32} {M : am_Hp} (h : hp_T M (a0) = 42 ∧ (vp_in (a5 + (1 : Int32)) (hp_N M a0) ∧ (1 ≤ bc ∧ (6 ≤ bs ∧ (am_CT G d rL_passengersIn [.ref a1, .int (hp_E M a0 ((a5 + (1 : Int32))).toNatClampNeg), .ref a3] M 1 6 (fun oz9 M3 => ∃ v4 : Int32, oz9 = .inl (some (.int v4)) ∧ (hp_T M3 (a0) = 42 ∧ (vp_in (a5 + (1 : Int32)) (hp_N M3 a0) ∧ (hp_T M3 (a2) = 8 ∧ (am_CT G d rX7_passengersIn [.ref a2, .int (hp_E M3 a0 ((a5 + (1 : Int32))).toNatClampNeg)] M3 0 0 (fun oz9 M9 => ∃ v10 : Int32, oz9 = .inl (some (.int v10)) ∧ (hp_T M9 (a2) = 8 ∧ (am_CT G d rX7_thrown [.ref a2] M9 0 0 (fun oz9 M12 => ∃ v13 : Int32, oz9 = .inl (some (.int v13)) ∧ (((v13 = v4) → (((v4 = 0) → (hp_T M12 (a3) = 23 ∧ (vp_in (0 : Int32) (hp_N M12 a3) ∧ ((((lg_cmp (hp_L M12 a3 ((0 : Int32)).toNatClampNeg) ((v10).toInt64)) = 0) → (R3219 a0 a1 a2 a3 a4 a5 M12 (bc - 1) (bs - 6))) ∧ (¬ ((lg_cmp (hp_L M12 a3 ((0 : Int32)).toNatClampNeg) ((v10).toInt64)) = 0) → (False)))))) ∧ (¬ (v4 = 0) → (R3219 a0 a1 a2 a3 a4 a5 M12 (bc - 1) (bs - 6))))) ∧ (¬ (v13 = v4) → (False))))))))))))))))) : am_J X 973 [(0, .ref a0), (1, .ref a1), (2, .ref a2), (3, .ref a3), (4, .ref a4), (5, .int a5)] [] M bc bs := by
  refine j_aload_n hX eL_law_973 1 rfl ?_
  refine j_aload_n hX eL_law_974 0 rfl ?_
  refine j_iload hX eL_law_975 5 rfl ?_
  refine j_iconst (v := (1 : Int32)) hX eL_law_977 (by decide) ?_
  refine j_iadd hX eL_law_978 ?_
  obtain ⟨t1, h⟩ := h
  obtain ⟨i2, h⟩ := h
  refine j_ialdx hX eL_law_979 t1 i2 ?_
  refine j_aload_n hX eL_law_980 3 rfl ?_
  obtain ⟨b5, b6, h⟩ := h
  refine j_callSX (r' := rL_passengersIn) (As := [.ref a1, .int (hp_E M a0 ((a5 + (1 : Int32))).toNatClampNeg), .ref a3]) (rest := []) (d1 := d) hX eL_law_981 mm_LiftGroupLaw_224 (by decide) rfl h rfl (Nat.le_refl _) b5 b6 (Nat.le_of_ble_eq_true rfl) (fun vz9 Mz9 qz9 => ?_) (fun Ez9 Mz9 qz9 => ?_)
  · obtain ⟨M3, eMz9⟩ : ∃ M3, M3 = Mz9 := ⟨_, rfl⟩; subst eMz9
    obtain ⟨v4, hxz9, h⟩ := qz9
    cases hxz9
    refine j_istore (lv' := [(6, .int v4), (0, .ref a0), (1, .ref a1), (2, .ref a2), (3, .ref a3), (4, .ref a4), (5, .int a5)]) hX eL_law_984 (by decide) rfl ?_
    refine j_aload_n hX eL_law_986 3 rfl ?_
    refine j_aload_n hX eL_law_987 1 rfl ?_
    refine j_iload hX eL_law_988 6 rfl ?_
    refine j_iconst (v := (1 : Int32)) hX eL_law_990 (by decide) ?_
    refine j_iadd hX eL_law_991 ?_
    obtain ⟨t7, h⟩ := h
    obtain ⟨i8, h⟩ := h
    refine j_ialdx hX eL_law_992 t7 i8 ?_
    obtain ⟨t11, h⟩ := h
    refine j_callV (a := a2) (q := (RX7, TX7, 17)) (r' := rX7_passengersIn) (As := [.int (hp_E M3 a0 ((a5 + (1 : Int32))).toNatClampNeg)]) (rest := []) (d1 := d) hX eL_law_993 mm_LiftGroupLaw_226 rfl t11 (by decide) rfl h rfl (Nat.le_refl _) (Nat.zero_le _) (Nat.zero_le _) (Nat.le_of_ble_eq_true rfl) (fun vz9 Mz9 qz9 => ?_) (fun Ez9 Mz9 qz9 => ?_)
    · obtain ⟨M9, eMz9⟩ : ∃ M9, M9 = Mz9 := ⟨_, rfl⟩; subst eMz9
      obtain ⟨v10, hxz9, h⟩ := qz9
      cases hxz9
      refine j_istore (lv' := [(7, .int v10), (6, .int v4), (0, .ref a0), (1, .ref a1), (2, .ref a2), (3, .ref a3), (4, .ref a4), (5, .int a5)]) hX eL_law_996 (by decide) rfl ?_
      refine j_aload_n hX eL_law_998 4 rfl ?_
      obtain ⟨t14, h⟩ := h
      refine j_callV (a := a2) (q := (RX7, TX7, 17)) (r' := rX7_thrown) (As := []) (rest := []) (d1 := d) hX eL_law_999 mm_LiftGroupLaw_185 rfl t14 (by decide) rfl h rfl (Nat.le_refl _) (Nat.zero_le _) (Nat.zero_le _) (Nat.le_of_ble_eq_true rfl) (fun vz9 Mz9 qz9 => ?_) (fun Ez9 Mz9 qz9 => ?_)
      · obtain ⟨M12, eMz9⟩ : ∃ M12, M12 = Mz9 := ⟨_, rfl⟩; subst eMz9
        obtain ⟨v13, hxz9, h⟩ := qz9
        cases hxz9
        refine j_iload hX eL_law_1002 1 rfl ?_
        refine j_icmp_eq hX 1009 eL_law_1004 (by decide) (fun c15 => ?_) (fun c15 => ?_)
        · replace h := h.1 c15
          refine j_iload hX eL_law_1009 1 rfl ?_
          refine j_if_ne hX 1026 eL_law_1011 (by decide) (fun c16 => ?_) (fun c16 => ?_)
          · replace h := h.2 c16
            refine j_goto hX 3219 eL_law_1026 (by decide) ?_
            exact j_sub [2, 3, 4, 5, 6, 7] rfl (k3219 _ _ _ _ _ _ _ _ _ h)
          · replace h := h.1 c16
            refine j_aload_n hX eL_law_1014 5 rfl ?_
            refine j_iconst (v := (0 : Int32)) hX eL_law_1015 (by decide) ?_
            obtain ⟨t17, h⟩ := h
            obtain ⟨i18, h⟩ := h
            refine j_lald hX eL_law_1016 t17 i18 ?_
            refine j_iload hX eL_law_1017 0 rfl ?_
            refine j_i2l hX eL_law_1019 ?_
            refine j_lcmp hX eL_law_1020 ?_
            refine j_if_eq hX 1026 eL_law_1021 (by decide) (fun c19 => ?_) (fun c19 => ?_)
            · replace h := h.1 c19
              refine j_goto hX 3219 eL_law_1026 (by decide) ?_
              exact j_sub [2, 3, 4, 5, 6, 7] rfl (k3219 _ _ _ _ _ _ _ _ _ h)
            · replace h := h.2 c19
              refine j_iconst (v := (0 : Int32)) hX eL_law_1024 (by decide) ?_
              exact h.elim
        · replace h := h.2 c15
          refine j_iconst (v := (0 : Int32)) hX eL_law_1007 (by decide) ?_
          exact h.elim
      · obtain ⟨v13, hxz9, h⟩ := qz9
        cases hxz9
    · obtain ⟨v10, hxz9, h⟩ := qz9
      cases hxz9
  · obtain ⟨v4, hxz9, h⟩ := qz9
    cases hxz9
set_option maxHeartbeats 4000000 in
set_option maxRecDepth 20000 in
theorem vL_law_1029 {X : am_Cx} {G : am_Gx} {d : Nat} (hX : am_ok X rL_law G (d + 1)) (hret : ∀ {pc : Nat} {lv : List (Nat × Value)} {M : am_Hp} {bc bs : Nat}, decode rL_law.2.1 pc = .ok (.ireturn, 1) → am_J X pc lv [.int (1 : Int32)] M bc bs) {bc bs : Nat} (R3219 : Nat → Nat → Nat → Nat → Nat → Int32 → am_Hp → Nat → Nat → Prop) (k3219 : ∀ (x0 : Nat) (x1 : Nat) (x2 : Nat) (x3 : Nat) (x4 : Nat) (x5 : Int32) (M : am_Hp) (bc bs : Nat), R3219 x0 x1 x2 x3 x4 x5 M bc bs → am_J X 3219 [(0, .ref x0), (1, .ref x1), (2, .ref x2), (3, .ref x3), (4, .ref x4), (5, .int x5)] [] M bc bs) {a0 : Nat} {a1 : Nat} {a2 : Nat} {a3 : Nat} {a4 : Nat} {a5 : Int32} {M : am_Hp} (h : hp_T M (a0) = 42 ∧ (vp_in (a5 + (1 : Int32)) (hp_N M a0) ∧ (1 ≤ bc ∧ (6 ≤ bs ∧ (am_CT G d rL_assignedTo [.ref a1, .int (hp_E M a0 ((a5 + (1 : Int32))).toNatClampNeg), .ref a3] M 1 6 (fun oz9 M3 => ∃ v4 : Int32, oz9 = .inl (some (.int v4)) ∧ (hp_T M3 (a0) = 42 ∧ (vp_in (a5 + (1 : Int32)) (hp_N M3 a0) ∧ (hp_T M3 (a2) = 8 ∧ (am_CT G d rX7_assignedTo [.ref a2, .int (hp_E M3 a0 ((a5 + (1 : Int32))).toNatClampNeg)] M3 0 0 (fun oz9 M9 => ∃ v10 : Int32, oz9 = .inl (some (.int v10)) ∧ (hp_T M9 (a2) = 8 ∧ (am_CT G d rX7_thrown [.ref a2] M9 0 0 (fun oz9 M12 => ∃ v13 : Int32, oz9 = .inl (some (.int v13)) ∧ (((v13 = v4) → (((v4 = 0) → (hp_T M12 (a3) = 23 ∧ (vp_in (0 : Int32) (hp_N M12 a3) ∧ ((((lg_cmp (hp_L M12 a3 ((0 : Int32)).toNatClampNeg) ((v10).toInt64)) = 0) → (R3219 a0 a1 a2 a3 a4 a5 M12 (bc - 1) (bs - 6))) ∧ (¬ ((lg_cmp (hp_L M12 a3 ((0 : Int32)).toNatClampNeg) ((v10).toInt64)) = 0) → (False)))))) ∧ (¬ (v4 = 0) → (R3219 a0 a1 a2 a3 a4 a5 M12 (bc - 1) (bs - 6))))) ∧ (¬ (v13 = v4) → (False))))))))))))))))) : am_J X 1029 [(0, .ref a0), (1, .ref a1), (2, .ref a2), (3, .ref a3), (4, .ref a4), (5, .int a5)] [] M bc bs := by
  refine j_aload_n hX eL_law_1029 1 rfl ?_
  refine j_aload_n hX eL_law_1030 0 rfl ?_
  refine j_iload hX eL_law_1031 5 rfl ?_
  refine j_iconst (v := (1 : Int32)) hX eL_law_1033 (by decide) ?_
  refine j_iadd hX eL_law_1034 ?_
  obtain ⟨t1, h⟩ := h
  obtain ⟨i2, h⟩ := h
  refine j_ialdx hX eL_law_1035 t1 i2 ?_
  refine j_aload_n hX eL_law_1036 3 rfl ?_
  obtain ⟨b5, b6, h⟩ := h
  refine j_callSX (r' := rL_assignedTo) (As := [.ref a1, .int (hp_E M a0 ((a5 + (1 : Int32))).toNatClampNeg), .ref a3]) (rest := []) (d1 := d) hX eL_law_1037 mm_LiftGroupLaw_227 (by decide) rfl h rfl (Nat.le_refl _) b5 b6 (Nat.le_of_ble_eq_true rfl) (fun vz9 Mz9 qz9 => ?_) (fun Ez9 Mz9 qz9 => ?_)
  · obtain ⟨M3, eMz9⟩ : ∃ M3, M3 = Mz9 := ⟨_, rfl⟩; subst eMz9
    obtain ⟨v4, hxz9, h⟩ := qz9
    cases hxz9
    refine j_istore (lv' := [(6, .int v4), (0, .ref a0), (1, .ref a1), (2, .ref a2), (3, .ref a3), (4, .ref a4), (5, .int a5)]) hX eL_law_1040 (by decide) rfl ?_
    refine j_aload_n hX eL_law_1042 3 rfl ?_
    refine j_aload_n hX eL_law_1043 1 rfl ?_
    refine j_iload hX eL_law_1044 6 rfl ?_
    refine j_iconst (v := (1 : Int32)) hX eL_law_1046 (by decide) ?_
    refine j_iadd hX eL_law_1047 ?_
    obtain ⟨t7, h⟩ := h
    obtain ⟨i8, h⟩ := h
    refine j_ialdx hX eL_law_1048 t7 i8 ?_
    obtain ⟨t11, h⟩ := h
    refine j_callV (a := a2) (q := (RX7, TX7, 17)) (r' := rX7_assignedTo) (As := [.int (hp_E M3 a0 ((a5 + (1 : Int32))).toNatClampNeg)]) (rest := []) (d1 := d) hX eL_law_1049 mm_LiftGroupLaw_229 rfl t11 (by decide) rfl h rfl (Nat.le_refl _) (Nat.zero_le _) (Nat.zero_le _) (Nat.le_of_ble_eq_true rfl) (fun vz9 Mz9 qz9 => ?_) (fun Ez9 Mz9 qz9 => ?_)
    · obtain ⟨M9, eMz9⟩ : ∃ M9, M9 = Mz9 := ⟨_, rfl⟩; subst eMz9
      obtain ⟨v10, hxz9, h⟩ := qz9
      cases hxz9
      refine j_istore (lv' := [(7, .int v10), (6, .int v4), (0, .ref a0), (1, .ref a1), (2, .ref a2), (3, .ref a3), (4, .ref a4), (5, .int a5)]) hX eL_law_1052 (by decide) rfl ?_
      refine j_aload_n hX eL_law_1054 4 rfl ?_
      obtain ⟨t14, h⟩ := h
      refine j_callV (a := a2) (q := (RX7, TX7, 17)) (r' := rX7_thrown) (As := []) (rest := []) (d1 := d) hX eL_law_1055 mm_LiftGroupLaw_185 rfl t14 (by decide) rfl h rfl (Nat.le_refl _) (Nat.zero_le _) (Nat.zero_le _) (Nat.le_of_ble_eq_true rfl) (fun vz9 Mz9 qz9 => ?_) (fun Ez9 Mz9 qz9 => ?_)
      · obtain ⟨M12, eMz9⟩ : ∃ M12, M12 = Mz9 := ⟨_, rfl⟩; subst eMz9
        obtain ⟨v13, hxz9, h⟩ := qz9
        cases hxz9
        refine j_iload hX eL_law_1058 1 rfl ?_
        refine j_icmp_eq hX 1065 eL_law_1060 (by decide) (fun c15 => ?_) (fun c15 => ?_)
        · replace h := h.1 c15
          refine j_iload hX eL_law_1065 1 rfl ?_
          refine j_if_ne hX 1082 eL_law_1067 (by decide) (fun c16 => ?_) (fun c16 => ?_)
          · replace h := h.2 c16
            refine j_goto hX 3219 eL_law_1082 (by decide) ?_
            exact j_sub [2, 3, 4, 5, 6, 7] rfl (k3219 _ _ _ _ _ _ _ _ _ h)
          · replace h := h.1 c16
            refine j_aload_n hX eL_law_1070 5 rfl ?_
            refine j_iconst (v := (0 : Int32)) hX eL_law_1071 (by decide) ?_
            obtain ⟨t17, h⟩ := h
            obtain ⟨i18, h⟩ := h
            refine j_lald hX eL_law_1072 t17 i18 ?_
            refine j_iload hX eL_law_1073 0 rfl ?_
            refine j_i2l hX eL_law_1075 ?_
            refine j_lcmp hX eL_law_1076 ?_
            refine j_if_eq hX 1082 eL_law_1077 (by decide) (fun c19 => ?_) (fun c19 => ?_)
            · replace h := h.1 c19
              refine j_goto hX 3219 eL_law_1082 (by decide) ?_
              exact j_sub [2, 3, 4, 5, 6, 7] rfl (k3219 _ _ _ _ _ _ _ _ _ h)
            · replace h := h.2 c19
              refine j_iconst (v := (0 : Int32)) hX eL_law_1080 (by decide) ?_
              exact h.elim
        · replace h := h.2 c15
          refine j_iconst (v := (0 : Int32)) hX eL_law_1063 (by decide) ?_
          exact h.elim
      · obtain ⟨v13, hxz9, h⟩ := qz9
        cases hxz9
    · obtain ⟨v10, hxz9, h⟩ := qz9
      cases hxz9
  · obtain ⟨v4, hxz9, h⟩ := qz9
    cases hxz9
set_option maxHeartbeats 4000000 in
set_option maxRecDepth 20000 in
theorem vL_law_1085 {X : am_Cx} {G : am_Gx} {d : Nat} (hX : am_ok X rL_law G (d + 1)) (hret : ∀ {pc : Nat} {lv : List (Nat × Value)} {M : am_Hp} {bc bs : Nat}, decode rL_law.2.1 pc = .ok (.ireturn, 1) → am_J X pc lv [.int (1 : Int32)] M bc bs) {bc bs : Nat} (R3219 : Nat → Nat → Nat → Nat → Nat → Int32 → am_Hp → Nat → Nat → Prop) (k3219 : ∀ (x0 : Nat) (x1 : Nat) (x2 : Nat) (x3 : Nat) (x4 : Nat) (x5 : Int32) (M : am_Hp) (bc bs : Nat), R3219 x0 x1 x2 x3 x4 x5 M bc bs → am_J X 3219 [(0, .ref x0), (1, .ref x1), (2, .ref x2), (3, .ref x3), (4, .ref x4), (5, .int x5)] [] M bc bs) {a0 : Nat} {a1 : Nat} {a2 : Nat} {a3 : Nat} {a4 : Nat} {a5 : Int32} {M : am_Hp} (h : hp_T M (a0) = 42 ∧ (vp_in (a5 + (1 : Int32)) (hp_N M a0) ∧ (1 ≤ bc ∧ (6 ≤ bs ∧ (am_CT G d rL_doorSteps [.ref a1, .int (hp_E M a0 ((a5 + (1 : Int32))).toNatClampNeg), .ref a3] M 1 6 (fun oz9 M3 => ∃ v4 : Int32, oz9 = .inl (some (.int v4)) ∧ (hp_T M3 (a0) = 42 ∧ (vp_in (a5 + (1 : Int32)) (hp_N M3 a0) ∧ (hp_T M3 (a2) = 8 ∧ (am_CT G d rX7_doorSteps [.ref a2, .int (hp_E M3 a0 ((a5 + (1 : Int32))).toNatClampNeg)] M3 0 0 (fun oz9 M9 => ∃ v10 : Int32, oz9 = .inl (some (.int v10)) ∧ (hp_T M9 (a2) = 8 ∧ (am_CT G d rX7_thrown [.ref a2] M9 0 0 (fun oz9 M12 => ∃ v13 : Int32, oz9 = .inl (some (.int v13)) ∧ (((v13 = v4) → (((v4 = 0) → (hp_T M12 (a3) = 23 ∧ (vp_in (0 : Int32) (hp_N M12 a3) ∧ ((((lg_cmp (hp_L M12 a3 ((0 : Int32)).toNatClampNeg) ((v10).toInt64)) = 0) → (R3219 a0 a1 a2 a3 a4 a5 M12 (bc - 1) (bs - 6))) ∧ (¬ ((lg_cmp (hp_L M12 a3 ((0 : Int32)).toNatClampNeg) ((v10).toInt64)) = 0) → (False)))))) ∧ (¬ (v4 = 0) → (R3219 a0 a1 a2 a3 a4 a5 M12 (bc - 1) (bs - 6))))) ∧ (¬ (v13 = v4) → (False))))))))))))))))) : am_J X 1085 [(0, .ref a0), (1, .ref a1), (2, .ref a2), (3, .ref a3), (4, .ref a4), (5, .int a5)] [] M bc bs := by
  refine j_aload_n hX eL_law_1085 1 rfl ?_
  refine j_aload_n hX eL_law_1086 0 rfl ?_
  refine j_iload hX eL_law_1087 5 rfl ?_
  refine j_iconst (v := (1 : Int32)) hX eL_law_1089 (by decide) ?_
  refine j_iadd hX eL_law_1090 ?_
  obtain ⟨t1, h⟩ := h
  obtain ⟨i2, h⟩ := h
  refine j_ialdx hX eL_law_1091 t1 i2 ?_
  refine j_aload_n hX eL_law_1092 3 rfl ?_
  obtain ⟨b5, b6, h⟩ := h
  refine j_callSX (r' := rL_doorSteps) (As := [.ref a1, .int (hp_E M a0 ((a5 + (1 : Int32))).toNatClampNeg), .ref a3]) (rest := []) (d1 := d) hX eL_law_1093 mm_LiftGroupLaw_230 (by decide) rfl h rfl (Nat.le_refl _) b5 b6 (Nat.le_of_ble_eq_true rfl) (fun vz9 Mz9 qz9 => ?_) (fun Ez9 Mz9 qz9 => ?_)
  · obtain ⟨M3, eMz9⟩ : ∃ M3, M3 = Mz9 := ⟨_, rfl⟩; subst eMz9
    obtain ⟨v4, hxz9, h⟩ := qz9
    cases hxz9
    refine j_istore (lv' := [(6, .int v4), (0, .ref a0), (1, .ref a1), (2, .ref a2), (3, .ref a3), (4, .ref a4), (5, .int a5)]) hX eL_law_1096 (by decide) rfl ?_
    refine j_aload_n hX eL_law_1098 3 rfl ?_
    refine j_aload_n hX eL_law_1099 1 rfl ?_
    refine j_iload hX eL_law_1100 6 rfl ?_
    refine j_iconst (v := (1 : Int32)) hX eL_law_1102 (by decide) ?_
    refine j_iadd hX eL_law_1103 ?_
    obtain ⟨t7, h⟩ := h
    obtain ⟨i8, h⟩ := h
    refine j_ialdx hX eL_law_1104 t7 i8 ?_
    obtain ⟨t11, h⟩ := h
    refine j_callV (a := a2) (q := (RX7, TX7, 17)) (r' := rX7_doorSteps) (As := [.int (hp_E M3 a0 ((a5 + (1 : Int32))).toNatClampNeg)]) (rest := []) (d1 := d) hX eL_law_1105 mm_LiftGroupLaw_232 rfl t11 (by decide) rfl h rfl (Nat.le_refl _) (Nat.zero_le _) (Nat.zero_le _) (Nat.le_of_ble_eq_true rfl) (fun vz9 Mz9 qz9 => ?_) (fun Ez9 Mz9 qz9 => ?_)
    · obtain ⟨M9, eMz9⟩ : ∃ M9, M9 = Mz9 := ⟨_, rfl⟩; subst eMz9
      obtain ⟨v10, hxz9, h⟩ := qz9
      cases hxz9
      refine j_istore (lv' := [(7, .int v10), (6, .int v4), (0, .ref a0), (1, .ref a1), (2, .ref a2), (3, .ref a3), (4, .ref a4), (5, .int a5)]) hX eL_law_1108 (by decide) rfl ?_
      refine j_aload_n hX eL_law_1110 4 rfl ?_
      obtain ⟨t14, h⟩ := h
      refine j_callV (a := a2) (q := (RX7, TX7, 17)) (r' := rX7_thrown) (As := []) (rest := []) (d1 := d) hX eL_law_1111 mm_LiftGroupLaw_185 rfl t14 (by decide) rfl h rfl (Nat.le_refl _) (Nat.zero_le _) (Nat.zero_le _) (Nat.le_of_ble_eq_true rfl) (fun vz9 Mz9 qz9 => ?_) (fun Ez9 Mz9 qz9 => ?_)
      · obtain ⟨M12, eMz9⟩ : ∃ M12, M12 = Mz9 := ⟨_, rfl⟩; subst eMz9
        obtain ⟨v13, hxz9, h⟩ := qz9
        cases hxz9
        refine j_iload hX eL_law_1114 1 rfl ?_
        refine j_icmp_eq hX 1121 eL_law_1116 (by decide) (fun c15 => ?_) (fun c15 => ?_)
        · replace h := h.1 c15
          refine j_iload hX eL_law_1121 1 rfl ?_
          refine j_if_ne hX 1138 eL_law_1123 (by decide) (fun c16 => ?_) (fun c16 => ?_)
          · replace h := h.2 c16
            refine j_goto hX 3219 eL_law_1138 (by decide) ?_
            exact j_sub [2, 3, 4, 5, 6, 7] rfl (k3219 _ _ _ _ _ _ _ _ _ h)
          · replace h := h.1 c16
            refine j_aload_n hX eL_law_1126 5 rfl ?_
            refine j_iconst (v := (0 : Int32)) hX eL_law_1127 (by decide) ?_
            obtain ⟨t17, h⟩ := h
            obtain ⟨i18, h⟩ := h
            refine j_lald hX eL_law_1128 t17 i18 ?_
            refine j_iload hX eL_law_1129 0 rfl ?_
            refine j_i2l hX eL_law_1131 ?_
            refine j_lcmp hX eL_law_1132 ?_
            refine j_if_eq hX 1138 eL_law_1133 (by decide) (fun c19 => ?_) (fun c19 => ?_)
            · replace h := h.1 c19
              refine j_goto hX 3219 eL_law_1138 (by decide) ?_
              exact j_sub [2, 3, 4, 5, 6, 7] rfl (k3219 _ _ _ _ _ _ _ _ _ h)
            · replace h := h.2 c19
              refine j_iconst (v := (0 : Int32)) hX eL_law_1136 (by decide) ?_
              exact h.elim
        · replace h := h.2 c15
          refine j_iconst (v := (0 : Int32)) hX eL_law_1119 (by decide) ?_
          exact h.elim
      · obtain ⟨v13, hxz9, h⟩ := qz9
        cases hxz9
    · obtain ⟨v10, hxz9, h⟩ := qz9
      cases hxz9
  · obtain ⟨v4, hxz9, h⟩ := qz9
    cases hxz9
set_option maxHeartbeats 4000000 in
set_option maxRecDepth 20000 in
theorem vL_law_1141 {X : am_Cx} {G : am_Gx} {d : Nat} (hX : am_ok X rL_law G (d + 1)) (hret : ∀ {pc : Nat} {lv : List (Nat × Value)} {M : am_Hp} {bc bs : Nat}, decode rL_law.2.1 pc = .ok (.ireturn, 1) → am_J X pc lv [.int (1 : Int32)] M bc bs) {bc bs : Nat} (R3219 : Nat → Nat → Nat → Nat → Nat → Int32 → am_Hp → Nat → Nat → Prop) (k3219 : ∀ (x0 : Nat) (x1 : Nat) (x2 : Nat) (x3 : Nat) (x4 : Nat) (x5 : Int32) (M : am_Hp) (bc bs : Nat), R3219 x0 x1 x2 x3 x4 x5 M bc bs → am_J X 3219 [(0, .ref x0), (1, .ref x1), (2, .ref x2), (3, .ref x3), (4, .ref x4), (5, .int x5)] [] M bc bs) {a0 : Nat} {a1 : Nat} {a2 : Nat} {a3 : Nat} {a4 : Nat} {a5 : Int32} {M : am_Hp} (h : hp_T M (a0) = 42 ∧ (vp_in (a5 + (1 : Int32)) (hp_N M a0) ∧ (1 ≤ bc ∧ (6 ≤ bs ∧ (am_CT G d rL_isInService [.ref a1, .int (hp_E M a0 ((a5 + (1 : Int32))).toNatClampNeg), .ref a3] M 1 6 (fun oz9 M3 => ∃ v4 : Int32, oz9 = .inl (some (.int v4)) ∧ (hp_T M3 (a0) = 42 ∧ (vp_in (a5 + (1 : Int32)) (hp_N M3 a0) ∧ (hp_T M3 (a2) = 8 ∧ (am_CT G d rX7_isInService [.ref a2, .int (hp_E M3 a0 ((a5 + (1 : Int32))).toNatClampNeg)] M3 0 0 (fun oz9 M9 => ∃ v10 : Int32, oz9 = .inl (some (.int v10)) ∧ (hp_T M9 (a2) = 8 ∧ (am_CT G d rX7_thrown [.ref a2] M9 0 0 (fun oz9 M12 => ∃ v13 : Int32, oz9 = .inl (some (.int v13)) ∧ (((v13 = v4) → (((v4 = 0) → (hp_T M12 (a3) = 23 ∧ (vp_in (0 : Int32) (hp_N M12 a3) ∧ (((v10 = 0) → ((((lg_cmp (hp_L M12 a3 ((0 : Int32)).toNatClampNeg) (0 : Int64)) = 0) → (R3219 a0 a1 a2 a3 a4 a5 M12 (bc - 1) (bs - 6))) ∧ (¬ ((lg_cmp (hp_L M12 a3 ((0 : Int32)).toNatClampNeg) (0 : Int64)) = 0) → (False)))) ∧ (¬ (v10 = 0) → ((((lg_cmp (hp_L M12 a3 ((0 : Int32)).toNatClampNeg) (1 : Int64)) = 0) → (R3219 a0 a1 a2 a3 a4 a5 M12 (bc - 1) (bs - 6))) ∧ (¬ ((lg_cmp (hp_L M12 a3 ((0 : Int32)).toNatClampNeg) (1 : Int64)) = 0) → (False)))))))) ∧ (¬ (v4 = 0) → (R3219 a0 a1 a2 a3 a4 a5 M12 (bc - 1) (bs - 6))))) ∧ (¬ (v13 = v4) → (False))))))))))))))))) : am_J X 1141 [(0, .ref a0), (1, .ref a1), (2, .ref a2), (3, .ref a3), (4, .ref a4), (5, .int a5)] [] M bc bs := by
  refine j_aload_n hX eL_law_1141 1 rfl ?_
  refine j_aload_n hX eL_law_1142 0 rfl ?_
  refine j_iload hX eL_law_1143 5 rfl ?_
  refine j_iconst (v := (1 : Int32)) hX eL_law_1145 (by decide) ?_
  refine j_iadd hX eL_law_1146 ?_
  obtain ⟨t1, h⟩ := h
  obtain ⟨i2, h⟩ := h
  refine j_ialdx hX eL_law_1147 t1 i2 ?_
  refine j_aload_n hX eL_law_1148 3 rfl ?_
  obtain ⟨b5, b6, h⟩ := h
  refine j_callSX (r' := rL_isInService) (As := [.ref a1, .int (hp_E M a0 ((a5 + (1 : Int32))).toNatClampNeg), .ref a3]) (rest := []) (d1 := d) hX eL_law_1149 mm_LiftGroupLaw_233 (by decide) rfl h rfl (Nat.le_refl _) b5 b6 (Nat.le_of_ble_eq_true rfl) (fun vz9 Mz9 qz9 => ?_) (fun Ez9 Mz9 qz9 => ?_)
  · obtain ⟨M3, eMz9⟩ : ∃ M3, M3 = Mz9 := ⟨_, rfl⟩; subst eMz9
    obtain ⟨v4, hxz9, h⟩ := qz9
    cases hxz9
    refine j_istore (lv' := [(6, .int v4), (0, .ref a0), (1, .ref a1), (2, .ref a2), (3, .ref a3), (4, .ref a4), (5, .int a5)]) hX eL_law_1152 (by decide) rfl ?_
    refine j_aload_n hX eL_law_1154 3 rfl ?_
    refine j_aload_n hX eL_law_1155 1 rfl ?_
    refine j_iload hX eL_law_1156 6 rfl ?_
    refine j_iconst (v := (1 : Int32)) hX eL_law_1158 (by decide) ?_
    refine j_iadd hX eL_law_1159 ?_
    obtain ⟨t7, h⟩ := h
    obtain ⟨i8, h⟩ := h
    refine j_ialdx hX eL_law_1160 t7 i8 ?_
    obtain ⟨t11, h⟩ := h
    refine j_callV (a := a2) (q := (RX7, TX7, 17)) (r' := rX7_isInService) (As := [.int (hp_E M3 a0 ((a5 + (1 : Int32))).toNatClampNeg)]) (rest := []) (d1 := d) hX eL_law_1161 mm_LiftGroupLaw_235 rfl t11 (by decide) rfl h rfl (Nat.le_refl _) (Nat.zero_le _) (Nat.zero_le _) (Nat.le_of_ble_eq_true rfl) (fun vz9 Mz9 qz9 => ?_) (fun Ez9 Mz9 qz9 => ?_)
    · obtain ⟨M9, eMz9⟩ : ∃ M9, M9 = Mz9 := ⟨_, rfl⟩; subst eMz9
      obtain ⟨v10, hxz9, h⟩ := qz9
      cases hxz9
      refine j_istore (lv' := [(7, .int v10), (6, .int v4), (0, .ref a0), (1, .ref a1), (2, .ref a2), (3, .ref a3), (4, .ref a4), (5, .int a5)]) hX eL_law_1164 (by decide) rfl ?_
      refine j_aload_n hX eL_law_1166 4 rfl ?_
      obtain ⟨t14, h⟩ := h
      refine j_callV (a := a2) (q := (RX7, TX7, 17)) (r' := rX7_thrown) (As := []) (rest := []) (d1 := d) hX eL_law_1167 mm_LiftGroupLaw_185 rfl t14 (by decide) rfl h rfl (Nat.le_refl _) (Nat.zero_le _) (Nat.zero_le _) (Nat.le_of_ble_eq_true rfl) (fun vz9 Mz9 qz9 => ?_) (fun Ez9 Mz9 qz9 => ?_)
      · obtain ⟨M12, eMz9⟩ : ∃ M12, M12 = Mz9 := ⟨_, rfl⟩; subst eMz9
        obtain ⟨v13, hxz9, h⟩ := qz9
        cases hxz9
        refine j_iload hX eL_law_1170 1 rfl ?_
        refine j_icmp_eq hX 1177 eL_law_1172 (by decide) (fun c15 => ?_) (fun c15 => ?_)
        · replace h := h.1 c15
          refine j_iload hX eL_law_1177 1 rfl ?_
          refine j_if_ne hX 1201 eL_law_1179 (by decide) (fun c16 => ?_) (fun c16 => ?_)
          · replace h := h.2 c16
            refine j_goto hX 3219 eL_law_1201 (by decide) ?_
            exact j_sub [2, 3, 4, 5, 6, 7] rfl (k3219 _ _ _ _ _ _ _ _ _ h)
          · replace h := h.1 c16
            refine j_aload_n hX eL_law_1182 5 rfl ?_
            refine j_iconst (v := (0 : Int32)) hX eL_law_1183 (by decide) ?_
            obtain ⟨t17, h⟩ := h
            obtain ⟨i18, h⟩ := h
            refine j_lald hX eL_law_1184 t17 i18 ?_
            refine j_iload hX eL_law_1185 0 rfl ?_
            refine j_if_eq hX 1194 eL_law_1187 (by decide) (fun c19 => ?_) (fun c19 => ?_)
            · replace h := h.1 c19
              refine j_lconst (v := (0 : Int64)) hX eL_law_1194 (by decide) ?_
              refine j_lcmp hX eL_law_1195 ?_
              refine j_if_eq hX 1201 eL_law_1196 (by decide) (fun c20 => ?_) (fun c20 => ?_)
              · replace h := h.1 c20
                refine j_goto hX 3219 eL_law_1201 (by decide) ?_
                exact j_sub [2, 3, 4, 5, 6, 7] rfl (k3219 _ _ _ _ _ _ _ _ _ h)
              · replace h := h.2 c20
                refine j_iconst (v := (0 : Int32)) hX eL_law_1199 (by decide) ?_
                exact h.elim
            · replace h := h.2 c19
              refine j_lconst (v := (1 : Int64)) hX eL_law_1190 (by decide) ?_
              refine j_goto hX 1195 eL_law_1191 (by decide) ?_
              refine j_lcmp hX eL_law_1195 ?_
              refine j_if_eq hX 1201 eL_law_1196 (by decide) (fun c21 => ?_) (fun c21 => ?_)
              · replace h := h.1 c21
                refine j_goto hX 3219 eL_law_1201 (by decide) ?_
                exact j_sub [2, 3, 4, 5, 6, 7] rfl (k3219 _ _ _ _ _ _ _ _ _ h)
              · replace h := h.2 c21
                refine j_iconst (v := (0 : Int32)) hX eL_law_1199 (by decide) ?_
                exact h.elim
        · replace h := h.2 c15
          refine j_iconst (v := (0 : Int32)) hX eL_law_1175 (by decide) ?_
          exact h.elim
      · obtain ⟨v13, hxz9, h⟩ := qz9
        cases hxz9
    · obtain ⟨v10, hxz9, h⟩ := qz9
      cases hxz9
  · obtain ⟨v4, hxz9, h⟩ := qz9
    cases hxz9
set_option maxHeartbeats 4000000 in
set_option maxRecDepth 20000 in
theorem vL_law_1204 {X : am_Cx} {G : am_Gx} {d : Nat} (hX : am_ok X rL_law G (d + 1)) (hret : ∀ {pc : Nat} {lv : List (Nat × Value)} {M : am_Hp} {bc bs : Nat}, decode rL_law.2.1 pc = .ok (.ireturn, 1) → am_J X pc lv [.int (1 : Int32)] M bc bs) {bc bs : Nat} (R3219 : Nat → Nat → Nat → Nat → Nat → Int32 → am_Hp → Nat → Nat → Prop) (k3219 : ∀ (x0 : Nat) (x1 : Nat) (x2 : Nat) (x3 : Nat) (x4 : Nat) (x5 : Int32) (M : am_Hp) (bc bs : Nat), R3219 x0 x1 x2 x3 x4 x5 M bc bs → am_J X 3219 [(0, .ref x0), (1, .ref x1), (2, .ref x2), (3, .ref x3), (4, .ref x4), (5, .int x5)] [] M bc bs) {a0 : Nat} {a1 : Nat} {a2 : Nat} {a3 : Nat} {a4 : Nat} {a5 : Int32} {M : am_Hp} (h : hp_T M (a0) = 42 ∧ (vp_in (a5 + (1 : Int32)) (hp_N M a0) ∧ (1 ≤ bc ∧ (6 ≤ bs ∧ (am_CT G d rL_energy [.ref a1, .int (hp_E M a0 ((a5 + (1 : Int32))).toNatClampNeg), .ref a3] M 1 6 (fun oz9 M3 => ∃ v4 : Int32, oz9 = .inl (some (.int v4)) ∧ (hp_T M3 (a0) = 42 ∧ (vp_in (a5 + (1 : Int32)) (hp_N M3 a0) ∧ (hp_T M3 (a2) = 8 ∧ (am_CT G d rX7_energy [.ref a2, .int (hp_E M3 a0 ((a5 + (1 : Int32))).toNatClampNeg)] M3 0 0 (fun oz9 M9 => ∃ v10 : Int32, oz9 = .inl (some (.int v10)) ∧ (hp_T M9 (a2) = 8 ∧ (am_CT G d rX7_thrown [.ref a2] M9 0 0 (fun oz9 M12 => ∃ v13 : Int32, oz9 = .inl (some (.int v13)) ∧ (((v13 = v4) → (((v4 = 0) → (hp_T M12 (a3) = 23 ∧ (vp_in (0 : Int32) (hp_N M12 a3) ∧ ((((lg_cmp (hp_L M12 a3 ((0 : Int32)).toNatClampNeg) ((v10).toInt64)) = 0) → (R3219 a0 a1 a2 a3 a4 a5 M12 (bc - 1) (bs - 6))) ∧ (¬ ((lg_cmp (hp_L M12 a3 ((0 : Int32)).toNatClampNeg) ((v10).toInt64)) = 0) → (False)))))) ∧ (¬ (v4 = 0) → (R3219 a0 a1 a2 a3 a4 a5 M12 (bc - 1) (bs - 6))))) ∧ (¬ (v13 = v4) → (False))))))))))))))))) : am_J X 1204 [(0, .ref a0), (1, .ref a1), (2, .ref a2), (3, .ref a3), (4, .ref a4), (5, .int a5)] [] M bc bs := by
  refine j_aload_n hX eL_law_1204 1 rfl ?_
  refine j_aload_n hX eL_law_1205 0 rfl ?_
  refine j_iload hX eL_law_1206 5 rfl ?_
  refine j_iconst (v := (1 : Int32)) hX eL_law_1208 (by decide) ?_
  refine j_iadd hX eL_law_1209 ?_
  obtain ⟨t1, h⟩ := h
  obtain ⟨i2, h⟩ := h
  refine j_ialdx hX eL_law_1210 t1 i2 ?_
  refine j_aload_n hX eL_law_1211 3 rfl ?_
  obtain ⟨b5, b6, h⟩ := h
  refine j_callSX (r' := rL_energy) (As := [.ref a1, .int (hp_E M a0 ((a5 + (1 : Int32))).toNatClampNeg), .ref a3]) (rest := []) (d1 := d) hX eL_law_1212 mm_LiftGroupLaw_236 (by decide) rfl h rfl (Nat.le_refl _) b5 b6 (Nat.le_of_ble_eq_true rfl) (fun vz9 Mz9 qz9 => ?_) (fun Ez9 Mz9 qz9 => ?_)
  · obtain ⟨M3, eMz9⟩ : ∃ M3, M3 = Mz9 := ⟨_, rfl⟩; subst eMz9
    obtain ⟨v4, hxz9, h⟩ := qz9
    cases hxz9
    refine j_istore (lv' := [(6, .int v4), (0, .ref a0), (1, .ref a1), (2, .ref a2), (3, .ref a3), (4, .ref a4), (5, .int a5)]) hX eL_law_1215 (by decide) rfl ?_
    refine j_aload_n hX eL_law_1217 3 rfl ?_
    refine j_aload_n hX eL_law_1218 1 rfl ?_
    refine j_iload hX eL_law_1219 6 rfl ?_
    refine j_iconst (v := (1 : Int32)) hX eL_law_1221 (by decide) ?_
    refine j_iadd hX eL_law_1222 ?_
    obtain ⟨t7, h⟩ := h
    obtain ⟨i8, h⟩ := h
    refine j_ialdx hX eL_law_1223 t7 i8 ?_
    obtain ⟨t11, h⟩ := h
    refine j_callV (a := a2) (q := (RX7, TX7, 17)) (r' := rX7_energy) (As := [.int (hp_E M3 a0 ((a5 + (1 : Int32))).toNatClampNeg)]) (rest := []) (d1 := d) hX eL_law_1224 mm_LiftGroupLaw_238 rfl t11 (by decide) rfl h rfl (Nat.le_refl _) (Nat.zero_le _) (Nat.zero_le _) (Nat.le_of_ble_eq_true rfl) (fun vz9 Mz9 qz9 => ?_) (fun Ez9 Mz9 qz9 => ?_)
    · obtain ⟨M9, eMz9⟩ : ∃ M9, M9 = Mz9 := ⟨_, rfl⟩; subst eMz9
      obtain ⟨v10, hxz9, h⟩ := qz9
      cases hxz9
      refine j_istore (lv' := [(7, .int v10), (6, .int v4), (0, .ref a0), (1, .ref a1), (2, .ref a2), (3, .ref a3), (4, .ref a4), (5, .int a5)]) hX eL_law_1227 (by decide) rfl ?_
      refine j_aload_n hX eL_law_1229 4 rfl ?_
      obtain ⟨t14, h⟩ := h
      refine j_callV (a := a2) (q := (RX7, TX7, 17)) (r' := rX7_thrown) (As := []) (rest := []) (d1 := d) hX eL_law_1230 mm_LiftGroupLaw_185 rfl t14 (by decide) rfl h rfl (Nat.le_refl _) (Nat.zero_le _) (Nat.zero_le _) (Nat.le_of_ble_eq_true rfl) (fun vz9 Mz9 qz9 => ?_) (fun Ez9 Mz9 qz9 => ?_)
      · obtain ⟨M12, eMz9⟩ : ∃ M12, M12 = Mz9 := ⟨_, rfl⟩; subst eMz9
        obtain ⟨v13, hxz9, h⟩ := qz9
        cases hxz9
        refine j_iload hX eL_law_1233 1 rfl ?_
        refine j_icmp_eq hX 1240 eL_law_1235 (by decide) (fun c15 => ?_) (fun c15 => ?_)
        · replace h := h.1 c15
          refine j_iload hX eL_law_1240 1 rfl ?_
          refine j_if_ne hX 1257 eL_law_1242 (by decide) (fun c16 => ?_) (fun c16 => ?_)
          · replace h := h.2 c16
            refine j_goto hX 3219 eL_law_1257 (by decide) ?_
            exact j_sub [2, 3, 4, 5, 6, 7] rfl (k3219 _ _ _ _ _ _ _ _ _ h)
          · replace h := h.1 c16
            refine j_aload_n hX eL_law_1245 5 rfl ?_
            refine j_iconst (v := (0 : Int32)) hX eL_law_1246 (by decide) ?_
            obtain ⟨t17, h⟩ := h
            obtain ⟨i18, h⟩ := h
            refine j_lald hX eL_law_1247 t17 i18 ?_
            refine j_iload hX eL_law_1248 0 rfl ?_
            refine j_i2l hX eL_law_1250 ?_
            refine j_lcmp hX eL_law_1251 ?_
            refine j_if_eq hX 1257 eL_law_1252 (by decide) (fun c19 => ?_) (fun c19 => ?_)
            · replace h := h.1 c19
              refine j_goto hX 3219 eL_law_1257 (by decide) ?_
              exact j_sub [2, 3, 4, 5, 6, 7] rfl (k3219 _ _ _ _ _ _ _ _ _ h)
            · replace h := h.2 c19
              refine j_iconst (v := (0 : Int32)) hX eL_law_1255 (by decide) ?_
              exact h.elim
        · replace h := h.2 c15
          refine j_iconst (v := (0 : Int32)) hX eL_law_1238 (by decide) ?_
          exact h.elim
      · obtain ⟨v13, hxz9, h⟩ := qz9
        cases hxz9
    · obtain ⟨v10, hxz9, h⟩ := qz9
      cases hxz9
  · obtain ⟨v4, hxz9, h⟩ := qz9
    cases hxz9
set_option maxHeartbeats 4000000 in
set_option maxRecDepth 20000 in
theorem vL_law_1260 {X : am_Cx} {G : am_Gx} {d : Nat} (hX : am_ok X rL_law G (d + 1)) (hret : ∀ {pc : Nat} {lv : List (Nat × Value)} {M : am_Hp} {bc bs : Nat}, decode rL_law.2.1 pc = .ok (.ireturn, 1) → am_J X pc lv [.int (1 : Int32)] M bc bs) {bc bs : Nat} (R3219 : Nat → Nat → Nat → Nat → Nat → Int32 → am_Hp → Nat → Nat → Prop) (k3219 : ∀ (x0 : Nat) (x1 : Nat) (x2 : Nat) (x3 : Nat) (x4 : Nat) (x5 : Int32) (M : am_Hp) (bc bs : Nat), R3219 x0 x1 x2 x3 x4 x5 M bc bs → am_J X 3219 [(0, .ref x0), (1, .ref x1), (2, .ref x2), (3, .ref x3), (4, .ref x4), (5, .int x5)] [] M bc bs) {a0 : Nat} {a1 : Nat} {a2 : Nat} {a3 : Nat} {a4 : Nat} {a5 : Int32} {M : am_Hp} (h : hp_T M (a0) = 42 ∧ (vp_in (a5 + (1 : Int32)) (hp_N M a0) ∧ (vp_in (a5 + (2 : Int32)) (hp_N M a0) ∧ (2 ≤ bc ∧ (12 ≤ bs ∧ (am_CT G d rL_isStop [.ref a1, .int (hp_E M a0 ((a5 + (1 : Int32))).toNatClampNeg), .int (hp_E M a0 ((a5 + (2 : Int32))).toNatClampNeg), .ref a3] M 2 12 (fun oz9 M4 => ∃ v5 : Int32, oz9 = .inl (some (.int v5)) ∧ (hp_T M4 (a0) = 42 ∧ (vp_in (a5 + (1 : Int32)) (hp_N M4 a0) ∧ (vp_in (a5 + (2 : Int32)) (hp_N M4 a0) ∧ (hp_T M4 (a2) = 8 ∧ (am_CT G d rX7_isStop [.ref a2, .int (hp_E M4 a0 ((a5 + (1 : Int32))).toNatClampNeg), .int (hp_E M4 a0 ((a5 + (2 : Int32))).toNatClampNeg)] M4 0 0 (fun oz9 M11 => ∃ v12 : Int32, oz9 = .inl (some (.int v12)) ∧ (hp_T M11 (a2) = 8 ∧ (am_CT G d rX7_thrown [.ref a2] M11 0 0 (fun oz9 M14 => ∃ v15 : Int32, oz9 = .inl (some (.int v15)) ∧ (((v15 = v5) → (((v5 = 0) → (hp_T M14 (a3) = 23 ∧ (vp_in (0 : Int32) (hp_N M14 a3) ∧ (((v12 = 0) → ((((lg_cmp (hp_L M14 a3 ((0 : Int32)).toNatClampNeg) (0 : Int64)) = 0) → (R3219 a0 a1 a2 a3 a4 a5 M14 (bc - 2) (bs - 12))) ∧ (¬ ((lg_cmp (hp_L M14 a3 ((0 : Int32)).toNatClampNeg) (0 : Int64)) = 0) → (False)))) ∧ (¬ (v12 = 0) → ((((lg_cmp (hp_L M14 a3 ((0 : Int32)).toNatClampNeg) (1 : Int64)) = 0) → (R3219 a0 a1 a2 a3 a4 a5 M14 (bc - 2) (bs - 12))) ∧ (¬ ((lg_cmp (hp_L M14 a3 ((0 : Int32)).toNatClampNeg) (1 : Int64)) = 0) → (False)))))))) ∧ (¬ (v5 = 0) → (R3219 a0 a1 a2 a3 a4 a5 M14 (bc - 2) (bs - 12))))) ∧ (¬ (v15 = v5) → (False))))))))))))))))))) : am_J X 1260 [(0, .ref a0), (1, .ref a1), (2, .ref a2), (3, .ref a3), (4, .ref a4), (5, .int a5)] [] M bc bs := by
  refine j_aload_n hX eL_law_1260 1 rfl ?_
  refine j_aload_n hX eL_law_1261 0 rfl ?_
  refine j_iload hX eL_law_1262 5 rfl ?_
  refine j_iconst (v := (1 : Int32)) hX eL_law_1264 (by decide) ?_
  refine j_iadd hX eL_law_1265 ?_
  obtain ⟨t1, h⟩ := h
  obtain ⟨i2, h⟩ := h
  refine j_ialdx hX eL_law_1266 t1 i2 ?_
  refine j_aload_n hX eL_law_1267 0 rfl ?_
  refine j_iload hX eL_law_1268 5 rfl ?_
  refine j_iconst (v := (2 : Int32)) hX eL_law_1270 (by decide) ?_
  refine j_iadd hX eL_law_1271 ?_
  obtain ⟨i3, h⟩ := h
  refine j_ialdx hX eL_law_1272 t1 i3 ?_
  refine j_aload_n hX eL_law_1273 3 rfl ?_
  obtain ⟨b6, b7, h⟩ := h
  refine j_callSX (r' := rL_isStop) (As := [.ref a1, .int (hp_E M a0 ((a5 + (1 : Int32))).toNatClampNeg), .int (hp_E M a0 ((a5 + (2 : Int32))).toNatClampNeg), .ref a3]) (rest := []) (d1 := d) hX eL_law_1274 mm_LiftGroupLaw_239 (by decide) rfl h rfl (Nat.le_refl _) b6 b7 (Nat.le_of_ble_eq_true rfl) (fun vz9 Mz9 qz9 => ?_) (fun Ez9 Mz9 qz9 => ?_)
  · obtain ⟨M4, eMz9⟩ : ∃ M4, M4 = Mz9 := ⟨_, rfl⟩; subst eMz9
    obtain ⟨v5, hxz9, h⟩ := qz9
    cases hxz9
    refine j_istore (lv' := [(6, .int v5), (0, .ref a0), (1, .ref a1), (2, .ref a2), (3, .ref a3), (4, .ref a4), (5, .int a5)]) hX eL_law_1277 (by decide) rfl ?_
    refine j_aload_n hX eL_law_1279 3 rfl ?_
    refine j_aload_n hX eL_law_1280 1 rfl ?_
    refine j_iload hX eL_law_1281 6 rfl ?_
    refine j_iconst (v := (1 : Int32)) hX eL_law_1283 (by decide) ?_
    refine j_iadd hX eL_law_1284 ?_
    obtain ⟨t8, h⟩ := h
    obtain ⟨i9, h⟩ := h
    refine j_ialdx hX eL_law_1285 t8 i9 ?_
    refine j_aload_n hX eL_law_1286 1 rfl ?_
    refine j_iload hX eL_law_1287 6 rfl ?_
    refine j_iconst (v := (2 : Int32)) hX eL_law_1289 (by decide) ?_
    refine j_iadd hX eL_law_1290 ?_
    obtain ⟨i10, h⟩ := h
    refine j_ialdx hX eL_law_1291 t8 i10 ?_
    obtain ⟨t13, h⟩ := h
    refine j_callV (a := a2) (q := (RX7, TX7, 17)) (r' := rX7_isStop) (As := [.int (hp_E M4 a0 ((a5 + (1 : Int32))).toNatClampNeg), .int (hp_E M4 a0 ((a5 + (2 : Int32))).toNatClampNeg)]) (rest := []) (d1 := d) hX eL_law_1292 mm_LiftGroupLaw_241 rfl t13 (by decide) rfl h rfl (Nat.le_refl _) (Nat.zero_le _) (Nat.zero_le _) (Nat.le_of_ble_eq_true rfl) (fun vz9 Mz9 qz9 => ?_) (fun Ez9 Mz9 qz9 => ?_)
    · obtain ⟨M11, eMz9⟩ : ∃ M11, M11 = Mz9 := ⟨_, rfl⟩; subst eMz9
      obtain ⟨v12, hxz9, h⟩ := qz9
      cases hxz9
      refine j_istore (lv' := [(7, .int v12), (6, .int v5), (0, .ref a0), (1, .ref a1), (2, .ref a2), (3, .ref a3), (4, .ref a4), (5, .int a5)]) hX eL_law_1295 (by decide) rfl ?_
      refine j_aload_n hX eL_law_1297 4 rfl ?_
      obtain ⟨t16, h⟩ := h
      refine j_callV (a := a2) (q := (RX7, TX7, 17)) (r' := rX7_thrown) (As := []) (rest := []) (d1 := d) hX eL_law_1298 mm_LiftGroupLaw_185 rfl t16 (by decide) rfl h rfl (Nat.le_refl _) (Nat.zero_le _) (Nat.zero_le _) (Nat.le_of_ble_eq_true rfl) (fun vz9 Mz9 qz9 => ?_) (fun Ez9 Mz9 qz9 => ?_)
      · obtain ⟨M14, eMz9⟩ : ∃ M14, M14 = Mz9 := ⟨_, rfl⟩; subst eMz9
        obtain ⟨v15, hxz9, h⟩ := qz9
        cases hxz9
        refine j_iload hX eL_law_1301 1 rfl ?_
        refine j_icmp_eq hX 1308 eL_law_1303 (by decide) (fun c17 => ?_) (fun c17 => ?_)
        · replace h := h.1 c17
          refine j_iload hX eL_law_1308 1 rfl ?_
          refine j_if_ne hX 1332 eL_law_1310 (by decide) (fun c18 => ?_) (fun c18 => ?_)
          · replace h := h.2 c18
            refine j_goto hX 3219 eL_law_1332 (by decide) ?_
            exact j_sub [2, 3, 4, 5, 6, 7] rfl (k3219 _ _ _ _ _ _ _ _ _ h)
          · replace h := h.1 c18
            refine j_aload_n hX eL_law_1313 5 rfl ?_
            refine j_iconst (v := (0 : Int32)) hX eL_law_1314 (by decide) ?_
            obtain ⟨t19, h⟩ := h
            obtain ⟨i20, h⟩ := h
            refine j_lald hX eL_law_1315 t19 i20 ?_
            refine j_iload hX eL_law_1316 0 rfl ?_
            refine j_if_eq hX 1325 eL_law_1318 (by decide) (fun c21 => ?_) (fun c21 => ?_)
            · replace h := h.1 c21
              refine j_lconst (v := (0 : Int64)) hX eL_law_1325 (by decide) ?_
              refine j_lcmp hX eL_law_1326 ?_
              refine j_if_eq hX 1332 eL_law_1327 (by decide) (fun c22 => ?_) (fun c22 => ?_)
              · replace h := h.1 c22
                refine j_goto hX 3219 eL_law_1332 (by decide) ?_
                exact j_sub [2, 3, 4, 5, 6, 7] rfl (k3219 _ _ _ _ _ _ _ _ _ h)
              · replace h := h.2 c22
                refine j_iconst (v := (0 : Int32)) hX eL_law_1330 (by decide) ?_
                exact h.elim
            · replace h := h.2 c21
              refine j_lconst (v := (1 : Int64)) hX eL_law_1321 (by decide) ?_
              refine j_goto hX 1326 eL_law_1322 (by decide) ?_
              refine j_lcmp hX eL_law_1326 ?_
              refine j_if_eq hX 1332 eL_law_1327 (by decide) (fun c23 => ?_) (fun c23 => ?_)
              · replace h := h.1 c23
                refine j_goto hX 3219 eL_law_1332 (by decide) ?_
                exact j_sub [2, 3, 4, 5, 6, 7] rfl (k3219 _ _ _ _ _ _ _ _ _ h)
              · replace h := h.2 c23
                refine j_iconst (v := (0 : Int32)) hX eL_law_1330 (by decide) ?_
                exact h.elim
        · replace h := h.2 c17
          refine j_iconst (v := (0 : Int32)) hX eL_law_1306 (by decide) ?_
          exact h.elim
      · obtain ⟨v15, hxz9, h⟩ := qz9
        cases hxz9
    · obtain ⟨v12, hxz9, h⟩ := qz9
      cases hxz9
  · obtain ⟨v5, hxz9, h⟩ := qz9
    cases hxz9
set_option maxHeartbeats 4000000 in
set_option maxRecDepth 20000 in
theorem vL_law_1335 {X : am_Cx} {G : am_Gx} {d : Nat} (hX : am_ok X rL_law G (d + 1)) (hret : ∀ {pc : Nat} {lv : List (Nat × Value)} {M : am_Hp} {bc bs : Nat}, decode rL_law.2.1 pc = .ok (.ireturn, 1) → am_J X pc lv [.int (1 : Int32)] M bc bs) {bc bs : Nat} (R3219 : Nat → Nat → Nat → Nat → Nat → Int32 → am_Hp → Nat → Nat → Prop) (k3219 : ∀ (x0 : Nat) (x1 : Nat) (x2 : Nat) (x3 : Nat) (x4 : Nat) (x5 : Int32) (M : am_Hp) (bc bs : Nat), R3219 x0 x1 x2 x3 x4 x5 M bc bs → am_J X 3219 [(0, .ref x0), (1, .ref x1), (2, .ref x2), (3, .ref x3), (4, .ref x4), (5, .int x5)] [] M bc bs) {a0 : Nat} {a1 : Nat} {a2 : Nat} {a3 : Nat} {a4 : Nat} {a5 : Int32} {M : am_Hp} (h : hp_T M (a0) = 42 ∧ (vp_in (a5 + (1 : Int32)) (hp_N M a0) ∧ (1 ≤ bc ∧ (6 ≤ bs ∧ (am_CT G d rL_stopCount [.ref a1, .int (hp_E M a0 ((a5 + (1 : Int32))).toNatClampNeg), .ref a3] M 1 6 (fun oz9 M3 => ∃ v4 : Int32, oz9 = .inl (some (.int v4)) ∧ (hp_T M3 (a0) = 42 ∧ (vp_in (a5 + (1 : Int32)) (hp_N M3 a0) ∧ (hp_T M3 (a2) = 8 ∧ (am_CT G d rX7_stopCount [.ref a2, .int (hp_E M3 a0 ((a5 + (1 : Int32))).toNatClampNeg)] M3 0 0 (fun oz9 M9 => ∃ v10 : Int32, oz9 = .inl (some (.int v10)) ∧ (hp_T M9 (a2) = 8 ∧ (am_CT G d rX7_thrown [.ref a2] M9 0 0 (fun oz9 M12 => ∃ v13 : Int32, oz9 = .inl (some (.int v13)) ∧ (((v13 = v4) → (((v4 = 0) → (hp_T M12 (a3) = 23 ∧ (vp_in (0 : Int32) (hp_N M12 a3) ∧ ((((lg_cmp (hp_L M12 a3 ((0 : Int32)).toNatClampNeg) ((v10).toInt64)) = 0) → (R3219 a0 a1 a2 a3 a4 a5 M12 (bc - 1) (bs - 6))) ∧ (¬ ((lg_cmp (hp_L M12 a3 ((0 : Int32)).toNatClampNeg) ((v10).toInt64)) = 0) → (False)))))) ∧ (¬ (v4 = 0) → (R3219 a0 a1 a2 a3 a4 a5 M12 (bc - 1) (bs - 6))))) ∧ (¬ (v13 = v4) → (False))))))))))))))))) : am_J X 1335 [(0, .ref a0), (1, .ref a1), (2, .ref a2), (3, .ref a3), (4, .ref a4), (5, .int a5)] [] M bc bs := by
  refine j_aload_n hX eL_law_1335 1 rfl ?_
  refine j_aload_n hX eL_law_1336 0 rfl ?_
  refine j_iload hX eL_law_1337 5 rfl ?_
  refine j_iconst (v := (1 : Int32)) hX eL_law_1339 (by decide) ?_
  refine j_iadd hX eL_law_1340 ?_
  obtain ⟨t1, h⟩ := h
  obtain ⟨i2, h⟩ := h
  refine j_ialdx hX eL_law_1341 t1 i2 ?_
  refine j_aload_n hX eL_law_1342 3 rfl ?_
  obtain ⟨b5, b6, h⟩ := h
  refine j_callSX (r' := rL_stopCount) (As := [.ref a1, .int (hp_E M a0 ((a5 + (1 : Int32))).toNatClampNeg), .ref a3]) (rest := []) (d1 := d) hX eL_law_1343 mm_LiftGroupLaw_242 (by decide) rfl h rfl (Nat.le_refl _) b5 b6 (Nat.le_of_ble_eq_true rfl) (fun vz9 Mz9 qz9 => ?_) (fun Ez9 Mz9 qz9 => ?_)
  · obtain ⟨M3, eMz9⟩ : ∃ M3, M3 = Mz9 := ⟨_, rfl⟩; subst eMz9
    obtain ⟨v4, hxz9, h⟩ := qz9
    cases hxz9
    refine j_istore (lv' := [(6, .int v4), (0, .ref a0), (1, .ref a1), (2, .ref a2), (3, .ref a3), (4, .ref a4), (5, .int a5)]) hX eL_law_1346 (by decide) rfl ?_
    refine j_aload_n hX eL_law_1348 3 rfl ?_
    refine j_aload_n hX eL_law_1349 1 rfl ?_
    refine j_iload hX eL_law_1350 6 rfl ?_
    refine j_iconst (v := (1 : Int32)) hX eL_law_1352 (by decide) ?_
    refine j_iadd hX eL_law_1353 ?_
    obtain ⟨t7, h⟩ := h
    obtain ⟨i8, h⟩ := h
    refine j_ialdx hX eL_law_1354 t7 i8 ?_
    obtain ⟨t11, h⟩ := h
    refine j_callV (a := a2) (q := (RX7, TX7, 17)) (r' := rX7_stopCount) (As := [.int (hp_E M3 a0 ((a5 + (1 : Int32))).toNatClampNeg)]) (rest := []) (d1 := d) hX eL_law_1355 mm_LiftGroupLaw_244 rfl t11 (by decide) rfl h rfl (Nat.le_refl _) (Nat.zero_le _) (Nat.zero_le _) (Nat.le_of_ble_eq_true rfl) (fun vz9 Mz9 qz9 => ?_) (fun Ez9 Mz9 qz9 => ?_)
    · obtain ⟨M9, eMz9⟩ : ∃ M9, M9 = Mz9 := ⟨_, rfl⟩; subst eMz9
      obtain ⟨v10, hxz9, h⟩ := qz9
      cases hxz9
      refine j_istore (lv' := [(7, .int v10), (6, .int v4), (0, .ref a0), (1, .ref a1), (2, .ref a2), (3, .ref a3), (4, .ref a4), (5, .int a5)]) hX eL_law_1358 (by decide) rfl ?_
      refine j_aload_n hX eL_law_1360 4 rfl ?_
      obtain ⟨t14, h⟩ := h
      refine j_callV (a := a2) (q := (RX7, TX7, 17)) (r' := rX7_thrown) (As := []) (rest := []) (d1 := d) hX eL_law_1361 mm_LiftGroupLaw_185 rfl t14 (by decide) rfl h rfl (Nat.le_refl _) (Nat.zero_le _) (Nat.zero_le _) (Nat.le_of_ble_eq_true rfl) (fun vz9 Mz9 qz9 => ?_) (fun Ez9 Mz9 qz9 => ?_)
      · obtain ⟨M12, eMz9⟩ : ∃ M12, M12 = Mz9 := ⟨_, rfl⟩; subst eMz9
        obtain ⟨v13, hxz9, h⟩ := qz9
        cases hxz9
        refine j_iload hX eL_law_1364 1 rfl ?_
        refine j_icmp_eq hX 1371 eL_law_1366 (by decide) (fun c15 => ?_) (fun c15 => ?_)
        · replace h := h.1 c15
          refine j_iload hX eL_law_1371 1 rfl ?_
          refine j_if_ne hX 1388 eL_law_1373 (by decide) (fun c16 => ?_) (fun c16 => ?_)
          · replace h := h.2 c16
            refine j_goto hX 3219 eL_law_1388 (by decide) ?_
            exact j_sub [2, 3, 4, 5, 6, 7] rfl (k3219 _ _ _ _ _ _ _ _ _ h)
          · replace h := h.1 c16
            refine j_aload_n hX eL_law_1376 5 rfl ?_
            refine j_iconst (v := (0 : Int32)) hX eL_law_1377 (by decide) ?_
            obtain ⟨t17, h⟩ := h
            obtain ⟨i18, h⟩ := h
            refine j_lald hX eL_law_1378 t17 i18 ?_
            refine j_iload hX eL_law_1379 0 rfl ?_
            refine j_i2l hX eL_law_1381 ?_
            refine j_lcmp hX eL_law_1382 ?_
            refine j_if_eq hX 1388 eL_law_1383 (by decide) (fun c19 => ?_) (fun c19 => ?_)
            · replace h := h.1 c19
              refine j_goto hX 3219 eL_law_1388 (by decide) ?_
              exact j_sub [2, 3, 4, 5, 6, 7] rfl (k3219 _ _ _ _ _ _ _ _ _ h)
            · replace h := h.2 c19
              refine j_iconst (v := (0 : Int32)) hX eL_law_1386 (by decide) ?_
              exact h.elim
        · replace h := h.2 c15
          refine j_iconst (v := (0 : Int32)) hX eL_law_1369 (by decide) ?_
          exact h.elim
      · obtain ⟨v13, hxz9, h⟩ := qz9
        cases hxz9
    · obtain ⟨v10, hxz9, h⟩ := qz9
      cases hxz9
  · obtain ⟨v4, hxz9, h⟩ := qz9
    cases hxz9
set_option maxHeartbeats 4000000 in
set_option maxRecDepth 20000 in
theorem vL_law_1391 {X : am_Cx} {G : am_Gx} {d : Nat} (hX : am_ok X rL_law G (d + 1)) (hret : ∀ {pc : Nat} {lv : List (Nat × Value)} {M : am_Hp} {bc bs : Nat}, decode rL_law.2.1 pc = .ok (.ireturn, 1) → am_J X pc lv [.int (1 : Int32)] M bc bs) {bc bs : Nat} (R3219 : Nat → Nat → Nat → Nat → Nat → Int32 → am_Hp → Nat → Nat → Prop) (k3219 : ∀ (x0 : Nat) (x1 : Nat) (x2 : Nat) (x3 : Nat) (x4 : Nat) (x5 : Int32) (M : am_Hp) (bc bs : Nat), R3219 x0 x1 x2 x3 x4 x5 M bc bs → am_J X 3219 [(0, .ref x0), (1, .ref x1), (2, .ref x2), (3, .ref x3), (4, .ref x4), (5, .int x5)] [] M bc bs) {a0 : Nat} {a1 : Nat} {a2 : Nat} {a3 : Nat} {a4 : Nat} {a5 : Int32} {M : am_Hp} (h : hp_T M (a0) = 42 ∧ (vp_in (a5 + (1 : Int32)) (hp_N M a0) ∧ (2 ≤ bc ∧ (12 ≤ bs ∧ (am_CT G d rL_nextStop [.ref a1, .int (hp_E M a0 ((a5 + (1 : Int32))).toNatClampNeg), .ref a3] M 2 12 (fun oz9 M3 => ∃ v4 : Int32, oz9 = .inl (some (.int v4)) ∧ (hp_T M3 (a0) = 42 ∧ (vp_in (a5 + (1 : Int32)) (hp_N M3 a0) ∧ (hp_T M3 (a2) = 8 ∧ (am_CT G d rX7_nextStop [.ref a2, .int (hp_E M3 a0 ((a5 + (1 : Int32))).toNatClampNeg)] M3 0 0 (fun oz9 M9 => ∃ v10 : Int32, oz9 = .inl (some (.int v10)) ∧ (hp_T M9 (a2) = 8 ∧ (am_CT G d rX7_thrown [.ref a2] M9 0 0 (fun oz9 M12 => ∃ v13 : Int32, oz9 = .inl (some (.int v13)) ∧ (((v13 = v4) → (((v4 = 0) → (hp_T M12 (a3) = 23 ∧ (vp_in (0 : Int32) (hp_N M12 a3) ∧ ((((lg_cmp (hp_L M12 a3 ((0 : Int32)).toNatClampNeg) ((v10).toInt64)) = 0) → (R3219 a0 a1 a2 a3 a4 a5 M12 (bc - 2) (bs - 12))) ∧ (¬ ((lg_cmp (hp_L M12 a3 ((0 : Int32)).toNatClampNeg) ((v10).toInt64)) = 0) → (False)))))) ∧ (¬ (v4 = 0) → (R3219 a0 a1 a2 a3 a4 a5 M12 (bc - 2) (bs - 12))))) ∧ (¬ (v13 = v4) → (False))))))))))))))))) : am_J X 1391 [(0, .ref a0), (1, .ref a1), (2, .ref a2), (3, .ref a3), (4, .ref a4), (5, .int a5)] [] M bc bs := by
  refine j_aload_n hX eL_law_1391 1 rfl ?_
  refine j_aload_n hX eL_law_1392 0 rfl ?_
  refine j_iload hX eL_law_1393 5 rfl ?_
  refine j_iconst (v := (1 : Int32)) hX eL_law_1395 (by decide) ?_
  refine j_iadd hX eL_law_1396 ?_
  obtain ⟨t1, h⟩ := h
  obtain ⟨i2, h⟩ := h
  refine j_ialdx hX eL_law_1397 t1 i2 ?_
  refine j_aload_n hX eL_law_1398 3 rfl ?_
  obtain ⟨b5, b6, h⟩ := h
  refine j_callSX (r' := rL_nextStop) (As := [.ref a1, .int (hp_E M a0 ((a5 + (1 : Int32))).toNatClampNeg), .ref a3]) (rest := []) (d1 := d) hX eL_law_1399 mm_LiftGroupLaw_245 (by decide) rfl h rfl (Nat.le_refl _) b5 b6 (Nat.le_of_ble_eq_true rfl) (fun vz9 Mz9 qz9 => ?_) (fun Ez9 Mz9 qz9 => ?_)
  · obtain ⟨M3, eMz9⟩ : ∃ M3, M3 = Mz9 := ⟨_, rfl⟩; subst eMz9
    obtain ⟨v4, hxz9, h⟩ := qz9
    cases hxz9
    refine j_istore (lv' := [(6, .int v4), (0, .ref a0), (1, .ref a1), (2, .ref a2), (3, .ref a3), (4, .ref a4), (5, .int a5)]) hX eL_law_1402 (by decide) rfl ?_
    refine j_aload_n hX eL_law_1404 3 rfl ?_
    refine j_aload_n hX eL_law_1405 1 rfl ?_
    refine j_iload hX eL_law_1406 6 rfl ?_
    refine j_iconst (v := (1 : Int32)) hX eL_law_1408 (by decide) ?_
    refine j_iadd hX eL_law_1409 ?_
    obtain ⟨t7, h⟩ := h
    obtain ⟨i8, h⟩ := h
    refine j_ialdx hX eL_law_1410 t7 i8 ?_
    obtain ⟨t11, h⟩ := h
    refine j_callV (a := a2) (q := (RX7, TX7, 17)) (r' := rX7_nextStop) (As := [.int (hp_E M3 a0 ((a5 + (1 : Int32))).toNatClampNeg)]) (rest := []) (d1 := d) hX eL_law_1411 mm_LiftGroupLaw_247 rfl t11 (by decide) rfl h rfl (Nat.le_refl _) (Nat.zero_le _) (Nat.zero_le _) (Nat.le_of_ble_eq_true rfl) (fun vz9 Mz9 qz9 => ?_) (fun Ez9 Mz9 qz9 => ?_)
    · obtain ⟨M9, eMz9⟩ : ∃ M9, M9 = Mz9 := ⟨_, rfl⟩; subst eMz9
      obtain ⟨v10, hxz9, h⟩ := qz9
      cases hxz9
      refine j_istore (lv' := [(7, .int v10), (6, .int v4), (0, .ref a0), (1, .ref a1), (2, .ref a2), (3, .ref a3), (4, .ref a4), (5, .int a5)]) hX eL_law_1414 (by decide) rfl ?_
      refine j_aload_n hX eL_law_1416 4 rfl ?_
      obtain ⟨t14, h⟩ := h
      refine j_callV (a := a2) (q := (RX7, TX7, 17)) (r' := rX7_thrown) (As := []) (rest := []) (d1 := d) hX eL_law_1417 mm_LiftGroupLaw_185 rfl t14 (by decide) rfl h rfl (Nat.le_refl _) (Nat.zero_le _) (Nat.zero_le _) (Nat.le_of_ble_eq_true rfl) (fun vz9 Mz9 qz9 => ?_) (fun Ez9 Mz9 qz9 => ?_)
      · obtain ⟨M12, eMz9⟩ : ∃ M12, M12 = Mz9 := ⟨_, rfl⟩; subst eMz9
        obtain ⟨v13, hxz9, h⟩ := qz9
        cases hxz9
        refine j_iload hX eL_law_1420 1 rfl ?_
        refine j_icmp_eq hX 1427 eL_law_1422 (by decide) (fun c15 => ?_) (fun c15 => ?_)
        · replace h := h.1 c15
          refine j_iload hX eL_law_1427 1 rfl ?_
          refine j_if_ne hX 1444 eL_law_1429 (by decide) (fun c16 => ?_) (fun c16 => ?_)
          · replace h := h.2 c16
            refine j_goto hX 3219 eL_law_1444 (by decide) ?_
            exact j_sub [2, 3, 4, 5, 6, 7] rfl (k3219 _ _ _ _ _ _ _ _ _ h)
          · replace h := h.1 c16
            refine j_aload_n hX eL_law_1432 5 rfl ?_
            refine j_iconst (v := (0 : Int32)) hX eL_law_1433 (by decide) ?_
            obtain ⟨t17, h⟩ := h
            obtain ⟨i18, h⟩ := h
            refine j_lald hX eL_law_1434 t17 i18 ?_
            refine j_iload hX eL_law_1435 0 rfl ?_
            refine j_i2l hX eL_law_1437 ?_
            refine j_lcmp hX eL_law_1438 ?_
            refine j_if_eq hX 1444 eL_law_1439 (by decide) (fun c19 => ?_) (fun c19 => ?_)
            · replace h := h.1 c19
              refine j_goto hX 3219 eL_law_1444 (by decide) ?_
              exact j_sub [2, 3, 4, 5, 6, 7] rfl (k3219 _ _ _ _ _ _ _ _ _ h)
            · replace h := h.2 c19
              refine j_iconst (v := (0 : Int32)) hX eL_law_1442 (by decide) ?_
              exact h.elim
        · replace h := h.2 c15
          refine j_iconst (v := (0 : Int32)) hX eL_law_1425 (by decide) ?_
          exact h.elim
      · obtain ⟨v13, hxz9, h⟩ := qz9
        cases hxz9
    · obtain ⟨v10, hxz9, h⟩ := qz9
      cases hxz9
  · obtain ⟨v4, hxz9, h⟩ := qz9
    cases hxz9
set_option maxHeartbeats 4000000 in
set_option maxRecDepth 20000 in
theorem vL_law_1447 {X : am_Cx} {G : am_Gx} {d : Nat} (hX : am_ok X rL_law G (d + 1)) (hret : ∀ {pc : Nat} {lv : List (Nat × Value)} {M : am_Hp} {bc bs : Nat}, decode rL_law.2.1 pc = .ok (.ireturn, 1) → am_J X pc lv [.int (1 : Int32)] M bc bs) {bc bs : Nat} (R3219 : Nat → Nat → Nat → Nat → Nat → Int32 → am_Hp → Nat → Nat → Prop) (k3219 : ∀ (x0 : Nat) (x1 : Nat) (x2 : Nat) (x3 : Nat) (x4 : Nat) (x5 : Int32) (M : am_Hp) (bc bs : Nat), R3219 x0 x1 x2 x3 x4 x5 M bc bs → am_J X 3219 [(0, .ref x0), (1, .ref x1), (2, .ref x2), (3, .ref x3), (4, .ref x4), (5, .int x5)] [] M bc bs) {a0 : Nat} {a1 : Nat} {a2 : Nat} {a3 : Nat} {a4 : Nat} {a5 : Int32} {M : am_Hp} (h : hp_T M (a1) = 7 ∧ (am_CT G d rX6_passengerCount [.ref a1] M 0 0 (fun oz9 M1 => ∃ v2 : Int32, oz9 = .inl (some (.int v2)) ∧ (hp_T M1 (a2) = 8 ∧ (am_CT G d rX7_passengerCount [.ref a2] M1 0 0 (fun oz9 M4 => ∃ v5 : Int32, oz9 = .inl (some (.int v5)) ∧ (((v2 = v5) → (R3219 a0 a1 a2 a3 a4 a5 M4 bc bs)) ∧ (¬ (v2 = v5) → (False))))))))) : am_J X 1447 [(0, .ref a0), (1, .ref a1), (2, .ref a2), (3, .ref a3), (4, .ref a4), (5, .int a5)] [] M bc bs := by
  refine j_aload_n hX eL_law_1447 1 rfl ?_
  obtain ⟨t3, h⟩ := h
  refine j_callV (a := a1) (q := (RX6, TX6, 9)) (r' := rX6_passengerCount) (As := []) (rest := []) (d1 := d) hX eL_law_1448 mm_LiftGroupLaw_248 rfl t3 (by decide) rfl h rfl (Nat.le_refl _) (Nat.zero_le _) (Nat.zero_le _) (Nat.le_of_ble_eq_true rfl) (fun vz9 Mz9 qz9 => ?_) (fun Ez9 Mz9 qz9 => ?_)
  · obtain ⟨M1, eMz9⟩ : ∃ M1, M1 = Mz9 := ⟨_, rfl⟩; subst eMz9
    obtain ⟨v2, hxz9, h⟩ := qz9
    cases hxz9
    refine j_aload_n hX eL_law_1451 2 rfl ?_
    obtain ⟨t6, h⟩ := h
    refine j_callV (a := a2) (q := (RX7, TX7, 17)) (r' := rX7_passengerCount) (As := []) (rest := [.int v2]) (d1 := d) hX eL_law_1452 mm_LiftGroupLaw_251 rfl t6 (by decide) rfl h rfl (Nat.le_refl _) (Nat.zero_le _) (Nat.zero_le _) (Nat.le_of_ble_eq_true rfl) (fun vz9 Mz9 qz9 => ?_) (fun Ez9 Mz9 qz9 => ?_)
    · obtain ⟨M4, eMz9⟩ : ∃ M4, M4 = Mz9 := ⟨_, rfl⟩; subst eMz9
      obtain ⟨v5, hxz9, h⟩ := qz9
      cases hxz9
      refine j_icmp_eq hX 3219 eL_law_1455 (by decide) (fun c7 => ?_) (fun c7 => ?_)
      · replace h := h.1 c7
        exact j_sub [0, 1, 2, 3, 4, 5] rfl (k3219 _ _ _ _ _ _ _ _ _ h)
      · replace h := h.2 c7
        refine j_iconst (v := (0 : Int32)) hX eL_law_1458 (by decide) ?_
        exact h.elim
    · obtain ⟨v5, hxz9, h⟩ := qz9
      cases hxz9
  · obtain ⟨v2, hxz9, h⟩ := qz9
    cases hxz9
set_option maxHeartbeats 4000000 in
set_option maxRecDepth 20000 in
theorem vL_law_1460 {X : am_Cx} {G : am_Gx} {d : Nat} (hX : am_ok X rL_law G (d + 1)) (hret : ∀ {pc : Nat} {lv : List (Nat × Value)} {M : am_Hp} {bc bs : Nat}, decode rL_law.2.1 pc = .ok (.ireturn, 1) → am_J X pc lv [.int (1 : Int32)] M bc bs) {bc bs : Nat} (R3219 : Nat → Nat → Nat → Nat → Nat → Int32 → am_Hp → Nat → Nat → Prop) (k3219 : ∀ (x0 : Nat) (x1 : Nat) (x2 : Nat) (x3 : Nat) (x4 : Nat) (x5 : Int32) (M : am_Hp) (bc bs : Nat), R3219 x0 x1 x2 x3 x4 x5 M bc bs → am_J X 3219 [(0, .ref x0), (1, .ref x1), (2, .ref x2), (3, .ref x3), (4, .ref x4), (5, .int x5)] [] M bc bs) {a0 : Nat} {a1 : Nat} {a2 : Nat} {a3 : Nat} {a4 : Nat} {a5 : Int32} {M : am_Hp} (h : hp_T M (a0) = 42 ∧ (vp_in (a5 + (1 : Int32)) (hp_N M a0) ∧ (1 ≤ bc ∧ (6 ≤ bs ∧ (am_CT G d rL_number [.ref a1, .int (hp_E M a0 ((a5 + (1 : Int32))).toNatClampNeg), .ref a3] M 1 6 (fun oz9 M3 => ∃ v4 : Int32, oz9 = .inl (some (.int v4)) ∧ (hp_T M3 (a0) = 42 ∧ (vp_in (a5 + (1 : Int32)) (hp_N M3 a0) ∧ (hp_T M3 (a2) = 8 ∧ (am_CT G d rX7_number [.ref a2, .int (hp_E M3 a0 ((a5 + (1 : Int32))).toNatClampNeg)] M3 0 0 (fun oz9 M9 => ∃ v10 : Int32, oz9 = .inl (some (.int v10)) ∧ (hp_T M9 (a2) = 8 ∧ (am_CT G d rX7_thrown [.ref a2] M9 0 0 (fun oz9 M12 => ∃ v13 : Int32, oz9 = .inl (some (.int v13)) ∧ (((v13 = v4) → (((v4 = 0) → (hp_T M12 (a3) = 23 ∧ (vp_in (0 : Int32) (hp_N M12 a3) ∧ ((((lg_cmp (hp_L M12 a3 ((0 : Int32)).toNatClampNeg) ((v10).toInt64)) = 0) → (R3219 a0 a1 a2 a3 a4 a5 M12 (bc - 1) (bs - 6))) ∧ (¬ ((lg_cmp (hp_L M12 a3 ((0 : Int32)).toNatClampNeg) ((v10).toInt64)) = 0) → (False)))))) ∧ (¬ (v4 = 0) → (R3219 a0 a1 a2 a3 a4 a5 M12 (bc - 1) (bs - 6))))) ∧ (¬ (v13 = v4) → (False))))))))))))))))) : am_J X 1460 [(0, .ref a0), (1, .ref a1), (2, .ref a2), (3, .ref a3), (4, .ref a4), (5, .int a5)] [] M bc bs := by
  refine j_aload_n hX eL_law_1460 1 rfl ?_
  refine j_aload_n hX eL_law_1461 0 rfl ?_
  refine j_iload hX eL_law_1462 5 rfl ?_
  refine j_iconst (v := (1 : Int32)) hX eL_law_1464 (by decide) ?_
  refine j_iadd hX eL_law_1465 ?_
  obtain ⟨t1, h⟩ := h
  obtain ⟨i2, h⟩ := h
  refine j_ialdx hX eL_law_1466 t1 i2 ?_
  refine j_aload_n hX eL_law_1467 3 rfl ?_
  obtain ⟨b5, b6, h⟩ := h
  refine j_callSX (r' := rL_number) (As := [.ref a1, .int (hp_E M a0 ((a5 + (1 : Int32))).toNatClampNeg), .ref a3]) (rest := []) (d1 := d) hX eL_law_1468 mm_LiftGroupLaw_252 (by decide) rfl h rfl (Nat.le_refl _) b5 b6 (Nat.le_of_ble_eq_true rfl) (fun vz9 Mz9 qz9 => ?_) (fun Ez9 Mz9 qz9 => ?_)
  · obtain ⟨M3, eMz9⟩ : ∃ M3, M3 = Mz9 := ⟨_, rfl⟩; subst eMz9
    obtain ⟨v4, hxz9, h⟩ := qz9
    cases hxz9
    refine j_istore (lv' := [(6, .int v4), (0, .ref a0), (1, .ref a1), (2, .ref a2), (3, .ref a3), (4, .ref a4), (5, .int a5)]) hX eL_law_1471 (by decide) rfl ?_
    refine j_aload_n hX eL_law_1473 3 rfl ?_
    refine j_aload_n hX eL_law_1474 1 rfl ?_
    refine j_iload hX eL_law_1475 6 rfl ?_
    refine j_iconst (v := (1 : Int32)) hX eL_law_1477 (by decide) ?_
    refine j_iadd hX eL_law_1478 ?_
    obtain ⟨t7, h⟩ := h
    obtain ⟨i8, h⟩ := h
    refine j_ialdx hX eL_law_1479 t7 i8 ?_
    obtain ⟨t11, h⟩ := h
    refine j_callV (a := a2) (q := (RX7, TX7, 17)) (r' := rX7_number) (As := [.int (hp_E M3 a0 ((a5 + (1 : Int32))).toNatClampNeg)]) (rest := []) (d1 := d) hX eL_law_1480 mm_LiftGroupLaw_254 rfl t11 (by decide) rfl h rfl (Nat.le_refl _) (Nat.zero_le _) (Nat.zero_le _) (Nat.le_of_ble_eq_true rfl) (fun vz9 Mz9 qz9 => ?_) (fun Ez9 Mz9 qz9 => ?_)
    · obtain ⟨M9, eMz9⟩ : ∃ M9, M9 = Mz9 := ⟨_, rfl⟩; subst eMz9
      obtain ⟨v10, hxz9, h⟩ := qz9
      cases hxz9
      refine j_istore (lv' := [(7, .int v10), (6, .int v4), (0, .ref a0), (1, .ref a1), (2, .ref a2), (3, .ref a3), (4, .ref a4), (5, .int a5)]) hX eL_law_1483 (by decide) rfl ?_
      refine j_aload_n hX eL_law_1485 4 rfl ?_
      obtain ⟨t14, h⟩ := h
      refine j_callV (a := a2) (q := (RX7, TX7, 17)) (r' := rX7_thrown) (As := []) (rest := []) (d1 := d) hX eL_law_1486 mm_LiftGroupLaw_185 rfl t14 (by decide) rfl h rfl (Nat.le_refl _) (Nat.zero_le _) (Nat.zero_le _) (Nat.le_of_ble_eq_true rfl) (fun vz9 Mz9 qz9 => ?_) (fun Ez9 Mz9 qz9 => ?_)
      · obtain ⟨M12, eMz9⟩ : ∃ M12, M12 = Mz9 := ⟨_, rfl⟩; subst eMz9
        obtain ⟨v13, hxz9, h⟩ := qz9
        cases hxz9
        refine j_iload hX eL_law_1489 1 rfl ?_
        refine j_icmp_eq hX 1496 eL_law_1491 (by decide) (fun c15 => ?_) (fun c15 => ?_)
        · replace h := h.1 c15
          refine j_iload hX eL_law_1496 1 rfl ?_
          refine j_if_ne hX 1513 eL_law_1498 (by decide) (fun c16 => ?_) (fun c16 => ?_)
          · replace h := h.2 c16
            refine j_goto hX 3219 eL_law_1513 (by decide) ?_
            exact j_sub [2, 3, 4, 5, 6, 7] rfl (k3219 _ _ _ _ _ _ _ _ _ h)
          · replace h := h.1 c16
            refine j_aload_n hX eL_law_1501 5 rfl ?_
            refine j_iconst (v := (0 : Int32)) hX eL_law_1502 (by decide) ?_
            obtain ⟨t17, h⟩ := h
            obtain ⟨i18, h⟩ := h
            refine j_lald hX eL_law_1503 t17 i18 ?_
            refine j_iload hX eL_law_1504 0 rfl ?_
            refine j_i2l hX eL_law_1506 ?_
            refine j_lcmp hX eL_law_1507 ?_
            refine j_if_eq hX 1513 eL_law_1508 (by decide) (fun c19 => ?_) (fun c19 => ?_)
            · replace h := h.1 c19
              refine j_goto hX 3219 eL_law_1513 (by decide) ?_
              exact j_sub [2, 3, 4, 5, 6, 7] rfl (k3219 _ _ _ _ _ _ _ _ _ h)
            · replace h := h.2 c19
              refine j_iconst (v := (0 : Int32)) hX eL_law_1511 (by decide) ?_
              exact h.elim
        · replace h := h.2 c15
          refine j_iconst (v := (0 : Int32)) hX eL_law_1494 (by decide) ?_
          exact h.elim
      · obtain ⟨v13, hxz9, h⟩ := qz9
        cases hxz9
    · obtain ⟨v10, hxz9, h⟩ := qz9
      cases hxz9
  · obtain ⟨v4, hxz9, h⟩ := qz9
    cases hxz9
set_option maxHeartbeats 4000000 in
set_option maxRecDepth 20000 in
theorem vL_law_1516 {X : am_Cx} {G : am_Gx} {d : Nat} (hX : am_ok X rL_law G (d + 1)) (hret : ∀ {pc : Nat} {lv : List (Nat × Value)} {M : am_Hp} {bc bs : Nat}, decode rL_law.2.1 pc = .ok (.ireturn, 1) → am_J X pc lv [.int (1 : Int32)] M bc bs) {bc bs : Nat} (R3219 : Nat → Nat → Nat → Nat → Nat → Int32 → am_Hp → Nat → Nat → Prop) (k3219 : ∀ (x0 : Nat) (x1 : Nat) (x2 : Nat) (x3 : Nat) (x4 : Nat) (x5 : Int32) (M : am_Hp) (bc bs : Nat), R3219 x0 x1 x2 x3 x4 x5 M bc bs → am_J X 3219 [(0, .ref x0), (1, .ref x1), (2, .ref x2), (3, .ref x3), (4, .ref x4), (5, .int x5)] [] M bc bs) {a0 : Nat} {a1 : Nat} {a2 : Nat} {a3 : Nat} {a4 : Nat} {a5 : Int32} {M : am_Hp} (h : hp_T M (a0) = 42 ∧ (vp_in (a5 + (1 : Int32)) (hp_N M a0) ∧ (1 ≤ bc ∧ (6 ≤ bs ∧ (am_CT G d rL_start [.ref a1, .int (hp_E M a0 ((a5 + (1 : Int32))).toNatClampNeg), .ref a3] M 1 6 (fun oz9 M3 => ∃ v4 : Int32, oz9 = .inl (some (.int v4)) ∧ (hp_T M3 (a0) = 42 ∧ (vp_in (a5 + (1 : Int32)) (hp_N M3 a0) ∧ (hp_T M3 (a2) = 8 ∧ (am_CT G d rX7_start [.ref a2, .int (hp_E M3 a0 ((a5 + (1 : Int32))).toNatClampNeg)] M3 0 0 (fun oz9 M9 => ∃ v10 : Int32, oz9 = .inl (some (.int v10)) ∧ (hp_T M9 (a2) = 8 ∧ (am_CT G d rX7_thrown [.ref a2] M9 0 0 (fun oz9 M12 => ∃ v13 : Int32, oz9 = .inl (some (.int v13)) ∧ (((v13 = v4) → (((v4 = 0) → (hp_T M12 (a3) = 23 ∧ (vp_in (0 : Int32) (hp_N M12 a3) ∧ ((((lg_cmp (hp_L M12 a3 ((0 : Int32)).toNatClampNeg) ((v10).toInt64)) = 0) → (R3219 a0 a1 a2 a3 a4 a5 M12 (bc - 1) (bs - 6))) ∧ (¬ ((lg_cmp (hp_L M12 a3 ((0 : Int32)).toNatClampNeg) ((v10).toInt64)) = 0) → (False)))))) ∧ (¬ (v4 = 0) → (R3219 a0 a1 a2 a3 a4 a5 M12 (bc - 1) (bs - 6))))) ∧ (¬ (v13 = v4) → (False))))))))))))))))) : am_J X 1516 [(0, .ref a0), (1, .ref a1), (2, .ref a2), (3, .ref a3), (4, .ref a4), (5, .int a5)] [] M bc bs := by
  refine j_aload_n hX eL_law_1516 1 rfl ?_
  refine j_aload_n hX eL_law_1517 0 rfl ?_
  refine j_iload hX eL_law_1518 5 rfl ?_
  refine j_iconst (v := (1 : Int32)) hX eL_law_1520 (by decide) ?_
  refine j_iadd hX eL_law_1521 ?_
  obtain ⟨t1, h⟩ := h
  obtain ⟨i2, h⟩ := h
  refine j_ialdx hX eL_law_1522 t1 i2 ?_
  refine j_aload_n hX eL_law_1523 3 rfl ?_
  obtain ⟨b5, b6, h⟩ := h
  refine j_callSX (r' := rL_start) (As := [.ref a1, .int (hp_E M a0 ((a5 + (1 : Int32))).toNatClampNeg), .ref a3]) (rest := []) (d1 := d) hX eL_law_1524 mm_LiftGroupLaw_255 (by decide) rfl h rfl (Nat.le_refl _) b5 b6 (Nat.le_of_ble_eq_true rfl) (fun vz9 Mz9 qz9 => ?_) (fun Ez9 Mz9 qz9 => ?_)
  · obtain ⟨M3, eMz9⟩ : ∃ M3, M3 = Mz9 := ⟨_, rfl⟩; subst eMz9
    obtain ⟨v4, hxz9, h⟩ := qz9
    cases hxz9
    refine j_istore (lv' := [(6, .int v4), (0, .ref a0), (1, .ref a1), (2, .ref a2), (3, .ref a3), (4, .ref a4), (5, .int a5)]) hX eL_law_1527 (by decide) rfl ?_
    refine j_aload_n hX eL_law_1529 3 rfl ?_
    refine j_aload_n hX eL_law_1530 1 rfl ?_
    refine j_iload hX eL_law_1531 6 rfl ?_
    refine j_iconst (v := (1 : Int32)) hX eL_law_1533 (by decide) ?_
    refine j_iadd hX eL_law_1534 ?_
    obtain ⟨t7, h⟩ := h
    obtain ⟨i8, h⟩ := h
    refine j_ialdx hX eL_law_1535 t7 i8 ?_
    obtain ⟨t11, h⟩ := h
    refine j_callV (a := a2) (q := (RX7, TX7, 17)) (r' := rX7_start) (As := [.int (hp_E M3 a0 ((a5 + (1 : Int32))).toNatClampNeg)]) (rest := []) (d1 := d) hX eL_law_1536 mm_LiftGroupLaw_257 rfl t11 (by decide) rfl h rfl (Nat.le_refl _) (Nat.zero_le _) (Nat.zero_le _) (Nat.le_of_ble_eq_true rfl) (fun vz9 Mz9 qz9 => ?_) (fun Ez9 Mz9 qz9 => ?_)
    · obtain ⟨M9, eMz9⟩ : ∃ M9, M9 = Mz9 := ⟨_, rfl⟩; subst eMz9
      obtain ⟨v10, hxz9, h⟩ := qz9
      cases hxz9
      refine j_istore (lv' := [(7, .int v10), (6, .int v4), (0, .ref a0), (1, .ref a1), (2, .ref a2), (3, .ref a3), (4, .ref a4), (5, .int a5)]) hX eL_law_1539 (by decide) rfl ?_
      refine j_aload_n hX eL_law_1541 4 rfl ?_
      obtain ⟨t14, h⟩ := h
      refine j_callV (a := a2) (q := (RX7, TX7, 17)) (r' := rX7_thrown) (As := []) (rest := []) (d1 := d) hX eL_law_1542 mm_LiftGroupLaw_185 rfl t14 (by decide) rfl h rfl (Nat.le_refl _) (Nat.zero_le _) (Nat.zero_le _) (Nat.le_of_ble_eq_true rfl) (fun vz9 Mz9 qz9 => ?_) (fun Ez9 Mz9 qz9 => ?_)
      · obtain ⟨M12, eMz9⟩ : ∃ M12, M12 = Mz9 := ⟨_, rfl⟩; subst eMz9
        obtain ⟨v13, hxz9, h⟩ := qz9
        cases hxz9
        refine j_iload hX eL_law_1545 1 rfl ?_
        refine j_icmp_eq hX 1552 eL_law_1547 (by decide) (fun c15 => ?_) (fun c15 => ?_)
        · replace h := h.1 c15
          refine j_iload hX eL_law_1552 1 rfl ?_
          refine j_if_ne hX 1569 eL_law_1554 (by decide) (fun c16 => ?_) (fun c16 => ?_)
          · replace h := h.2 c16
            refine j_goto hX 3219 eL_law_1569 (by decide) ?_
            exact j_sub [2, 3, 4, 5, 6, 7] rfl (k3219 _ _ _ _ _ _ _ _ _ h)
          · replace h := h.1 c16
            refine j_aload_n hX eL_law_1557 5 rfl ?_
            refine j_iconst (v := (0 : Int32)) hX eL_law_1558 (by decide) ?_
            obtain ⟨t17, h⟩ := h
            obtain ⟨i18, h⟩ := h
            refine j_lald hX eL_law_1559 t17 i18 ?_
            refine j_iload hX eL_law_1560 0 rfl ?_
            refine j_i2l hX eL_law_1562 ?_
            refine j_lcmp hX eL_law_1563 ?_
            refine j_if_eq hX 1569 eL_law_1564 (by decide) (fun c19 => ?_) (fun c19 => ?_)
            · replace h := h.1 c19
              refine j_goto hX 3219 eL_law_1569 (by decide) ?_
              exact j_sub [2, 3, 4, 5, 6, 7] rfl (k3219 _ _ _ _ _ _ _ _ _ h)
            · replace h := h.2 c19
              refine j_iconst (v := (0 : Int32)) hX eL_law_1567 (by decide) ?_
              exact h.elim
        · replace h := h.2 c15
          refine j_iconst (v := (0 : Int32)) hX eL_law_1550 (by decide) ?_
          exact h.elim
      · obtain ⟨v13, hxz9, h⟩ := qz9
        cases hxz9
    · obtain ⟨v10, hxz9, h⟩ := qz9
      cases hxz9
  · obtain ⟨v4, hxz9, h⟩ := qz9
    cases hxz9
set_option maxHeartbeats 4000000 in
set_option maxRecDepth 20000 in
theorem vL_law_1572 {X : am_Cx} {G : am_Gx} {d : Nat} (hX : am_ok X rL_law G (d + 1)) (hret : ∀ {pc : Nat} {lv : List (Nat × Value)} {M : am_Hp} {bc bs : Nat}, decode rL_law.2.1 pc = .ok (.ireturn, 1) → am_J X pc lv [.int (1 : Int32)] M bc bs) {bc bs : Nat} (R3219 : Nat → Nat → Nat → Nat → Nat → Int32 → am_Hp → Nat → Nat → Prop) (k3219 : ∀ (x0 : Nat) (x1 : Nat) (x2 : Nat) (x3 : Nat) (x4 : Nat) (x5 : Int32) (M : am_Hp) (bc bs : Nat), R3219 x0 x1 x2 x3 x4 x5 M bc bs → am_J X 3219 [(0, .ref x0), (1, .ref x1), (2, .ref x2), (3, .ref x3), (4, .ref x4), (5, .int x5)] [] M bc bs) {a0 : Nat} {a1 : Nat} {a2 : Nat} {a3 : Nat} {a4 : Nat} {a5 : Int32} {M : am_Hp} (h : hp_T M (a0) = 42 ∧ (vp_in (a5 + (1 : Int32)) (hp_N M a0) ∧ (1 ≤ bc ∧ (6 ≤ bs ∧ (am_CT G d rL_destination [.ref a1, .int (hp_E M a0 ((a5 + (1 : Int32))).toNatClampNeg), .ref a3] M 1 6 (fun oz9 M3 => ∃ v4 : Int32, oz9 = .inl (some (.int v4)) ∧ (hp_T M3 (a0) = 42 ∧ (vp_in (a5 + (1 : Int32)) (hp_N M3 a0) ∧ (hp_T M3 (a2) = 8 ∧ (am_CT G d rX7_destination [.ref a2, .int (hp_E M3 a0 ((a5 + (1 : Int32))).toNatClampNeg)] M3 0 0 (fun oz9 M9 => ∃ v10 : Int32, oz9 = .inl (some (.int v10)) ∧ (hp_T M9 (a2) = 8 ∧ (am_CT G d rX7_thrown [.ref a2] M9 0 0 (fun oz9 M12 => ∃ v13 : Int32, oz9 = .inl (some (.int v13)) ∧ (((v13 = v4) → (((v4 = 0) → (hp_T M12 (a3) = 23 ∧ (vp_in (0 : Int32) (hp_N M12 a3) ∧ ((((lg_cmp (hp_L M12 a3 ((0 : Int32)).toNatClampNeg) ((v10).toInt64)) = 0) → (R3219 a0 a1 a2 a3 a4 a5 M12 (bc - 1) (bs - 6))) ∧ (¬ ((lg_cmp (hp_L M12 a3 ((0 : Int32)).toNatClampNeg) ((v10).toInt64)) = 0) → (False)))))) ∧ (¬ (v4 = 0) → (R3219 a0 a1 a2 a3 a4 a5 M12 (bc - 1) (bs - 6))))) ∧ (¬ (v13 = v4) → (False))))))))))))))))) : am_J X 1572 [(0, .ref a0), (1, .ref a1), (2, .ref a2), (3, .ref a3), (4, .ref a4), (5, .int a5)] [] M bc bs := by
  refine j_aload_n hX eL_law_1572 1 rfl ?_
  refine j_aload_n hX eL_law_1573 0 rfl ?_
  refine j_iload hX eL_law_1574 5 rfl ?_
  refine j_iconst (v := (1 : Int32)) hX eL_law_1576 (by decide) ?_
  refine j_iadd hX eL_law_1577 ?_
  obtain ⟨t1, h⟩ := h
  obtain ⟨i2, h⟩ := h
  refine j_ialdx hX eL_law_1578 t1 i2 ?_
  refine j_aload_n hX eL_law_1579 3 rfl ?_
  obtain ⟨b5, b6, h⟩ := h
  refine j_callSX (r' := rL_destination) (As := [.ref a1, .int (hp_E M a0 ((a5 + (1 : Int32))).toNatClampNeg), .ref a3]) (rest := []) (d1 := d) hX eL_law_1580 mm_LiftGroupLaw_258 (by decide) rfl h rfl (Nat.le_refl _) b5 b6 (Nat.le_of_ble_eq_true rfl) (fun vz9 Mz9 qz9 => ?_) (fun Ez9 Mz9 qz9 => ?_)
  · obtain ⟨M3, eMz9⟩ : ∃ M3, M3 = Mz9 := ⟨_, rfl⟩; subst eMz9
    obtain ⟨v4, hxz9, h⟩ := qz9
    cases hxz9
    refine j_istore (lv' := [(6, .int v4), (0, .ref a0), (1, .ref a1), (2, .ref a2), (3, .ref a3), (4, .ref a4), (5, .int a5)]) hX eL_law_1583 (by decide) rfl ?_
    refine j_aload_n hX eL_law_1585 3 rfl ?_
    refine j_aload_n hX eL_law_1586 1 rfl ?_
    refine j_iload hX eL_law_1587 6 rfl ?_
    refine j_iconst (v := (1 : Int32)) hX eL_law_1589 (by decide) ?_
    refine j_iadd hX eL_law_1590 ?_
    obtain ⟨t7, h⟩ := h
    obtain ⟨i8, h⟩ := h
    refine j_ialdx hX eL_law_1591 t7 i8 ?_
    obtain ⟨t11, h⟩ := h
    refine j_callV (a := a2) (q := (RX7, TX7, 17)) (r' := rX7_destination) (As := [.int (hp_E M3 a0 ((a5 + (1 : Int32))).toNatClampNeg)]) (rest := []) (d1 := d) hX eL_law_1592 mm_LiftGroupLaw_260 rfl t11 (by decide) rfl h rfl (Nat.le_refl _) (Nat.zero_le _) (Nat.zero_le _) (Nat.le_of_ble_eq_true rfl) (fun vz9 Mz9 qz9 => ?_) (fun Ez9 Mz9 qz9 => ?_)
    · obtain ⟨M9, eMz9⟩ : ∃ M9, M9 = Mz9 := ⟨_, rfl⟩; subst eMz9
      obtain ⟨v10, hxz9, h⟩ := qz9
      cases hxz9
      refine j_istore (lv' := [(7, .int v10), (6, .int v4), (0, .ref a0), (1, .ref a1), (2, .ref a2), (3, .ref a3), (4, .ref a4), (5, .int a5)]) hX eL_law_1595 (by decide) rfl ?_
      refine j_aload_n hX eL_law_1597 4 rfl ?_
      obtain ⟨t14, h⟩ := h
      refine j_callV (a := a2) (q := (RX7, TX7, 17)) (r' := rX7_thrown) (As := []) (rest := []) (d1 := d) hX eL_law_1598 mm_LiftGroupLaw_185 rfl t14 (by decide) rfl h rfl (Nat.le_refl _) (Nat.zero_le _) (Nat.zero_le _) (Nat.le_of_ble_eq_true rfl) (fun vz9 Mz9 qz9 => ?_) (fun Ez9 Mz9 qz9 => ?_)
      · obtain ⟨M12, eMz9⟩ : ∃ M12, M12 = Mz9 := ⟨_, rfl⟩; subst eMz9
        obtain ⟨v13, hxz9, h⟩ := qz9
        cases hxz9
        refine j_iload hX eL_law_1601 1 rfl ?_
        refine j_icmp_eq hX 1608 eL_law_1603 (by decide) (fun c15 => ?_) (fun c15 => ?_)
        · replace h := h.1 c15
          refine j_iload hX eL_law_1608 1 rfl ?_
          refine j_if_ne hX 1625 eL_law_1610 (by decide) (fun c16 => ?_) (fun c16 => ?_)
          · replace h := h.2 c16
            refine j_goto hX 3219 eL_law_1625 (by decide) ?_
            exact j_sub [2, 3, 4, 5, 6, 7] rfl (k3219 _ _ _ _ _ _ _ _ _ h)
          · replace h := h.1 c16
            refine j_aload_n hX eL_law_1613 5 rfl ?_
            refine j_iconst (v := (0 : Int32)) hX eL_law_1614 (by decide) ?_
            obtain ⟨t17, h⟩ := h
            obtain ⟨i18, h⟩ := h
            refine j_lald hX eL_law_1615 t17 i18 ?_
            refine j_iload hX eL_law_1616 0 rfl ?_
            refine j_i2l hX eL_law_1618 ?_
            refine j_lcmp hX eL_law_1619 ?_
            refine j_if_eq hX 1625 eL_law_1620 (by decide) (fun c19 => ?_) (fun c19 => ?_)
            · replace h := h.1 c19
              refine j_goto hX 3219 eL_law_1625 (by decide) ?_
              exact j_sub [2, 3, 4, 5, 6, 7] rfl (k3219 _ _ _ _ _ _ _ _ _ h)
            · replace h := h.2 c19
              refine j_iconst (v := (0 : Int32)) hX eL_law_1623 (by decide) ?_
              exact h.elim
        · replace h := h.2 c15
          refine j_iconst (v := (0 : Int32)) hX eL_law_1606 (by decide) ?_
          exact h.elim
      · obtain ⟨v13, hxz9, h⟩ := qz9
        cases hxz9
    · obtain ⟨v10, hxz9, h⟩ := qz9
      cases hxz9
  · obtain ⟨v4, hxz9, h⟩ := qz9
    cases hxz9
set_option maxHeartbeats 4000000 in
set_option maxRecDepth 20000 in
theorem vL_law_1628 {X : am_Cx} {G : am_Gx} {d : Nat} (hX : am_ok X rL_law G (d + 1)) (hret : ∀ {pc : Nat} {lv : List (Nat × Value)} {M : am_Hp} {bc bs : Nat}, decode rL_law.2.1 pc = .ok (.ireturn, 1) → am_J X pc lv [.int (1 : Int32)] M bc bs) {bc bs : Nat} (R3219 : Nat → Nat → Nat → Nat → Nat → Int32 → am_Hp → Nat → Nat → Prop) (k3219 : ∀ (x0 : Nat) (x1 : Nat) (x2 : Nat) (x3 : Nat) (x4 : Nat) (x5 : Int32) (M : am_Hp) (bc bs : Nat), R3219 x0 x1 x2 x3 x4 x5 M bc bs → am_J X 3219 [(0, .ref x0), (1, .ref x1), (2, .ref x2), (3, .ref x3), (4, .ref x4), (5, .int x5)] [] M bc bs) {a0 : Nat} {a1 : Nat} {a2 : Nat} {a3 : Nat} {a4 : Nat} {a5 : Int32} {M : am_Hp} (h : hp_T M (a0) = 42 ∧ (vp_in (a5 + (1 : Int32)) (hp_N M a0) ∧ (1 ≤ bc ∧ (6 ≤ bs ∧ (am_CT G d rL_weight [.ref a1, .int (hp_E M a0 ((a5 + (1 : Int32))).toNatClampNeg), .ref a3] M 1 6 (fun oz9 M3 => ∃ v4 : Int32, oz9 = .inl (some (.int v4)) ∧ (hp_T M3 (a0) = 42 ∧ (vp_in (a5 + (1 : Int32)) (hp_N M3 a0) ∧ (hp_T M3 (a2) = 8 ∧ (am_CT G d rX7_weight [.ref a2, .int (hp_E M3 a0 ((a5 + (1 : Int32))).toNatClampNeg)] M3 0 0 (fun oz9 M9 => ∃ v10 : Int32, oz9 = .inl (some (.int v10)) ∧ (hp_T M9 (a2) = 8 ∧ (am_CT G d rX7_thrown [.ref a2] M9 0 0 (fun oz9 M12 => ∃ v13 : Int32, oz9 = .inl (some (.int v13)) ∧ (((v13 = v4) → (((v4 = 0) → (hp_T M12 (a3) = 23 ∧ (vp_in (0 : Int32) (hp_N M12 a3) ∧ ((((lg_cmp (hp_L M12 a3 ((0 : Int32)).toNatClampNeg) ((v10).toInt64)) = 0) → (R3219 a0 a1 a2 a3 a4 a5 M12 (bc - 1) (bs - 6))) ∧ (¬ ((lg_cmp (hp_L M12 a3 ((0 : Int32)).toNatClampNeg) ((v10).toInt64)) = 0) → (False)))))) ∧ (¬ (v4 = 0) → (R3219 a0 a1 a2 a3 a4 a5 M12 (bc - 1) (bs - 6))))) ∧ (¬ (v13 = v4) → (False))))))))))))))))) : am_J X 1628 [(0, .ref a0), (1, .ref a1), (2, .ref a2), (3, .ref a3), (4, .ref a4), (5, .int a5)] [] M bc bs := by
  refine j_aload_n hX eL_law_1628 1 rfl ?_
  refine j_aload_n hX eL_law_1629 0 rfl ?_
  refine j_iload hX eL_law_1630 5 rfl ?_
  refine j_iconst (v := (1 : Int32)) hX eL_law_1632 (by decide) ?_
  refine j_iadd hX eL_law_1633 ?_
  obtain ⟨t1, h⟩ := h
  obtain ⟨i2, h⟩ := h
  refine j_ialdx hX eL_law_1634 t1 i2 ?_
  refine j_aload_n hX eL_law_1635 3 rfl ?_
  obtain ⟨b5, b6, h⟩ := h
  refine j_callSX (r' := rL_weight) (As := [.ref a1, .int (hp_E M a0 ((a5 + (1 : Int32))).toNatClampNeg), .ref a3]) (rest := []) (d1 := d) hX eL_law_1636 mm_LiftGroupLaw_261 (by decide) rfl h rfl (Nat.le_refl _) b5 b6 (Nat.le_of_ble_eq_true rfl) (fun vz9 Mz9 qz9 => ?_) (fun Ez9 Mz9 qz9 => ?_)
  · obtain ⟨M3, eMz9⟩ : ∃ M3, M3 = Mz9 := ⟨_, rfl⟩; subst eMz9
    obtain ⟨v4, hxz9, h⟩ := qz9
    cases hxz9
    refine j_istore (lv' := [(6, .int v4), (0, .ref a0), (1, .ref a1), (2, .ref a2), (3, .ref a3), (4, .ref a4), (5, .int a5)]) hX eL_law_1639 (by decide) rfl ?_
    refine j_aload_n hX eL_law_1641 3 rfl ?_
    refine j_aload_n hX eL_law_1642 1 rfl ?_
    refine j_iload hX eL_law_1643 6 rfl ?_
    refine j_iconst (v := (1 : Int32)) hX eL_law_1645 (by decide) ?_
    refine j_iadd hX eL_law_1646 ?_
    obtain ⟨t7, h⟩ := h
    obtain ⟨i8, h⟩ := h
    refine j_ialdx hX eL_law_1647 t7 i8 ?_
    obtain ⟨t11, h⟩ := h
    refine j_callV (a := a2) (q := (RX7, TX7, 17)) (r' := rX7_weight) (As := [.int (hp_E M3 a0 ((a5 + (1 : Int32))).toNatClampNeg)]) (rest := []) (d1 := d) hX eL_law_1648 mm_LiftGroupLaw_263 rfl t11 (by decide) rfl h rfl (Nat.le_refl _) (Nat.zero_le _) (Nat.zero_le _) (Nat.le_of_ble_eq_true rfl) (fun vz9 Mz9 qz9 => ?_) (fun Ez9 Mz9 qz9 => ?_)
    · obtain ⟨M9, eMz9⟩ : ∃ M9, M9 = Mz9 := ⟨_, rfl⟩; subst eMz9
      obtain ⟨v10, hxz9, h⟩ := qz9
      cases hxz9
      refine j_istore (lv' := [(7, .int v10), (6, .int v4), (0, .ref a0), (1, .ref a1), (2, .ref a2), (3, .ref a3), (4, .ref a4), (5, .int a5)]) hX eL_law_1651 (by decide) rfl ?_
      refine j_aload_n hX eL_law_1653 4 rfl ?_
      obtain ⟨t14, h⟩ := h
      refine j_callV (a := a2) (q := (RX7, TX7, 17)) (r' := rX7_thrown) (As := []) (rest := []) (d1 := d) hX eL_law_1654 mm_LiftGroupLaw_185 rfl t14 (by decide) rfl h rfl (Nat.le_refl _) (Nat.zero_le _) (Nat.zero_le _) (Nat.le_of_ble_eq_true rfl) (fun vz9 Mz9 qz9 => ?_) (fun Ez9 Mz9 qz9 => ?_)
      · obtain ⟨M12, eMz9⟩ : ∃ M12, M12 = Mz9 := ⟨_, rfl⟩; subst eMz9
        obtain ⟨v13, hxz9, h⟩ := qz9
        cases hxz9
        refine j_iload hX eL_law_1657 1 rfl ?_
        refine j_icmp_eq hX 1664 eL_law_1659 (by decide) (fun c15 => ?_) (fun c15 => ?_)
        · replace h := h.1 c15
          refine j_iload hX eL_law_1664 1 rfl ?_
          refine j_if_ne hX 1681 eL_law_1666 (by decide) (fun c16 => ?_) (fun c16 => ?_)
          · replace h := h.2 c16
            refine j_goto hX 3219 eL_law_1681 (by decide) ?_
            exact j_sub [2, 3, 4, 5, 6, 7] rfl (k3219 _ _ _ _ _ _ _ _ _ h)
          · replace h := h.1 c16
            refine j_aload_n hX eL_law_1669 5 rfl ?_
            refine j_iconst (v := (0 : Int32)) hX eL_law_1670 (by decide) ?_
            obtain ⟨t17, h⟩ := h
            obtain ⟨i18, h⟩ := h
            refine j_lald hX eL_law_1671 t17 i18 ?_
            refine j_iload hX eL_law_1672 0 rfl ?_
            refine j_i2l hX eL_law_1674 ?_
            refine j_lcmp hX eL_law_1675 ?_
            refine j_if_eq hX 1681 eL_law_1676 (by decide) (fun c19 => ?_) (fun c19 => ?_)
            · replace h := h.1 c19
              refine j_goto hX 3219 eL_law_1681 (by decide) ?_
              exact j_sub [2, 3, 4, 5, 6, 7] rfl (k3219 _ _ _ _ _ _ _ _ _ h)
            · replace h := h.2 c19
              refine j_iconst (v := (0 : Int32)) hX eL_law_1679 (by decide) ?_
              exact h.elim
        · replace h := h.2 c15
          refine j_iconst (v := (0 : Int32)) hX eL_law_1662 (by decide) ?_
          exact h.elim
      · obtain ⟨v13, hxz9, h⟩ := qz9
        cases hxz9
    · obtain ⟨v10, hxz9, h⟩ := qz9
      cases hxz9
  · obtain ⟨v4, hxz9, h⟩ := qz9
    cases hxz9
set_option maxHeartbeats 4000000 in
set_option maxRecDepth 20000 in
theorem vL_law_1684 {X : am_Cx} {G : am_Gx} {d : Nat} (hX : am_ok X rL_law G (d + 1)) (hret : ∀ {pc : Nat} {lv : List (Nat × Value)} {M : am_Hp} {bc bs : Nat}, decode rL_law.2.1 pc = .ok (.ireturn, 1) → am_J X pc lv [.int (1 : Int32)] M bc bs) {bc bs : Nat} (R3219 : Nat → Nat → Nat → Nat → Nat → Int32 → am_Hp → Nat → Nat → Prop) (k3219 : ∀ (x0 : Nat) (x1 : Nat) (x2 : Nat) (x3 : Nat) (x4 : Nat) (x5 : Int32) (M : am_Hp) (bc bs : Nat), R3219 x0 x1 x2 x3 x4 x5 M bc bs → am_J X 3219 [(0, .ref x0), (1, .ref x1), (2, .ref x2), (3, .ref x3), (4, .ref x4), (5, .int x5)] [] M bc bs) {a0 : Nat} {a1 : Nat} {a2 : Nat} {a3 : Nat} {a4 : Nat} {a5 : Int32} {M : am_Hp} (h : hp_T M (a0) = 42 ∧ (vp_in (a5 + (1 : Int32)) (hp_N M a0) ∧ (1 ≤ bc ∧ (6 ≤ bs ∧ (am_CT G d rL_waitingTime [.ref a1, .int (hp_E M a0 ((a5 + (1 : Int32))).toNatClampNeg), .ref a3] M 1 6 (fun oz9 M3 => ∃ v4 : Int32, oz9 = .inl (some (.int v4)) ∧ (hp_T M3 (a0) = 42 ∧ (vp_in (a5 + (1 : Int32)) (hp_N M3 a0) ∧ (hp_T M3 (a2) = 8 ∧ (am_CT G d rX7_waitingTime [.ref a2, .int (hp_E M3 a0 ((a5 + (1 : Int32))).toNatClampNeg)] M3 0 0 (fun oz9 M9 => ∃ v10 : Int32, oz9 = .inl (some (.int v10)) ∧ (hp_T M9 (a2) = 8 ∧ (am_CT G d rX7_thrown [.ref a2] M9 0 0 (fun oz9 M12 => ∃ v13 : Int32, oz9 = .inl (some (.int v13)) ∧ (((v13 = v4) → (((v4 = 0) → (hp_T M12 (a3) = 23 ∧ (vp_in (0 : Int32) (hp_N M12 a3) ∧ ((((lg_cmp (hp_L M12 a3 ((0 : Int32)).toNatClampNeg) ((v10).toInt64)) = 0) → (R3219 a0 a1 a2 a3 a4 a5 M12 (bc - 1) (bs - 6))) ∧ (¬ ((lg_cmp (hp_L M12 a3 ((0 : Int32)).toNatClampNeg) ((v10).toInt64)) = 0) → (False)))))) ∧ (¬ (v4 = 0) → (R3219 a0 a1 a2 a3 a4 a5 M12 (bc - 1) (bs - 6))))) ∧ (¬ (v13 = v4) → (False))))))))))))))))) : am_J X 1684 [(0, .ref a0), (1, .ref a1), (2, .ref a2), (3, .ref a3), (4, .ref a4), (5, .int a5)] [] M bc bs := by
  refine j_aload_n hX eL_law_1684 1 rfl ?_
  refine j_aload_n hX eL_law_1685 0 rfl ?_
  refine j_iload hX eL_law_1686 5 rfl ?_
  refine j_iconst (v := (1 : Int32)) hX eL_law_1688 (by decide) ?_
  refine j_iadd hX eL_law_1689 ?_
  obtain ⟨t1, h⟩ := h
  obtain ⟨i2, h⟩ := h
  refine j_ialdx hX eL_law_1690 t1 i2 ?_
  refine j_aload_n hX eL_law_1691 3 rfl ?_
  obtain ⟨b5, b6, h⟩ := h
  refine j_callSX (r' := rL_waitingTime) (As := [.ref a1, .int (hp_E M a0 ((a5 + (1 : Int32))).toNatClampNeg), .ref a3]) (rest := []) (d1 := d) hX eL_law_1692 mm_LiftGroupLaw_264 (by decide) rfl h rfl (Nat.le_refl _) b5 b6 (Nat.le_of_ble_eq_true rfl) (fun vz9 Mz9 qz9 => ?_) (fun Ez9 Mz9 qz9 => ?_)
  · obtain ⟨M3, eMz9⟩ : ∃ M3, M3 = Mz9 := ⟨_, rfl⟩; subst eMz9
    obtain ⟨v4, hxz9, h⟩ := qz9
    cases hxz9
    refine j_istore (lv' := [(6, .int v4), (0, .ref a0), (1, .ref a1), (2, .ref a2), (3, .ref a3), (4, .ref a4), (5, .int a5)]) hX eL_law_1695 (by decide) rfl ?_
    refine j_aload_n hX eL_law_1697 3 rfl ?_
    refine j_aload_n hX eL_law_1698 1 rfl ?_
    refine j_iload hX eL_law_1699 6 rfl ?_
    refine j_iconst (v := (1 : Int32)) hX eL_law_1701 (by decide) ?_
    refine j_iadd hX eL_law_1702 ?_
    obtain ⟨t7, h⟩ := h
    obtain ⟨i8, h⟩ := h
    refine j_ialdx hX eL_law_1703 t7 i8 ?_
    obtain ⟨t11, h⟩ := h
    refine j_callV (a := a2) (q := (RX7, TX7, 17)) (r' := rX7_waitingTime) (As := [.int (hp_E M3 a0 ((a5 + (1 : Int32))).toNatClampNeg)]) (rest := []) (d1 := d) hX eL_law_1704 mm_LiftGroupLaw_266 rfl t11 (by decide) rfl h rfl (Nat.le_refl _) (Nat.zero_le _) (Nat.zero_le _) (Nat.le_of_ble_eq_true rfl) (fun vz9 Mz9 qz9 => ?_) (fun Ez9 Mz9 qz9 => ?_)
    · obtain ⟨M9, eMz9⟩ : ∃ M9, M9 = Mz9 := ⟨_, rfl⟩; subst eMz9
      obtain ⟨v10, hxz9, h⟩ := qz9
      cases hxz9
      refine j_istore (lv' := [(7, .int v10), (6, .int v4), (0, .ref a0), (1, .ref a1), (2, .ref a2), (3, .ref a3), (4, .ref a4), (5, .int a5)]) hX eL_law_1707 (by decide) rfl ?_
      refine j_aload_n hX eL_law_1709 4 rfl ?_
      obtain ⟨t14, h⟩ := h
      refine j_callV (a := a2) (q := (RX7, TX7, 17)) (r' := rX7_thrown) (As := []) (rest := []) (d1 := d) hX eL_law_1710 mm_LiftGroupLaw_185 rfl t14 (by decide) rfl h rfl (Nat.le_refl _) (Nat.zero_le _) (Nat.zero_le _) (Nat.le_of_ble_eq_true rfl) (fun vz9 Mz9 qz9 => ?_) (fun Ez9 Mz9 qz9 => ?_)
      · obtain ⟨M12, eMz9⟩ : ∃ M12, M12 = Mz9 := ⟨_, rfl⟩; subst eMz9
        obtain ⟨v13, hxz9, h⟩ := qz9
        cases hxz9
        refine j_iload hX eL_law_1713 1 rfl ?_
        refine j_icmp_eq hX 1720 eL_law_1715 (by decide) (fun c15 => ?_) (fun c15 => ?_)
        · replace h := h.1 c15
          refine j_iload hX eL_law_1720 1 rfl ?_
          refine j_if_ne hX 1737 eL_law_1722 (by decide) (fun c16 => ?_) (fun c16 => ?_)
          · replace h := h.2 c16
            refine j_goto hX 3219 eL_law_1737 (by decide) ?_
            exact j_sub [2, 3, 4, 5, 6, 7] rfl (k3219 _ _ _ _ _ _ _ _ _ h)
          · replace h := h.1 c16
            refine j_aload_n hX eL_law_1725 5 rfl ?_
            refine j_iconst (v := (0 : Int32)) hX eL_law_1726 (by decide) ?_
            obtain ⟨t17, h⟩ := h
            obtain ⟨i18, h⟩ := h
            refine j_lald hX eL_law_1727 t17 i18 ?_
            refine j_iload hX eL_law_1728 0 rfl ?_
            refine j_i2l hX eL_law_1730 ?_
            refine j_lcmp hX eL_law_1731 ?_
            refine j_if_eq hX 1737 eL_law_1732 (by decide) (fun c19 => ?_) (fun c19 => ?_)
            · replace h := h.1 c19
              refine j_goto hX 3219 eL_law_1737 (by decide) ?_
              exact j_sub [2, 3, 4, 5, 6, 7] rfl (k3219 _ _ _ _ _ _ _ _ _ h)
            · replace h := h.2 c19
              refine j_iconst (v := (0 : Int32)) hX eL_law_1735 (by decide) ?_
              exact h.elim
        · replace h := h.2 c15
          refine j_iconst (v := (0 : Int32)) hX eL_law_1718 (by decide) ?_
          exact h.elim
      · obtain ⟨v13, hxz9, h⟩ := qz9
        cases hxz9
    · obtain ⟨v10, hxz9, h⟩ := qz9
      cases hxz9
  · obtain ⟨v4, hxz9, h⟩ := qz9
    cases hxz9
set_option maxHeartbeats 4000000 in
set_option maxRecDepth 20000 in
theorem vL_law_1740 {X : am_Cx} {G : am_Gx} {d : Nat} (hX : am_ok X rL_law G (d + 1)) (hret : ∀ {pc : Nat} {lv : List (Nat × Value)} {M : am_Hp} {bc bs : Nat}, decode rL_law.2.1 pc = .ok (.ireturn, 1) → am_J X pc lv [.int (1 : Int32)] M bc bs) {bc bs : Nat} (R3219 : Nat → Nat → Nat → Nat → Nat → Int32 → am_Hp → Nat → Nat → Prop) (k3219 : ∀ (x0 : Nat) (x1 : Nat) (x2 : Nat) (x3 : Nat) (x4 : Nat) (x5 : Int32) (M : am_Hp) (bc bs : Nat), R3219 x0 x1 x2 x3 x4 x5 M bc bs → am_J X 3219 [(0, .ref x0), (1, .ref x1), (2, .ref x2), (3, .ref x3), (4, .ref x4), (5, .int x5)] [] M bc bs) {a0 : Nat} {a1 : Nat} {a2 : Nat} {a3 : Nat} {a4 : Nat} {a5 : Int32} {M : am_Hp} (h : hp_T M (a0) = 42 ∧ (vp_in (a5 + (1 : Int32)) (hp_N M a0) ∧ (1 ≤ bc ∧ (6 ≤ bs ∧ (am_CT G d rL_isInCar [.ref a1, .int (hp_E M a0 ((a5 + (1 : Int32))).toNatClampNeg), .ref a3] M 1 6 (fun oz9 M3 => ∃ v4 : Int32, oz9 = .inl (some (.int v4)) ∧ (hp_T M3 (a0) = 42 ∧ (vp_in (a5 + (1 : Int32)) (hp_N M3 a0) ∧ (hp_T M3 (a2) = 8 ∧ (am_CT G d rX7_isInCar [.ref a2, .int (hp_E M3 a0 ((a5 + (1 : Int32))).toNatClampNeg)] M3 0 0 (fun oz9 M9 => ∃ v10 : Int32, oz9 = .inl (some (.int v10)) ∧ (hp_T M9 (a2) = 8 ∧ (am_CT G d rX7_thrown [.ref a2] M9 0 0 (fun oz9 M12 => ∃ v13 : Int32, oz9 = .inl (some (.int v13)) ∧ (((v13 = v4) → (((v4 = 0) → (hp_T M12 (a3) = 23 ∧ (vp_in (0 : Int32) (hp_N M12 a3) ∧ (((v10 = 0) → ((((lg_cmp (hp_L M12 a3 ((0 : Int32)).toNatClampNeg) (0 : Int64)) = 0) → (R3219 a0 a1 a2 a3 a4 a5 M12 (bc - 1) (bs - 6))) ∧ (¬ ((lg_cmp (hp_L M12 a3 ((0 : Int32)).toNatClampNeg) (0 : Int64)) = 0) → (False)))) ∧ (¬ (v10 = 0) → ((((lg_cmp (hp_L M12 a3 ((0 : Int32)).toNatClampNeg) (1 : Int64)) = 0) → (R3219 a0 a1 a2 a3 a4 a5 M12 (bc - 1) (bs - 6))) ∧ (¬ ((lg_cmp (hp_L M12 a3 ((0 : Int32)).toNatClampNeg) (1 : Int64)) = 0) → (False)))))))) ∧ (¬ (v4 = 0) → (R3219 a0 a1 a2 a3 a4 a5 M12 (bc - 1) (bs - 6))))) ∧ (¬ (v13 = v4) → (False))))))))))))))))) : am_J X 1740 [(0, .ref a0), (1, .ref a1), (2, .ref a2), (3, .ref a3), (4, .ref a4), (5, .int a5)] [] M bc bs := by
  refine j_aload_n hX eL_law_1740 1 rfl ?_
  refine j_aload_n hX eL_law_1741 0 rfl ?_
  refine j_iload hX eL_law_1742 5 rfl ?_
  refine j_iconst (v := (1 : Int32)) hX eL_law_1744 (by decide) ?_
  refine j_iadd hX eL_law_1745 ?_
  obtain ⟨t1, h⟩ := h
  obtain ⟨i2, h⟩ := h
  refine j_ialdx hX eL_law_1746 t1 i2 ?_
  refine j_aload_n hX eL_law_1747 3 rfl ?_
  obtain ⟨b5, b6, h⟩ := h
  refine j_callSX (r' := rL_isInCar) (As := [.ref a1, .int (hp_E M a0 ((a5 + (1 : Int32))).toNatClampNeg), .ref a3]) (rest := []) (d1 := d) hX eL_law_1748 mm_LiftGroupLaw_267 (by decide) rfl h rfl (Nat.le_refl _) b5 b6 (Nat.le_of_ble_eq_true rfl) (fun vz9 Mz9 qz9 => ?_) (fun Ez9 Mz9 qz9 => ?_)
  · obtain ⟨M3, eMz9⟩ : ∃ M3, M3 = Mz9 := ⟨_, rfl⟩; subst eMz9
    obtain ⟨v4, hxz9, h⟩ := qz9
    cases hxz9
    refine j_istore (lv' := [(6, .int v4), (0, .ref a0), (1, .ref a1), (2, .ref a2), (3, .ref a3), (4, .ref a4), (5, .int a5)]) hX eL_law_1751 (by decide) rfl ?_
    refine j_aload_n hX eL_law_1753 3 rfl ?_
    refine j_aload_n hX eL_law_1754 1 rfl ?_
    refine j_iload hX eL_law_1755 6 rfl ?_
    refine j_iconst (v := (1 : Int32)) hX eL_law_1757 (by decide) ?_
    refine j_iadd hX eL_law_1758 ?_
    obtain ⟨t7, h⟩ := h
    obtain ⟨i8, h⟩ := h
    refine j_ialdx hX eL_law_1759 t7 i8 ?_
    obtain ⟨t11, h⟩ := h
    refine j_callV (a := a2) (q := (RX7, TX7, 17)) (r' := rX7_isInCar) (As := [.int (hp_E M3 a0 ((a5 + (1 : Int32))).toNatClampNeg)]) (rest := []) (d1 := d) hX eL_law_1760 mm_LiftGroupLaw_269 rfl t11 (by decide) rfl h rfl (Nat.le_refl _) (Nat.zero_le _) (Nat.zero_le _) (Nat.le_of_ble_eq_true rfl) (fun vz9 Mz9 qz9 => ?_) (fun Ez9 Mz9 qz9 => ?_)
    · obtain ⟨M9, eMz9⟩ : ∃ M9, M9 = Mz9 := ⟨_, rfl⟩; subst eMz9
      obtain ⟨v10, hxz9, h⟩ := qz9
      cases hxz9
      refine j_istore (lv' := [(7, .int v10), (6, .int v4), (0, .ref a0), (1, .ref a1), (2, .ref a2), (3, .ref a3), (4, .ref a4), (5, .int a5)]) hX eL_law_1763 (by decide) rfl ?_
      refine j_aload_n hX eL_law_1765 4 rfl ?_
      obtain ⟨t14, h⟩ := h
      refine j_callV (a := a2) (q := (RX7, TX7, 17)) (r' := rX7_thrown) (As := []) (rest := []) (d1 := d) hX eL_law_1766 mm_LiftGroupLaw_185 rfl t14 (by decide) rfl h rfl (Nat.le_refl _) (Nat.zero_le _) (Nat.zero_le _) (Nat.le_of_ble_eq_true rfl) (fun vz9 Mz9 qz9 => ?_) (fun Ez9 Mz9 qz9 => ?_)
      · obtain ⟨M12, eMz9⟩ : ∃ M12, M12 = Mz9 := ⟨_, rfl⟩; subst eMz9
        obtain ⟨v13, hxz9, h⟩ := qz9
        cases hxz9
        refine j_iload hX eL_law_1769 1 rfl ?_
        refine j_icmp_eq hX 1776 eL_law_1771 (by decide) (fun c15 => ?_) (fun c15 => ?_)
        · replace h := h.1 c15
          refine j_iload hX eL_law_1776 1 rfl ?_
          refine j_if_ne hX 1800 eL_law_1778 (by decide) (fun c16 => ?_) (fun c16 => ?_)
          · replace h := h.2 c16
            refine j_goto hX 3219 eL_law_1800 (by decide) ?_
            exact j_sub [2, 3, 4, 5, 6, 7] rfl (k3219 _ _ _ _ _ _ _ _ _ h)
          · replace h := h.1 c16
            refine j_aload_n hX eL_law_1781 5 rfl ?_
            refine j_iconst (v := (0 : Int32)) hX eL_law_1782 (by decide) ?_
            obtain ⟨t17, h⟩ := h
            obtain ⟨i18, h⟩ := h
            refine j_lald hX eL_law_1783 t17 i18 ?_
            refine j_iload hX eL_law_1784 0 rfl ?_
            refine j_if_eq hX 1793 eL_law_1786 (by decide) (fun c19 => ?_) (fun c19 => ?_)
            · replace h := h.1 c19
              refine j_lconst (v := (0 : Int64)) hX eL_law_1793 (by decide) ?_
              refine j_lcmp hX eL_law_1794 ?_
              refine j_if_eq hX 1800 eL_law_1795 (by decide) (fun c20 => ?_) (fun c20 => ?_)
              · replace h := h.1 c20
                refine j_goto hX 3219 eL_law_1800 (by decide) ?_
                exact j_sub [2, 3, 4, 5, 6, 7] rfl (k3219 _ _ _ _ _ _ _ _ _ h)
              · replace h := h.2 c20
                refine j_iconst (v := (0 : Int32)) hX eL_law_1798 (by decide) ?_
                exact h.elim
            · replace h := h.2 c19
              refine j_lconst (v := (1 : Int64)) hX eL_law_1789 (by decide) ?_
              refine j_goto hX 1794 eL_law_1790 (by decide) ?_
              refine j_lcmp hX eL_law_1794 ?_
              refine j_if_eq hX 1800 eL_law_1795 (by decide) (fun c21 => ?_) (fun c21 => ?_)
              · replace h := h.1 c21
                refine j_goto hX 3219 eL_law_1800 (by decide) ?_
                exact j_sub [2, 3, 4, 5, 6, 7] rfl (k3219 _ _ _ _ _ _ _ _ _ h)
              · replace h := h.2 c21
                refine j_iconst (v := (0 : Int32)) hX eL_law_1798 (by decide) ?_
                exact h.elim
        · replace h := h.2 c15
          refine j_iconst (v := (0 : Int32)) hX eL_law_1774 (by decide) ?_
          exact h.elim
      · obtain ⟨v13, hxz9, h⟩ := qz9
        cases hxz9
    · obtain ⟨v10, hxz9, h⟩ := qz9
      cases hxz9
  · obtain ⟨v4, hxz9, h⟩ := qz9
    cases hxz9
set_option maxHeartbeats 4000000 in
set_option maxRecDepth 20000 in
theorem vL_law_1803 {X : am_Cx} {G : am_Gx} {d : Nat} (hX : am_ok X rL_law G (d + 1)) (hret : ∀ {pc : Nat} {lv : List (Nat × Value)} {M : am_Hp} {bc bs : Nat}, decode rL_law.2.1 pc = .ok (.ireturn, 1) → am_J X pc lv [.int (1 : Int32)] M bc bs) {bc bs : Nat} (R3219 : Nat → Nat → Nat → Nat → Nat → Int32 → am_Hp → Nat → Nat → Prop) (k3219 : ∀ (x0 : Nat) (x1 : Nat) (x2 : Nat) (x3 : Nat) (x4 : Nat) (x5 : Int32) (M : am_Hp) (bc bs : Nat), R3219 x0 x1 x2 x3 x4 x5 M bc bs → am_J X 3219 [(0, .ref x0), (1, .ref x1), (2, .ref x2), (3, .ref x3), (4, .ref x4), (5, .int x5)] [] M bc bs) {a0 : Nat} {a1 : Nat} {a2 : Nat} {a3 : Nat} {a4 : Nat} {a5 : Int32} {M : am_Hp} (h : hp_T M (a0) = 42 ∧ (vp_in (a5 + (1 : Int32)) (hp_N M a0) ∧ (2 ≤ bc ∧ (12 ≤ bs ∧ (am_CT G d rL_carOf [.ref a1, .int (hp_E M a0 ((a5 + (1 : Int32))).toNatClampNeg), .ref a3] M 2 12 (fun oz9 M3 => ∃ v4 : Int32, oz9 = .inl (some (.int v4)) ∧ (hp_T M3 (a0) = 42 ∧ (vp_in (a5 + (1 : Int32)) (hp_N M3 a0) ∧ (hp_T M3 (a2) = 8 ∧ (am_CT G d rX7_carOf [.ref a2, .int (hp_E M3 a0 ((a5 + (1 : Int32))).toNatClampNeg)] M3 0 0 (fun oz9 M9 => ∃ v10 : Int32, oz9 = .inl (some (.int v10)) ∧ (hp_T M9 (a2) = 8 ∧ (am_CT G d rX7_thrown [.ref a2] M9 0 0 (fun oz9 M12 => ∃ v13 : Int32, oz9 = .inl (some (.int v13)) ∧ (((v13 = v4) → (((v4 = 0) → (hp_T M12 (a3) = 23 ∧ (vp_in (0 : Int32) (hp_N M12 a3) ∧ ((((lg_cmp (hp_L M12 a3 ((0 : Int32)).toNatClampNeg) ((v10).toInt64)) = 0) → (R3219 a0 a1 a2 a3 a4 a5 M12 (bc - 2) (bs - 12))) ∧ (¬ ((lg_cmp (hp_L M12 a3 ((0 : Int32)).toNatClampNeg) ((v10).toInt64)) = 0) → (False)))))) ∧ (¬ (v4 = 0) → (R3219 a0 a1 a2 a3 a4 a5 M12 (bc - 2) (bs - 12))))) ∧ (¬ (v13 = v4) → (False))))))))))))))))) : am_J X 1803 [(0, .ref a0), (1, .ref a1), (2, .ref a2), (3, .ref a3), (4, .ref a4), (5, .int a5)] [] M bc bs := by
  refine j_aload_n hX eL_law_1803 1 rfl ?_
  refine j_aload_n hX eL_law_1804 0 rfl ?_
  refine j_iload hX eL_law_1805 5 rfl ?_
  refine j_iconst (v := (1 : Int32)) hX eL_law_1807 (by decide) ?_
  refine j_iadd hX eL_law_1808 ?_
  obtain ⟨t1, h⟩ := h
  obtain ⟨i2, h⟩ := h
  refine j_ialdx hX eL_law_1809 t1 i2 ?_
  refine j_aload_n hX eL_law_1810 3 rfl ?_
  obtain ⟨b5, b6, h⟩ := h
  refine j_callSX (r' := rL_carOf) (As := [.ref a1, .int (hp_E M a0 ((a5 + (1 : Int32))).toNatClampNeg), .ref a3]) (rest := []) (d1 := d) hX eL_law_1811 mm_LiftGroupLaw_270 (by decide) rfl h rfl (Nat.le_refl _) b5 b6 (Nat.le_of_ble_eq_true rfl) (fun vz9 Mz9 qz9 => ?_) (fun Ez9 Mz9 qz9 => ?_)
  · obtain ⟨M3, eMz9⟩ : ∃ M3, M3 = Mz9 := ⟨_, rfl⟩; subst eMz9
    obtain ⟨v4, hxz9, h⟩ := qz9
    cases hxz9
    refine j_istore (lv' := [(6, .int v4), (0, .ref a0), (1, .ref a1), (2, .ref a2), (3, .ref a3), (4, .ref a4), (5, .int a5)]) hX eL_law_1814 (by decide) rfl ?_
    refine j_aload_n hX eL_law_1816 3 rfl ?_
    refine j_aload_n hX eL_law_1817 1 rfl ?_
    refine j_iload hX eL_law_1818 6 rfl ?_
    refine j_iconst (v := (1 : Int32)) hX eL_law_1820 (by decide) ?_
    refine j_iadd hX eL_law_1821 ?_
    obtain ⟨t7, h⟩ := h
    obtain ⟨i8, h⟩ := h
    refine j_ialdx hX eL_law_1822 t7 i8 ?_
    obtain ⟨t11, h⟩ := h
    refine j_callV (a := a2) (q := (RX7, TX7, 17)) (r' := rX7_carOf) (As := [.int (hp_E M3 a0 ((a5 + (1 : Int32))).toNatClampNeg)]) (rest := []) (d1 := d) hX eL_law_1823 mm_LiftGroupLaw_272 rfl t11 (by decide) rfl h rfl (Nat.le_refl _) (Nat.zero_le _) (Nat.zero_le _) (Nat.le_of_ble_eq_true rfl) (fun vz9 Mz9 qz9 => ?_) (fun Ez9 Mz9 qz9 => ?_)
    · obtain ⟨M9, eMz9⟩ : ∃ M9, M9 = Mz9 := ⟨_, rfl⟩; subst eMz9
      obtain ⟨v10, hxz9, h⟩ := qz9
      cases hxz9
      refine j_istore (lv' := [(7, .int v10), (6, .int v4), (0, .ref a0), (1, .ref a1), (2, .ref a2), (3, .ref a3), (4, .ref a4), (5, .int a5)]) hX eL_law_1826 (by decide) rfl ?_
      refine j_aload_n hX eL_law_1828 4 rfl ?_
      obtain ⟨t14, h⟩ := h
      refine j_callV (a := a2) (q := (RX7, TX7, 17)) (r' := rX7_thrown) (As := []) (rest := []) (d1 := d) hX eL_law_1829 mm_LiftGroupLaw_185 rfl t14 (by decide) rfl h rfl (Nat.le_refl _) (Nat.zero_le _) (Nat.zero_le _) (Nat.le_of_ble_eq_true rfl) (fun vz9 Mz9 qz9 => ?_) (fun Ez9 Mz9 qz9 => ?_)
      · obtain ⟨M12, eMz9⟩ : ∃ M12, M12 = Mz9 := ⟨_, rfl⟩; subst eMz9
        obtain ⟨v13, hxz9, h⟩ := qz9
        cases hxz9
        refine j_iload hX eL_law_1832 1 rfl ?_
        refine j_icmp_eq hX 1839 eL_law_1834 (by decide) (fun c15 => ?_) (fun c15 => ?_)
        · replace h := h.1 c15
          refine j_iload hX eL_law_1839 1 rfl ?_
          refine j_if_ne hX 1856 eL_law_1841 (by decide) (fun c16 => ?_) (fun c16 => ?_)
          · replace h := h.2 c16
            refine j_goto hX 3219 eL_law_1856 (by decide) ?_
            exact j_sub [2, 3, 4, 5, 6, 7] rfl (k3219 _ _ _ _ _ _ _ _ _ h)
          · replace h := h.1 c16
            refine j_aload_n hX eL_law_1844 5 rfl ?_
            refine j_iconst (v := (0 : Int32)) hX eL_law_1845 (by decide) ?_
            obtain ⟨t17, h⟩ := h
            obtain ⟨i18, h⟩ := h
            refine j_lald hX eL_law_1846 t17 i18 ?_
            refine j_iload hX eL_law_1847 0 rfl ?_
            refine j_i2l hX eL_law_1849 ?_
            refine j_lcmp hX eL_law_1850 ?_
            refine j_if_eq hX 1856 eL_law_1851 (by decide) (fun c19 => ?_) (fun c19 => ?_)
            · replace h := h.1 c19
              refine j_goto hX 3219 eL_law_1856 (by decide) ?_
              exact j_sub [2, 3, 4, 5, 6, 7] rfl (k3219 _ _ _ _ _ _ _ _ _ h)
            · replace h := h.2 c19
              refine j_iconst (v := (0 : Int32)) hX eL_law_1854 (by decide) ?_
              exact h.elim
        · replace h := h.2 c15
          refine j_iconst (v := (0 : Int32)) hX eL_law_1837 (by decide) ?_
          exact h.elim
      · obtain ⟨v13, hxz9, h⟩ := qz9
        cases hxz9
    · obtain ⟨v10, hxz9, h⟩ := qz9
      cases hxz9
  · obtain ⟨v4, hxz9, h⟩ := qz9
    cases hxz9
set_option maxHeartbeats 4000000 in
set_option maxRecDepth 20000 in
theorem vL_law_1859 {X : am_Cx} {G : am_Gx} {d : Nat} (hX : am_ok X rL_law G (d + 1)) (hret : ∀ {pc : Nat} {lv : List (Nat × Value)} {M : am_Hp} {bc bs : Nat}, decode rL_law.2.1 pc = .ok (.ireturn, 1) → am_J X pc lv [.int (1 : Int32)] M bc bs) {bc bs : Nat} (R3219 : Nat → Nat → Nat → Nat → Nat → Int32 → am_Hp → Nat → Nat → Prop) (k3219 : ∀ (x0 : Nat) (x1 : Nat) (x2 : Nat) (x3 : Nat) (x4 : Nat) (x5 : Int32) (M : am_Hp) (bc bs : Nat), R3219 x0 x1 x2 x3 x4 x5 M bc bs → am_J X 3219 [(0, .ref x0), (1, .ref x1), (2, .ref x2), (3, .ref x3), (4, .ref x4), (5, .int x5)] [] M bc bs) {a0 : Nat} {a1 : Nat} {a2 : Nat} {a3 : Nat} {a4 : Nat} {a5 : Int32} {M : am_Hp} (h : hp_T M (a0) = 42 ∧ (vp_in (a5 + (1 : Int32)) (hp_N M a0) ∧ (1 ≤ bc ∧ (6 ≤ bs ∧ (am_CT G d rL_waitingAt [.ref a1, .int (hp_E M a0 ((a5 + (1 : Int32))).toNatClampNeg), .ref a3] M 1 6 (fun oz9 M3 => ∃ v4 : Int32, oz9 = .inl (some (.int v4)) ∧ (hp_T M3 (a0) = 42 ∧ (vp_in (a5 + (1 : Int32)) (hp_N M3 a0) ∧ (hp_T M3 (a2) = 8 ∧ (am_CT G d rX7_waitingAt [.ref a2, .int (hp_E M3 a0 ((a5 + (1 : Int32))).toNatClampNeg)] M3 0 0 (fun oz9 M9 => ∃ v10 : Int32, oz9 = .inl (some (.int v10)) ∧ (hp_T M9 (a2) = 8 ∧ (am_CT G d rX7_thrown [.ref a2] M9 0 0 (fun oz9 M12 => ∃ v13 : Int32, oz9 = .inl (some (.int v13)) ∧ (((v13 = v4) → (((v4 = 0) → (hp_T M12 (a3) = 23 ∧ (vp_in (0 : Int32) (hp_N M12 a3) ∧ ((((lg_cmp (hp_L M12 a3 ((0 : Int32)).toNatClampNeg) ((v10).toInt64)) = 0) → (R3219 a0 a1 a2 a3 a4 a5 M12 (bc - 1) (bs - 6))) ∧ (¬ ((lg_cmp (hp_L M12 a3 ((0 : Int32)).toNatClampNeg) ((v10).toInt64)) = 0) → (False)))))) ∧ (¬ (v4 = 0) → (R3219 a0 a1 a2 a3 a4 a5 M12 (bc - 1) (bs - 6))))) ∧ (¬ (v13 = v4) → (False))))))))))))))))) : am_J X 1859 [(0, .ref a0), (1, .ref a1), (2, .ref a2), (3, .ref a3), (4, .ref a4), (5, .int a5)] [] M bc bs := by
  refine j_aload_n hX eL_law_1859 1 rfl ?_
  refine j_aload_n hX eL_law_1860 0 rfl ?_
  refine j_iload hX eL_law_1861 5 rfl ?_
  refine j_iconst (v := (1 : Int32)) hX eL_law_1863 (by decide) ?_
  refine j_iadd hX eL_law_1864 ?_
  obtain ⟨t1, h⟩ := h
  obtain ⟨i2, h⟩ := h
  refine j_ialdx hX eL_law_1865 t1 i2 ?_
  refine j_aload_n hX eL_law_1866 3 rfl ?_
  obtain ⟨b5, b6, h⟩ := h
  refine j_callSX (r' := rL_waitingAt) (As := [.ref a1, .int (hp_E M a0 ((a5 + (1 : Int32))).toNatClampNeg), .ref a3]) (rest := []) (d1 := d) hX eL_law_1867 mm_LiftGroupLaw_273 (by decide) rfl h rfl (Nat.le_refl _) b5 b6 (Nat.le_of_ble_eq_true rfl) (fun vz9 Mz9 qz9 => ?_) (fun Ez9 Mz9 qz9 => ?_)
  · obtain ⟨M3, eMz9⟩ : ∃ M3, M3 = Mz9 := ⟨_, rfl⟩; subst eMz9
    obtain ⟨v4, hxz9, h⟩ := qz9
    cases hxz9
    refine j_istore (lv' := [(6, .int v4), (0, .ref a0), (1, .ref a1), (2, .ref a2), (3, .ref a3), (4, .ref a4), (5, .int a5)]) hX eL_law_1870 (by decide) rfl ?_
    refine j_aload_n hX eL_law_1872 3 rfl ?_
    refine j_aload_n hX eL_law_1873 1 rfl ?_
    refine j_iload hX eL_law_1874 6 rfl ?_
    refine j_iconst (v := (1 : Int32)) hX eL_law_1876 (by decide) ?_
    refine j_iadd hX eL_law_1877 ?_
    obtain ⟨t7, h⟩ := h
    obtain ⟨i8, h⟩ := h
    refine j_ialdx hX eL_law_1878 t7 i8 ?_
    obtain ⟨t11, h⟩ := h
    refine j_callV (a := a2) (q := (RX7, TX7, 17)) (r' := rX7_waitingAt) (As := [.int (hp_E M3 a0 ((a5 + (1 : Int32))).toNatClampNeg)]) (rest := []) (d1 := d) hX eL_law_1879 mm_LiftGroupLaw_275 rfl t11 (by decide) rfl h rfl (Nat.le_refl _) (Nat.zero_le _) (Nat.zero_le _) (Nat.le_of_ble_eq_true rfl) (fun vz9 Mz9 qz9 => ?_) (fun Ez9 Mz9 qz9 => ?_)
    · obtain ⟨M9, eMz9⟩ : ∃ M9, M9 = Mz9 := ⟨_, rfl⟩; subst eMz9
      obtain ⟨v10, hxz9, h⟩ := qz9
      cases hxz9
      refine j_istore (lv' := [(7, .int v10), (6, .int v4), (0, .ref a0), (1, .ref a1), (2, .ref a2), (3, .ref a3), (4, .ref a4), (5, .int a5)]) hX eL_law_1882 (by decide) rfl ?_
      refine j_aload_n hX eL_law_1884 4 rfl ?_
      obtain ⟨t14, h⟩ := h
      refine j_callV (a := a2) (q := (RX7, TX7, 17)) (r' := rX7_thrown) (As := []) (rest := []) (d1 := d) hX eL_law_1885 mm_LiftGroupLaw_185 rfl t14 (by decide) rfl h rfl (Nat.le_refl _) (Nat.zero_le _) (Nat.zero_le _) (Nat.le_of_ble_eq_true rfl) (fun vz9 Mz9 qz9 => ?_) (fun Ez9 Mz9 qz9 => ?_)
      · obtain ⟨M12, eMz9⟩ : ∃ M12, M12 = Mz9 := ⟨_, rfl⟩; subst eMz9
        obtain ⟨v13, hxz9, h⟩ := qz9
        cases hxz9
        refine j_iload hX eL_law_1888 1 rfl ?_
        refine j_icmp_eq hX 1895 eL_law_1890 (by decide) (fun c15 => ?_) (fun c15 => ?_)
        · replace h := h.1 c15
          refine j_iload hX eL_law_1895 1 rfl ?_
          refine j_if_ne hX 1912 eL_law_1897 (by decide) (fun c16 => ?_) (fun c16 => ?_)
          · replace h := h.2 c16
            refine j_goto hX 3219 eL_law_1912 (by decide) ?_
            exact j_sub [2, 3, 4, 5, 6, 7] rfl (k3219 _ _ _ _ _ _ _ _ _ h)
          · replace h := h.1 c16
            refine j_aload_n hX eL_law_1900 5 rfl ?_
            refine j_iconst (v := (0 : Int32)) hX eL_law_1901 (by decide) ?_
            obtain ⟨t17, h⟩ := h
            obtain ⟨i18, h⟩ := h
            refine j_lald hX eL_law_1902 t17 i18 ?_
            refine j_iload hX eL_law_1903 0 rfl ?_
            refine j_i2l hX eL_law_1905 ?_
            refine j_lcmp hX eL_law_1906 ?_
            refine j_if_eq hX 1912 eL_law_1907 (by decide) (fun c19 => ?_) (fun c19 => ?_)
            · replace h := h.1 c19
              refine j_goto hX 3219 eL_law_1912 (by decide) ?_
              exact j_sub [2, 3, 4, 5, 6, 7] rfl (k3219 _ _ _ _ _ _ _ _ _ h)
            · replace h := h.2 c19
              refine j_iconst (v := (0 : Int32)) hX eL_law_1910 (by decide) ?_
              exact h.elim
        · replace h := h.2 c15
          refine j_iconst (v := (0 : Int32)) hX eL_law_1893 (by decide) ?_
          exact h.elim
      · obtain ⟨v13, hxz9, h⟩ := qz9
        cases hxz9
    · obtain ⟨v10, hxz9, h⟩ := qz9
      cases hxz9
  · obtain ⟨v4, hxz9, h⟩ := qz9
    cases hxz9
set_option maxHeartbeats 4000000 in
set_option maxRecDepth 20000 in
theorem vL_law_1915 {X : am_Cx} {G : am_Gx} {d : Nat} (hX : am_ok X rL_law G (d + 1)) (hret : ∀ {pc : Nat} {lv : List (Nat × Value)} {M : am_Hp} {bc bs : Nat}, decode rL_law.2.1 pc = .ok (.ireturn, 1) → am_J X pc lv [.int (1 : Int32)] M bc bs) {bc bs : Nat} (R3219 : Nat → Nat → Nat → Nat → Nat → Int32 → am_Hp → Nat → Nat → Prop) (k3219 : ∀ (x0 : Nat) (x1 : Nat) (x2 : Nat) (x3 : Nat) (x4 : Nat) (x5 : Int32) (M : am_Hp) (bc bs : Nat), R3219 x0 x1 x2 x3 x4 x5 M bc bs → am_J X 3219 [(0, .ref x0), (1, .ref x1), (2, .ref x2), (3, .ref x3), (4, .ref x4), (5, .int x5)] [] M bc bs) {a0 : Nat} {a1 : Nat} {a2 : Nat} {a3 : Nat} {a4 : Nat} {a5 : Int32} {M : am_Hp} (h : hp_T M (a0) = 42 ∧ (vp_in (a5 + (1 : Int32)) (hp_N M a0) ∧ (vp_in (a5 + (2 : Int32)) (hp_N M a0) ∧ (2 ≤ bc ∧ (12 ≤ bs ∧ (am_CT G d rL_estimate [.ref a1, .int (hp_E M a0 ((a5 + (1 : Int32))).toNatClampNeg), .int (hp_E M a0 ((a5 + (2 : Int32))).toNatClampNeg), .ref a3] M 2 12 (fun oz9 M4 => ∃ v5 : Int32, oz9 = .inl (some (.int v5)) ∧ (hp_T M4 (a0) = 42 ∧ (vp_in (a5 + (1 : Int32)) (hp_N M4 a0) ∧ (vp_in (a5 + (2 : Int32)) (hp_N M4 a0) ∧ (hp_T M4 (a2) = 8 ∧ (am_CT G d rX7_estimate [.ref a2, .int (hp_E M4 a0 ((a5 + (1 : Int32))).toNatClampNeg), .int (hp_E M4 a0 ((a5 + (2 : Int32))).toNatClampNeg)] M4 0 0 (fun oz9 M11 => ∃ v12 : Int32, oz9 = .inl (some (.int v12)) ∧ (hp_T M11 (a2) = 8 ∧ (am_CT G d rX7_thrown [.ref a2] M11 0 0 (fun oz9 M14 => ∃ v15 : Int32, oz9 = .inl (some (.int v15)) ∧ (((v15 = v5) → (((v5 = 0) → (hp_T M14 (a3) = 23 ∧ (vp_in (0 : Int32) (hp_N M14 a3) ∧ ((((lg_cmp (hp_L M14 a3 ((0 : Int32)).toNatClampNeg) ((v12).toInt64)) = 0) → (R3219 a0 a1 a2 a3 a4 a5 M14 (bc - 2) (bs - 12))) ∧ (¬ ((lg_cmp (hp_L M14 a3 ((0 : Int32)).toNatClampNeg) ((v12).toInt64)) = 0) → (False)))))) ∧ (¬ (v5 = 0) → (R3219 a0 a1 a2 a3 a4 a5 M14 (bc - 2) (bs - 12))))) ∧ (¬ (v15 = v5) → (False))))))))))))))))))) : am_J X 1915 [(0, .ref a0), (1, .ref a1), (2, .ref a2), (3, .ref a3), (4, .ref a4), (5, .int a5)] [] M bc bs := by
  refine j_aload_n hX eL_law_1915 1 rfl ?_
  refine j_aload_n hX eL_law_1916 0 rfl ?_
  refine j_iload hX eL_law_1917 5 rfl ?_
  refine j_iconst (v := (1 : Int32)) hX eL_law_1919 (by decide) ?_
  refine j_iadd hX eL_law_1920 ?_
  obtain ⟨t1, h⟩ := h
  obtain ⟨i2, h⟩ := h
  refine j_ialdx hX eL_law_1921 t1 i2 ?_
  refine j_aload_n hX eL_law_1922 0 rfl ?_
  refine j_iload hX eL_law_1923 5 rfl ?_
  refine j_iconst (v := (2 : Int32)) hX eL_law_1925 (by decide) ?_
  refine j_iadd hX eL_law_1926 ?_
  obtain ⟨i3, h⟩ := h
  refine j_ialdx hX eL_law_1927 t1 i3 ?_
  refine j_aload_n hX eL_law_1928 3 rfl ?_
  obtain ⟨b6, b7, h⟩ := h
  refine j_callSX (r' := rL_estimate) (As := [.ref a1, .int (hp_E M a0 ((a5 + (1 : Int32))).toNatClampNeg), .int (hp_E M a0 ((a5 + (2 : Int32))).toNatClampNeg), .ref a3]) (rest := []) (d1 := d) hX eL_law_1929 mm_LiftGroupLaw_276 (by decide) rfl h rfl (Nat.le_refl _) b6 b7 (Nat.le_of_ble_eq_true rfl) (fun vz9 Mz9 qz9 => ?_) (fun Ez9 Mz9 qz9 => ?_)
  · obtain ⟨M4, eMz9⟩ : ∃ M4, M4 = Mz9 := ⟨_, rfl⟩; subst eMz9
    obtain ⟨v5, hxz9, h⟩ := qz9
    cases hxz9
    refine j_istore (lv' := [(6, .int v5), (0, .ref a0), (1, .ref a1), (2, .ref a2), (3, .ref a3), (4, .ref a4), (5, .int a5)]) hX eL_law_1932 (by decide) rfl ?_
    refine j_aload_n hX eL_law_1934 3 rfl ?_
    refine j_aload_n hX eL_law_1935 1 rfl ?_
    refine j_iload hX eL_law_1936 6 rfl ?_
    refine j_iconst (v := (1 : Int32)) hX eL_law_1938 (by decide) ?_
    refine j_iadd hX eL_law_1939 ?_
    obtain ⟨t8, h⟩ := h
    obtain ⟨i9, h⟩ := h
    refine j_ialdx hX eL_law_1940 t8 i9 ?_
    refine j_aload_n hX eL_law_1941 1 rfl ?_
    refine j_iload hX eL_law_1942 6 rfl ?_
    refine j_iconst (v := (2 : Int32)) hX eL_law_1944 (by decide) ?_
    refine j_iadd hX eL_law_1945 ?_
    obtain ⟨i10, h⟩ := h
    refine j_ialdx hX eL_law_1946 t8 i10 ?_
    obtain ⟨t13, h⟩ := h
    refine j_callV (a := a2) (q := (RX7, TX7, 17)) (r' := rX7_estimate) (As := [.int (hp_E M4 a0 ((a5 + (1 : Int32))).toNatClampNeg), .int (hp_E M4 a0 ((a5 + (2 : Int32))).toNatClampNeg)]) (rest := []) (d1 := d) hX eL_law_1947 mm_LiftGroupLaw_278 rfl t13 (by decide) rfl h rfl (Nat.le_refl _) (Nat.zero_le _) (Nat.zero_le _) (Nat.le_of_ble_eq_true rfl) (fun vz9 Mz9 qz9 => ?_) (fun Ez9 Mz9 qz9 => ?_)
    · obtain ⟨M11, eMz9⟩ : ∃ M11, M11 = Mz9 := ⟨_, rfl⟩; subst eMz9
      obtain ⟨v12, hxz9, h⟩ := qz9
      cases hxz9
      refine j_istore (lv' := [(7, .int v12), (6, .int v5), (0, .ref a0), (1, .ref a1), (2, .ref a2), (3, .ref a3), (4, .ref a4), (5, .int a5)]) hX eL_law_1950 (by decide) rfl ?_
      refine j_aload_n hX eL_law_1952 4 rfl ?_
      obtain ⟨t16, h⟩ := h
      refine j_callV (a := a2) (q := (RX7, TX7, 17)) (r' := rX7_thrown) (As := []) (rest := []) (d1 := d) hX eL_law_1953 mm_LiftGroupLaw_185 rfl t16 (by decide) rfl h rfl (Nat.le_refl _) (Nat.zero_le _) (Nat.zero_le _) (Nat.le_of_ble_eq_true rfl) (fun vz9 Mz9 qz9 => ?_) (fun Ez9 Mz9 qz9 => ?_)
      · obtain ⟨M14, eMz9⟩ : ∃ M14, M14 = Mz9 := ⟨_, rfl⟩; subst eMz9
        obtain ⟨v15, hxz9, h⟩ := qz9
        cases hxz9
        refine j_iload hX eL_law_1956 1 rfl ?_
        refine j_icmp_eq hX 1963 eL_law_1958 (by decide) (fun c17 => ?_) (fun c17 => ?_)
        · replace h := h.1 c17
          refine j_iload hX eL_law_1963 1 rfl ?_
          refine j_if_ne hX 1980 eL_law_1965 (by decide) (fun c18 => ?_) (fun c18 => ?_)
          · replace h := h.2 c18
            refine j_goto hX 3219 eL_law_1980 (by decide) ?_
            exact j_sub [2, 3, 4, 5, 6, 7] rfl (k3219 _ _ _ _ _ _ _ _ _ h)
          · replace h := h.1 c18
            refine j_aload_n hX eL_law_1968 5 rfl ?_
            refine j_iconst (v := (0 : Int32)) hX eL_law_1969 (by decide) ?_
            obtain ⟨t19, h⟩ := h
            obtain ⟨i20, h⟩ := h
            refine j_lald hX eL_law_1970 t19 i20 ?_
            refine j_iload hX eL_law_1971 0 rfl ?_
            refine j_i2l hX eL_law_1973 ?_
            refine j_lcmp hX eL_law_1974 ?_
            refine j_if_eq hX 1980 eL_law_1975 (by decide) (fun c21 => ?_) (fun c21 => ?_)
            · replace h := h.1 c21
              refine j_goto hX 3219 eL_law_1980 (by decide) ?_
              exact j_sub [2, 3, 4, 5, 6, 7] rfl (k3219 _ _ _ _ _ _ _ _ _ h)
            · replace h := h.2 c21
              refine j_iconst (v := (0 : Int32)) hX eL_law_1978 (by decide) ?_
              exact h.elim
        · replace h := h.2 c17
          refine j_iconst (v := (0 : Int32)) hX eL_law_1961 (by decide) ?_
          exact h.elim
      · obtain ⟨v15, hxz9, h⟩ := qz9
        cases hxz9
    · obtain ⟨v12, hxz9, h⟩ := qz9
      cases hxz9
  · obtain ⟨v5, hxz9, h⟩ := qz9
    cases hxz9
set_option maxHeartbeats 4000000 in
set_option maxRecDepth 20000 in
theorem vL_law_1983 {X : am_Cx} {G : am_Gx} {d : Nat} (hX : am_ok X rL_law G (d + 1)) (hret : ∀ {pc : Nat} {lv : List (Nat × Value)} {M : am_Hp} {bc bs : Nat}, decode rL_law.2.1 pc = .ok (.ireturn, 1) → am_J X pc lv [.int (1 : Int32)] M bc bs) {bc bs : Nat} (R3219 : Nat → Nat → Nat → Nat → Nat → Int32 → am_Hp → Nat → Nat → Prop) (k3219 : ∀ (x0 : Nat) (x1 : Nat) (x2 : Nat) (x3 : Nat) (x4 : Nat) (x5 : Int32) (M : am_Hp) (bc bs : Nat), R3219 x0 x1 x2 x3 x4 x5 M bc bs → am_J X 3219 [(0, .ref x0), (1, .ref x1), (2, .ref x2), (3, .ref x3), (4, .ref x4), (5, .int x5)] [] M bc bs) {a0 : Nat} {a1 : Nat} {a2 : Nat} {a3 : Nat} {a4 : Nat} {a5 : Int32} {M : am_Hp} (h : hp_T M (a0) = 42 ∧ (vp_in (a5 + (1 : Int32)) (hp_N M a0) ∧ (vp_in (a5 + (2 : Int32)) (hp_N M a0) ∧ (2 ≤ bc ∧ (12 ≤ bs ∧ (am_CT G d rL_estimateByWalk [.ref a1, .int (hp_E M a0 ((a5 + (1 : Int32))).toNatClampNeg), .int (hp_E M a0 ((a5 + (2 : Int32))).toNatClampNeg), .ref a3] M 2 12 (fun oz9 M4 => ∃ v5 : Int32, oz9 = .inl (some (.int v5)) ∧ (hp_T M4 (a0) = 42 ∧ (vp_in (a5 + (1 : Int32)) (hp_N M4 a0) ∧ (vp_in (a5 + (2 : Int32)) (hp_N M4 a0) ∧ (hp_T M4 (a2) = 8 ∧ (am_CT G d rX7_estimateByWalk [.ref a2, .int (hp_E M4 a0 ((a5 + (1 : Int32))).toNatClampNeg), .int (hp_E M4 a0 ((a5 + (2 : Int32))).toNatClampNeg)] M4 0 0 (fun oz9 M11 => ∃ v12 : Int32, oz9 = .inl (some (.int v12)) ∧ (hp_T M11 (a2) = 8 ∧ (am_CT G d rX7_thrown [.ref a2] M11 0 0 (fun oz9 M14 => ∃ v15 : Int32, oz9 = .inl (some (.int v15)) ∧ (((v15 = v5) → (((v5 = 0) → (hp_T M14 (a3) = 23 ∧ (vp_in (0 : Int32) (hp_N M14 a3) ∧ ((((lg_cmp (hp_L M14 a3 ((0 : Int32)).toNatClampNeg) ((v12).toInt64)) = 0) → (R3219 a0 a1 a2 a3 a4 a5 M14 (bc - 2) (bs - 12))) ∧ (¬ ((lg_cmp (hp_L M14 a3 ((0 : Int32)).toNatClampNeg) ((v12).toInt64)) = 0) → (False)))))) ∧ (¬ (v5 = 0) → (R3219 a0 a1 a2 a3 a4 a5 M14 (bc - 2) (bs - 12))))) ∧ (¬ (v15 = v5) → (False))))))))))))))))))) : am_J X 1983 [(0, .ref a0), (1, .ref a1), (2, .ref a2), (3, .ref a3), (4, .ref a4), (5, .int a5)] [] M bc bs := by
  refine j_aload_n hX eL_law_1983 1 rfl ?_
  refine j_aload_n hX eL_law_1984 0 rfl ?_
  refine j_iload hX eL_law_1985 5 rfl ?_
  refine j_iconst (v := (1 : Int32)) hX eL_law_1987 (by decide) ?_
  refine j_iadd hX eL_law_1988 ?_
  obtain ⟨t1, h⟩ := h
  obtain ⟨i2, h⟩ := h
  refine j_ialdx hX eL_law_1989 t1 i2 ?_
  refine j_aload_n hX eL_law_1990 0 rfl ?_
  refine j_iload hX eL_law_1991 5 rfl ?_
  refine j_iconst (v := (2 : Int32)) hX eL_law_1993 (by decide) ?_
  refine j_iadd hX eL_law_1994 ?_
  obtain ⟨i3, h⟩ := h
  refine j_ialdx hX eL_law_1995 t1 i3 ?_
  refine j_aload_n hX eL_law_1996 3 rfl ?_
  obtain ⟨b6, b7, h⟩ := h
  refine j_callSX (r' := rL_estimateByWalk) (As := [.ref a1, .int (hp_E M a0 ((a5 + (1 : Int32))).toNatClampNeg), .int (hp_E M a0 ((a5 + (2 : Int32))).toNatClampNeg), .ref a3]) (rest := []) (d1 := d) hX eL_law_1997 mm_LiftGroupLaw_279 (by decide) rfl h rfl (Nat.le_refl _) b6 b7 (Nat.le_of_ble_eq_true rfl) (fun vz9 Mz9 qz9 => ?_) (fun Ez9 Mz9 qz9 => ?_)
  · obtain ⟨M4, eMz9⟩ : ∃ M4, M4 = Mz9 := ⟨_, rfl⟩; subst eMz9
    obtain ⟨v5, hxz9, h⟩ := qz9
    cases hxz9
    refine j_istore (lv' := [(6, .int v5), (0, .ref a0), (1, .ref a1), (2, .ref a2), (3, .ref a3), (4, .ref a4), (5, .int a5)]) hX eL_law_2000 (by decide) rfl ?_
    refine j_aload_n hX eL_law_2002 3 rfl ?_
    refine j_aload_n hX eL_law_2003 1 rfl ?_
    refine j_iload hX eL_law_2004 6 rfl ?_
    refine j_iconst (v := (1 : Int32)) hX eL_law_2006 (by decide) ?_
    refine j_iadd hX eL_law_2007 ?_
    obtain ⟨t8, h⟩ := h
    obtain ⟨i9, h⟩ := h
    refine j_ialdx hX eL_law_2008 t8 i9 ?_
    refine j_aload_n hX eL_law_2009 1 rfl ?_
    refine j_iload hX eL_law_2010 6 rfl ?_
    refine j_iconst (v := (2 : Int32)) hX eL_law_2012 (by decide) ?_
    refine j_iadd hX eL_law_2013 ?_
    obtain ⟨i10, h⟩ := h
    refine j_ialdx hX eL_law_2014 t8 i10 ?_
    obtain ⟨t13, h⟩ := h
    refine j_callV (a := a2) (q := (RX7, TX7, 17)) (r' := rX7_estimateByWalk) (As := [.int (hp_E M4 a0 ((a5 + (1 : Int32))).toNatClampNeg), .int (hp_E M4 a0 ((a5 + (2 : Int32))).toNatClampNeg)]) (rest := []) (d1 := d) hX eL_law_2015 mm_LiftGroupLaw_281 rfl t13 (by decide) rfl h rfl (Nat.le_refl _) (Nat.zero_le _) (Nat.zero_le _) (Nat.le_of_ble_eq_true rfl) (fun vz9 Mz9 qz9 => ?_) (fun Ez9 Mz9 qz9 => ?_)
    · obtain ⟨M11, eMz9⟩ : ∃ M11, M11 = Mz9 := ⟨_, rfl⟩; subst eMz9
      obtain ⟨v12, hxz9, h⟩ := qz9
      cases hxz9
      refine j_istore (lv' := [(7, .int v12), (6, .int v5), (0, .ref a0), (1, .ref a1), (2, .ref a2), (3, .ref a3), (4, .ref a4), (5, .int a5)]) hX eL_law_2018 (by decide) rfl ?_
      refine j_aload_n hX eL_law_2020 4 rfl ?_
      obtain ⟨t16, h⟩ := h
      refine j_callV (a := a2) (q := (RX7, TX7, 17)) (r' := rX7_thrown) (As := []) (rest := []) (d1 := d) hX eL_law_2021 mm_LiftGroupLaw_185 rfl t16 (by decide) rfl h rfl (Nat.le_refl _) (Nat.zero_le _) (Nat.zero_le _) (Nat.le_of_ble_eq_true rfl) (fun vz9 Mz9 qz9 => ?_) (fun Ez9 Mz9 qz9 => ?_)
      · obtain ⟨M14, eMz9⟩ : ∃ M14, M14 = Mz9 := ⟨_, rfl⟩; subst eMz9
        obtain ⟨v15, hxz9, h⟩ := qz9
        cases hxz9
        refine j_iload hX eL_law_2024 1 rfl ?_
        refine j_icmp_eq hX 2031 eL_law_2026 (by decide) (fun c17 => ?_) (fun c17 => ?_)
        · replace h := h.1 c17
          refine j_iload hX eL_law_2031 1 rfl ?_
          refine j_if_ne hX 2048 eL_law_2033 (by decide) (fun c18 => ?_) (fun c18 => ?_)
          · replace h := h.2 c18
            refine j_goto hX 3219 eL_law_2048 (by decide) ?_
            exact j_sub [2, 3, 4, 5, 6, 7] rfl (k3219 _ _ _ _ _ _ _ _ _ h)
          · replace h := h.1 c18
            refine j_aload_n hX eL_law_2036 5 rfl ?_
            refine j_iconst (v := (0 : Int32)) hX eL_law_2037 (by decide) ?_
            obtain ⟨t19, h⟩ := h
            obtain ⟨i20, h⟩ := h
            refine j_lald hX eL_law_2038 t19 i20 ?_
            refine j_iload hX eL_law_2039 0 rfl ?_
            refine j_i2l hX eL_law_2041 ?_
            refine j_lcmp hX eL_law_2042 ?_
            refine j_if_eq hX 2048 eL_law_2043 (by decide) (fun c21 => ?_) (fun c21 => ?_)
            · replace h := h.1 c21
              refine j_goto hX 3219 eL_law_2048 (by decide) ?_
              exact j_sub [2, 3, 4, 5, 6, 7] rfl (k3219 _ _ _ _ _ _ _ _ _ h)
            · replace h := h.2 c21
              refine j_iconst (v := (0 : Int32)) hX eL_law_2046 (by decide) ?_
              exact h.elim
        · replace h := h.2 c17
          refine j_iconst (v := (0 : Int32)) hX eL_law_2029 (by decide) ?_
          exact h.elim
      · obtain ⟨v15, hxz9, h⟩ := qz9
        cases hxz9
    · obtain ⟨v12, hxz9, h⟩ := qz9
      cases hxz9
  · obtain ⟨v5, hxz9, h⟩ := qz9
    cases hxz9
set_option maxHeartbeats 4000000 in
set_option maxRecDepth 20000 in
theorem vL_law_2051 {X : am_Cx} {G : am_Gx} {d : Nat} (hX : am_ok X rL_law G (d + 1)) (hret : ∀ {pc : Nat} {lv : List (Nat × Value)} {M : am_Hp} {bc bs : Nat}, decode rL_law.2.1 pc = .ok (.ireturn, 1) → am_J X pc lv [.int (1 : Int32)] M bc bs) {bc bs : Nat} (R3219 : Nat → Nat → Nat → Nat → Nat → Int32 → am_Hp → Nat → Nat → Prop) (k3219 : ∀ (x0 : Nat) (x1 : Nat) (x2 : Nat) (x3 : Nat) (x4 : Nat) (x5 : Int32) (M : am_Hp) (bc bs : Nat), R3219 x0 x1 x2 x3 x4 x5 M bc bs → am_J X 3219 [(0, .ref x0), (1, .ref x1), (2, .ref x2), (3, .ref x3), (4, .ref x4), (5, .int x5)] [] M bc bs) {a0 : Nat} {a1 : Nat} {a2 : Nat} {a3 : Nat} {a4 : Nat} {a5 : Int32} {M : am_Hp} (h : hp_T M (a0) = 42 ∧ (vp_in (a5 + (1 : Int32)) (hp_N M a0) ∧ (vp_in (a5 + (2 : Int32)) (hp_N M a0) ∧ (2 ≤ bc ∧ (12 ≤ bs ∧ (am_CT G d rL_bestCar [.ref a1, .int (hp_E M a0 ((a5 + (1 : Int32))).toNatClampNeg), .int (hp_E M a0 ((a5 + (2 : Int32))).toNatClampNeg), .ref a3] M 2 12 (fun oz9 M4 => ∃ v5 : Int32, oz9 = .inl (some (.int v5)) ∧ (hp_T M4 (a0) = 42 ∧ (vp_in (a5 + (1 : Int32)) (hp_N M4 a0) ∧ (vp_in (a5 + (2 : Int32)) (hp_N M4 a0) ∧ (hp_T M4 (a2) = 8 ∧ (am_CT G d rX7_bestCar [.ref a2, .int (hp_E M4 a0 ((a5 + (1 : Int32))).toNatClampNeg), .int (hp_E M4 a0 ((a5 + (2 : Int32))).toNatClampNeg)] M4 0 0 (fun oz9 M11 => ∃ v12 : Int32, oz9 = .inl (some (.int v12)) ∧ (hp_T M11 (a2) = 8 ∧ (am_CT G d rX7_thrown [.ref a2] M11 0 0 (fun oz9 M14 => ∃ v15 : Int32, oz9 = .inl (some (.int v15)) ∧ (((v15 = v5) → (((v5 = 0) → (hp_T M14 (a3) = 23 ∧ (vp_in (0 : Int32) (hp_N M14 a3) ∧ ((((lg_cmp (hp_L M14 a3 ((0 : Int32)).toNatClampNeg) ((v12).toInt64)) = 0) → (R3219 a0 a1 a2 a3 a4 a5 M14 (bc - 2) (bs - 12))) ∧ (¬ ((lg_cmp (hp_L M14 a3 ((0 : Int32)).toNatClampNeg) ((v12).toInt64)) = 0) → (False)))))) ∧ (¬ (v5 = 0) → (R3219 a0 a1 a2 a3 a4 a5 M14 (bc - 2) (bs - 12))))) ∧ (¬ (v15 = v5) → (False))))))))))))))))))) : am_J X 2051 [(0, .ref a0), (1, .ref a1), (2, .ref a2), (3, .ref a3), (4, .ref a4), (5, .int a5)] [] M bc bs := by
  refine j_aload_n hX eL_law_2051 1 rfl ?_
  refine j_aload_n hX eL_law_2052 0 rfl ?_
  refine j_iload hX eL_law_2053 5 rfl ?_
  refine j_iconst (v := (1 : Int32)) hX eL_law_2055 (by decide) ?_
  refine j_iadd hX eL_law_2056 ?_
  obtain ⟨t1, h⟩ := h
  obtain ⟨i2, h⟩ := h
  refine j_ialdx hX eL_law_2057 t1 i2 ?_
  refine j_aload_n hX eL_law_2058 0 rfl ?_
  refine j_iload hX eL_law_2059 5 rfl ?_
  refine j_iconst (v := (2 : Int32)) hX eL_law_2061 (by decide) ?_
  refine j_iadd hX eL_law_2062 ?_
  obtain ⟨i3, h⟩ := h
  refine j_ialdx hX eL_law_2063 t1 i3 ?_
  refine j_aload_n hX eL_law_2064 3 rfl ?_
  obtain ⟨b6, b7, h⟩ := h
  refine j_callSX (r' := rL_bestCar) (As := [.ref a1, .int (hp_E M a0 ((a5 + (1 : Int32))).toNatClampNeg), .int (hp_E M a0 ((a5 + (2 : Int32))).toNatClampNeg), .ref a3]) (rest := []) (d1 := d) hX eL_law_2065 mm_LiftGroupLaw_282 (by decide) rfl h rfl (Nat.le_refl _) b6 b7 (Nat.le_of_ble_eq_true rfl) (fun vz9 Mz9 qz9 => ?_) (fun Ez9 Mz9 qz9 => ?_)
  · obtain ⟨M4, eMz9⟩ : ∃ M4, M4 = Mz9 := ⟨_, rfl⟩; subst eMz9
    obtain ⟨v5, hxz9, h⟩ := qz9
    cases hxz9
    refine j_istore (lv' := [(6, .int v5), (0, .ref a0), (1, .ref a1), (2, .ref a2), (3, .ref a3), (4, .ref a4), (5, .int a5)]) hX eL_law_2068 (by decide) rfl ?_
    refine j_aload_n hX eL_law_2070 3 rfl ?_
    refine j_aload_n hX eL_law_2071 1 rfl ?_
    refine j_iload hX eL_law_2072 6 rfl ?_
    refine j_iconst (v := (1 : Int32)) hX eL_law_2074 (by decide) ?_
    refine j_iadd hX eL_law_2075 ?_
    obtain ⟨t8, h⟩ := h
    obtain ⟨i9, h⟩ := h
    refine j_ialdx hX eL_law_2076 t8 i9 ?_
    refine j_aload_n hX eL_law_2077 1 rfl ?_
    refine j_iload hX eL_law_2078 6 rfl ?_
    refine j_iconst (v := (2 : Int32)) hX eL_law_2080 (by decide) ?_
    refine j_iadd hX eL_law_2081 ?_
    obtain ⟨i10, h⟩ := h
    refine j_ialdx hX eL_law_2082 t8 i10 ?_
    obtain ⟨t13, h⟩ := h
    refine j_callV (a := a2) (q := (RX7, TX7, 17)) (r' := rX7_bestCar) (As := [.int (hp_E M4 a0 ((a5 + (1 : Int32))).toNatClampNeg), .int (hp_E M4 a0 ((a5 + (2 : Int32))).toNatClampNeg)]) (rest := []) (d1 := d) hX eL_law_2083 mm_LiftGroupLaw_284 rfl t13 (by decide) rfl h rfl (Nat.le_refl _) (Nat.zero_le _) (Nat.zero_le _) (Nat.le_of_ble_eq_true rfl) (fun vz9 Mz9 qz9 => ?_) (fun Ez9 Mz9 qz9 => ?_)
    · obtain ⟨M11, eMz9⟩ : ∃ M11, M11 = Mz9 := ⟨_, rfl⟩; subst eMz9
      obtain ⟨v12, hxz9, h⟩ := qz9
      cases hxz9
      refine j_istore (lv' := [(7, .int v12), (6, .int v5), (0, .ref a0), (1, .ref a1), (2, .ref a2), (3, .ref a3), (4, .ref a4), (5, .int a5)]) hX eL_law_2086 (by decide) rfl ?_
      refine j_aload_n hX eL_law_2088 4 rfl ?_
      obtain ⟨t16, h⟩ := h
      refine j_callV (a := a2) (q := (RX7, TX7, 17)) (r' := rX7_thrown) (As := []) (rest := []) (d1 := d) hX eL_law_2089 mm_LiftGroupLaw_185 rfl t16 (by decide) rfl h rfl (Nat.le_refl _) (Nat.zero_le _) (Nat.zero_le _) (Nat.le_of_ble_eq_true rfl) (fun vz9 Mz9 qz9 => ?_) (fun Ez9 Mz9 qz9 => ?_)
      · obtain ⟨M14, eMz9⟩ : ∃ M14, M14 = Mz9 := ⟨_, rfl⟩; subst eMz9
        obtain ⟨v15, hxz9, h⟩ := qz9
        cases hxz9
        refine j_iload hX eL_law_2092 1 rfl ?_
        refine j_icmp_eq hX 2099 eL_law_2094 (by decide) (fun c17 => ?_) (fun c17 => ?_)
        · replace h := h.1 c17
          refine j_iload hX eL_law_2099 1 rfl ?_
          refine j_if_ne hX 2116 eL_law_2101 (by decide) (fun c18 => ?_) (fun c18 => ?_)
          · replace h := h.2 c18
            refine j_goto hX 3219 eL_law_2116 (by decide) ?_
            exact j_sub [2, 3, 4, 5, 6, 7] rfl (k3219 _ _ _ _ _ _ _ _ _ h)
          · replace h := h.1 c18
            refine j_aload_n hX eL_law_2104 5 rfl ?_
            refine j_iconst (v := (0 : Int32)) hX eL_law_2105 (by decide) ?_
            obtain ⟨t19, h⟩ := h
            obtain ⟨i20, h⟩ := h
            refine j_lald hX eL_law_2106 t19 i20 ?_
            refine j_iload hX eL_law_2107 0 rfl ?_
            refine j_i2l hX eL_law_2109 ?_
            refine j_lcmp hX eL_law_2110 ?_
            refine j_if_eq hX 2116 eL_law_2111 (by decide) (fun c21 => ?_) (fun c21 => ?_)
            · replace h := h.1 c21
              refine j_goto hX 3219 eL_law_2116 (by decide) ?_
              exact j_sub [2, 3, 4, 5, 6, 7] rfl (k3219 _ _ _ _ _ _ _ _ _ h)
            · replace h := h.2 c21
              refine j_iconst (v := (0 : Int32)) hX eL_law_2114 (by decide) ?_
              exact h.elim
        · replace h := h.2 c17
          refine j_iconst (v := (0 : Int32)) hX eL_law_2097 (by decide) ?_
          exact h.elim
      · obtain ⟨v15, hxz9, h⟩ := qz9
        cases hxz9
    · obtain ⟨v12, hxz9, h⟩ := qz9
      cases hxz9
  · obtain ⟨v5, hxz9, h⟩ := qz9
    cases hxz9
set_option maxHeartbeats 4000000 in
set_option maxRecDepth 20000 in
theorem vL_law_2119 {X : am_Cx} {G : am_Gx} {d : Nat} (hX : am_ok X rL_law G (d + 1)) (hret : ∀ {pc : Nat} {lv : List (Nat × Value)} {M : am_Hp} {bc bs : Nat}, decode rL_law.2.1 pc = .ok (.ireturn, 1) → am_J X pc lv [.int (1 : Int32)] M bc bs) {bc bs : Nat} (R3219 : Nat → Nat → Nat → Nat → Nat → Int32 → am_Hp → Nat → Nat → Prop) (k3219 : ∀ (x0 : Nat) (x1 : Nat) (x2 : Nat) (x3 : Nat) (x4 : Nat) (x5 : Int32) (M : am_Hp) (bc bs : Nat), R3219 x0 x1 x2 x3 x4 x5 M bc bs → am_J X 3219 [(0, .ref x0), (1, .ref x1), (2, .ref x2), (3, .ref x3), (4, .ref x4), (5, .int x5)] [] M bc bs) {a0 : Nat} {a1 : Nat} {a2 : Nat} {a3 : Nat} {a4 : Nat} {a5 : Int32} {M : am_Hp} (h : hp_T M (a0) = 42 ∧ (vp_in (a5 + (1 : Int32)) (hp_N M a0) ∧ (2 ≤ bc ∧ (12 ≤ bs ∧ (am_CT G d rL_stepsUntilBoarding [.ref a1, .int (hp_E M a0 ((a5 + (1 : Int32))).toNatClampNeg), .ref a3] M 2 12 (fun oz9 M3 => ∃ v4 : Int32, oz9 = .inl (some (.int v4)) ∧ (hp_T M3 (a0) = 42 ∧ (vp_in (a5 + (1 : Int32)) (hp_N M3 a0) ∧ (hp_T M3 (a2) = 8 ∧ (am_CT G d rX7_stepsUntilBoarding [.ref a2, .int (hp_E M3 a0 ((a5 + (1 : Int32))).toNatClampNeg)] M3 0 0 (fun oz9 M9 => ∃ v10 : Int32, oz9 = .inl (some (.int v10)) ∧ (hp_T M9 (a2) = 8 ∧ (am_CT G d rX7_thrown [.ref a2] M9 0 0 (fun oz9 M12 => ∃ v13 : Int32, oz9 = .inl (some (.int v13)) ∧ (((v13 = v4) → (((v4 = 0) → (hp_T M12 (a3) = 23 ∧ (vp_in (0 : Int32) (hp_N M12 a3) ∧ ((((lg_cmp (hp_L M12 a3 ((0 : Int32)).toNatClampNeg) ((v10).toInt64)) = 0) → (R3219 a0 a1 a2 a3 a4 a5 M12 (bc - 2) (bs - 12))) ∧ (¬ ((lg_cmp (hp_L M12 a3 ((0 : Int32)).toNatClampNeg) ((v10).toInt64)) = 0) → (False)))))) ∧ (¬ (v4 = 0) → (R3219 a0 a1 a2 a3 a4 a5 M12 (bc - 2) (bs - 12))))) ∧ (¬ (v13 = v4) → (False))))))))))))))))) : am_J X 2119 [(0, .ref a0), (1, .ref a1), (2, .ref a2), (3, .ref a3), (4, .ref a4), (5, .int a5)] [] M bc bs := by
  refine j_aload_n hX eL_law_2119 1 rfl ?_
  refine j_aload_n hX eL_law_2120 0 rfl ?_
  refine j_iload hX eL_law_2121 5 rfl ?_
  refine j_iconst (v := (1 : Int32)) hX eL_law_2123 (by decide) ?_
  refine j_iadd hX eL_law_2124 ?_
  obtain ⟨t1, h⟩ := h
  obtain ⟨i2, h⟩ := h
  refine j_ialdx hX eL_law_2125 t1 i2 ?_
  refine j_aload_n hX eL_law_2126 3 rfl ?_
  obtain ⟨b5, b6, h⟩ := h
  refine j_callSX (r' := rL_stepsUntilBoarding) (As := [.ref a1, .int (hp_E M a0 ((a5 + (1 : Int32))).toNatClampNeg), .ref a3]) (rest := []) (d1 := d) hX eL_law_2127 mm_LiftGroupLaw_285 (by decide) rfl h rfl (Nat.le_refl _) b5 b6 (Nat.le_of_ble_eq_true rfl) (fun vz9 Mz9 qz9 => ?_) (fun Ez9 Mz9 qz9 => ?_)
  · obtain ⟨M3, eMz9⟩ : ∃ M3, M3 = Mz9 := ⟨_, rfl⟩; subst eMz9
    obtain ⟨v4, hxz9, h⟩ := qz9
    cases hxz9
    refine j_istore (lv' := [(6, .int v4), (0, .ref a0), (1, .ref a1), (2, .ref a2), (3, .ref a3), (4, .ref a4), (5, .int a5)]) hX eL_law_2130 (by decide) rfl ?_
    refine j_aload_n hX eL_law_2132 3 rfl ?_
    refine j_aload_n hX eL_law_2133 1 rfl ?_
    refine j_iload hX eL_law_2134 6 rfl ?_
    refine j_iconst (v := (1 : Int32)) hX eL_law_2136 (by decide) ?_
    refine j_iadd hX eL_law_2137 ?_
    obtain ⟨t7, h⟩ := h
    obtain ⟨i8, h⟩ := h
    refine j_ialdx hX eL_law_2138 t7 i8 ?_
    obtain ⟨t11, h⟩ := h
    refine j_callV (a := a2) (q := (RX7, TX7, 17)) (r' := rX7_stepsUntilBoarding) (As := [.int (hp_E M3 a0 ((a5 + (1 : Int32))).toNatClampNeg)]) (rest := []) (d1 := d) hX eL_law_2139 mm_LiftGroupLaw_287 rfl t11 (by decide) rfl h rfl (Nat.le_refl _) (Nat.zero_le _) (Nat.zero_le _) (Nat.le_of_ble_eq_true rfl) (fun vz9 Mz9 qz9 => ?_) (fun Ez9 Mz9 qz9 => ?_)
    · obtain ⟨M9, eMz9⟩ : ∃ M9, M9 = Mz9 := ⟨_, rfl⟩; subst eMz9
      obtain ⟨v10, hxz9, h⟩ := qz9
      cases hxz9
      refine j_istore (lv' := [(7, .int v10), (6, .int v4), (0, .ref a0), (1, .ref a1), (2, .ref a2), (3, .ref a3), (4, .ref a4), (5, .int a5)]) hX eL_law_2142 (by decide) rfl ?_
      refine j_aload_n hX eL_law_2144 4 rfl ?_
      obtain ⟨t14, h⟩ := h
      refine j_callV (a := a2) (q := (RX7, TX7, 17)) (r' := rX7_thrown) (As := []) (rest := []) (d1 := d) hX eL_law_2145 mm_LiftGroupLaw_185 rfl t14 (by decide) rfl h rfl (Nat.le_refl _) (Nat.zero_le _) (Nat.zero_le _) (Nat.le_of_ble_eq_true rfl) (fun vz9 Mz9 qz9 => ?_) (fun Ez9 Mz9 qz9 => ?_)
      · obtain ⟨M12, eMz9⟩ : ∃ M12, M12 = Mz9 := ⟨_, rfl⟩; subst eMz9
        obtain ⟨v13, hxz9, h⟩ := qz9
        cases hxz9
        refine j_iload hX eL_law_2148 1 rfl ?_
        refine j_icmp_eq hX 2155 eL_law_2150 (by decide) (fun c15 => ?_) (fun c15 => ?_)
        · replace h := h.1 c15
          refine j_iload hX eL_law_2155 1 rfl ?_
          refine j_if_ne hX 2172 eL_law_2157 (by decide) (fun c16 => ?_) (fun c16 => ?_)
          · replace h := h.2 c16
            refine j_goto hX 3219 eL_law_2172 (by decide) ?_
            exact j_sub [2, 3, 4, 5, 6, 7] rfl (k3219 _ _ _ _ _ _ _ _ _ h)
          · replace h := h.1 c16
            refine j_aload_n hX eL_law_2160 5 rfl ?_
            refine j_iconst (v := (0 : Int32)) hX eL_law_2161 (by decide) ?_
            obtain ⟨t17, h⟩ := h
            obtain ⟨i18, h⟩ := h
            refine j_lald hX eL_law_2162 t17 i18 ?_
            refine j_iload hX eL_law_2163 0 rfl ?_
            refine j_i2l hX eL_law_2165 ?_
            refine j_lcmp hX eL_law_2166 ?_
            refine j_if_eq hX 2172 eL_law_2167 (by decide) (fun c19 => ?_) (fun c19 => ?_)
            · replace h := h.1 c19
              refine j_goto hX 3219 eL_law_2172 (by decide) ?_
              exact j_sub [2, 3, 4, 5, 6, 7] rfl (k3219 _ _ _ _ _ _ _ _ _ h)
            · replace h := h.2 c19
              refine j_iconst (v := (0 : Int32)) hX eL_law_2170 (by decide) ?_
              exact h.elim
        · replace h := h.2 c15
          refine j_iconst (v := (0 : Int32)) hX eL_law_2153 (by decide) ?_
          exact h.elim
      · obtain ⟨v13, hxz9, h⟩ := qz9
        cases hxz9
    · obtain ⟨v10, hxz9, h⟩ := qz9
      cases hxz9
  · obtain ⟨v4, hxz9, h⟩ := qz9
    cases hxz9
set_option maxHeartbeats 4000000 in
set_option maxRecDepth 20000 in
theorem vL_law_2175 {X : am_Cx} {G : am_Gx} {d : Nat} (hX : am_ok X rL_law G (d + 1)) (hret : ∀ {pc : Nat} {lv : List (Nat × Value)} {M : am_Hp} {bc bs : Nat}, decode rL_law.2.1 pc = .ok (.ireturn, 1) → am_J X pc lv [.int (1 : Int32)] M bc bs) {bc bs : Nat} (R3219 : Nat → Nat → Nat → Nat → Nat → Int32 → am_Hp → Nat → Nat → Prop) (k3219 : ∀ (x0 : Nat) (x1 : Nat) (x2 : Nat) (x3 : Nat) (x4 : Nat) (x5 : Int32) (M : am_Hp) (bc bs : Nat), R3219 x0 x1 x2 x3 x4 x5 M bc bs → am_J X 3219 [(0, .ref x0), (1, .ref x1), (2, .ref x2), (3, .ref x3), (4, .ref x4), (5, .int x5)] [] M bc bs) {a0 : Nat} {a1 : Nat} {a2 : Nat} {a3 : Nat} {a4 : Nat} {a5 : Int32} {M : am_Hp} (h : hp_T M (a0) = 42 ∧ (vp_in (a5 + (1 : Int32)) (hp_N M a0) ∧ (2 ≤ bc ∧ (12 ≤ bs ∧ (am_CT G d rL_stepsUntilArrival [.ref a1, .int (hp_E M a0 ((a5 + (1 : Int32))).toNatClampNeg), .ref a3] M 2 12 (fun oz9 M3 => ∃ v4 : Int32, oz9 = .inl (some (.int v4)) ∧ (hp_T M3 (a0) = 42 ∧ (vp_in (a5 + (1 : Int32)) (hp_N M3 a0) ∧ (hp_T M3 (a2) = 8 ∧ (am_CT G d rX7_stepsUntilArrival [.ref a2, .int (hp_E M3 a0 ((a5 + (1 : Int32))).toNatClampNeg)] M3 0 0 (fun oz9 M9 => ∃ v10 : Int32, oz9 = .inl (some (.int v10)) ∧ (hp_T M9 (a2) = 8 ∧ (am_CT G d rX7_thrown [.ref a2] M9 0 0 (fun oz9 M12 => ∃ v13 : Int32, oz9 = .inl (some (.int v13)) ∧ (((v13 = v4) → (((v4 = 0) → (hp_T M12 (a3) = 23 ∧ (vp_in (0 : Int32) (hp_N M12 a3) ∧ ((((lg_cmp (hp_L M12 a3 ((0 : Int32)).toNatClampNeg) ((v10).toInt64)) = 0) → (R3219 a0 a1 a2 a3 a4 a5 M12 (bc - 2) (bs - 12))) ∧ (¬ ((lg_cmp (hp_L M12 a3 ((0 : Int32)).toNatClampNeg) ((v10).toInt64)) = 0) → (False)))))) ∧ (¬ (v4 = 0) → (R3219 a0 a1 a2 a3 a4 a5 M12 (bc - 2) (bs - 12))))) ∧ (¬ (v13 = v4) → (False))))))))))))))))) : am_J X 2175 [(0, .ref a0), (1, .ref a1), (2, .ref a2), (3, .ref a3), (4, .ref a4), (5, .int a5)] [] M bc bs := by
  refine j_aload_n hX eL_law_2175 1 rfl ?_
  refine j_aload_n hX eL_law_2176 0 rfl ?_
  refine j_iload hX eL_law_2177 5 rfl ?_
  refine j_iconst (v := (1 : Int32)) hX eL_law_2179 (by decide) ?_
  refine j_iadd hX eL_law_2180 ?_
  obtain ⟨t1, h⟩ := h
  obtain ⟨i2, h⟩ := h
  refine j_ialdx hX eL_law_2181 t1 i2 ?_
  refine j_aload_n hX eL_law_2182 3 rfl ?_
  obtain ⟨b5, b6, h⟩ := h
  refine j_callSX (r' := rL_stepsUntilArrival) (As := [.ref a1, .int (hp_E M a0 ((a5 + (1 : Int32))).toNatClampNeg), .ref a3]) (rest := []) (d1 := d) hX eL_law_2183 mm_LiftGroupLaw_288 (by decide) rfl h rfl (Nat.le_refl _) b5 b6 (Nat.le_of_ble_eq_true rfl) (fun vz9 Mz9 qz9 => ?_) (fun Ez9 Mz9 qz9 => ?_)
  · obtain ⟨M3, eMz9⟩ : ∃ M3, M3 = Mz9 := ⟨_, rfl⟩; subst eMz9
    obtain ⟨v4, hxz9, h⟩ := qz9
    cases hxz9
    refine j_istore (lv' := [(6, .int v4), (0, .ref a0), (1, .ref a1), (2, .ref a2), (3, .ref a3), (4, .ref a4), (5, .int a5)]) hX eL_law_2186 (by decide) rfl ?_
    refine j_aload_n hX eL_law_2188 3 rfl ?_
    refine j_aload_n hX eL_law_2189 1 rfl ?_
    refine j_iload hX eL_law_2190 6 rfl ?_
    refine j_iconst (v := (1 : Int32)) hX eL_law_2192 (by decide) ?_
    refine j_iadd hX eL_law_2193 ?_
    obtain ⟨t7, h⟩ := h
    obtain ⟨i8, h⟩ := h
    refine j_ialdx hX eL_law_2194 t7 i8 ?_
    obtain ⟨t11, h⟩ := h
    refine j_callV (a := a2) (q := (RX7, TX7, 17)) (r' := rX7_stepsUntilArrival) (As := [.int (hp_E M3 a0 ((a5 + (1 : Int32))).toNatClampNeg)]) (rest := []) (d1 := d) hX eL_law_2195 mm_LiftGroupLaw_290 rfl t11 (by decide) rfl h rfl (Nat.le_refl _) (Nat.zero_le _) (Nat.zero_le _) (Nat.le_of_ble_eq_true rfl) (fun vz9 Mz9 qz9 => ?_) (fun Ez9 Mz9 qz9 => ?_)
    · obtain ⟨M9, eMz9⟩ : ∃ M9, M9 = Mz9 := ⟨_, rfl⟩; subst eMz9
      obtain ⟨v10, hxz9, h⟩ := qz9
      cases hxz9
      refine j_istore (lv' := [(7, .int v10), (6, .int v4), (0, .ref a0), (1, .ref a1), (2, .ref a2), (3, .ref a3), (4, .ref a4), (5, .int a5)]) hX eL_law_2198 (by decide) rfl ?_
      refine j_aload_n hX eL_law_2200 4 rfl ?_
      obtain ⟨t14, h⟩ := h
      refine j_callV (a := a2) (q := (RX7, TX7, 17)) (r' := rX7_thrown) (As := []) (rest := []) (d1 := d) hX eL_law_2201 mm_LiftGroupLaw_185 rfl t14 (by decide) rfl h rfl (Nat.le_refl _) (Nat.zero_le _) (Nat.zero_le _) (Nat.le_of_ble_eq_true rfl) (fun vz9 Mz9 qz9 => ?_) (fun Ez9 Mz9 qz9 => ?_)
      · obtain ⟨M12, eMz9⟩ : ∃ M12, M12 = Mz9 := ⟨_, rfl⟩; subst eMz9
        obtain ⟨v13, hxz9, h⟩ := qz9
        cases hxz9
        refine j_iload hX eL_law_2204 1 rfl ?_
        refine j_icmp_eq hX 2211 eL_law_2206 (by decide) (fun c15 => ?_) (fun c15 => ?_)
        · replace h := h.1 c15
          refine j_iload hX eL_law_2211 1 rfl ?_
          refine j_if_ne hX 2228 eL_law_2213 (by decide) (fun c16 => ?_) (fun c16 => ?_)
          · replace h := h.2 c16
            refine j_goto hX 3219 eL_law_2228 (by decide) ?_
            exact j_sub [2, 3, 4, 5, 6, 7] rfl (k3219 _ _ _ _ _ _ _ _ _ h)
          · replace h := h.1 c16
            refine j_aload_n hX eL_law_2216 5 rfl ?_
            refine j_iconst (v := (0 : Int32)) hX eL_law_2217 (by decide) ?_
            obtain ⟨t17, h⟩ := h
            obtain ⟨i18, h⟩ := h
            refine j_lald hX eL_law_2218 t17 i18 ?_
            refine j_iload hX eL_law_2219 0 rfl ?_
            refine j_i2l hX eL_law_2221 ?_
            refine j_lcmp hX eL_law_2222 ?_
            refine j_if_eq hX 2228 eL_law_2223 (by decide) (fun c19 => ?_) (fun c19 => ?_)
            · replace h := h.1 c19
              refine j_goto hX 3219 eL_law_2228 (by decide) ?_
              exact j_sub [2, 3, 4, 5, 6, 7] rfl (k3219 _ _ _ _ _ _ _ _ _ h)
            · replace h := h.2 c19
              refine j_iconst (v := (0 : Int32)) hX eL_law_2226 (by decide) ?_
              exact h.elim
        · replace h := h.2 c15
          refine j_iconst (v := (0 : Int32)) hX eL_law_2209 (by decide) ?_
          exact h.elim
      · obtain ⟨v13, hxz9, h⟩ := qz9
        cases hxz9
    · obtain ⟨v10, hxz9, h⟩ := qz9
      cases hxz9
  · obtain ⟨v4, hxz9, h⟩ := qz9
    cases hxz9
set_option maxHeartbeats 4000000 in
set_option maxRecDepth 20000 in
theorem vL_law_2231 {X : am_Cx} {G : am_Gx} {d : Nat} (hX : am_ok X rL_law G (d + 1)) (hret : ∀ {pc : Nat} {lv : List (Nat × Value)} {M : am_Hp} {bc bs : Nat}, decode rL_law.2.1 pc = .ok (.ireturn, 1) → am_J X pc lv [.int (1 : Int32)] M bc bs) {bc bs : Nat} (R3219 : Nat → Nat → Nat → Nat → Nat → Int32 → am_Hp → Nat → Nat → Prop) (k3219 : ∀ (x0 : Nat) (x1 : Nat) (x2 : Nat) (x3 : Nat) (x4 : Nat) (x5 : Int32) (M : am_Hp) (bc bs : Nat), R3219 x0 x1 x2 x3 x4 x5 M bc bs → am_J X 3219 [(0, .ref x0), (1, .ref x1), (2, .ref x2), (3, .ref x3), (4, .ref x4), (5, .int x5)] [] M bc bs) {a0 : Nat} {a1 : Nat} {a2 : Nat} {a3 : Nat} {a4 : Nat} {a5 : Int32} {M : am_Hp} (h : hp_T M (a0) = 42 ∧ (vp_in (a5 + (1 : Int32)) (hp_N M a0) ∧ (1 ≤ bc ∧ (6 ≤ bs ∧ (am_CT G d rL_tripsWithin [.ref a1, .int (hp_E M a0 ((a5 + (1 : Int32))).toNatClampNeg), .ref a3] M 1 6 (fun oz9 M3 => ∃ v4 : Int32, oz9 = .inl (some (.int v4)) ∧ (hp_T M3 (a0) = 42 ∧ (vp_in (a5 + (1 : Int32)) (hp_N M3 a0) ∧ (hp_T M3 (a2) = 8 ∧ (am_CT G d rX7_tripsWithin [.ref a2, .int (hp_E M3 a0 ((a5 + (1 : Int32))).toNatClampNeg)] M3 0 0 (fun oz9 M9 => ∃ v10 : Int32, oz9 = .inl (some (.int v10)) ∧ (hp_T M9 (a2) = 8 ∧ (am_CT G d rX7_thrown [.ref a2] M9 0 0 (fun oz9 M12 => ∃ v13 : Int32, oz9 = .inl (some (.int v13)) ∧ (((v13 = v4) → (((v4 = 0) → (hp_T M12 (a3) = 23 ∧ (vp_in (0 : Int32) (hp_N M12 a3) ∧ ((((lg_cmp (hp_L M12 a3 ((0 : Int32)).toNatClampNeg) ((v10).toInt64)) = 0) → (R3219 a0 a1 a2 a3 a4 a5 M12 (bc - 1) (bs - 6))) ∧ (¬ ((lg_cmp (hp_L M12 a3 ((0 : Int32)).toNatClampNeg) ((v10).toInt64)) = 0) → (False)))))) ∧ (¬ (v4 = 0) → (R3219 a0 a1 a2 a3 a4 a5 M12 (bc - 1) (bs - 6))))) ∧ (¬ (v13 = v4) → (False))))))))))))))))) : am_J X 2231 [(0, .ref a0), (1, .ref a1), (2, .ref a2), (3, .ref a3), (4, .ref a4), (5, .int a5)] [] M bc bs := by
  refine j_aload_n hX eL_law_2231 1 rfl ?_
  refine j_aload_n hX eL_law_2232 0 rfl ?_
  refine j_iload hX eL_law_2233 5 rfl ?_
  refine j_iconst (v := (1 : Int32)) hX eL_law_2235 (by decide) ?_
  refine j_iadd hX eL_law_2236 ?_
  obtain ⟨t1, h⟩ := h
  obtain ⟨i2, h⟩ := h
  refine j_ialdx hX eL_law_2237 t1 i2 ?_
  refine j_aload_n hX eL_law_2238 3 rfl ?_
  obtain ⟨b5, b6, h⟩ := h
  refine j_callSX (r' := rL_tripsWithin) (As := [.ref a1, .int (hp_E M a0 ((a5 + (1 : Int32))).toNatClampNeg), .ref a3]) (rest := []) (d1 := d) hX eL_law_2239 mm_LiftGroupLaw_291 (by decide) rfl h rfl (Nat.le_refl _) b5 b6 (Nat.le_of_ble_eq_true rfl) (fun vz9 Mz9 qz9 => ?_) (fun Ez9 Mz9 qz9 => ?_)
  · obtain ⟨M3, eMz9⟩ : ∃ M3, M3 = Mz9 := ⟨_, rfl⟩; subst eMz9
    obtain ⟨v4, hxz9, h⟩ := qz9
    cases hxz9
    refine j_istore (lv' := [(6, .int v4), (0, .ref a0), (1, .ref a1), (2, .ref a2), (3, .ref a3), (4, .ref a4), (5, .int a5)]) hX eL_law_2242 (by decide) rfl ?_
    refine j_aload_n hX eL_law_2244 3 rfl ?_
    refine j_aload_n hX eL_law_2245 1 rfl ?_
    refine j_iload hX eL_law_2246 6 rfl ?_
    refine j_iconst (v := (1 : Int32)) hX eL_law_2248 (by decide) ?_
    refine j_iadd hX eL_law_2249 ?_
    obtain ⟨t7, h⟩ := h
    obtain ⟨i8, h⟩ := h
    refine j_ialdx hX eL_law_2250 t7 i8 ?_
    obtain ⟨t11, h⟩ := h
    refine j_callV (a := a2) (q := (RX7, TX7, 17)) (r' := rX7_tripsWithin) (As := [.int (hp_E M3 a0 ((a5 + (1 : Int32))).toNatClampNeg)]) (rest := []) (d1 := d) hX eL_law_2251 mm_LiftGroupLaw_293 rfl t11 (by decide) rfl h rfl (Nat.le_refl _) (Nat.zero_le _) (Nat.zero_le _) (Nat.le_of_ble_eq_true rfl) (fun vz9 Mz9 qz9 => ?_) (fun Ez9 Mz9 qz9 => ?_)
    · obtain ⟨M9, eMz9⟩ : ∃ M9, M9 = Mz9 := ⟨_, rfl⟩; subst eMz9
      obtain ⟨v10, hxz9, h⟩ := qz9
      cases hxz9
      refine j_istore (lv' := [(7, .int v10), (6, .int v4), (0, .ref a0), (1, .ref a1), (2, .ref a2), (3, .ref a3), (4, .ref a4), (5, .int a5)]) hX eL_law_2254 (by decide) rfl ?_
      refine j_aload_n hX eL_law_2256 4 rfl ?_
      obtain ⟨t14, h⟩ := h
      refine j_callV (a := a2) (q := (RX7, TX7, 17)) (r' := rX7_thrown) (As := []) (rest := []) (d1 := d) hX eL_law_2257 mm_LiftGroupLaw_185 rfl t14 (by decide) rfl h rfl (Nat.le_refl _) (Nat.zero_le _) (Nat.zero_le _) (Nat.le_of_ble_eq_true rfl) (fun vz9 Mz9 qz9 => ?_) (fun Ez9 Mz9 qz9 => ?_)
      · obtain ⟨M12, eMz9⟩ : ∃ M12, M12 = Mz9 := ⟨_, rfl⟩; subst eMz9
        obtain ⟨v13, hxz9, h⟩ := qz9
        cases hxz9
        refine j_iload hX eL_law_2260 1 rfl ?_
        refine j_icmp_eq hX 2267 eL_law_2262 (by decide) (fun c15 => ?_) (fun c15 => ?_)
        · replace h := h.1 c15
          refine j_iload hX eL_law_2267 1 rfl ?_
          refine j_if_ne hX 2284 eL_law_2269 (by decide) (fun c16 => ?_) (fun c16 => ?_)
          · replace h := h.2 c16
            refine j_goto hX 3219 eL_law_2284 (by decide) ?_
            exact j_sub [2, 3, 4, 5, 6, 7] rfl (k3219 _ _ _ _ _ _ _ _ _ h)
          · replace h := h.1 c16
            refine j_aload_n hX eL_law_2272 5 rfl ?_
            refine j_iconst (v := (0 : Int32)) hX eL_law_2273 (by decide) ?_
            obtain ⟨t17, h⟩ := h
            obtain ⟨i18, h⟩ := h
            refine j_lald hX eL_law_2274 t17 i18 ?_
            refine j_iload hX eL_law_2275 0 rfl ?_
            refine j_i2l hX eL_law_2277 ?_
            refine j_lcmp hX eL_law_2278 ?_
            refine j_if_eq hX 2284 eL_law_2279 (by decide) (fun c19 => ?_) (fun c19 => ?_)
            · replace h := h.1 c19
              refine j_goto hX 3219 eL_law_2284 (by decide) ?_
              exact j_sub [2, 3, 4, 5, 6, 7] rfl (k3219 _ _ _ _ _ _ _ _ _ h)
            · replace h := h.2 c19
              refine j_iconst (v := (0 : Int32)) hX eL_law_2282 (by decide) ?_
              exact h.elim
        · replace h := h.2 c15
          refine j_iconst (v := (0 : Int32)) hX eL_law_2265 (by decide) ?_
          exact h.elim
      · obtain ⟨v13, hxz9, h⟩ := qz9
        cases hxz9
    · obtain ⟨v10, hxz9, h⟩ := qz9
      cases hxz9
  · obtain ⟨v4, hxz9, h⟩ := qz9
    cases hxz9
set_option maxHeartbeats 4000000 in
set_option maxRecDepth 20000 in
theorem vL_law_2287 {X : am_Cx} {G : am_Gx} {d : Nat} (hX : am_ok X rL_law G (d + 1)) (hret : ∀ {pc : Nat} {lv : List (Nat × Value)} {M : am_Hp} {bc bs : Nat}, decode rL_law.2.1 pc = .ok (.ireturn, 1) → am_J X pc lv [.int (1 : Int32)] M bc bs) {bc bs : Nat} (R3219 : Nat → Nat → Nat → Nat → Nat → Int32 → am_Hp → Nat → Nat → Prop) (k3219 : ∀ (x0 : Nat) (x1 : Nat) (x2 : Nat) (x3 : Nat) (x4 : Nat) (x5 : Int32) (M : am_Hp) (bc bs : Nat), R3219 x0 x1 x2 x3 x4 x5 M bc bs → am_J X 3219 [(0, .ref x0), (1, .ref x1), (2, .ref x2), (3, .ref x3), (4, .ref x4), (5, .int x5)] [] M bc bs) {a0 : Nat} {a1 : Nat} {a2 : Nat} {a3 : Nat} {a4 : Nat} {a5 : Int32} {M : am_Hp} (h : hp_T M (a0) = 42 ∧ (vp_in (a5 + (1 : Int32)) (hp_N M a0) ∧ (1 ≤ bc ∧ (6 ≤ bs ∧ (am_CT G d rL_passengerByWaiting [.ref a1, .int (hp_E M a0 ((a5 + (1 : Int32))).toNatClampNeg), .ref a3] M 1 6 (fun oz9 M3 => ∃ v4 : Int32, oz9 = .inl (some (.int v4)) ∧ (hp_T M3 (a0) = 42 ∧ (vp_in (a5 + (1 : Int32)) (hp_N M3 a0) ∧ (hp_T M3 (a2) = 8 ∧ (am_CT G d rX7_passengerByWaiting [.ref a2, .int (hp_E M3 a0 ((a5 + (1 : Int32))).toNatClampNeg)] M3 0 0 (fun oz9 M9 => ∃ v10 : Int32, oz9 = .inl (some (.int v10)) ∧ (hp_T M9 (a2) = 8 ∧ (am_CT G d rX7_thrown [.ref a2] M9 0 0 (fun oz9 M12 => ∃ v13 : Int32, oz9 = .inl (some (.int v13)) ∧ (((v13 = v4) → (((v4 = 0) → (hp_T M12 (a3) = 23 ∧ (vp_in (0 : Int32) (hp_N M12 a3) ∧ ((((lg_cmp (hp_L M12 a3 ((0 : Int32)).toNatClampNeg) ((v10).toInt64)) = 0) → (R3219 a0 a1 a2 a3 a4 a5 M12 (bc - 1) (bs - 6))) ∧ (¬ ((lg_cmp (hp_L M12 a3 ((0 : Int32)).toNatClampNeg) ((v10).toInt64)) = 0) → (False)))))) ∧ (¬ (v4 = 0) → (R3219 a0 a1 a2 a3 a4 a5 M12 (bc - 1) (bs - 6))))) ∧ (¬ (v13 = v4) → (False))))))))))))))))) : am_J X 2287 [(0, .ref a0), (1, .ref a1), (2, .ref a2), (3, .ref a3), (4, .ref a4), (5, .int a5)] [] M bc bs := by
  refine j_aload_n hX eL_law_2287 1 rfl ?_
  refine j_aload_n hX eL_law_2288 0 rfl ?_
  refine j_iload hX eL_law_2289 5 rfl ?_
  refine j_iconst (v := (1 : Int32)) hX eL_law_2291 (by decide) ?_
  refine j_iadd hX eL_law_2292 ?_
  obtain ⟨t1, h⟩ := h
  obtain ⟨i2, h⟩ := h
  refine j_ialdx hX eL_law_2293 t1 i2 ?_
  refine j_aload_n hX eL_law_2294 3 rfl ?_
  obtain ⟨b5, b6, h⟩ := h
  refine j_callSX (r' := rL_passengerByWaiting) (As := [.ref a1, .int (hp_E M a0 ((a5 + (1 : Int32))).toNatClampNeg), .ref a3]) (rest := []) (d1 := d) hX eL_law_2295 mm_LiftGroupLaw_294 (by decide) rfl h rfl (Nat.le_refl _) b5 b6 (Nat.le_of_ble_eq_true rfl) (fun vz9 Mz9 qz9 => ?_) (fun Ez9 Mz9 qz9 => ?_)
  · obtain ⟨M3, eMz9⟩ : ∃ M3, M3 = Mz9 := ⟨_, rfl⟩; subst eMz9
    obtain ⟨v4, hxz9, h⟩ := qz9
    cases hxz9
    refine j_istore (lv' := [(6, .int v4), (0, .ref a0), (1, .ref a1), (2, .ref a2), (3, .ref a3), (4, .ref a4), (5, .int a5)]) hX eL_law_2298 (by decide) rfl ?_
    refine j_aload_n hX eL_law_2300 3 rfl ?_
    refine j_aload_n hX eL_law_2301 1 rfl ?_
    refine j_iload hX eL_law_2302 6 rfl ?_
    refine j_iconst (v := (1 : Int32)) hX eL_law_2304 (by decide) ?_
    refine j_iadd hX eL_law_2305 ?_
    obtain ⟨t7, h⟩ := h
    obtain ⟨i8, h⟩ := h
    refine j_ialdx hX eL_law_2306 t7 i8 ?_
    obtain ⟨t11, h⟩ := h
    refine j_callV (a := a2) (q := (RX7, TX7, 17)) (r' := rX7_passengerByWaiting) (As := [.int (hp_E M3 a0 ((a5 + (1 : Int32))).toNatClampNeg)]) (rest := []) (d1 := d) hX eL_law_2307 mm_LiftGroupLaw_296 rfl t11 (by decide) rfl h rfl (Nat.le_refl _) (Nat.zero_le _) (Nat.zero_le _) (Nat.le_of_ble_eq_true rfl) (fun vz9 Mz9 qz9 => ?_) (fun Ez9 Mz9 qz9 => ?_)
    · obtain ⟨M9, eMz9⟩ : ∃ M9, M9 = Mz9 := ⟨_, rfl⟩; subst eMz9
      obtain ⟨v10, hxz9, h⟩ := qz9
      cases hxz9
      refine j_istore (lv' := [(7, .int v10), (6, .int v4), (0, .ref a0), (1, .ref a1), (2, .ref a2), (3, .ref a3), (4, .ref a4), (5, .int a5)]) hX eL_law_2310 (by decide) rfl ?_
      refine j_aload_n hX eL_law_2312 4 rfl ?_
      obtain ⟨t14, h⟩ := h
      refine j_callV (a := a2) (q := (RX7, TX7, 17)) (r' := rX7_thrown) (As := []) (rest := []) (d1 := d) hX eL_law_2313 mm_LiftGroupLaw_185 rfl t14 (by decide) rfl h rfl (Nat.le_refl _) (Nat.zero_le _) (Nat.zero_le _) (Nat.le_of_ble_eq_true rfl) (fun vz9 Mz9 qz9 => ?_) (fun Ez9 Mz9 qz9 => ?_)
      · obtain ⟨M12, eMz9⟩ : ∃ M12, M12 = Mz9 := ⟨_, rfl⟩; subst eMz9
        obtain ⟨v13, hxz9, h⟩ := qz9
        cases hxz9
        refine j_iload hX eL_law_2316 1 rfl ?_
        refine j_icmp_eq hX 2323 eL_law_2318 (by decide) (fun c15 => ?_) (fun c15 => ?_)
        · replace h := h.1 c15
          refine j_iload hX eL_law_2323 1 rfl ?_
          refine j_if_ne hX 2340 eL_law_2325 (by decide) (fun c16 => ?_) (fun c16 => ?_)
          · replace h := h.2 c16
            refine j_goto hX 3219 eL_law_2340 (by decide) ?_
            exact j_sub [2, 3, 4, 5, 6, 7] rfl (k3219 _ _ _ _ _ _ _ _ _ h)
          · replace h := h.1 c16
            refine j_aload_n hX eL_law_2328 5 rfl ?_
            refine j_iconst (v := (0 : Int32)) hX eL_law_2329 (by decide) ?_
            obtain ⟨t17, h⟩ := h
            obtain ⟨i18, h⟩ := h
            refine j_lald hX eL_law_2330 t17 i18 ?_
            refine j_iload hX eL_law_2331 0 rfl ?_
            refine j_i2l hX eL_law_2333 ?_
            refine j_lcmp hX eL_law_2334 ?_
            refine j_if_eq hX 2340 eL_law_2335 (by decide) (fun c19 => ?_) (fun c19 => ?_)
            · replace h := h.1 c19
              refine j_goto hX 3219 eL_law_2340 (by decide) ?_
              exact j_sub [2, 3, 4, 5, 6, 7] rfl (k3219 _ _ _ _ _ _ _ _ _ h)
            · replace h := h.2 c19
              refine j_iconst (v := (0 : Int32)) hX eL_law_2338 (by decide) ?_
              exact h.elim
        · replace h := h.2 c15
          refine j_iconst (v := (0 : Int32)) hX eL_law_2321 (by decide) ?_
          exact h.elim
      · obtain ⟨v13, hxz9, h⟩ := qz9
        cases hxz9
    · obtain ⟨v10, hxz9, h⟩ := qz9
      cases hxz9
  · obtain ⟨v4, hxz9, h⟩ := qz9
    cases hxz9
set_option maxHeartbeats 4000000 in
set_option maxRecDepth 20000 in
theorem vL_law_2343 {X : am_Cx} {G : am_Gx} {d : Nat} (hX : am_ok X rL_law G (d + 1)) (hret : ∀ {pc : Nat} {lv : List (Nat × Value)} {M : am_Hp} {bc bs : Nat}, decode rL_law.2.1 pc = .ok (.ireturn, 1) → am_J X pc lv [.int (1 : Int32)] M bc bs) {bc bs : Nat} (R3219 : Nat → Nat → Nat → Nat → Nat → Int32 → am_Hp → Nat → Nat → Prop) (k3219 : ∀ (x0 : Nat) (x1 : Nat) (x2 : Nat) (x3 : Nat) (x4 : Nat) (x5 : Int32) (M : am_Hp) (bc bs : Nat), R3219 x0 x1 x2 x3 x4 x5 M bc bs → am_J X 3219 [(0, .ref x0), (1, .ref x1), (2, .ref x2), (3, .ref x3), (4, .ref x4), (5, .int x5)] [] M bc bs) {a0 : Nat} {a1 : Nat} {a2 : Nat} {a3 : Nat} {a4 : Nat} {a5 : Int32} {M : am_Hp} (h : hp_T M (a0) = 42 ∧ (vp_in (a5 + (1 : Int32)) (hp_N M a0) ∧ (1 ≤ bc ∧ (6 ≤ bs ∧ (am_CT G d rL_carByEnergy [.ref a1, .int (hp_E M a0 ((a5 + (1 : Int32))).toNatClampNeg), .ref a3] M 1 6 (fun oz9 M3 => ∃ v4 : Int32, oz9 = .inl (some (.int v4)) ∧ (hp_T M3 (a0) = 42 ∧ (vp_in (a5 + (1 : Int32)) (hp_N M3 a0) ∧ (hp_T M3 (a2) = 8 ∧ (am_CT G d rX7_carByEnergy [.ref a2, .int (hp_E M3 a0 ((a5 + (1 : Int32))).toNatClampNeg)] M3 0 0 (fun oz9 M9 => ∃ v10 : Int32, oz9 = .inl (some (.int v10)) ∧ (hp_T M9 (a2) = 8 ∧ (am_CT G d rX7_thrown [.ref a2] M9 0 0 (fun oz9 M12 => ∃ v13 : Int32, oz9 = .inl (some (.int v13)) ∧ (((v13 = v4) → (((v4 = 0) → (hp_T M12 (a3) = 23 ∧ (vp_in (0 : Int32) (hp_N M12 a3) ∧ ((((lg_cmp (hp_L M12 a3 ((0 : Int32)).toNatClampNeg) ((v10).toInt64)) = 0) → (R3219 a0 a1 a2 a3 a4 a5 M12 (bc - 1) (bs - 6))) ∧ (¬ ((lg_cmp (hp_L M12 a3 ((0 : Int32)).toNatClampNeg) ((v10).toInt64)) = 0) → (False)))))) ∧ (¬ (v4 = 0) → (R3219 a0 a1 a2 a3 a4 a5 M12 (bc - 1) (bs - 6))))) ∧ (¬ (v13 = v4) → (False))))))))))))))))) : am_J X 2343 [(0, .ref a0), (1, .ref a1), (2, .ref a2), (3, .ref a3), (4, .ref a4), (5, .int a5)] [] M bc bs := by
  refine j_aload_n hX eL_law_2343 1 rfl ?_
  refine j_aload_n hX eL_law_2344 0 rfl ?_
  refine j_iload hX eL_law_2345 5 rfl ?_
  refine j_iconst (v := (1 : Int32)) hX eL_law_2347 (by decide) ?_
  refine j_iadd hX eL_law_2348 ?_
  obtain ⟨t1, h⟩ := h
  obtain ⟨i2, h⟩ := h
  refine j_ialdx hX eL_law_2349 t1 i2 ?_
  refine j_aload_n hX eL_law_2350 3 rfl ?_
  obtain ⟨b5, b6, h⟩ := h
  refine j_callSX (r' := rL_carByEnergy) (As := [.ref a1, .int (hp_E M a0 ((a5 + (1 : Int32))).toNatClampNeg), .ref a3]) (rest := []) (d1 := d) hX eL_law_2351 mm_LiftGroupLaw_297 (by decide) rfl h rfl (Nat.le_refl _) b5 b6 (Nat.le_of_ble_eq_true rfl) (fun vz9 Mz9 qz9 => ?_) (fun Ez9 Mz9 qz9 => ?_)
  · obtain ⟨M3, eMz9⟩ : ∃ M3, M3 = Mz9 := ⟨_, rfl⟩; subst eMz9
    obtain ⟨v4, hxz9, h⟩ := qz9
    cases hxz9
    refine j_istore (lv' := [(6, .int v4), (0, .ref a0), (1, .ref a1), (2, .ref a2), (3, .ref a3), (4, .ref a4), (5, .int a5)]) hX eL_law_2354 (by decide) rfl ?_
    refine j_aload_n hX eL_law_2356 3 rfl ?_
    refine j_aload_n hX eL_law_2357 1 rfl ?_
    refine j_iload hX eL_law_2358 6 rfl ?_
    refine j_iconst (v := (1 : Int32)) hX eL_law_2360 (by decide) ?_
    refine j_iadd hX eL_law_2361 ?_
    obtain ⟨t7, h⟩ := h
    obtain ⟨i8, h⟩ := h
    refine j_ialdx hX eL_law_2362 t7 i8 ?_
    obtain ⟨t11, h⟩ := h
    refine j_callV (a := a2) (q := (RX7, TX7, 17)) (r' := rX7_carByEnergy) (As := [.int (hp_E M3 a0 ((a5 + (1 : Int32))).toNatClampNeg)]) (rest := []) (d1 := d) hX eL_law_2363 mm_LiftGroupLaw_299 rfl t11 (by decide) rfl h rfl (Nat.le_refl _) (Nat.zero_le _) (Nat.zero_le _) (Nat.le_of_ble_eq_true rfl) (fun vz9 Mz9 qz9 => ?_) (fun Ez9 Mz9 qz9 => ?_)
    · obtain ⟨M9, eMz9⟩ : ∃ M9, M9 = Mz9 := ⟨_, rfl⟩; subst eMz9
      obtain ⟨v10, hxz9, h⟩ := qz9
      cases hxz9
      refine j_istore (lv' := [(7, .int v10), (6, .int v4), (0, .ref a0), (1, .ref a1), (2, .ref a2), (3, .ref a3), (4, .ref a4), (5, .int a5)]) hX eL_law_2366 (by decide) rfl ?_
      refine j_aload_n hX eL_law_2368 4 rfl ?_
      obtain ⟨t14, h⟩ := h
      refine j_callV (a := a2) (q := (RX7, TX7, 17)) (r' := rX7_thrown) (As := []) (rest := []) (d1 := d) hX eL_law_2369 mm_LiftGroupLaw_185 rfl t14 (by decide) rfl h rfl (Nat.le_refl _) (Nat.zero_le _) (Nat.zero_le _) (Nat.le_of_ble_eq_true rfl) (fun vz9 Mz9 qz9 => ?_) (fun Ez9 Mz9 qz9 => ?_)
      · obtain ⟨M12, eMz9⟩ : ∃ M12, M12 = Mz9 := ⟨_, rfl⟩; subst eMz9
        obtain ⟨v13, hxz9, h⟩ := qz9
        cases hxz9
        refine j_iload hX eL_law_2372 1 rfl ?_
        refine j_icmp_eq hX 2379 eL_law_2374 (by decide) (fun c15 => ?_) (fun c15 => ?_)
        · replace h := h.1 c15
          refine j_iload hX eL_law_2379 1 rfl ?_
          refine j_if_ne hX 2396 eL_law_2381 (by decide) (fun c16 => ?_) (fun c16 => ?_)
          · replace h := h.2 c16
            refine j_goto hX 3219 eL_law_2396 (by decide) ?_
            exact j_sub [2, 3, 4, 5, 6, 7] rfl (k3219 _ _ _ _ _ _ _ _ _ h)
          · replace h := h.1 c16
            refine j_aload_n hX eL_law_2384 5 rfl ?_
            refine j_iconst (v := (0 : Int32)) hX eL_law_2385 (by decide) ?_
            obtain ⟨t17, h⟩ := h
            obtain ⟨i18, h⟩ := h
            refine j_lald hX eL_law_2386 t17 i18 ?_
            refine j_iload hX eL_law_2387 0 rfl ?_
            refine j_i2l hX eL_law_2389 ?_
            refine j_lcmp hX eL_law_2390 ?_
            refine j_if_eq hX 2396 eL_law_2391 (by decide) (fun c19 => ?_) (fun c19 => ?_)
            · replace h := h.1 c19
              refine j_goto hX 3219 eL_law_2396 (by decide) ?_
              exact j_sub [2, 3, 4, 5, 6, 7] rfl (k3219 _ _ _ _ _ _ _ _ _ h)
            · replace h := h.2 c19
              refine j_iconst (v := (0 : Int32)) hX eL_law_2394 (by decide) ?_
              exact h.elim
        · replace h := h.2 c15
          refine j_iconst (v := (0 : Int32)) hX eL_law_2377 (by decide) ?_
          exact h.elim
      · obtain ⟨v13, hxz9, h⟩ := qz9
        cases hxz9
    · obtain ⟨v10, hxz9, h⟩ := qz9
      cases hxz9
  · obtain ⟨v4, hxz9, h⟩ := qz9
    cases hxz9
set_option maxHeartbeats 4000000 in
set_option maxRecDepth 20000 in
theorem vL_law_2399 {X : am_Cx} {G : am_Gx} {d : Nat} (hX : am_ok X rL_law G (d + 1)) (hret : ∀ {pc : Nat} {lv : List (Nat × Value)} {M : am_Hp} {bc bs : Nat}, decode rL_law.2.1 pc = .ok (.ireturn, 1) → am_J X pc lv [.int (1 : Int32)] M bc bs) {bc bs : Nat} (R3219 : Nat → Nat → Nat → Nat → Nat → Int32 → am_Hp → Nat → Nat → Prop) (k3219 : ∀ (x0 : Nat) (x1 : Nat) (x2 : Nat) (x3 : Nat) (x4 : Nat) (x5 : Int32) (M : am_Hp) (bc bs : Nat), R3219 x0 x1 x2 x3 x4 x5 M bc bs → am_J X 3219 [(0, .ref x0), (1, .ref x1), (2, .ref x2), (3, .ref x3), (4, .ref x4), (5, .int x5)] [] M bc bs) {a0 : Nat} {a1 : Nat} {a2 : Nat} {a3 : Nat} {a4 : Nat} {a5 : Int32} {M : am_Hp} (h : hp_T M (a0) = 42 ∧ (vp_in (a5 + (1 : Int32)) (hp_N M a0) ∧ (1 ≤ bc ∧ (6 ≤ bs ∧ (am_CT G d rL_tripNumber [.ref a1, .int (hp_E M a0 ((a5 + (1 : Int32))).toNatClampNeg), .ref a3] M 1 6 (fun oz9 M3 => ∃ v4 : Int32, oz9 = .inl (some (.int v4)) ∧ (hp_T M3 (a0) = 42 ∧ (vp_in (a5 + (1 : Int32)) (hp_N M3 a0) ∧ (hp_T M3 (a2) = 8 ∧ (am_CT G d rX7_tripNumber [.ref a2, .int (hp_E M3 a0 ((a5 + (1 : Int32))).toNatClampNeg)] M3 0 0 (fun oz9 M9 => ∃ v10 : Int32, oz9 = .inl (some (.int v10)) ∧ (hp_T M9 (a2) = 8 ∧ (am_CT G d rX7_thrown [.ref a2] M9 0 0 (fun oz9 M12 => ∃ v13 : Int32, oz9 = .inl (some (.int v13)) ∧ (((v13 = v4) → (((v4 = 0) → (hp_T M12 (a3) = 23 ∧ (vp_in (0 : Int32) (hp_N M12 a3) ∧ ((((lg_cmp (hp_L M12 a3 ((0 : Int32)).toNatClampNeg) ((v10).toInt64)) = 0) → (R3219 a0 a1 a2 a3 a4 a5 M12 (bc - 1) (bs - 6))) ∧ (¬ ((lg_cmp (hp_L M12 a3 ((0 : Int32)).toNatClampNeg) ((v10).toInt64)) = 0) → (False)))))) ∧ (¬ (v4 = 0) → (R3219 a0 a1 a2 a3 a4 a5 M12 (bc - 1) (bs - 6))))) ∧ (¬ (v13 = v4) → (False))))))))))))))))) : am_J X 2399 [(0, .ref a0), (1, .ref a1), (2, .ref a2), (3, .ref a3), (4, .ref a4), (5, .int a5)] [] M bc bs := by
  refine j_aload_n hX eL_law_2399 1 rfl ?_
  refine j_aload_n hX eL_law_2400 0 rfl ?_
  refine j_iload hX eL_law_2401 5 rfl ?_
  refine j_iconst (v := (1 : Int32)) hX eL_law_2403 (by decide) ?_
  refine j_iadd hX eL_law_2404 ?_
  obtain ⟨t1, h⟩ := h
  obtain ⟨i2, h⟩ := h
  refine j_ialdx hX eL_law_2405 t1 i2 ?_
  refine j_aload_n hX eL_law_2406 3 rfl ?_
  obtain ⟨b5, b6, h⟩ := h
  refine j_callSX (r' := rL_tripNumber) (As := [.ref a1, .int (hp_E M a0 ((a5 + (1 : Int32))).toNatClampNeg), .ref a3]) (rest := []) (d1 := d) hX eL_law_2407 mm_LiftGroupLaw_300 (by decide) rfl h rfl (Nat.le_refl _) b5 b6 (Nat.le_of_ble_eq_true rfl) (fun vz9 Mz9 qz9 => ?_) (fun Ez9 Mz9 qz9 => ?_)
  · obtain ⟨M3, eMz9⟩ : ∃ M3, M3 = Mz9 := ⟨_, rfl⟩; subst eMz9
    obtain ⟨v4, hxz9, h⟩ := qz9
    cases hxz9
    refine j_istore (lv' := [(6, .int v4), (0, .ref a0), (1, .ref a1), (2, .ref a2), (3, .ref a3), (4, .ref a4), (5, .int a5)]) hX eL_law_2410 (by decide) rfl ?_
    refine j_aload_n hX eL_law_2412 3 rfl ?_
    refine j_aload_n hX eL_law_2413 1 rfl ?_
    refine j_iload hX eL_law_2414 6 rfl ?_
    refine j_iconst (v := (1 : Int32)) hX eL_law_2416 (by decide) ?_
    refine j_iadd hX eL_law_2417 ?_
    obtain ⟨t7, h⟩ := h
    obtain ⟨i8, h⟩ := h
    refine j_ialdx hX eL_law_2418 t7 i8 ?_
    obtain ⟨t11, h⟩ := h
    refine j_callV (a := a2) (q := (RX7, TX7, 17)) (r' := rX7_tripNumber) (As := [.int (hp_E M3 a0 ((a5 + (1 : Int32))).toNatClampNeg)]) (rest := []) (d1 := d) hX eL_law_2419 mm_LiftGroupLaw_302 rfl t11 (by decide) rfl h rfl (Nat.le_refl _) (Nat.zero_le _) (Nat.zero_le _) (Nat.le_of_ble_eq_true rfl) (fun vz9 Mz9 qz9 => ?_) (fun Ez9 Mz9 qz9 => ?_)
    · obtain ⟨M9, eMz9⟩ : ∃ M9, M9 = Mz9 := ⟨_, rfl⟩; subst eMz9
      obtain ⟨v10, hxz9, h⟩ := qz9
      cases hxz9
      refine j_istore (lv' := [(7, .int v10), (6, .int v4), (0, .ref a0), (1, .ref a1), (2, .ref a2), (3, .ref a3), (4, .ref a4), (5, .int a5)]) hX eL_law_2422 (by decide) rfl ?_
      refine j_aload_n hX eL_law_2424 4 rfl ?_
      obtain ⟨t14, h⟩ := h
      refine j_callV (a := a2) (q := (RX7, TX7, 17)) (r' := rX7_thrown) (As := []) (rest := []) (d1 := d) hX eL_law_2425 mm_LiftGroupLaw_185 rfl t14 (by decide) rfl h rfl (Nat.le_refl _) (Nat.zero_le _) (Nat.zero_le _) (Nat.le_of_ble_eq_true rfl) (fun vz9 Mz9 qz9 => ?_) (fun Ez9 Mz9 qz9 => ?_)
      · obtain ⟨M12, eMz9⟩ : ∃ M12, M12 = Mz9 := ⟨_, rfl⟩; subst eMz9
        obtain ⟨v13, hxz9, h⟩ := qz9
        cases hxz9
        refine j_iload hX eL_law_2428 1 rfl ?_
        refine j_icmp_eq hX 2435 eL_law_2430 (by decide) (fun c15 => ?_) (fun c15 => ?_)
        · replace h := h.1 c15
          refine j_iload hX eL_law_2435 1 rfl ?_
          refine j_if_ne hX 2452 eL_law_2437 (by decide) (fun c16 => ?_) (fun c16 => ?_)
          · replace h := h.2 c16
            refine j_goto hX 3219 eL_law_2452 (by decide) ?_
            exact j_sub [2, 3, 4, 5, 6, 7] rfl (k3219 _ _ _ _ _ _ _ _ _ h)
          · replace h := h.1 c16
            refine j_aload_n hX eL_law_2440 5 rfl ?_
            refine j_iconst (v := (0 : Int32)) hX eL_law_2441 (by decide) ?_
            obtain ⟨t17, h⟩ := h
            obtain ⟨i18, h⟩ := h
            refine j_lald hX eL_law_2442 t17 i18 ?_
            refine j_iload hX eL_law_2443 0 rfl ?_
            refine j_i2l hX eL_law_2445 ?_
            refine j_lcmp hX eL_law_2446 ?_
            refine j_if_eq hX 2452 eL_law_2447 (by decide) (fun c19 => ?_) (fun c19 => ?_)
            · replace h := h.1 c19
              refine j_goto hX 3219 eL_law_2452 (by decide) ?_
              exact j_sub [2, 3, 4, 5, 6, 7] rfl (k3219 _ _ _ _ _ _ _ _ _ h)
            · replace h := h.2 c19
              refine j_iconst (v := (0 : Int32)) hX eL_law_2450 (by decide) ?_
              exact h.elim
        · replace h := h.2 c15
          refine j_iconst (v := (0 : Int32)) hX eL_law_2433 (by decide) ?_
          exact h.elim
      · obtain ⟨v13, hxz9, h⟩ := qz9
        cases hxz9
    · obtain ⟨v10, hxz9, h⟩ := qz9
      cases hxz9
  · obtain ⟨v4, hxz9, h⟩ := qz9
    cases hxz9
set_option maxHeartbeats 4000000 in
set_option maxRecDepth 20000 in
theorem vL_law_2455 {X : am_Cx} {G : am_Gx} {d : Nat} (hX : am_ok X rL_law G (d + 1)) (hret : ∀ {pc : Nat} {lv : List (Nat × Value)} {M : am_Hp} {bc bs : Nat}, decode rL_law.2.1 pc = .ok (.ireturn, 1) → am_J X pc lv [.int (1 : Int32)] M bc bs) {bc bs : Nat} (R3219 : Nat → Nat → Nat → Nat → Nat → Int32 → am_Hp → Nat → Nat → Prop) (k3219 : ∀ (x0 : Nat) (x1 : Nat) (x2 : Nat) (x3 : Nat) (x4 : Nat) (x5 : Int32) (M : am_Hp) (bc bs : Nat), R3219 x0 x1 x2 x3 x4 x5 M bc bs → am_J X 3219 [(0, .ref x0), (1, .ref x1), (2, .ref x2), (3, .ref x3), (4, .ref x4), (5, .int x5)] [] M bc bs) {a0 : Nat} {a1 : Nat} {a2 : Nat} {a3 : Nat} {a4 : Nat} {a5 : Int32} {M : am_Hp} (h : hp_T M (a0) = 42 ∧ (vp_in (a5 + (1 : Int32)) (hp_N M a0) ∧ (1 ≤ bc ∧ (6 ≤ bs ∧ (am_CT G d rL_tripCar [.ref a1, .int (hp_E M a0 ((a5 + (1 : Int32))).toNatClampNeg), .ref a3] M 1 6 (fun oz9 M3 => ∃ v4 : Int32, oz9 = .inl (some (.int v4)) ∧ (hp_T M3 (a0) = 42 ∧ (vp_in (a5 + (1 : Int32)) (hp_N M3 a0) ∧ (hp_T M3 (a2) = 8 ∧ (am_CT G d rX7_tripCar [.ref a2, .int (hp_E M3 a0 ((a5 + (1 : Int32))).toNatClampNeg)] M3 0 0 (fun oz9 M9 => ∃ v10 : Int32, oz9 = .inl (some (.int v10)) ∧ (hp_T M9 (a2) = 8 ∧ (am_CT G d rX7_thrown [.ref a2] M9 0 0 (fun oz9 M12 => ∃ v13 : Int32, oz9 = .inl (some (.int v13)) ∧ (((v13 = v4) → (((v4 = 0) → (hp_T M12 (a3) = 23 ∧ (vp_in (0 : Int32) (hp_N M12 a3) ∧ ((((lg_cmp (hp_L M12 a3 ((0 : Int32)).toNatClampNeg) ((v10).toInt64)) = 0) → (R3219 a0 a1 a2 a3 a4 a5 M12 (bc - 1) (bs - 6))) ∧ (¬ ((lg_cmp (hp_L M12 a3 ((0 : Int32)).toNatClampNeg) ((v10).toInt64)) = 0) → (False)))))) ∧ (¬ (v4 = 0) → (R3219 a0 a1 a2 a3 a4 a5 M12 (bc - 1) (bs - 6))))) ∧ (¬ (v13 = v4) → (False))))))))))))))))) : am_J X 2455 [(0, .ref a0), (1, .ref a1), (2, .ref a2), (3, .ref a3), (4, .ref a4), (5, .int a5)] [] M bc bs := by
  refine j_aload_n hX eL_law_2455 1 rfl ?_
  refine j_aload_n hX eL_law_2456 0 rfl ?_
  refine j_iload hX eL_law_2457 5 rfl ?_
  refine j_iconst (v := (1 : Int32)) hX eL_law_2459 (by decide) ?_
  refine j_iadd hX eL_law_2460 ?_
  obtain ⟨t1, h⟩ := h
  obtain ⟨i2, h⟩ := h
  refine j_ialdx hX eL_law_2461 t1 i2 ?_
  refine j_aload_n hX eL_law_2462 3 rfl ?_
  obtain ⟨b5, b6, h⟩ := h
  refine j_callSX (r' := rL_tripCar) (As := [.ref a1, .int (hp_E M a0 ((a5 + (1 : Int32))).toNatClampNeg), .ref a3]) (rest := []) (d1 := d) hX eL_law_2463 mm_LiftGroupLaw_303 (by decide) rfl h rfl (Nat.le_refl _) b5 b6 (Nat.le_of_ble_eq_true rfl) (fun vz9 Mz9 qz9 => ?_) (fun Ez9 Mz9 qz9 => ?_)
  · obtain ⟨M3, eMz9⟩ : ∃ M3, M3 = Mz9 := ⟨_, rfl⟩; subst eMz9
    obtain ⟨v4, hxz9, h⟩ := qz9
    cases hxz9
    refine j_istore (lv' := [(6, .int v4), (0, .ref a0), (1, .ref a1), (2, .ref a2), (3, .ref a3), (4, .ref a4), (5, .int a5)]) hX eL_law_2466 (by decide) rfl ?_
    refine j_aload_n hX eL_law_2468 3 rfl ?_
    refine j_aload_n hX eL_law_2469 1 rfl ?_
    refine j_iload hX eL_law_2470 6 rfl ?_
    refine j_iconst (v := (1 : Int32)) hX eL_law_2472 (by decide) ?_
    refine j_iadd hX eL_law_2473 ?_
    obtain ⟨t7, h⟩ := h
    obtain ⟨i8, h⟩ := h
    refine j_ialdx hX eL_law_2474 t7 i8 ?_
    obtain ⟨t11, h⟩ := h
    refine j_callV (a := a2) (q := (RX7, TX7, 17)) (r' := rX7_tripCar) (As := [.int (hp_E M3 a0 ((a5 + (1 : Int32))).toNatClampNeg)]) (rest := []) (d1 := d) hX eL_law_2475 mm_LiftGroupLaw_305 rfl t11 (by decide) rfl h rfl (Nat.le_refl _) (Nat.zero_le _) (Nat.zero_le _) (Nat.le_of_ble_eq_true rfl) (fun vz9 Mz9 qz9 => ?_) (fun Ez9 Mz9 qz9 => ?_)
    · obtain ⟨M9, eMz9⟩ : ∃ M9, M9 = Mz9 := ⟨_, rfl⟩; subst eMz9
      obtain ⟨v10, hxz9, h⟩ := qz9
      cases hxz9
      refine j_istore (lv' := [(7, .int v10), (6, .int v4), (0, .ref a0), (1, .ref a1), (2, .ref a2), (3, .ref a3), (4, .ref a4), (5, .int a5)]) hX eL_law_2478 (by decide) rfl ?_
      refine j_aload_n hX eL_law_2480 4 rfl ?_
      obtain ⟨t14, h⟩ := h
      refine j_callV (a := a2) (q := (RX7, TX7, 17)) (r' := rX7_thrown) (As := []) (rest := []) (d1 := d) hX eL_law_2481 mm_LiftGroupLaw_185 rfl t14 (by decide) rfl h rfl (Nat.le_refl _) (Nat.zero_le _) (Nat.zero_le _) (Nat.le_of_ble_eq_true rfl) (fun vz9 Mz9 qz9 => ?_) (fun Ez9 Mz9 qz9 => ?_)
      · obtain ⟨M12, eMz9⟩ : ∃ M12, M12 = Mz9 := ⟨_, rfl⟩; subst eMz9
        obtain ⟨v13, hxz9, h⟩ := qz9
        cases hxz9
        refine j_iload hX eL_law_2484 1 rfl ?_
        refine j_icmp_eq hX 2491 eL_law_2486 (by decide) (fun c15 => ?_) (fun c15 => ?_)
        · replace h := h.1 c15
          refine j_iload hX eL_law_2491 1 rfl ?_
          refine j_if_ne hX 2508 eL_law_2493 (by decide) (fun c16 => ?_) (fun c16 => ?_)
          · replace h := h.2 c16
            refine j_goto hX 3219 eL_law_2508 (by decide) ?_
            exact j_sub [2, 3, 4, 5, 6, 7] rfl (k3219 _ _ _ _ _ _ _ _ _ h)
          · replace h := h.1 c16
            refine j_aload_n hX eL_law_2496 5 rfl ?_
            refine j_iconst (v := (0 : Int32)) hX eL_law_2497 (by decide) ?_
            obtain ⟨t17, h⟩ := h
            obtain ⟨i18, h⟩ := h
            refine j_lald hX eL_law_2498 t17 i18 ?_
            refine j_iload hX eL_law_2499 0 rfl ?_
            refine j_i2l hX eL_law_2501 ?_
            refine j_lcmp hX eL_law_2502 ?_
            refine j_if_eq hX 2508 eL_law_2503 (by decide) (fun c19 => ?_) (fun c19 => ?_)
            · replace h := h.1 c19
              refine j_goto hX 3219 eL_law_2508 (by decide) ?_
              exact j_sub [2, 3, 4, 5, 6, 7] rfl (k3219 _ _ _ _ _ _ _ _ _ h)
            · replace h := h.2 c19
              refine j_iconst (v := (0 : Int32)) hX eL_law_2506 (by decide) ?_
              exact h.elim
        · replace h := h.2 c15
          refine j_iconst (v := (0 : Int32)) hX eL_law_2489 (by decide) ?_
          exact h.elim
      · obtain ⟨v13, hxz9, h⟩ := qz9
        cases hxz9
    · obtain ⟨v10, hxz9, h⟩ := qz9
      cases hxz9
  · obtain ⟨v4, hxz9, h⟩ := qz9
    cases hxz9
set_option maxHeartbeats 4000000 in
set_option maxRecDepth 20000 in
theorem vL_law_2511 {X : am_Cx} {G : am_Gx} {d : Nat} (hX : am_ok X rL_law G (d + 1)) (hret : ∀ {pc : Nat} {lv : List (Nat × Value)} {M : am_Hp} {bc bs : Nat}, decode rL_law.2.1 pc = .ok (.ireturn, 1) → am_J X pc lv [.int (1 : Int32)] M bc bs) {bc bs : Nat} (R3219 : Nat → Nat → Nat → Nat → Nat → Int32 → am_Hp → Nat → Nat → Prop) (k3219 : ∀ (x0 : Nat) (x1 : Nat) (x2 : Nat) (x3 : Nat) (x4 : Nat) (x5 : Int32) (M : am_Hp) (bc bs : Nat), R3219 x0 x1 x2 x3 x4 x5 M bc bs → am_J X 3219 [(0, .ref x0), (1, .ref x1), (2, .ref x2), (3, .ref x3), (4, .ref x4), (5, .int x5)] [] M bc bs) {a0 : Nat} {a1 : Nat} {a2 : Nat} {a3 : Nat} {a4 : Nat} {a5 : Int32} {M : am_Hp} (h : hp_T M (a0) = 42 ∧ (vp_in (a5 + (1 : Int32)) (hp_N M a0) ∧ (1 ≤ bc ∧ (6 ≤ bs ∧ (am_CT G d rL_tripWaiting [.ref a1, .int (hp_E M a0 ((a5 + (1 : Int32))).toNatClampNeg), .ref a3] M 1 6 (fun oz9 M3 => ∃ v4 : Int32, oz9 = .inl (some (.int v4)) ∧ (hp_T M3 (a0) = 42 ∧ (vp_in (a5 + (1 : Int32)) (hp_N M3 a0) ∧ (hp_T M3 (a2) = 8 ∧ (am_CT G d rX7_tripWaiting [.ref a2, .int (hp_E M3 a0 ((a5 + (1 : Int32))).toNatClampNeg)] M3 0 0 (fun oz9 M9 => ∃ v10 : Int32, oz9 = .inl (some (.int v10)) ∧ (hp_T M9 (a2) = 8 ∧ (am_CT G d rX7_thrown [.ref a2] M9 0 0 (fun oz9 M12 => ∃ v13 : Int32, oz9 = .inl (some (.int v13)) ∧ (((v13 = v4) → (((v4 = 0) → (hp_T M12 (a3) = 23 ∧ (vp_in (0 : Int32) (hp_N M12 a3) ∧ ((((lg_cmp (hp_L M12 a3 ((0 : Int32)).toNatClampNeg) ((v10).toInt64)) = 0) → (R3219 a0 a1 a2 a3 a4 a5 M12 (bc - 1) (bs - 6))) ∧ (¬ ((lg_cmp (hp_L M12 a3 ((0 : Int32)).toNatClampNeg) ((v10).toInt64)) = 0) → (False)))))) ∧ (¬ (v4 = 0) → (R3219 a0 a1 a2 a3 a4 a5 M12 (bc - 1) (bs - 6))))) ∧ (¬ (v13 = v4) → (False))))))))))))))))) : am_J X 2511 [(0, .ref a0), (1, .ref a1), (2, .ref a2), (3, .ref a3), (4, .ref a4), (5, .int a5)] [] M bc bs := by
  refine j_aload_n hX eL_law_2511 1 rfl ?_
  refine j_aload_n hX eL_law_2512 0 rfl ?_
  refine j_iload hX eL_law_2513 5 rfl ?_
  refine j_iconst (v := (1 : Int32)) hX eL_law_2515 (by decide) ?_
  refine j_iadd hX eL_law_2516 ?_
  obtain ⟨t1, h⟩ := h
  obtain ⟨i2, h⟩ := h
  refine j_ialdx hX eL_law_2517 t1 i2 ?_
  refine j_aload_n hX eL_law_2518 3 rfl ?_
  obtain ⟨b5, b6, h⟩ := h
  refine j_callSX (r' := rL_tripWaiting) (As := [.ref a1, .int (hp_E M a0 ((a5 + (1 : Int32))).toNatClampNeg), .ref a3]) (rest := []) (d1 := d) hX eL_law_2519 mm_LiftGroupLaw_306 (by decide) rfl h rfl (Nat.le_refl _) b5 b6 (Nat.le_of_ble_eq_true rfl) (fun vz9 Mz9 qz9 => ?_) (fun Ez9 Mz9 qz9 => ?_)
  · obtain ⟨M3, eMz9⟩ : ∃ M3, M3 = Mz9 := ⟨_, rfl⟩; subst eMz9
    obtain ⟨v4, hxz9, h⟩ := qz9
    cases hxz9
    refine j_istore (lv' := [(6, .int v4), (0, .ref a0), (1, .ref a1), (2, .ref a2), (3, .ref a3), (4, .ref a4), (5, .int a5)]) hX eL_law_2522 (by decide) rfl ?_
    refine j_aload_n hX eL_law_2524 3 rfl ?_
    refine j_aload_n hX eL_law_2525 1 rfl ?_
    refine j_iload hX eL_law_2526 6 rfl ?_
    refine j_iconst (v := (1 : Int32)) hX eL_law_2528 (by decide) ?_
    refine j_iadd hX eL_law_2529 ?_
    obtain ⟨t7, h⟩ := h
    obtain ⟨i8, h⟩ := h
    refine j_ialdx hX eL_law_2530 t7 i8 ?_
    obtain ⟨t11, h⟩ := h
    refine j_callV (a := a2) (q := (RX7, TX7, 17)) (r' := rX7_tripWaiting) (As := [.int (hp_E M3 a0 ((a5 + (1 : Int32))).toNatClampNeg)]) (rest := []) (d1 := d) hX eL_law_2531 mm_LiftGroupLaw_308 rfl t11 (by decide) rfl h rfl (Nat.le_refl _) (Nat.zero_le _) (Nat.zero_le _) (Nat.le_of_ble_eq_true rfl) (fun vz9 Mz9 qz9 => ?_) (fun Ez9 Mz9 qz9 => ?_)
    · obtain ⟨M9, eMz9⟩ : ∃ M9, M9 = Mz9 := ⟨_, rfl⟩; subst eMz9
      obtain ⟨v10, hxz9, h⟩ := qz9
      cases hxz9
      refine j_istore (lv' := [(7, .int v10), (6, .int v4), (0, .ref a0), (1, .ref a1), (2, .ref a2), (3, .ref a3), (4, .ref a4), (5, .int a5)]) hX eL_law_2534 (by decide) rfl ?_
      refine j_aload_n hX eL_law_2536 4 rfl ?_
      obtain ⟨t14, h⟩ := h
      refine j_callV (a := a2) (q := (RX7, TX7, 17)) (r' := rX7_thrown) (As := []) (rest := []) (d1 := d) hX eL_law_2537 mm_LiftGroupLaw_185 rfl t14 (by decide) rfl h rfl (Nat.le_refl _) (Nat.zero_le _) (Nat.zero_le _) (Nat.le_of_ble_eq_true rfl) (fun vz9 Mz9 qz9 => ?_) (fun Ez9 Mz9 qz9 => ?_)
      · obtain ⟨M12, eMz9⟩ : ∃ M12, M12 = Mz9 := ⟨_, rfl⟩; subst eMz9
        obtain ⟨v13, hxz9, h⟩ := qz9
        cases hxz9
        refine j_iload hX eL_law_2540 1 rfl ?_
        refine j_icmp_eq hX 2547 eL_law_2542 (by decide) (fun c15 => ?_) (fun c15 => ?_)
        · replace h := h.1 c15
          refine j_iload hX eL_law_2547 1 rfl ?_
          refine j_if_ne hX 2564 eL_law_2549 (by decide) (fun c16 => ?_) (fun c16 => ?_)
          · replace h := h.2 c16
            refine j_goto hX 3219 eL_law_2564 (by decide) ?_
            exact j_sub [2, 3, 4, 5, 6, 7] rfl (k3219 _ _ _ _ _ _ _ _ _ h)
          · replace h := h.1 c16
            refine j_aload_n hX eL_law_2552 5 rfl ?_
            refine j_iconst (v := (0 : Int32)) hX eL_law_2553 (by decide) ?_
            obtain ⟨t17, h⟩ := h
            obtain ⟨i18, h⟩ := h
            refine j_lald hX eL_law_2554 t17 i18 ?_
            refine j_iload hX eL_law_2555 0 rfl ?_
            refine j_i2l hX eL_law_2557 ?_
            refine j_lcmp hX eL_law_2558 ?_
            refine j_if_eq hX 2564 eL_law_2559 (by decide) (fun c19 => ?_) (fun c19 => ?_)
            · replace h := h.1 c19
              refine j_goto hX 3219 eL_law_2564 (by decide) ?_
              exact j_sub [2, 3, 4, 5, 6, 7] rfl (k3219 _ _ _ _ _ _ _ _ _ h)
            · replace h := h.2 c19
              refine j_iconst (v := (0 : Int32)) hX eL_law_2562 (by decide) ?_
              exact h.elim
        · replace h := h.2 c15
          refine j_iconst (v := (0 : Int32)) hX eL_law_2545 (by decide) ?_
          exact h.elim
      · obtain ⟨v13, hxz9, h⟩ := qz9
        cases hxz9
    · obtain ⟨v10, hxz9, h⟩ := qz9
      cases hxz9
  · obtain ⟨v4, hxz9, h⟩ := qz9
    cases hxz9
set_option maxHeartbeats 4000000 in
set_option maxRecDepth 20000 in
theorem vL_law_2567 {X : am_Cx} {G : am_Gx} {d : Nat} (hX : am_ok X rL_law G (d + 1)) (hret : ∀ {pc : Nat} {lv : List (Nat × Value)} {M : am_Hp} {bc bs : Nat}, decode rL_law.2.1 pc = .ok (.ireturn, 1) → am_J X pc lv [.int (1 : Int32)] M bc bs) {bc bs : Nat} (R3219 : Nat → Nat → Nat → Nat → Nat → Int32 → am_Hp → Nat → Nat → Prop) (k3219 : ∀ (x0 : Nat) (x1 : Nat) (x2 : Nat) (x3 : Nat) (x4 : Nat) (x5 : Int32) (M : am_Hp) (bc bs : Nat), R3219 x0 x1 x2 x3 x4 x5 M bc bs → am_J X 3219 [(0, .ref x0), (1, .ref x1), (2, .ref x2), (3, .ref x3), (4, .ref x4), (5, .int x5)] [] M bc bs) {a0 : Nat} {a1 : Nat} {a2 : Nat} {a3 : Nat} {a4 : Nat} {a5 : Int32} {M : am_Hp} (h : hp_T M (a1) = 7 ∧ (am_CT G d rX6_tripCount [.ref a1] M 0 0 (fun oz9 M1 => ∃ v2 : Int32, oz9 = .inl (some (.int v2)) ∧ (hp_T M1 (a2) = 8 ∧ (am_CT G d rX7_tripCount [.ref a2] M1 0 0 (fun oz9 M4 => ∃ v5 : Int32, oz9 = .inl (some (.int v5)) ∧ (((v2 = v5) → (R3219 a0 a1 a2 a3 a4 a5 M4 bc bs)) ∧ (¬ (v2 = v5) → (False))))))))) : am_J X 2567 [(0, .ref a0), (1, .ref a1), (2, .ref a2), (3, .ref a3), (4, .ref a4), (5, .int a5)] [] M bc bs := by
  refine j_aload_n hX eL_law_2567 1 rfl ?_
  obtain ⟨t3, h⟩ := h
  refine j_callV (a := a1) (q := (RX6, TX6, 9)) (r' := rX6_tripCount) (As := []) (rest := []) (d1 := d) hX eL_law_2568 mm_LiftGroupLaw_309 rfl t3 (by decide) rfl h rfl (Nat.le_refl _) (Nat.zero_le _) (Nat.zero_le _) (Nat.le_of_ble_eq_true rfl) (fun vz9 Mz9 qz9 => ?_) (fun Ez9 Mz9 qz9 => ?_)
  · obtain ⟨M1, eMz9⟩ : ∃ M1, M1 = Mz9 := ⟨_, rfl⟩; subst eMz9
    obtain ⟨v2, hxz9, h⟩ := qz9
    cases hxz9
    refine j_aload_n hX eL_law_2571 2 rfl ?_
    obtain ⟨t6, h⟩ := h
    refine j_callV (a := a2) (q := (RX7, TX7, 17)) (r' := rX7_tripCount) (As := []) (rest := [.int v2]) (d1 := d) hX eL_law_2572 mm_LiftGroupLaw_312 rfl t6 (by decide) rfl h rfl (Nat.le_refl _) (Nat.zero_le _) (Nat.zero_le _) (Nat.le_of_ble_eq_true rfl) (fun vz9 Mz9 qz9 => ?_) (fun Ez9 Mz9 qz9 => ?_)
    · obtain ⟨M4, eMz9⟩ : ∃ M4, M4 = Mz9 := ⟨_, rfl⟩; subst eMz9
      obtain ⟨v5, hxz9, h⟩ := qz9
      cases hxz9
      refine j_icmp_eq hX 3219 eL_law_2575 (by decide) (fun c7 => ?_) (fun c7 => ?_)
      · replace h := h.1 c7
        exact j_sub [0, 1, 2, 3, 4, 5] rfl (k3219 _ _ _ _ _ _ _ _ _ h)
      · replace h := h.2 c7
        refine j_iconst (v := (0 : Int32)) hX eL_law_2578 (by decide) ?_
        exact h.elim
    · obtain ⟨v5, hxz9, h⟩ := qz9
      cases hxz9
  · obtain ⟨v2, hxz9, h⟩ := qz9
    cases hxz9
set_option maxHeartbeats 4000000 in
set_option maxRecDepth 20000 in
theorem vL_law_2580 {X : am_Cx} {G : am_Gx} {d : Nat} (hX : am_ok X rL_law G (d + 1)) (hret : ∀ {pc : Nat} {lv : List (Nat × Value)} {M : am_Hp} {bc bs : Nat}, decode rL_law.2.1 pc = .ok (.ireturn, 1) → am_J X pc lv [.int (1 : Int32)] M bc bs) {bc bs : Nat} (R3219 : Nat → Nat → Nat → Nat → Nat → Int32 → am_Hp → Nat → Nat → Prop) (k3219 : ∀ (x0 : Nat) (x1 : Nat) (x2 : Nat) (x3 : Nat) (x4 : Nat) (x5 : Int32) (M : am_Hp) (bc bs : Nat), R3219 x0 x1 x2 x3 x4 x5 M bc bs → am_J X 3219 [(0, .ref x0), (1, .ref x1), (2, .ref x2), (3, .ref x3), (4, .ref x4), (5, .int x5)] [] M bc bs) {a0 : Nat} {a1 : Nat} {a2 : Nat} {a3 : Nat} {a4 : Nat} {a5 : Int32} {M : am_Hp} (h : hp_T M (a1) = 7 ∧ (am_CT G d rX6_totalEnergy [.ref a1] M 0 0 (fun oz9 M1 => ∃ l2 : Int64, oz9 = .inl (some (.long l2)) ∧ (hp_T M1 (a2) = 8 ∧ (am_CT G d rX7_totalEnergy [.ref a2] M1 0 0 (fun oz9 M4 => ∃ l5 : Int64, oz9 = .inl (some (.long l5)) ∧ ((((lg_cmp l2 l5) = 0) → (R3219 a0 a1 a2 a3 a4 a5 M4 bc bs)) ∧ (¬ ((lg_cmp l2 l5) = 0) → (False))))))))) : am_J X 2580 [(0, .ref a0), (1, .ref a1), (2, .ref a2), (3, .ref a3), (4, .ref a4), (5, .int a5)] [] M bc bs := by
  refine j_aload_n hX eL_law_2580 1 rfl ?_
  obtain ⟨t3, h⟩ := h
  refine j_callV (a := a1) (q := (RX6, TX6, 9)) (r' := rX6_totalEnergy) (As := []) (rest := []) (d1 := d) hX eL_law_2581 mm_LiftGroupLaw_313 rfl t3 (by decide) rfl h rfl (Nat.le_refl _) (Nat.zero_le _) (Nat.zero_le _) (Nat.le_of_ble_eq_true rfl) (fun vz9 Mz9 qz9 => ?_) (fun Ez9 Mz9 qz9 => ?_)
  · obtain ⟨M1, eMz9⟩ : ∃ M1, M1 = Mz9 := ⟨_, rfl⟩; subst eMz9
    obtain ⟨l2, hxz9, h⟩ := qz9
    cases hxz9
    refine j_aload_n hX eL_law_2584 2 rfl ?_
    obtain ⟨t6, h⟩ := h
    refine j_callV (a := a2) (q := (RX7, TX7, 17)) (r' := rX7_totalEnergy) (As := []) (rest := [.long l2]) (d1 := d) hX eL_law_2585 mm_LiftGroupLaw_317 rfl t6 (by decide) rfl h rfl (Nat.le_refl _) (Nat.zero_le _) (Nat.zero_le _) (Nat.le_of_ble_eq_true rfl) (fun vz9 Mz9 qz9 => ?_) (fun Ez9 Mz9 qz9 => ?_)
    · obtain ⟨M4, eMz9⟩ : ∃ M4, M4 = Mz9 := ⟨_, rfl⟩; subst eMz9
      obtain ⟨l5, hxz9, h⟩ := qz9
      cases hxz9
      refine j_lcmp hX eL_law_2588 ?_
      refine j_if_eq hX 3219 eL_law_2589 (by decide) (fun c7 => ?_) (fun c7 => ?_)
      · replace h := h.1 c7
        exact j_sub [0, 1, 2, 3, 4, 5] rfl (k3219 _ _ _ _ _ _ _ _ _ h)
      · replace h := h.2 c7
        refine j_iconst (v := (0 : Int32)) hX eL_law_2592 (by decide) ?_
        exact h.elim
    · obtain ⟨l5, hxz9, h⟩ := qz9
      cases hxz9
  · obtain ⟨l2, hxz9, h⟩ := qz9
    cases hxz9
set_option maxHeartbeats 4000000 in
set_option maxRecDepth 20000 in
theorem vL_law_2594 {X : am_Cx} {G : am_Gx} {d : Nat} (hX : am_ok X rL_law G (d + 1)) (hret : ∀ {pc : Nat} {lv : List (Nat × Value)} {M : am_Hp} {bc bs : Nat}, decode rL_law.2.1 pc = .ok (.ireturn, 1) → am_J X pc lv [.int (1 : Int32)] M bc bs) {bc bs : Nat} (R3219 : Nat → Nat → Nat → Nat → Nat → Int32 → am_Hp → Nat → Nat → Prop) (k3219 : ∀ (x0 : Nat) (x1 : Nat) (x2 : Nat) (x3 : Nat) (x4 : Nat) (x5 : Int32) (M : am_Hp) (bc bs : Nat), R3219 x0 x1 x2 x3 x4 x5 M bc bs → am_J X 3219 [(0, .ref x0), (1, .ref x1), (2, .ref x2), (3, .ref x3), (4, .ref x4), (5, .int x5)] [] M bc bs) {a0 : Nat} {a1 : Nat} {a2 : Nat} {a3 : Nat} {a4 : Nat} {a5 : Int32} {M : am_Hp} (h : hp_T M (a1) = 7 ∧ (am_CT G d rX6_totalEnergyByMoves [.ref a1] M 0 0 (fun oz9 M1 => ∃ l2 : Int64, oz9 = .inl (some (.long l2)) ∧ (hp_T M1 (a2) = 8 ∧ (am_CT G d rX7_totalEnergyByMoves [.ref a2] M1 0 0 (fun oz9 M4 => ∃ l5 : Int64, oz9 = .inl (some (.long l5)) ∧ ((((lg_cmp l2 l5) = 0) → (R3219 a0 a1 a2 a3 a4 a5 M4 bc bs)) ∧ (¬ ((lg_cmp l2 l5) = 0) → (False))))))))) : am_J X 2594 [(0, .ref a0), (1, .ref a1), (2, .ref a2), (3, .ref a3), (4, .ref a4), (5, .int a5)] [] M bc bs := by
  refine j_aload_n hX eL_law_2594 1 rfl ?_
  obtain ⟨t3, h⟩ := h
  refine j_callV (a := a1) (q := (RX6, TX6, 9)) (r' := rX6_totalEnergyByMoves) (As := []) (rest := []) (d1 := d) hX eL_law_2595 mm_LiftGroupLaw_318 rfl t3 (by decide) rfl h rfl (Nat.le_refl _) (Nat.zero_le _) (Nat.zero_le _) (Nat.le_of_ble_eq_true rfl) (fun vz9 Mz9 qz9 => ?_) (fun Ez9 Mz9 qz9 => ?_)
  · obtain ⟨M1, eMz9⟩ : ∃ M1, M1 = Mz9 := ⟨_, rfl⟩; subst eMz9
    obtain ⟨l2, hxz9, h⟩ := qz9
    cases hxz9
    refine j_aload_n hX eL_law_2598 2 rfl ?_
    obtain ⟨t6, h⟩ := h
    refine j_callV (a := a2) (q := (RX7, TX7, 17)) (r' := rX7_totalEnergyByMoves) (As := []) (rest := [.long l2]) (d1 := d) hX eL_law_2599 mm_LiftGroupLaw_321 rfl t6 (by decide) rfl h rfl (Nat.le_refl _) (Nat.zero_le _) (Nat.zero_le _) (Nat.le_of_ble_eq_true rfl) (fun vz9 Mz9 qz9 => ?_) (fun Ez9 Mz9 qz9 => ?_)
    · obtain ⟨M4, eMz9⟩ : ∃ M4, M4 = Mz9 := ⟨_, rfl⟩; subst eMz9
      obtain ⟨l5, hxz9, h⟩ := qz9
      cases hxz9
      refine j_lcmp hX eL_law_2602 ?_
      refine j_if_eq hX 3219 eL_law_2603 (by decide) (fun c7 => ?_) (fun c7 => ?_)
      · replace h := h.1 c7
        exact j_sub [0, 1, 2, 3, 4, 5] rfl (k3219 _ _ _ _ _ _ _ _ _ h)
      · replace h := h.2 c7
        refine j_iconst (v := (0 : Int32)) hX eL_law_2606 (by decide) ?_
        exact h.elim
    · obtain ⟨l5, hxz9, h⟩ := qz9
      cases hxz9
  · obtain ⟨l2, hxz9, h⟩ := qz9
    cases hxz9
set_option maxHeartbeats 4000000 in
set_option maxRecDepth 20000 in
theorem vL_law_2608 {X : am_Cx} {G : am_Gx} {d : Nat} (hX : am_ok X rL_law G (d + 1)) (hret : ∀ {pc : Nat} {lv : List (Nat × Value)} {M : am_Hp} {bc bs : Nat}, decode rL_law.2.1 pc = .ok (.ireturn, 1) → am_J X pc lv [.int (1 : Int32)] M bc bs) {bc bs : Nat} (R3219 : Nat → Nat → Nat → Nat → Nat → Int32 → am_Hp → Nat → Nat → Prop) (k3219 : ∀ (x0 : Nat) (x1 : Nat) (x2 : Nat) (x3 : Nat) (x4 : Nat) (x5 : Int32) (M : am_Hp) (bc bs : Nat), R3219 x0 x1 x2 x3 x4 x5 M bc bs → am_J X 3219 [(0, .ref x0), (1, .ref x1), (2, .ref x2), (3, .ref x3), (4, .ref x4), (5, .int x5)] [] M bc bs) {a0 : Nat} {a1 : Nat} {a2 : Nat} {a3 : Nat} {a4 : Nat} {a5 : Int32} {M : am_Hp} (h : hp_T M (a1) = 7 ∧ (am_CT G d rX6_floorsUp [.ref a1] M 0 0 (fun oz9 M1 => ∃ v2 : Int32, oz9 = .inl (some (.int v2)) ∧ (hp_T M1 (a2) = 8 ∧ (am_CT G d rX7_floorsUp [.ref a2] M1 0 0 (fun oz9 M4 => ∃ v5 : Int32, oz9 = .inl (some (.int v5)) ∧ (((v2 = v5) → (R3219 a0 a1 a2 a3 a4 a5 M4 bc bs)) ∧ (¬ (v2 = v5) → (False))))))))) : am_J X 2608 [(0, .ref a0), (1, .ref a1), (2, .ref a2), (3, .ref a3), (4, .ref a4), (5, .int a5)] [] M bc bs := by
  refine j_aload_n hX eL_law_2608 1 rfl ?_
  obtain ⟨t3, h⟩ := h
  refine j_callV (a := a1) (q := (RX6, TX6, 9)) (r' := rX6_floorsUp) (As := []) (rest := []) (d1 := d) hX eL_law_2609 mm_LiftGroupLaw_322 rfl t3 (by decide) rfl h rfl (Nat.le_refl _) (Nat.zero_le _) (Nat.zero_le _) (Nat.le_of_ble_eq_true rfl) (fun vz9 Mz9 qz9 => ?_) (fun Ez9 Mz9 qz9 => ?_)
  · obtain ⟨M1, eMz9⟩ : ∃ M1, M1 = Mz9 := ⟨_, rfl⟩; subst eMz9
    obtain ⟨v2, hxz9, h⟩ := qz9
    cases hxz9
    refine j_aload_n hX eL_law_2612 2 rfl ?_
    obtain ⟨t6, h⟩ := h
    refine j_callV (a := a2) (q := (RX7, TX7, 17)) (r' := rX7_floorsUp) (As := []) (rest := [.int v2]) (d1 := d) hX eL_law_2613 mm_LiftGroupLaw_325 rfl t6 (by decide) rfl h rfl (Nat.le_refl _) (Nat.zero_le _) (Nat.zero_le _) (Nat.le_of_ble_eq_true rfl) (fun vz9 Mz9 qz9 => ?_) (fun Ez9 Mz9 qz9 => ?_)
    · obtain ⟨M4, eMz9⟩ : ∃ M4, M4 = Mz9 := ⟨_, rfl⟩; subst eMz9
      obtain ⟨v5, hxz9, h⟩ := qz9
      cases hxz9
      refine j_icmp_eq hX 3219 eL_law_2616 (by decide) (fun c7 => ?_) (fun c7 => ?_)
      · replace h := h.1 c7
        exact j_sub [0, 1, 2, 3, 4, 5] rfl (k3219 _ _ _ _ _ _ _ _ _ h)
      · replace h := h.2 c7
        refine j_iconst (v := (0 : Int32)) hX eL_law_2619 (by decide) ?_
        exact h.elim
    · obtain ⟨v5, hxz9, h⟩ := qz9
      cases hxz9
  · obtain ⟨v2, hxz9, h⟩ := qz9
    cases hxz9
set_option maxHeartbeats 4000000 in
set_option maxRecDepth 20000 in
theorem vL_law_2621 {X : am_Cx} {G : am_Gx} {d : Nat} (hX : am_ok X rL_law G (d + 1)) (hret : ∀ {pc : Nat} {lv : List (Nat × Value)} {M : am_Hp} {bc bs : Nat}, decode rL_law.2.1 pc = .ok (.ireturn, 1) → am_J X pc lv [.int (1 : Int32)] M bc bs) {bc bs : Nat} (R3219 : Nat → Nat → Nat → Nat → Nat → Int32 → am_Hp → Nat → Nat → Prop) (k3219 : ∀ (x0 : Nat) (x1 : Nat) (x2 : Nat) (x3 : Nat) (x4 : Nat) (x5 : Int32) (M : am_Hp) (bc bs : Nat), R3219 x0 x1 x2 x3 x4 x5 M bc bs → am_J X 3219 [(0, .ref x0), (1, .ref x1), (2, .ref x2), (3, .ref x3), (4, .ref x4), (5, .int x5)] [] M bc bs) {a0 : Nat} {a1 : Nat} {a2 : Nat} {a3 : Nat} {a4 : Nat} {a5 : Int32} {M : am_Hp} (h : hp_T M (a1) = 7 ∧ (am_CT G d rX6_floorsDown [.ref a1] M 0 0 (fun oz9 M1 => ∃ v2 : Int32, oz9 = .inl (some (.int v2)) ∧ (hp_T M1 (a2) = 8 ∧ (am_CT G d rX7_floorsDown [.ref a2] M1 0 0 (fun oz9 M4 => ∃ v5 : Int32, oz9 = .inl (some (.int v5)) ∧ (((v2 = v5) → (R3219 a0 a1 a2 a3 a4 a5 M4 bc bs)) ∧ (¬ (v2 = v5) → (False))))))))) : am_J X 2621 [(0, .ref a0), (1, .ref a1), (2, .ref a2), (3, .ref a3), (4, .ref a4), (5, .int a5)] [] M bc bs := by
  refine j_aload_n hX eL_law_2621 1 rfl ?_
  obtain ⟨t3, h⟩ := h
  refine j_callV (a := a1) (q := (RX6, TX6, 9)) (r' := rX6_floorsDown) (As := []) (rest := []) (d1 := d) hX eL_law_2622 mm_LiftGroupLaw_326 rfl t3 (by decide) rfl h rfl (Nat.le_refl _) (Nat.zero_le _) (Nat.zero_le _) (Nat.le_of_ble_eq_true rfl) (fun vz9 Mz9 qz9 => ?_) (fun Ez9 Mz9 qz9 => ?_)
  · obtain ⟨M1, eMz9⟩ : ∃ M1, M1 = Mz9 := ⟨_, rfl⟩; subst eMz9
    obtain ⟨v2, hxz9, h⟩ := qz9
    cases hxz9
    refine j_aload_n hX eL_law_2625 2 rfl ?_
    obtain ⟨t6, h⟩ := h
    refine j_callV (a := a2) (q := (RX7, TX7, 17)) (r' := rX7_floorsDown) (As := []) (rest := [.int v2]) (d1 := d) hX eL_law_2626 mm_LiftGroupLaw_329 rfl t6 (by decide) rfl h rfl (Nat.le_refl _) (Nat.zero_le _) (Nat.zero_le _) (Nat.le_of_ble_eq_true rfl) (fun vz9 Mz9 qz9 => ?_) (fun Ez9 Mz9 qz9 => ?_)
    · obtain ⟨M4, eMz9⟩ : ∃ M4, M4 = Mz9 := ⟨_, rfl⟩; subst eMz9
      obtain ⟨v5, hxz9, h⟩ := qz9
      cases hxz9
      refine j_icmp_eq hX 3219 eL_law_2629 (by decide) (fun c7 => ?_) (fun c7 => ?_)
      · replace h := h.1 c7
        exact j_sub [0, 1, 2, 3, 4, 5] rfl (k3219 _ _ _ _ _ _ _ _ _ h)
      · replace h := h.2 c7
        refine j_iconst (v := (0 : Int32)) hX eL_law_2632 (by decide) ?_
        exact h.elim
    · obtain ⟨v5, hxz9, h⟩ := qz9
      cases hxz9
  · obtain ⟨v2, hxz9, h⟩ := qz9
    cases hxz9
set_option maxHeartbeats 4000000 in
set_option maxRecDepth 20000 in
theorem vL_law_2634 {X : am_Cx} {G : am_Gx} {d : Nat} (hX : am_ok X rL_law G (d + 1)) (hret : ∀ {pc : Nat} {lv : List (Nat × Value)} {M : am_Hp} {bc bs : Nat}, decode rL_law.2.1 pc = .ok (.ireturn, 1) → am_J X pc lv [.int (1 : Int32)] M bc bs) {bc bs : Nat} (R3219 : Nat → Nat → Nat → Nat → Nat → Int32 → am_Hp → Nat → Nat → Prop) (k3219 : ∀ (x0 : Nat) (x1 : Nat) (x2 : Nat) (x3 : Nat) (x4 : Nat) (x5 : Int32) (M : am_Hp) (bc bs : Nat), R3219 x0 x1 x2 x3 x4 x5 M bc bs → am_J X 3219 [(0, .ref x0), (1, .ref x1), (2, .ref x2), (3, .ref x3), (4, .ref x4), (5, .int x5)] [] M bc bs) {a0 : Nat} {a1 : Nat} {a2 : Nat} {a3 : Nat} {a4 : Nat} {a5 : Int32} {M : am_Hp} (h : hp_T M (a1) = 7 ∧ (am_CT G d rX6_doorOpenings [.ref a1] M 0 0 (fun oz9 M1 => ∃ v2 : Int32, oz9 = .inl (some (.int v2)) ∧ (hp_T M1 (a2) = 8 ∧ (am_CT G d rX7_doorOpenings [.ref a2] M1 0 0 (fun oz9 M4 => ∃ v5 : Int32, oz9 = .inl (some (.int v5)) ∧ (((v2 = v5) → (R3219 a0 a1 a2 a3 a4 a5 M4 bc bs)) ∧ (¬ (v2 = v5) → (False))))))))) : am_J X 2634 [(0, .ref a0), (1, .ref a1), (2, .ref a2), (3, .ref a3), (4, .ref a4), (5, .int a5)] [] M bc bs := by
  refine j_aload_n hX eL_law_2634 1 rfl ?_
  obtain ⟨t3, h⟩ := h
  refine j_callV (a := a1) (q := (RX6, TX6, 9)) (r' := rX6_doorOpenings) (As := []) (rest := []) (d1 := d) hX eL_law_2635 mm_LiftGroupLaw_330 rfl t3 (by decide) rfl h rfl (Nat.le_refl _) (Nat.zero_le _) (Nat.zero_le _) (Nat.le_of_ble_eq_true rfl) (fun vz9 Mz9 qz9 => ?_) (fun Ez9 Mz9 qz9 => ?_)
  · obtain ⟨M1, eMz9⟩ : ∃ M1, M1 = Mz9 := ⟨_, rfl⟩; subst eMz9
    obtain ⟨v2, hxz9, h⟩ := qz9
    cases hxz9
    refine j_aload_n hX eL_law_2638 2 rfl ?_
    obtain ⟨t6, h⟩ := h
    refine j_callV (a := a2) (q := (RX7, TX7, 17)) (r' := rX7_doorOpenings) (As := []) (rest := [.int v2]) (d1 := d) hX eL_law_2639 mm_LiftGroupLaw_333 rfl t6 (by decide) rfl h rfl (Nat.le_refl _) (Nat.zero_le _) (Nat.zero_le _) (Nat.le_of_ble_eq_true rfl) (fun vz9 Mz9 qz9 => ?_) (fun Ez9 Mz9 qz9 => ?_)
    · obtain ⟨M4, eMz9⟩ : ∃ M4, M4 = Mz9 := ⟨_, rfl⟩; subst eMz9
      obtain ⟨v5, hxz9, h⟩ := qz9
      cases hxz9
      refine j_icmp_eq hX 3219 eL_law_2642 (by decide) (fun c7 => ?_) (fun c7 => ?_)
      · replace h := h.1 c7
        exact j_sub [0, 1, 2, 3, 4, 5] rfl (k3219 _ _ _ _ _ _ _ _ _ h)
      · replace h := h.2 c7
        refine j_iconst (v := (0 : Int32)) hX eL_law_2645 (by decide) ?_
        exact h.elim
    · obtain ⟨v5, hxz9, h⟩ := qz9
      cases hxz9
  · obtain ⟨v2, hxz9, h⟩ := qz9
    cases hxz9
set_option maxHeartbeats 4000000 in
set_option maxRecDepth 20000 in
theorem vL_law_2647 {X : am_Cx} {G : am_Gx} {d : Nat} (hX : am_ok X rL_law G (d + 1)) (hret : ∀ {pc : Nat} {lv : List (Nat × Value)} {M : am_Hp} {bc bs : Nat}, decode rL_law.2.1 pc = .ok (.ireturn, 1) → am_J X pc lv [.int (1 : Int32)] M bc bs) {bc bs : Nat} (R3219 : Nat → Nat → Nat → Nat → Nat → Int32 → am_Hp → Nat → Nat → Prop) (k3219 : ∀ (x0 : Nat) (x1 : Nat) (x2 : Nat) (x3 : Nat) (x4 : Nat) (x5 : Int32) (M : am_Hp) (bc bs : Nat), R3219 x0 x1 x2 x3 x4 x5 M bc bs → am_J X 3219 [(0, .ref x0), (1, .ref x1), (2, .ref x2), (3, .ref x3), (4, .ref x4), (5, .int x5)] [] M bc bs) {a0 : Nat} {a1 : Nat} {a2 : Nat} {a3 : Nat} {a4 : Nat} {a5 : Int32} {M : am_Hp} (h : 1 ≤ bc ∧ (6 ≤ bs ∧ (am_CT G d rL_meanWaiting [.ref a1, .ref a4] M 1 6 (fun oz9 M1 => ∃ v2 : Int32, oz9 = .inl (some (.int v2)) ∧ (hp_T M1 (a2) = 8 ∧ (am_CT G d rX7_meanWaiting [.ref a2] M1 0 0 (fun oz9 M5 => ∃ d6 : UInt64, oz9 = .inl (some (.double d6)) ∧ (hp_T M5 (a2) = 8 ∧ (am_CT G d rX7_thrown [.ref a2] M5 0 0 (fun oz9 M8 => ∃ v9 : Int32, oz9 = .inl (some (.int v9)) ∧ (((v9 = v2) → (((v2 = 0) → (hp_T M8 (a4) = 24 ∧ (vp_in (0 : Int32) (hp_N M8 a4) ∧ ((((Op.cmpValue (FP.dcmp (hp_D M8 a4 ((0 : Int32)).toNatClampNeg) d6) CmpOp.l) = 0) → (R3219 a0 a1 a2 a3 a4 a5 M8 (bc - 1) (bs - 6))) ∧ (¬ ((Op.cmpValue (FP.dcmp (hp_D M8 a4 ((0 : Int32)).toNatClampNeg) d6) CmpOp.l) = 0) → (vp_in (0 : Int32) (hp_N M8 a4) ∧ (vp_in (0 : Int32) (hp_N M8 a4) ∧ ((((Op.cmpValue (FP.dcmp (hp_D M8 a4 ((0 : Int32)).toNatClampNeg) (hp_D M8 a4 ((0 : Int32)).toNatClampNeg)) CmpOp.l) = 0) → (False)) ∧ (¬ ((Op.cmpValue (FP.dcmp (hp_D M8 a4 ((0 : Int32)).toNatClampNeg) (hp_D M8 a4 ((0 : Int32)).toNatClampNeg)) CmpOp.l) = 0) → ((((Op.cmpValue (FP.dcmp d6 d6) CmpOp.l) = 0) → (False)) ∧ (¬ ((Op.cmpValue (FP.dcmp d6 d6) CmpOp.l) = 0) → (R3219 a0 a1 a2 a3 a4 a5 M8 (bc - 1) (bs - 6))))))))))))) ∧ (¬ (v2 = 0) → (R3219 a0 a1 a2 a3 a4 a5 M8 (bc - 1) (bs - 6))))) ∧ (¬ (v9 = v2) → (False))))))))))))) : am_J X 2647 [(0, .ref a0), (1, .ref a1), (2, .ref a2), (3, .ref a3), (4, .ref a4), (5, .int a5)] [] M bc bs := by
  refine j_aload_n hX eL_law_2647 1 rfl ?_
  refine j_aload hX eL_law_2648 4 rfl ?_
  obtain ⟨b3, b4, h⟩ := h
  refine j_callSX (r' := rL_meanWaiting) (As := [.ref a1, .ref a4]) (rest := []) (d1 := d) hX eL_law_2650 mm_LiftGroupLaw_334 (by decide) rfl h rfl (Nat.le_refl _) b3 b4 (Nat.le_of_ble_eq_true rfl) (fun vz9 Mz9 qz9 => ?_) (fun Ez9 Mz9 qz9 => ?_)
  · obtain ⟨M1, eMz9⟩ : ∃ M1, M1 = Mz9 := ⟨_, rfl⟩; subst eMz9
    obtain ⟨v2, hxz9, h⟩ := qz9
    cases hxz9
    refine j_istore (lv' := [(6, .int v2), (0, .ref a0), (1, .ref a1), (2, .ref a2), (3, .ref a3), (4, .ref a4), (5, .int a5)]) hX eL_law_2653 (by decide) rfl ?_
    refine j_aload_n hX eL_law_2655 3 rfl ?_
    obtain ⟨t7, h⟩ := h
    refine j_callV (a := a2) (q := (RX7, TX7, 17)) (r' := rX7_meanWaiting) (As := []) (rest := []) (d1 := d) hX eL_law_2656 mm_LiftGroupLaw_337 rfl t7 (by decide) rfl h rfl (Nat.le_refl _) (Nat.zero_le _) (Nat.zero_le _) (Nat.le_of_ble_eq_true rfl) (fun vz9 Mz9 qz9 => ?_) (fun Ez9 Mz9 qz9 => ?_)
    · obtain ⟨M5, eMz9⟩ : ∃ M5, M5 = Mz9 := ⟨_, rfl⟩; subst eMz9
      obtain ⟨d6, hxz9, h⟩ := qz9
      cases hxz9
      refine j_dstore (lv' := [(7, .double d6), (6, .int v2), (0, .ref a0), (1, .ref a1), (2, .ref a2), (3, .ref a3), (4, .ref a4), (5, .int a5)]) hX eL_law_2659 (by decide) rfl ?_
      refine j_aload_n hX eL_law_2661 4 rfl ?_
      obtain ⟨t10, h⟩ := h
      refine j_callV (a := a2) (q := (RX7, TX7, 17)) (r' := rX7_thrown) (As := []) (rest := []) (d1 := d) hX eL_law_2662 mm_LiftGroupLaw_185 rfl t10 (by decide) rfl h rfl (Nat.le_refl _) (Nat.zero_le _) (Nat.zero_le _) (Nat.le_of_ble_eq_true rfl) (fun vz9 Mz9 qz9 => ?_) (fun Ez9 Mz9 qz9 => ?_)
      · obtain ⟨M8, eMz9⟩ : ∃ M8, M8 = Mz9 := ⟨_, rfl⟩; subst eMz9
        obtain ⟨v9, hxz9, h⟩ := qz9
        cases hxz9
        refine j_iload hX eL_law_2665 1 rfl ?_
        refine j_icmp_eq hX 2672 eL_law_2667 (by decide) (fun c11 => ?_) (fun c11 => ?_)
        · replace h := h.1 c11
          refine j_iload hX eL_law_2672 1 rfl ?_
          refine j_if_ne hX 2709 eL_law_2674 (by decide) (fun c12 => ?_) (fun c12 => ?_)
          · replace h := h.2 c12
            refine j_goto hX 3219 eL_law_2709 (by decide) ?_
            exact j_sub [2, 3, 4, 5, 6, 7] rfl (k3219 _ _ _ _ _ _ _ _ _ h)
          · replace h := h.1 c12
            refine j_aload hX eL_law_2677 6 rfl ?_
            refine j_iconst (v := (0 : Int32)) hX eL_law_2679 (by decide) ?_
            obtain ⟨t13, h⟩ := h
            obtain ⟨i14, h⟩ := h
            refine j_dald hX eL_law_2680 t13 i14 ?_
            refine j_dload hX eL_law_2681 0 rfl ?_
            refine j_dcmp hX eL_law_2683 ?_
            refine j_if_eq hX 2709 eL_law_2684 (by decide) (fun c15 => ?_) (fun c15 => ?_)
            · replace h := h.1 c15
              refine j_goto hX 3219 eL_law_2709 (by decide) ?_
              exact j_sub [2, 3, 4, 5, 6, 7] rfl (k3219 _ _ _ _ _ _ _ _ _ h)
            · replace h := h.2 c15
              refine j_aload hX eL_law_2687 6 rfl ?_
              refine j_iconst (v := (0 : Int32)) hX eL_law_2689 (by decide) ?_
              obtain ⟨i16, h⟩ := h
              refine j_dald hX eL_law_2690 t13 i16 ?_
              refine j_aload hX eL_law_2691 6 rfl ?_
              refine j_iconst (v := (0 : Int32)) hX eL_law_2693 (by decide) ?_
              obtain ⟨i17, h⟩ := h
              refine j_dald hX eL_law_2694 t13 i17 ?_
              refine j_dcmp hX eL_law_2695 ?_
              refine j_if_eq hX 2707 eL_law_2696 (by decide) (fun c18 => ?_) (fun c18 => ?_)
              · replace h := h.1 c18
                refine j_iconst (v := (0 : Int32)) hX eL_law_2707 (by decide) ?_
                exact h.elim
              · replace h := h.2 c18
                refine j_dload hX eL_law_2699 0 rfl ?_
                refine j_dload hX eL_law_2701 0 rfl ?_
                refine j_dcmp hX eL_law_2703 ?_
                refine j_if_ne hX 2709 eL_law_2704 (by decide) (fun c19 => ?_) (fun c19 => ?_)
                · replace h := h.2 c19
                  refine j_goto hX 3219 eL_law_2709 (by decide) ?_
                  exact j_sub [2, 3, 4, 5, 6, 7] rfl (k3219 _ _ _ _ _ _ _ _ _ h)
                · replace h := h.1 c19
                  refine j_iconst (v := (0 : Int32)) hX eL_law_2707 (by decide) ?_
                  exact h.elim
        · replace h := h.2 c11
          refine j_iconst (v := (0 : Int32)) hX eL_law_2670 (by decide) ?_
          exact h.elim
      · obtain ⟨v9, hxz9, h⟩ := qz9
        cases hxz9
    · obtain ⟨d6, hxz9, h⟩ := qz9
      cases hxz9
  · obtain ⟨v2, hxz9, h⟩ := qz9
    cases hxz9
set_option maxHeartbeats 4000000 in
set_option maxRecDepth 20000 in
theorem vL_law_2712 {X : am_Cx} {G : am_Gx} {d : Nat} (hX : am_ok X rL_law G (d + 1)) (hret : ∀ {pc : Nat} {lv : List (Nat × Value)} {M : am_Hp} {bc bs : Nat}, decode rL_law.2.1 pc = .ok (.ireturn, 1) → am_J X pc lv [.int (1 : Int32)] M bc bs) {bc bs : Nat} (R3219 : Nat → Nat → Nat → Nat → Nat → Int32 → am_Hp → Nat → Nat → Prop) (k3219 : ∀ (x0 : Nat) (x1 : Nat) (x2 : Nat) (x3 : Nat) (x4 : Nat) (x5 : Int32) (M : am_Hp) (bc bs : Nat), R3219 x0 x1 x2 x3 x4 x5 M bc bs → am_J X 3219 [(0, .ref x0), (1, .ref x1), (2, .ref x2), (3, .ref x3), (4, .ref x4), (5, .int x5)] [] M bc bs) {a0 : Nat} {a1 : Nat} {a2 : Nat} {a3 : Nat} {a4 : Nat} {a5 : Int32} {M : am_Hp} (h : hp_T M (a0) = 42 ∧ (vp_in (a5 + (1 : Int32)) (hp_N M a0) ∧ (1 ≤ bc ∧ (6 ≤ bs ∧ (am_CT G d rL_loadShare [.ref a1, .int (hp_E M a0 ((a5 + (1 : Int32))).toNatClampNeg), .ref a4] M 1 6 (fun oz9 M3 => ∃ v4 : Int32, oz9 = .inl (some (.int v4)) ∧ (hp_T M3 (a0) = 42 ∧ (vp_in (a5 + (1 : Int32)) (hp_N M3 a0) ∧ (hp_T M3 (a2) = 8 ∧ (am_CT G d rX7_loadShare [.ref a2, .int (hp_E M3 a0 ((a5 + (1 : Int32))).toNatClampNeg)] M3 0 0 (fun oz9 M9 => ∃ f10 : UInt32, oz9 = .inl (some (.float f10)) ∧ (hp_T M9 (a2) = 8 ∧ (am_CT G d rX7_thrown [.ref a2] M9 0 0 (fun oz9 M12 => ∃ v13 : Int32, oz9 = .inl (some (.int v13)) ∧ (((v13 = v4) → (((v4 = 0) → (hp_T M12 (a4) = 24 ∧ (vp_in (0 : Int32) (hp_N M12 a4) ∧ (vf_n64 (FP.f2d f10) ∧ ((((Op.cmpValue (FP.dcmp (hp_D M12 a4 ((0 : Int32)).toNatClampNeg) (FP.f2d f10)) CmpOp.l) = 0) → (R3219 a0 a1 a2 a3 a4 a5 M12 (bc - 1) (bs - 6))) ∧ (¬ ((Op.cmpValue (FP.dcmp (hp_D M12 a4 ((0 : Int32)).toNatClampNeg) (FP.f2d f10)) CmpOp.l) = 0) → (vp_in (0 : Int32) (hp_N M12 a4) ∧ (vp_in (0 : Int32) (hp_N M12 a4) ∧ ((((Op.cmpValue (FP.dcmp (hp_D M12 a4 ((0 : Int32)).toNatClampNeg) (hp_D M12 a4 ((0 : Int32)).toNatClampNeg)) CmpOp.l) = 0) → (False)) ∧ (¬ ((Op.cmpValue (FP.dcmp (hp_D M12 a4 ((0 : Int32)).toNatClampNeg) (hp_D M12 a4 ((0 : Int32)).toNatClampNeg)) CmpOp.l) = 0) → ((((Op.cmpValue (FP.fcmp f10 f10) CmpOp.l) = 0) → (False)) ∧ (¬ ((Op.cmpValue (FP.fcmp f10 f10) CmpOp.l) = 0) → (R3219 a0 a1 a2 a3 a4 a5 M12 (bc - 1) (bs - 6)))))))))))))) ∧ (¬ (v4 = 0) → (R3219 a0 a1 a2 a3 a4 a5 M12 (bc - 1) (bs - 6))))) ∧ (¬ (v13 = v4) → (False))))))))))))))))) : am_J X 2712 [(0, .ref a0), (1, .ref a1), (2, .ref a2), (3, .ref a3), (4, .ref a4), (5, .int a5)] [] M bc bs := by
  refine j_aload_n hX eL_law_2712 1 rfl ?_
  refine j_aload_n hX eL_law_2713 0 rfl ?_
  refine j_iload hX eL_law_2714 5 rfl ?_
  refine j_iconst (v := (1 : Int32)) hX eL_law_2716 (by decide) ?_
  refine j_iadd hX eL_law_2717 ?_
  obtain ⟨t1, h⟩ := h
  obtain ⟨i2, h⟩ := h
  refine j_ialdx hX eL_law_2718 t1 i2 ?_
  refine j_aload hX eL_law_2719 4 rfl ?_
  obtain ⟨b5, b6, h⟩ := h
  refine j_callSX (r' := rL_loadShare) (As := [.ref a1, .int (hp_E M a0 ((a5 + (1 : Int32))).toNatClampNeg), .ref a4]) (rest := []) (d1 := d) hX eL_law_2721 mm_LiftGroupLaw_338 (by decide) rfl h rfl (Nat.le_refl _) b5 b6 (Nat.le_of_ble_eq_true rfl) (fun vz9 Mz9 qz9 => ?_) (fun Ez9 Mz9 qz9 => ?_)
  · obtain ⟨M3, eMz9⟩ : ∃ M3, M3 = Mz9 := ⟨_, rfl⟩; subst eMz9
    obtain ⟨v4, hxz9, h⟩ := qz9
    cases hxz9
    refine j_istore (lv' := [(6, .int v4), (0, .ref a0), (1, .ref a1), (2, .ref a2), (3, .ref a3), (4, .ref a4), (5, .int a5)]) hX eL_law_2724 (by decide) rfl ?_
    refine j_aload_n hX eL_law_2726 3 rfl ?_
    refine j_aload_n hX eL_law_2727 1 rfl ?_
    refine j_iload hX eL_law_2728 6 rfl ?_
    refine j_iconst (v := (1 : Int32)) hX eL_law_2730 (by decide) ?_
    refine j_iadd hX eL_law_2731 ?_
    obtain ⟨t7, h⟩ := h
    obtain ⟨i8, h⟩ := h
    refine j_ialdx hX eL_law_2732 t7 i8 ?_
    obtain ⟨t11, h⟩ := h
    refine j_callV (a := a2) (q := (RX7, TX7, 17)) (r' := rX7_loadShare) (As := [.int (hp_E M3 a0 ((a5 + (1 : Int32))).toNatClampNeg)]) (rest := []) (d1 := d) hX eL_law_2733 mm_LiftGroupLaw_341 rfl t11 (by decide) rfl h rfl (Nat.le_refl _) (Nat.zero_le _) (Nat.zero_le _) (Nat.le_of_ble_eq_true rfl) (fun vz9 Mz9 qz9 => ?_) (fun Ez9 Mz9 qz9 => ?_)
    · obtain ⟨M9, eMz9⟩ : ∃ M9, M9 = Mz9 := ⟨_, rfl⟩; subst eMz9
      obtain ⟨f10, hxz9, h⟩ := qz9
      cases hxz9
      refine j_fstore (lv' := [(7, .float f10), (6, .int v4), (0, .ref a0), (1, .ref a1), (2, .ref a2), (3, .ref a3), (4, .ref a4), (5, .int a5)]) hX eL_law_2736 (by decide) rfl ?_
      refine j_aload_n hX eL_law_2738 4 rfl ?_
      obtain ⟨t14, h⟩ := h
      refine j_callV (a := a2) (q := (RX7, TX7, 17)) (r' := rX7_thrown) (As := []) (rest := []) (d1 := d) hX eL_law_2739 mm_LiftGroupLaw_185 rfl t14 (by decide) rfl h rfl (Nat.le_refl _) (Nat.zero_le _) (Nat.zero_le _) (Nat.le_of_ble_eq_true rfl) (fun vz9 Mz9 qz9 => ?_) (fun Ez9 Mz9 qz9 => ?_)
      · obtain ⟨M12, eMz9⟩ : ∃ M12, M12 = Mz9 := ⟨_, rfl⟩; subst eMz9
        obtain ⟨v13, hxz9, h⟩ := qz9
        cases hxz9
        refine j_iload hX eL_law_2742 1 rfl ?_
        refine j_icmp_eq hX 2749 eL_law_2744 (by decide) (fun c15 => ?_) (fun c15 => ?_)
        · replace h := h.1 c15
          refine j_iload hX eL_law_2749 1 rfl ?_
          refine j_if_ne hX 2787 eL_law_2751 (by decide) (fun c16 => ?_) (fun c16 => ?_)
          · replace h := h.2 c16
            refine j_goto hX 3219 eL_law_2787 (by decide) ?_
            exact j_sub [2, 3, 4, 5, 6, 7] rfl (k3219 _ _ _ _ _ _ _ _ _ h)
          · replace h := h.1 c16
            refine j_aload hX eL_law_2754 6 rfl ?_
            refine j_iconst (v := (0 : Int32)) hX eL_law_2756 (by decide) ?_
            obtain ⟨t17, h⟩ := h
            obtain ⟨i18, h⟩ := h
            refine j_dald hX eL_law_2757 t17 i18 ?_
            refine j_fload hX eL_law_2758 0 rfl ?_
            obtain ⟨n19, h⟩ := h
            refine j_f2d hX eL_law_2760 n19 ?_
            refine j_dcmp hX eL_law_2761 ?_
            refine j_if_eq hX 2787 eL_law_2762 (by decide) (fun c20 => ?_) (fun c20 => ?_)
            · replace h := h.1 c20
              refine j_goto hX 3219 eL_law_2787 (by decide) ?_
              exact j_sub [2, 3, 4, 5, 6, 7] rfl (k3219 _ _ _ _ _ _ _ _ _ h)
            · replace h := h.2 c20
              refine j_aload hX eL_law_2765 6 rfl ?_
              refine j_iconst (v := (0 : Int32)) hX eL_law_2767 (by decide) ?_
              obtain ⟨i21, h⟩ := h
              refine j_dald hX eL_law_2768 t17 i21 ?_
              refine j_aload hX eL_law_2769 6 rfl ?_
              refine j_iconst (v := (0 : Int32)) hX eL_law_2771 (by decide) ?_
              obtain ⟨i22, h⟩ := h
              refine j_dald hX eL_law_2772 t17 i22 ?_
              refine j_dcmp hX eL_law_2773 ?_
              refine j_if_eq hX 2785 eL_law_2774 (by decide) (fun c23 => ?_) (fun c23 => ?_)
              · replace h := h.1 c23
                refine j_iconst (v := (0 : Int32)) hX eL_law_2785 (by decide) ?_
                exact h.elim
              · replace h := h.2 c23
                refine j_fload hX eL_law_2777 0 rfl ?_
                refine j_fload hX eL_law_2779 0 rfl ?_
                refine j_fcmp hX eL_law_2781 ?_
                refine j_if_ne hX 2787 eL_law_2782 (by decide) (fun c24 => ?_) (fun c24 => ?_)
                · replace h := h.2 c24
                  refine j_goto hX 3219 eL_law_2787 (by decide) ?_
                  exact j_sub [2, 3, 4, 5, 6, 7] rfl (k3219 _ _ _ _ _ _ _ _ _ h)
                · replace h := h.1 c24
                  refine j_iconst (v := (0 : Int32)) hX eL_law_2785 (by decide) ?_
                  exact h.elim
        · replace h := h.2 c15
          refine j_iconst (v := (0 : Int32)) hX eL_law_2747 (by decide) ?_
          exact h.elim
      · obtain ⟨v13, hxz9, h⟩ := qz9
        cases hxz9
    · obtain ⟨f10, hxz9, h⟩ := qz9
      cases hxz9
  · obtain ⟨v4, hxz9, h⟩ := qz9
    cases hxz9
set_option maxHeartbeats 4000000 in
set_option maxRecDepth 20000 in
theorem vL_law_2790 {X : am_Cx} {G : am_Gx} {d : Nat} (hX : am_ok X rL_law G (d + 1)) (hret : ∀ {pc : Nat} {lv : List (Nat × Value)} {M : am_Hp} {bc bs : Nat}, decode rL_law.2.1 pc = .ok (.ireturn, 1) → am_J X pc lv [.int (1 : Int32)] M bc bs) {bc bs : Nat} (R3219 : Nat → Nat → Nat → Nat → Nat → Int32 → am_Hp → Nat → Nat → Prop) (k3219 : ∀ (x0 : Nat) (x1 : Nat) (x2 : Nat) (x3 : Nat) (x4 : Nat) (x5 : Int32) (M : am_Hp) (bc bs : Nat), R3219 x0 x1 x2 x3 x4 x5 M bc bs → am_J X 3219 [(0, .ref x0), (1, .ref x1), (2, .ref x2), (3, .ref x3), (4, .ref x4), (5, .int x5)] [] M bc bs) {a0 : Nat} {a1 : Nat} {a2 : Nat} {a3 : Nat} {a4 : Nat} {a5 : Int32} {M : am_Hp} (h : hp_T M (a1) = 7 ∧ (am_CT G d rX6_isConsistent [.ref a1] M 0 0 (fun oz9 M1 => ∃ v2 : Int32, oz9 = .inl (some (.int v2)) ∧ (hp_T M1 (a2) = 8 ∧ (am_CT G d rX7_isConsistent [.ref a2] M1 0 0 (fun oz9 M4 => ∃ v5 : Int32, oz9 = .inl (some (.int v5)) ∧ (((v2 = v5) → (R3219 a0 a1 a2 a3 a4 a5 M4 bc bs)) ∧ (¬ (v2 = v5) → (False))))))))) : am_J X 2790 [(0, .ref a0), (1, .ref a1), (2, .ref a2), (3, .ref a3), (4, .ref a4), (5, .int a5)] [] M bc bs := by
  refine j_aload_n hX eL_law_2790 1 rfl ?_
  obtain ⟨t3, h⟩ := h
  refine j_callV (a := a1) (q := (RX6, TX6, 9)) (r' := rX6_isConsistent) (As := []) (rest := []) (d1 := d) hX eL_law_2791 mm_LiftGroupLaw_342 rfl t3 (by decide) rfl h rfl (Nat.le_refl _) (Nat.zero_le _) (Nat.zero_le _) (Nat.le_of_ble_eq_true rfl) (fun vz9 Mz9 qz9 => ?_) (fun Ez9 Mz9 qz9 => ?_)
  · obtain ⟨M1, eMz9⟩ : ∃ M1, M1 = Mz9 := ⟨_, rfl⟩; subst eMz9
    obtain ⟨v2, hxz9, h⟩ := qz9
    cases hxz9
    refine j_aload_n hX eL_law_2794 2 rfl ?_
    obtain ⟨t6, h⟩ := h
    refine j_callV (a := a2) (q := (RX7, TX7, 17)) (r' := rX7_isConsistent) (As := []) (rest := [.int v2]) (d1 := d) hX eL_law_2795 mm_LiftGroupLaw_346 rfl t6 (by decide) rfl h rfl (Nat.le_refl _) (Nat.zero_le _) (Nat.zero_le _) (Nat.le_of_ble_eq_true rfl) (fun vz9 Mz9 qz9 => ?_) (fun Ez9 Mz9 qz9 => ?_)
    · obtain ⟨M4, eMz9⟩ : ∃ M4, M4 = Mz9 := ⟨_, rfl⟩; subst eMz9
      obtain ⟨v5, hxz9, h⟩ := qz9
      cases hxz9
      refine j_icmp_eq hX 3219 eL_law_2798 (by decide) (fun c7 => ?_) (fun c7 => ?_)
      · replace h := h.1 c7
        exact j_sub [0, 1, 2, 3, 4, 5] rfl (k3219 _ _ _ _ _ _ _ _ _ h)
      · replace h := h.2 c7
        refine j_iconst (v := (0 : Int32)) hX eL_law_2801 (by decide) ?_
        exact h.elim
    · obtain ⟨v5, hxz9, h⟩ := qz9
      cases hxz9
  · obtain ⟨v2, hxz9, h⟩ := qz9
    cases hxz9
set_option maxHeartbeats 4000000 in
set_option maxRecDepth 20000 in
theorem vL_law_2803 {X : am_Cx} {G : am_Gx} {d : Nat} (hX : am_ok X rL_law G (d + 1)) (hret : ∀ {pc : Nat} {lv : List (Nat × Value)} {M : am_Hp} {bc bs : Nat}, decode rL_law.2.1 pc = .ok (.ireturn, 1) → am_J X pc lv [.int (1 : Int32)] M bc bs) {bc bs : Nat} (R3219 : Nat → Nat → Nat → Nat → Nat → Int32 → am_Hp → Nat → Nat → Prop) (k3219 : ∀ (x0 : Nat) (x1 : Nat) (x2 : Nat) (x3 : Nat) (x4 : Nat) (x5 : Int32) (M : am_Hp) (bc bs : Nat), R3219 x0 x1 x2 x3 x4 x5 M bc bs → am_J X 3219 [(0, .ref x0), (1, .ref x1), (2, .ref x2), (3, .ref x3), (4, .ref x4), (5, .int x5)] [] M bc bs) {a0 : Nat} {a1 : Nat} {a2 : Nat} {a3 : Nat} {a4 : Nat} {a5 : Int32} {M : am_Hp} (h : hp_T M (a0) = 42 ∧ (vp_in (a5 + (1 : Int32)) (hp_N M a0) ∧ (10 ≤ bc ∧ (906 ≤ bs ∧ (am_CT G d rL_renderCar [.ref a1, .int (hp_E M a0 ((a5 + (1 : Int32))).toNatClampNeg), .ref a3] M 10 906 (fun oz9 M3 => ∃ v4 : Int32, oz9 = .inl (some (.int v4)) ∧ (hp_T M3 (a0) = 42 ∧ (vp_in (a5 + (1 : Int32)) (hp_N M3 a0) ∧ (hp_T M3 (a2) = 8 ∧ (am_CT G d rX7_renderCar [.ref a2, .int (hp_E M3 a0 ((a5 + (1 : Int32))).toNatClampNeg)] M3 0 0 (fun oz9 M9 => ∃ v10 : Int32, oz9 = .inl (some (.int v10)) ∧ (hp_T M9 (a2) = 8 ∧ (am_CT G d rX7_thrown [.ref a2] M9 0 0 (fun oz9 M12 => ∃ v13 : Int32, oz9 = .inl (some (.int v13)) ∧ (((v13 = v4) → (((v4 = 0) → (hp_T M12 (a3) = 23 ∧ (vp_in (0 : Int32) (hp_N M12 a3) ∧ ((((lg_cmp (hp_L M12 a3 ((0 : Int32)).toNatClampNeg) ((v10).toInt64)) = 0) → (R3219 a0 a1 a2 a3 a4 a5 M12 (bc - 10) (bs - 906))) ∧ (¬ ((lg_cmp (hp_L M12 a3 ((0 : Int32)).toNatClampNeg) ((v10).toInt64)) = 0) → (False)))))) ∧ (¬ (v4 = 0) → (R3219 a0 a1 a2 a3 a4 a5 M12 (bc - 10) (bs - 906))))) ∧ (¬ (v13 = v4) → (False))))))))))))))))) : am_J X 2803 [(0, .ref a0), (1, .ref a1), (2, .ref a2), (3, .ref a3), (4, .ref a4), (5, .int a5)] [] M bc bs := by
  refine j_aload_n hX eL_law_2803 1 rfl ?_
  refine j_aload_n hX eL_law_2804 0 rfl ?_
  refine j_iload hX eL_law_2805 5 rfl ?_
  refine j_iconst (v := (1 : Int32)) hX eL_law_2807 (by decide) ?_
  refine j_iadd hX eL_law_2808 ?_
  obtain ⟨t1, h⟩ := h
  obtain ⟨i2, h⟩ := h
  refine j_ialdx hX eL_law_2809 t1 i2 ?_
  refine j_aload_n hX eL_law_2810 3 rfl ?_
  obtain ⟨b5, b6, h⟩ := h
  refine j_callSX (r' := rL_renderCar) (As := [.ref a1, .int (hp_E M a0 ((a5 + (1 : Int32))).toNatClampNeg), .ref a3]) (rest := []) (d1 := d) hX eL_law_2811 mm_LiftGroupLaw_347 (by decide) rfl h rfl (Nat.le_refl _) b5 b6 (Nat.le_of_ble_eq_true rfl) (fun vz9 Mz9 qz9 => ?_) (fun Ez9 Mz9 qz9 => ?_)
  · obtain ⟨M3, eMz9⟩ : ∃ M3, M3 = Mz9 := ⟨_, rfl⟩; subst eMz9
    obtain ⟨v4, hxz9, h⟩ := qz9
    cases hxz9
    refine j_istore (lv' := [(6, .int v4), (0, .ref a0), (1, .ref a1), (2, .ref a2), (3, .ref a3), (4, .ref a4), (5, .int a5)]) hX eL_law_2814 (by decide) rfl ?_
    refine j_aload_n hX eL_law_2816 3 rfl ?_
    refine j_aload_n hX eL_law_2817 1 rfl ?_
    refine j_iload hX eL_law_2818 6 rfl ?_
    refine j_iconst (v := (1 : Int32)) hX eL_law_2820 (by decide) ?_
    refine j_iadd hX eL_law_2821 ?_
    obtain ⟨t7, h⟩ := h
    obtain ⟨i8, h⟩ := h
    refine j_ialdx hX eL_law_2822 t7 i8 ?_
    obtain ⟨t11, h⟩ := h
    refine j_callV (a := a2) (q := (RX7, TX7, 17)) (r' := rX7_renderCar) (As := [.int (hp_E M3 a0 ((a5 + (1 : Int32))).toNatClampNeg)]) (rest := []) (d1 := d) hX eL_law_2823 mm_LiftGroupLaw_349 rfl t11 (by decide) rfl h rfl (Nat.le_refl _) (Nat.zero_le _) (Nat.zero_le _) (Nat.le_of_ble_eq_true rfl) (fun vz9 Mz9 qz9 => ?_) (fun Ez9 Mz9 qz9 => ?_)
    · obtain ⟨M9, eMz9⟩ : ∃ M9, M9 = Mz9 := ⟨_, rfl⟩; subst eMz9
      obtain ⟨v10, hxz9, h⟩ := qz9
      cases hxz9
      refine j_istore (lv' := [(7, .int v10), (6, .int v4), (0, .ref a0), (1, .ref a1), (2, .ref a2), (3, .ref a3), (4, .ref a4), (5, .int a5)]) hX eL_law_2826 (by decide) rfl ?_
      refine j_aload_n hX eL_law_2828 4 rfl ?_
      obtain ⟨t14, h⟩ := h
      refine j_callV (a := a2) (q := (RX7, TX7, 17)) (r' := rX7_thrown) (As := []) (rest := []) (d1 := d) hX eL_law_2829 mm_LiftGroupLaw_185 rfl t14 (by decide) rfl h rfl (Nat.le_refl _) (Nat.zero_le _) (Nat.zero_le _) (Nat.le_of_ble_eq_true rfl) (fun vz9 Mz9 qz9 => ?_) (fun Ez9 Mz9 qz9 => ?_)
      · obtain ⟨M12, eMz9⟩ : ∃ M12, M12 = Mz9 := ⟨_, rfl⟩; subst eMz9
        obtain ⟨v13, hxz9, h⟩ := qz9
        cases hxz9
        refine j_iload hX eL_law_2832 1 rfl ?_
        refine j_icmp_eq hX 2839 eL_law_2834 (by decide) (fun c15 => ?_) (fun c15 => ?_)
        · replace h := h.1 c15
          refine j_iload hX eL_law_2839 1 rfl ?_
          refine j_if_ne hX 2856 eL_law_2841 (by decide) (fun c16 => ?_) (fun c16 => ?_)
          · replace h := h.2 c16
            refine j_goto hX 3219 eL_law_2856 (by decide) ?_
            exact j_sub [2, 3, 4, 5, 6, 7] rfl (k3219 _ _ _ _ _ _ _ _ _ h)
          · replace h := h.1 c16
            refine j_aload_n hX eL_law_2844 5 rfl ?_
            refine j_iconst (v := (0 : Int32)) hX eL_law_2845 (by decide) ?_
            obtain ⟨t17, h⟩ := h
            obtain ⟨i18, h⟩ := h
            refine j_lald hX eL_law_2846 t17 i18 ?_
            refine j_iload hX eL_law_2847 0 rfl ?_
            refine j_i2l hX eL_law_2849 ?_
            refine j_lcmp hX eL_law_2850 ?_
            refine j_if_eq hX 2856 eL_law_2851 (by decide) (fun c19 => ?_) (fun c19 => ?_)
            · replace h := h.1 c19
              refine j_goto hX 3219 eL_law_2856 (by decide) ?_
              exact j_sub [2, 3, 4, 5, 6, 7] rfl (k3219 _ _ _ _ _ _ _ _ _ h)
            · replace h := h.2 c19
              refine j_iconst (v := (0 : Int32)) hX eL_law_2854 (by decide) ?_
              exact h.elim
        · replace h := h.2 c15
          refine j_iconst (v := (0 : Int32)) hX eL_law_2837 (by decide) ?_
          exact h.elim
      · obtain ⟨v13, hxz9, h⟩ := qz9
        cases hxz9
    · obtain ⟨v10, hxz9, h⟩ := qz9
      cases hxz9
  · obtain ⟨v4, hxz9, h⟩ := qz9
    cases hxz9
set_option maxHeartbeats 4000000 in
set_option maxRecDepth 20000 in
theorem vL_law_2859 {X : am_Cx} {G : am_Gx} {d : Nat} (hX : am_ok X rL_law G (d + 1)) (hret : ∀ {pc : Nat} {lv : List (Nat × Value)} {M : am_Hp} {bc bs : Nat}, decode rL_law.2.1 pc = .ok (.ireturn, 1) → am_J X pc lv [.int (1 : Int32)] M bc bs) {bc bs : Nat} (R3219 : Nat → Nat → Nat → Nat → Nat → Int32 → am_Hp → Nat → Nat → Prop) (k3219 : ∀ (x0 : Nat) (x1 : Nat) (x2 : Nat) (x3 : Nat) (x4 : Nat) (x5 : Int32) (M : am_Hp) (bc bs : Nat), R3219 x0 x1 x2 x3 x4 x5 M bc bs → am_J X 3219 [(0, .ref x0), (1, .ref x1), (2, .ref x2), (3, .ref x3), (4, .ref x4), (5, .int x5)] [] M bc bs) {a0 : Nat} {a1 : Nat} {a2 : Nat} {a3 : Nat} {a4 : Nat} {a5 : Int32} {M : am_Hp} (h : hp_T M (a1) = 7 ∧ (20 ≤ bc ∧ (2000 ≤ bs ∧ (am_CT G d rX6_renderFloors [.ref a1] M 20 2000 (fun oz9 M1 => ∃ v2 : Int32, oz9 = .inl (some (.int v2)) ∧ (hp_T M1 (a2) = 8 ∧ (am_CT G d rX7_renderFloors [.ref a2] M1 0 0 (fun oz9 M6 => ∃ v7 : Int32, oz9 = .inl (some (.int v7)) ∧ (((v2 = v7) → (R3219 a0 a1 a2 a3 a4 a5 M6 (bc - 20) (bs - 2000))) ∧ (¬ (v2 = v7) → (False))))))))))) : am_J X 2859 [(0, .ref a0), (1, .ref a1), (2, .ref a2), (3, .ref a3), (4, .ref a4), (5, .int a5)] [] M bc bs := by
  refine j_aload_n hX eL_law_2859 1 rfl ?_
  obtain ⟨t3, h⟩ := h
  obtain ⟨b4, b5, h⟩ := h
  refine j_callV (a := a1) (q := (RX6, TX6, 9)) (r' := rX6_renderFloors) (As := []) (rest := []) (d1 := d) hX eL_law_2860 mm_LiftGroupLaw_350 rfl t3 (by decide) rfl h rfl (Nat.le_refl _) b4 b5 (Nat.le_of_ble_eq_true rfl) (fun vz9 Mz9 qz9 => ?_) (fun Ez9 Mz9 qz9 => ?_)
  · obtain ⟨M1, eMz9⟩ : ∃ M1, M1 = Mz9 := ⟨_, rfl⟩; subst eMz9
    obtain ⟨v2, hxz9, h⟩ := qz9
    cases hxz9
    refine j_aload_n hX eL_law_2863 2 rfl ?_
    obtain ⟨t8, h⟩ := h
    refine j_callV (a := a2) (q := (RX7, TX7, 17)) (r' := rX7_renderFloors) (As := []) (rest := [.int v2]) (d1 := d) hX eL_law_2864 mm_LiftGroupLaw_353 rfl t8 (by decide) rfl h rfl (Nat.le_refl _) (Nat.zero_le _) (Nat.zero_le _) (Nat.le_of_ble_eq_true rfl) (fun vz9 Mz9 qz9 => ?_) (fun Ez9 Mz9 qz9 => ?_)
    · obtain ⟨M6, eMz9⟩ : ∃ M6, M6 = Mz9 := ⟨_, rfl⟩; subst eMz9
      obtain ⟨v7, hxz9, h⟩ := qz9
      cases hxz9
      refine j_icmp_eq hX 3219 eL_law_2867 (by decide) (fun c9 => ?_) (fun c9 => ?_)
      · replace h := h.1 c9
        exact j_sub [0, 1, 2, 3, 4, 5] rfl (k3219 _ _ _ _ _ _ _ _ _ h)
      · replace h := h.2 c9
        refine j_iconst (v := (0 : Int32)) hX eL_law_2870 (by decide) ?_
        exact h.elim
    · obtain ⟨v7, hxz9, h⟩ := qz9
      cases hxz9
  · obtain ⟨v2, hxz9, h⟩ := qz9
    cases hxz9
set_option maxHeartbeats 4000000 in
set_option maxRecDepth 20000 in
theorem vL_law_2872 {X : am_Cx} {G : am_Gx} {d : Nat} (hX : am_ok X rL_law G (d + 1)) (hret : ∀ {pc : Nat} {lv : List (Nat × Value)} {M : am_Hp} {bc bs : Nat}, decode rL_law.2.1 pc = .ok (.ireturn, 1) → am_J X pc lv [.int (1 : Int32)] M bc bs) {bc bs : Nat} (R3219 : Nat → Nat → Nat → Nat → Nat → Int32 → am_Hp → Nat → Nat → Prop) (k3219 : ∀ (x0 : Nat) (x1 : Nat) (x2 : Nat) (x3 : Nat) (x4 : Nat) (x5 : Int32) (M : am_Hp) (bc bs : Nat), R3219 x0 x1 x2 x3 x4 x5 M bc bs → am_J X 3219 [(0, .ref x0), (1, .ref x1), (2, .ref x2), (3, .ref x3), (4, .ref x4), (5, .int x5)] [] M bc bs) {a0 : Nat} {a1 : Nat} {a2 : Nat} {a3 : Nat} {a4 : Nat} {a5 : Int32} {M : am_Hp} (h : hp_T M (a0) = 42 ∧ (vp_in (a5 + (1 : Int32)) (hp_N M a0) ∧ (1 ≤ bc ∧ (6 ≤ bs ∧ (am_CT G d rL_outputAt [.ref a1, .int (hp_E M a0 ((a5 + (1 : Int32))).toNatClampNeg), .ref a3] M 1 6 (fun oz9 M3 => ∃ v4 : Int32, oz9 = .inl (some (.int v4)) ∧ (hp_T M3 (a0) = 42 ∧ (vp_in (a5 + (1 : Int32)) (hp_N M3 a0) ∧ (hp_T M3 (a2) = 8 ∧ (am_CT G d rX7_outputAt [.ref a2, .int (hp_E M3 a0 ((a5 + (1 : Int32))).toNatClampNeg)] M3 0 0 (fun oz9 M9 => ∃ v10 : Int32, oz9 = .inl (some (.int v10)) ∧ (hp_T M9 (a2) = 8 ∧ (am_CT G d rX7_thrown [.ref a2] M9 0 0 (fun oz9 M12 => ∃ v13 : Int32, oz9 = .inl (some (.int v13)) ∧ (((v13 = v4) → (((v4 = 0) → (hp_T M12 (a3) = 23 ∧ (vp_in (0 : Int32) (hp_N M12 a3) ∧ ((((lg_cmp (hp_L M12 a3 ((0 : Int32)).toNatClampNeg) ((v10).toInt64)) = 0) → (R3219 a0 a1 a2 a3 a4 a5 M12 (bc - 1) (bs - 6))) ∧ (¬ ((lg_cmp (hp_L M12 a3 ((0 : Int32)).toNatClampNeg) ((v10).toInt64)) = 0) → (False)))))) ∧ (¬ (v4 = 0) → (R3219 a0 a1 a2 a3 a4 a5 M12 (bc - 1) (bs - 6))))) ∧ (¬ (v13 = v4) → (False))))))))))))))))) : am_J X 2872 [(0, .ref a0), (1, .ref a1), (2, .ref a2), (3, .ref a3), (4, .ref a4), (5, .int a5)] [] M bc bs := by
  refine j_aload_n hX eL_law_2872 1 rfl ?_
  refine j_aload_n hX eL_law_2873 0 rfl ?_
  refine j_iload hX eL_law_2874 5 rfl ?_
  refine j_iconst (v := (1 : Int32)) hX eL_law_2876 (by decide) ?_
  refine j_iadd hX eL_law_2877 ?_
  obtain ⟨t1, h⟩ := h
  obtain ⟨i2, h⟩ := h
  refine j_ialdx hX eL_law_2878 t1 i2 ?_
  refine j_aload_n hX eL_law_2879 3 rfl ?_
  obtain ⟨b5, b6, h⟩ := h
  refine j_callSX (r' := rL_outputAt) (As := [.ref a1, .int (hp_E M a0 ((a5 + (1 : Int32))).toNatClampNeg), .ref a3]) (rest := []) (d1 := d) hX eL_law_2880 mm_LiftGroupLaw_354 (by decide) rfl h rfl (Nat.le_refl _) b5 b6 (Nat.le_of_ble_eq_true rfl) (fun vz9 Mz9 qz9 => ?_) (fun Ez9 Mz9 qz9 => ?_)
  · obtain ⟨M3, eMz9⟩ : ∃ M3, M3 = Mz9 := ⟨_, rfl⟩; subst eMz9
    obtain ⟨v4, hxz9, h⟩ := qz9
    cases hxz9
    refine j_istore (lv' := [(6, .int v4), (0, .ref a0), (1, .ref a1), (2, .ref a2), (3, .ref a3), (4, .ref a4), (5, .int a5)]) hX eL_law_2883 (by decide) rfl ?_
    refine j_aload_n hX eL_law_2885 3 rfl ?_
    refine j_aload_n hX eL_law_2886 1 rfl ?_
    refine j_iload hX eL_law_2887 6 rfl ?_
    refine j_iconst (v := (1 : Int32)) hX eL_law_2889 (by decide) ?_
    refine j_iadd hX eL_law_2890 ?_
    obtain ⟨t7, h⟩ := h
    obtain ⟨i8, h⟩ := h
    refine j_ialdx hX eL_law_2891 t7 i8 ?_
    obtain ⟨t11, h⟩ := h
    refine j_callV (a := a2) (q := (RX7, TX7, 17)) (r' := rX7_outputAt) (As := [.int (hp_E M3 a0 ((a5 + (1 : Int32))).toNatClampNeg)]) (rest := []) (d1 := d) hX eL_law_2892 mm_LiftGroupLaw_356 rfl t11 (by decide) rfl h rfl (Nat.le_refl _) (Nat.zero_le _) (Nat.zero_le _) (Nat.le_of_ble_eq_true rfl) (fun vz9 Mz9 qz9 => ?_) (fun Ez9 Mz9 qz9 => ?_)
    · obtain ⟨M9, eMz9⟩ : ∃ M9, M9 = Mz9 := ⟨_, rfl⟩; subst eMz9
      obtain ⟨v10, hxz9, h⟩ := qz9
      cases hxz9
      refine j_istore (lv' := [(7, .int v10), (6, .int v4), (0, .ref a0), (1, .ref a1), (2, .ref a2), (3, .ref a3), (4, .ref a4), (5, .int a5)]) hX eL_law_2895 (by decide) rfl ?_
      refine j_aload_n hX eL_law_2897 4 rfl ?_
      obtain ⟨t14, h⟩ := h
      refine j_callV (a := a2) (q := (RX7, TX7, 17)) (r' := rX7_thrown) (As := []) (rest := []) (d1 := d) hX eL_law_2898 mm_LiftGroupLaw_185 rfl t14 (by decide) rfl h rfl (Nat.le_refl _) (Nat.zero_le _) (Nat.zero_le _) (Nat.le_of_ble_eq_true rfl) (fun vz9 Mz9 qz9 => ?_) (fun Ez9 Mz9 qz9 => ?_)
      · obtain ⟨M12, eMz9⟩ : ∃ M12, M12 = Mz9 := ⟨_, rfl⟩; subst eMz9
        obtain ⟨v13, hxz9, h⟩ := qz9
        cases hxz9
        refine j_iload hX eL_law_2901 1 rfl ?_
        refine j_icmp_eq hX 2908 eL_law_2903 (by decide) (fun c15 => ?_) (fun c15 => ?_)
        · replace h := h.1 c15
          refine j_iload hX eL_law_2908 1 rfl ?_
          refine j_if_ne hX 2925 eL_law_2910 (by decide) (fun c16 => ?_) (fun c16 => ?_)
          · replace h := h.2 c16
            refine j_goto hX 3219 eL_law_2925 (by decide) ?_
            exact j_sub [2, 3, 4, 5, 6, 7] rfl (k3219 _ _ _ _ _ _ _ _ _ h)
          · replace h := h.1 c16
            refine j_aload_n hX eL_law_2913 5 rfl ?_
            refine j_iconst (v := (0 : Int32)) hX eL_law_2914 (by decide) ?_
            obtain ⟨t17, h⟩ := h
            obtain ⟨i18, h⟩ := h
            refine j_lald hX eL_law_2915 t17 i18 ?_
            refine j_iload hX eL_law_2916 0 rfl ?_
            refine j_i2l hX eL_law_2918 ?_
            refine j_lcmp hX eL_law_2919 ?_
            refine j_if_eq hX 2925 eL_law_2920 (by decide) (fun c19 => ?_) (fun c19 => ?_)
            · replace h := h.1 c19
              refine j_goto hX 3219 eL_law_2925 (by decide) ?_
              exact j_sub [2, 3, 4, 5, 6, 7] rfl (k3219 _ _ _ _ _ _ _ _ _ h)
            · replace h := h.2 c19
              refine j_iconst (v := (0 : Int32)) hX eL_law_2923 (by decide) ?_
              exact h.elim
        · replace h := h.2 c15
          refine j_iconst (v := (0 : Int32)) hX eL_law_2906 (by decide) ?_
          exact h.elim
      · obtain ⟨v13, hxz9, h⟩ := qz9
        cases hxz9
    · obtain ⟨v10, hxz9, h⟩ := qz9
      cases hxz9
  · obtain ⟨v4, hxz9, h⟩ := qz9
    cases hxz9
set_option maxHeartbeats 4000000 in
set_option maxRecDepth 20000 in
theorem vL_law_2928 {X : am_Cx} {G : am_Gx} {d : Nat} (hX : am_ok X rL_law G (d + 1)) (hret : ∀ {pc : Nat} {lv : List (Nat × Value)} {M : am_Hp} {bc bs : Nat}, decode rL_law.2.1 pc = .ok (.ireturn, 1) → am_J X pc lv [.int (1 : Int32)] M bc bs) {bc bs : Nat} (R3219 : Nat → Nat → Nat → Nat → Nat → Int32 → am_Hp → Nat → Nat → Prop) (k3219 : ∀ (x0 : Nat) (x1 : Nat) (x2 : Nat) (x3 : Nat) (x4 : Nat) (x5 : Int32) (M : am_Hp) (bc bs : Nat), R3219 x0 x1 x2 x3 x4 x5 M bc bs → am_J X 3219 [(0, .ref x0), (1, .ref x1), (2, .ref x2), (3, .ref x3), (4, .ref x4), (5, .int x5)] [] M bc bs) {a0 : Nat} {a1 : Nat} {a2 : Nat} {a3 : Nat} {a4 : Nat} {a5 : Int32} {M : am_Hp} (h : hp_T M (a0) = 42 ∧ (vp_in (a5 + (1 : Int32)) (hp_N M a0) ∧ (1 ≤ bc ∧ (100 ≤ bs ∧ (am_CT G d rL_type [.ref a1, .int ((((hp_E M a0 ((a5 + (1 : Int32))).toNatClampNeg)).toUInt32 % 65536).toInt32), .ref a3] M 1 100 (fun oz9 M3 => ∃ v4 : Int32, oz9 = .inl (some (.int v4)) ∧ (hp_T M3 (a0) = 42 ∧ (vp_in (a5 + (1 : Int32)) (hp_N M3 a0) ∧ (hp_T M3 (a2) = 8 ∧ (am_CT G d rX7_type [.ref a2, .int ((((hp_E M3 a0 ((a5 + (1 : Int32))).toNatClampNeg)).toUInt32 % 65536).toInt32)] M3 0 0 (fun oz9 M9 => ∃ v10 : Int32, oz9 = .inl (some (.int v10)) ∧ (hp_T M9 (a2) = 8 ∧ (am_CT G d rX7_thrown [.ref a2] M9 0 0 (fun oz9 M12 => ∃ v13 : Int32, oz9 = .inl (some (.int v13)) ∧ (((v13 = v4) → (((v4 = 0) → (hp_T M12 (a3) = 23 ∧ (vp_in (0 : Int32) (hp_N M12 a3) ∧ ((((lg_cmp (hp_L M12 a3 ((0 : Int32)).toNatClampNeg) ((v10).toInt64)) = 0) → (R3219 a0 a1 a2 a3 a4 a5 M12 (bc - 1) (bs - 100))) ∧ (¬ ((lg_cmp (hp_L M12 a3 ((0 : Int32)).toNatClampNeg) ((v10).toInt64)) = 0) → (False)))))) ∧ (¬ (v4 = 0) → (R3219 a0 a1 a2 a3 a4 a5 M12 (bc - 1) (bs - 100))))) ∧ (¬ (v13 = v4) → (False))))))))))))))))) : am_J X 2928 [(0, .ref a0), (1, .ref a1), (2, .ref a2), (3, .ref a3), (4, .ref a4), (5, .int a5)] [] M bc bs := by
  refine j_aload_n hX eL_law_2928 1 rfl ?_
  refine j_aload_n hX eL_law_2929 0 rfl ?_
  refine j_iload hX eL_law_2930 5 rfl ?_
  refine j_iconst (v := (1 : Int32)) hX eL_law_2932 (by decide) ?_
  refine j_iadd hX eL_law_2933 ?_
  obtain ⟨t1, h⟩ := h
  obtain ⟨i2, h⟩ := h
  refine j_ialdx hX eL_law_2934 t1 i2 ?_
  refine j_i2c hX eL_law_2935 ?_
  refine j_aload_n hX eL_law_2936 3 rfl ?_
  obtain ⟨b5, b6, h⟩ := h
  refine j_callSX (r' := rL_type) (As := [.ref a1, .int ((((hp_E M a0 ((a5 + (1 : Int32))).toNatClampNeg)).toUInt32 % 65536).toInt32), .ref a3]) (rest := []) (d1 := d) hX eL_law_2937 mm_LiftGroupLaw_357 (by decide) rfl h rfl (Nat.le_refl _) b5 b6 (Nat.le_of_ble_eq_true rfl) (fun vz9 Mz9 qz9 => ?_) (fun Ez9 Mz9 qz9 => ?_)
  · obtain ⟨M3, eMz9⟩ : ∃ M3, M3 = Mz9 := ⟨_, rfl⟩; subst eMz9
    obtain ⟨v4, hxz9, h⟩ := qz9
    cases hxz9
    refine j_istore (lv' := [(6, .int v4), (0, .ref a0), (1, .ref a1), (2, .ref a2), (3, .ref a3), (4, .ref a4), (5, .int a5)]) hX eL_law_2940 (by decide) rfl ?_
    refine j_aload_n hX eL_law_2942 3 rfl ?_
    refine j_aload_n hX eL_law_2943 1 rfl ?_
    refine j_iload hX eL_law_2944 6 rfl ?_
    refine j_iconst (v := (1 : Int32)) hX eL_law_2946 (by decide) ?_
    refine j_iadd hX eL_law_2947 ?_
    obtain ⟨t7, h⟩ := h
    obtain ⟨i8, h⟩ := h
    refine j_ialdx hX eL_law_2948 t7 i8 ?_
    refine j_i2c hX eL_law_2949 ?_
    obtain ⟨t11, h⟩ := h
    refine j_callV (a := a2) (q := (RX7, TX7, 17)) (r' := rX7_type) (As := [.int ((((hp_E M3 a0 ((a5 + (1 : Int32))).toNatClampNeg)).toUInt32 % 65536).toInt32)]) (rest := []) (d1 := d) hX eL_law_2950 mm_LiftGroupLaw_360 rfl t11 (by decide) rfl h rfl (Nat.le_refl _) (Nat.zero_le _) (Nat.zero_le _) (Nat.le_of_ble_eq_true rfl) (fun vz9 Mz9 qz9 => ?_) (fun Ez9 Mz9 qz9 => ?_)
    · obtain ⟨M9, eMz9⟩ : ∃ M9, M9 = Mz9 := ⟨_, rfl⟩; subst eMz9
      obtain ⟨v10, hxz9, h⟩ := qz9
      cases hxz9
      refine j_istore (lv' := [(7, .int v10), (6, .int v4), (0, .ref a0), (1, .ref a1), (2, .ref a2), (3, .ref a3), (4, .ref a4), (5, .int a5)]) hX eL_law_2953 (by decide) rfl ?_
      refine j_aload_n hX eL_law_2955 4 rfl ?_
      obtain ⟨t14, h⟩ := h
      refine j_callV (a := a2) (q := (RX7, TX7, 17)) (r' := rX7_thrown) (As := []) (rest := []) (d1 := d) hX eL_law_2956 mm_LiftGroupLaw_185 rfl t14 (by decide) rfl h rfl (Nat.le_refl _) (Nat.zero_le _) (Nat.zero_le _) (Nat.le_of_ble_eq_true rfl) (fun vz9 Mz9 qz9 => ?_) (fun Ez9 Mz9 qz9 => ?_)
      · obtain ⟨M12, eMz9⟩ : ∃ M12, M12 = Mz9 := ⟨_, rfl⟩; subst eMz9
        obtain ⟨v13, hxz9, h⟩ := qz9
        cases hxz9
        refine j_iload hX eL_law_2959 1 rfl ?_
        refine j_icmp_eq hX 2966 eL_law_2961 (by decide) (fun c15 => ?_) (fun c15 => ?_)
        · replace h := h.1 c15
          refine j_iload hX eL_law_2966 1 rfl ?_
          refine j_if_ne hX 2983 eL_law_2968 (by decide) (fun c16 => ?_) (fun c16 => ?_)
          · replace h := h.2 c16
            refine j_goto hX 3219 eL_law_2983 (by decide) ?_
            exact j_sub [2, 3, 4, 5, 6, 7] rfl (k3219 _ _ _ _ _ _ _ _ _ h)
          · replace h := h.1 c16
            refine j_aload_n hX eL_law_2971 5 rfl ?_
            refine j_iconst (v := (0 : Int32)) hX eL_law_2972 (by decide) ?_
            obtain ⟨t17, h⟩ := h
            obtain ⟨i18, h⟩ := h
            refine j_lald hX eL_law_2973 t17 i18 ?_
            refine j_iload hX eL_law_2974 0 rfl ?_
            refine j_i2l hX eL_law_2976 ?_
            refine j_lcmp hX eL_law_2977 ?_
            refine j_if_eq hX 2983 eL_law_2978 (by decide) (fun c19 => ?_) (fun c19 => ?_)
            · replace h := h.1 c19
              refine j_goto hX 3219 eL_law_2983 (by decide) ?_
              exact j_sub [2, 3, 4, 5, 6, 7] rfl (k3219 _ _ _ _ _ _ _ _ _ h)
            · replace h := h.2 c19
              refine j_iconst (v := (0 : Int32)) hX eL_law_2981 (by decide) ?_
              exact h.elim
        · replace h := h.2 c15
          refine j_iconst (v := (0 : Int32)) hX eL_law_2964 (by decide) ?_
          exact h.elim
      · obtain ⟨v13, hxz9, h⟩ := qz9
        cases hxz9
    · obtain ⟨v10, hxz9, h⟩ := qz9
      cases hxz9
  · obtain ⟨v4, hxz9, h⟩ := qz9
    cases hxz9
set_option maxHeartbeats 4000000 in
set_option maxRecDepth 20000 in
theorem vL_law_2986 {X : am_Cx} {G : am_Gx} {d : Nat} (hX : am_ok X rL_law G (d + 1)) (hret : ∀ {pc : Nat} {lv : List (Nat × Value)} {M : am_Hp} {bc bs : Nat}, decode rL_law.2.1 pc = .ok (.ireturn, 1) → am_J X pc lv [.int (1 : Int32)] M bc bs) {bc bs : Nat} (R3219 : Nat → Nat → Nat → Nat → Nat → Int32 → am_Hp → Nat → Nat → Prop) (k3219 : ∀ (x0 : Nat) (x1 : Nat) (x2 : Nat) (x3 : Nat) (x4 : Nat) (x5 : Int32) (M : am_Hp) (bc bs : Nat), R3219 x0 x1 x2 x3 x4 x5 M bc bs → am_J X 3219 [(0, .ref x0), (1, .ref x1), (2, .ref x2), (3, .ref x3), (4, .ref x4), (5, .int x5)] [] M bc bs) {a0 : Nat} {a1 : Nat} {a2 : Nat} {a3 : Nat} {a4 : Nat} {a5 : Int32} {M : am_Hp} (h : 1 ≤ bc ∧ (6 ≤ bs ∧ (am_CT G d rL_runScript [.ref a1, .ref a3] M 1 6 (fun oz9 M1 => ∃ v2 : Int32, oz9 = .inl (some (.int v2)) ∧ (hp_T M1 (a2) = 8 ∧ (am_CT G d rX7_runScript [.ref a2] M1 0 0 (fun oz9 M5 => ∃ v6 : Int32, oz9 = .inl (some (.int v6)) ∧ (hp_T M5 (a2) = 8 ∧ (am_CT G d rX7_thrown [.ref a2] M5 0 0 (fun oz9 M8 => ∃ v9 : Int32, oz9 = .inl (some (.int v9)) ∧ (((v9 = v2) → (((v2 = 0) → (hp_T M8 (a3) = 23 ∧ (vp_in (0 : Int32) (hp_N M8 a3) ∧ ((((lg_cmp (hp_L M8 a3 ((0 : Int32)).toNatClampNeg) ((v6).toInt64)) = 0) → (R3219 a0 a1 a2 a3 a4 a5 M8 (bc - 1) (bs - 6))) ∧ (¬ ((lg_cmp (hp_L M8 a3 ((0 : Int32)).toNatClampNeg) ((v6).toInt64)) = 0) → (False)))))) ∧ (¬ (v2 = 0) → (R3219 a0 a1 a2 a3 a4 a5 M8 (bc - 1) (bs - 6))))) ∧ (¬ (v9 = v2) → (False))))))))))))) : am_J X 2986 [(0, .ref a0), (1, .ref a1), (2, .ref a2), (3, .ref a3), (4, .ref a4), (5, .int a5)] [] M bc bs := by
  refine j_aload_n hX eL_law_2986 1 rfl ?_
  refine j_aload_n hX eL_law_2987 3 rfl ?_
  obtain ⟨b3, b4, h⟩ := h
  refine j_callSX (r' := rL_runScript) (As := [.ref a1, .ref a3]) (rest := []) (d1 := d) hX eL_law_2988 mm_LiftGroupLaw_361 (by decide) rfl h rfl (Nat.le_refl _) b3 b4 (Nat.le_of_ble_eq_true rfl) (fun vz9 Mz9 qz9 => ?_) (fun Ez9 Mz9 qz9 => ?_)
  · obtain ⟨M1, eMz9⟩ : ∃ M1, M1 = Mz9 := ⟨_, rfl⟩; subst eMz9
    obtain ⟨v2, hxz9, h⟩ := qz9
    cases hxz9
    refine j_istore (lv' := [(6, .int v2), (0, .ref a0), (1, .ref a1), (2, .ref a2), (3, .ref a3), (4, .ref a4), (5, .int a5)]) hX eL_law_2991 (by decide) rfl ?_
    refine j_aload_n hX eL_law_2993 3 rfl ?_
    obtain ⟨t7, h⟩ := h
    refine j_callV (a := a2) (q := (RX7, TX7, 17)) (r' := rX7_runScript) (As := []) (rest := []) (d1 := d) hX eL_law_2994 mm_LiftGroupLaw_364 rfl t7 (by decide) rfl h rfl (Nat.le_refl _) (Nat.zero_le _) (Nat.zero_le _) (Nat.le_of_ble_eq_true rfl) (fun vz9 Mz9 qz9 => ?_) (fun Ez9 Mz9 qz9 => ?_)
    · obtain ⟨M5, eMz9⟩ : ∃ M5, M5 = Mz9 := ⟨_, rfl⟩; subst eMz9
      obtain ⟨v6, hxz9, h⟩ := qz9
      cases hxz9
      refine j_istore (lv' := [(7, .int v6), (6, .int v2), (0, .ref a0), (1, .ref a1), (2, .ref a2), (3, .ref a3), (4, .ref a4), (5, .int a5)]) hX eL_law_2997 (by decide) rfl ?_
      refine j_aload_n hX eL_law_2999 4 rfl ?_
      obtain ⟨t10, h⟩ := h
      refine j_callV (a := a2) (q := (RX7, TX7, 17)) (r' := rX7_thrown) (As := []) (rest := []) (d1 := d) hX eL_law_3000 mm_LiftGroupLaw_185 rfl t10 (by decide) rfl h rfl (Nat.le_refl _) (Nat.zero_le _) (Nat.zero_le _) (Nat.le_of_ble_eq_true rfl) (fun vz9 Mz9 qz9 => ?_) (fun Ez9 Mz9 qz9 => ?_)
      · obtain ⟨M8, eMz9⟩ : ∃ M8, M8 = Mz9 := ⟨_, rfl⟩; subst eMz9
        obtain ⟨v9, hxz9, h⟩ := qz9
        cases hxz9
        refine j_iload hX eL_law_3003 1 rfl ?_
        refine j_icmp_eq hX 3010 eL_law_3005 (by decide) (fun c11 => ?_) (fun c11 => ?_)
        · replace h := h.1 c11
          refine j_iload hX eL_law_3010 1 rfl ?_
          refine j_if_ne hX 3027 eL_law_3012 (by decide) (fun c12 => ?_) (fun c12 => ?_)
          · replace h := h.2 c12
            refine j_goto hX 3219 eL_law_3027 (by decide) ?_
            exact j_sub [2, 3, 4, 5, 6, 7] rfl (k3219 _ _ _ _ _ _ _ _ _ h)
          · replace h := h.1 c12
            refine j_aload_n hX eL_law_3015 5 rfl ?_
            refine j_iconst (v := (0 : Int32)) hX eL_law_3016 (by decide) ?_
            obtain ⟨t13, h⟩ := h
            obtain ⟨i14, h⟩ := h
            refine j_lald hX eL_law_3017 t13 i14 ?_
            refine j_iload hX eL_law_3018 0 rfl ?_
            refine j_i2l hX eL_law_3020 ?_
            refine j_lcmp hX eL_law_3021 ?_
            refine j_if_eq hX 3027 eL_law_3022 (by decide) (fun c15 => ?_) (fun c15 => ?_)
            · replace h := h.1 c15
              refine j_goto hX 3219 eL_law_3027 (by decide) ?_
              exact j_sub [2, 3, 4, 5, 6, 7] rfl (k3219 _ _ _ _ _ _ _ _ _ h)
            · replace h := h.2 c15
              refine j_iconst (v := (0 : Int32)) hX eL_law_3025 (by decide) ?_
              exact h.elim
        · replace h := h.2 c11
          refine j_iconst (v := (0 : Int32)) hX eL_law_3008 (by decide) ?_
          exact h.elim
      · obtain ⟨v9, hxz9, h⟩ := qz9
        cases hxz9
    · obtain ⟨v6, hxz9, h⟩ := qz9
      cases hxz9
  · obtain ⟨v2, hxz9, h⟩ := qz9
    cases hxz9
set_option maxHeartbeats 4000000 in
set_option maxRecDepth 20000 in
theorem vL_law_3030 {X : am_Cx} {G : am_Gx} {d : Nat} (hX : am_ok X rL_law G (d + 1)) (hret : ∀ {pc : Nat} {lv : List (Nat × Value)} {M : am_Hp} {bc bs : Nat}, decode rL_law.2.1 pc = .ok (.ireturn, 1) → am_J X pc lv [.int (1 : Int32)] M bc bs) {bc bs : Nat} (R3219 : Nat → Nat → Nat → Nat → Nat → Int32 → am_Hp → Nat → Nat → Prop) (k3219 : ∀ (x0 : Nat) (x1 : Nat) (x2 : Nat) (x3 : Nat) (x4 : Nat) (x5 : Int32) (M : am_Hp) (bc bs : Nat), R3219 x0 x1 x2 x3 x4 x5 M bc bs → am_J X 3219 [(0, .ref x0), (1, .ref x1), (2, .ref x2), (3, .ref x3), (4, .ref x4), (5, .int x5)] [] M bc bs) {a0 : Nat} {a1 : Nat} {a2 : Nat} {a3 : Nat} {a4 : Nat} {a5 : Int32} {M : am_Hp} (h : 1 ≤ bc ∧ (6 ≤ bs ∧ (am_CT G d rL_errorPosition [.ref a1, .ref a3] M 1 6 (fun oz9 M1 => ∃ v2 : Int32, oz9 = .inl (some (.int v2)) ∧ (hp_T M1 (a2) = 8 ∧ (am_CT G d rX7_errorPosition [.ref a2] M1 0 0 (fun oz9 M5 => ∃ v6 : Int32, oz9 = .inl (some (.int v6)) ∧ (hp_T M5 (a2) = 8 ∧ (am_CT G d rX7_thrown [.ref a2] M5 0 0 (fun oz9 M8 => ∃ v9 : Int32, oz9 = .inl (some (.int v9)) ∧ (((v9 = v2) → (((v2 = 0) → (hp_T M8 (a3) = 23 ∧ (vp_in (0 : Int32) (hp_N M8 a3) ∧ ((((lg_cmp (hp_L M8 a3 ((0 : Int32)).toNatClampNeg) ((v6).toInt64)) = 0) → (R3219 a0 a1 a2 a3 a4 a5 M8 (bc - 1) (bs - 6))) ∧ (¬ ((lg_cmp (hp_L M8 a3 ((0 : Int32)).toNatClampNeg) ((v6).toInt64)) = 0) → (False)))))) ∧ (¬ (v2 = 0) → (R3219 a0 a1 a2 a3 a4 a5 M8 (bc - 1) (bs - 6))))) ∧ (¬ (v9 = v2) → (False))))))))))))) : am_J X 3030 [(0, .ref a0), (1, .ref a1), (2, .ref a2), (3, .ref a3), (4, .ref a4), (5, .int a5)] [] M bc bs := by
  refine j_aload_n hX eL_law_3030 1 rfl ?_
  refine j_aload_n hX eL_law_3031 3 rfl ?_
  obtain ⟨b3, b4, h⟩ := h
  refine j_callSX (r' := rL_errorPosition) (As := [.ref a1, .ref a3]) (rest := []) (d1 := d) hX eL_law_3032 mm_LiftGroupLaw_365 (by decide) rfl h rfl (Nat.le_refl _) b3 b4 (Nat.le_of_ble_eq_true rfl) (fun vz9 Mz9 qz9 => ?_) (fun Ez9 Mz9 qz9 => ?_)
  · obtain ⟨M1, eMz9⟩ : ∃ M1, M1 = Mz9 := ⟨_, rfl⟩; subst eMz9
    obtain ⟨v2, hxz9, h⟩ := qz9
    cases hxz9
    refine j_istore (lv' := [(6, .int v2), (0, .ref a0), (1, .ref a1), (2, .ref a2), (3, .ref a3), (4, .ref a4), (5, .int a5)]) hX eL_law_3035 (by decide) rfl ?_
    refine j_aload_n hX eL_law_3037 3 rfl ?_
    obtain ⟨t7, h⟩ := h
    refine j_callV (a := a2) (q := (RX7, TX7, 17)) (r' := rX7_errorPosition) (As := []) (rest := []) (d1 := d) hX eL_law_3038 mm_LiftGroupLaw_367 rfl t7 (by decide) rfl h rfl (Nat.le_refl _) (Nat.zero_le _) (Nat.zero_le _) (Nat.le_of_ble_eq_true rfl) (fun vz9 Mz9 qz9 => ?_) (fun Ez9 Mz9 qz9 => ?_)
    · obtain ⟨M5, eMz9⟩ : ∃ M5, M5 = Mz9 := ⟨_, rfl⟩; subst eMz9
      obtain ⟨v6, hxz9, h⟩ := qz9
      cases hxz9
      refine j_istore (lv' := [(7, .int v6), (6, .int v2), (0, .ref a0), (1, .ref a1), (2, .ref a2), (3, .ref a3), (4, .ref a4), (5, .int a5)]) hX eL_law_3041 (by decide) rfl ?_
      refine j_aload_n hX eL_law_3043 4 rfl ?_
      obtain ⟨t10, h⟩ := h
      refine j_callV (a := a2) (q := (RX7, TX7, 17)) (r' := rX7_thrown) (As := []) (rest := []) (d1 := d) hX eL_law_3044 mm_LiftGroupLaw_185 rfl t10 (by decide) rfl h rfl (Nat.le_refl _) (Nat.zero_le _) (Nat.zero_le _) (Nat.le_of_ble_eq_true rfl) (fun vz9 Mz9 qz9 => ?_) (fun Ez9 Mz9 qz9 => ?_)
      · obtain ⟨M8, eMz9⟩ : ∃ M8, M8 = Mz9 := ⟨_, rfl⟩; subst eMz9
        obtain ⟨v9, hxz9, h⟩ := qz9
        cases hxz9
        refine j_iload hX eL_law_3047 1 rfl ?_
        refine j_icmp_eq hX 3054 eL_law_3049 (by decide) (fun c11 => ?_) (fun c11 => ?_)
        · replace h := h.1 c11
          refine j_iload hX eL_law_3054 1 rfl ?_
          refine j_if_ne hX 3071 eL_law_3056 (by decide) (fun c12 => ?_) (fun c12 => ?_)
          · replace h := h.2 c12
            refine j_goto hX 3219 eL_law_3071 (by decide) ?_
            exact j_sub [2, 3, 4, 5, 6, 7] rfl (k3219 _ _ _ _ _ _ _ _ _ h)
          · replace h := h.1 c12
            refine j_aload_n hX eL_law_3059 5 rfl ?_
            refine j_iconst (v := (0 : Int32)) hX eL_law_3060 (by decide) ?_
            obtain ⟨t13, h⟩ := h
            obtain ⟨i14, h⟩ := h
            refine j_lald hX eL_law_3061 t13 i14 ?_
            refine j_iload hX eL_law_3062 0 rfl ?_
            refine j_i2l hX eL_law_3064 ?_
            refine j_lcmp hX eL_law_3065 ?_
            refine j_if_eq hX 3071 eL_law_3066 (by decide) (fun c15 => ?_) (fun c15 => ?_)
            · replace h := h.1 c15
              refine j_goto hX 3219 eL_law_3071 (by decide) ?_
              exact j_sub [2, 3, 4, 5, 6, 7] rfl (k3219 _ _ _ _ _ _ _ _ _ h)
            · replace h := h.2 c15
              refine j_iconst (v := (0 : Int32)) hX eL_law_3069 (by decide) ?_
              exact h.elim
        · replace h := h.2 c11
          refine j_iconst (v := (0 : Int32)) hX eL_law_3052 (by decide) ?_
          exact h.elim
      · obtain ⟨v9, hxz9, h⟩ := qz9
        cases hxz9
    · obtain ⟨v6, hxz9, h⟩ := qz9
      cases hxz9
  · obtain ⟨v2, hxz9, h⟩ := qz9
    cases hxz9
set_option maxHeartbeats 4000000 in
set_option maxRecDepth 20000 in
theorem vL_law_3074 {X : am_Cx} {G : am_Gx} {d : Nat} (hX : am_ok X rL_law G (d + 1)) (hret : ∀ {pc : Nat} {lv : List (Nat × Value)} {M : am_Hp} {bc bs : Nat}, decode rL_law.2.1 pc = .ok (.ireturn, 1) → am_J X pc lv [.int (1 : Int32)] M bc bs) {bc bs : Nat} (R3219 : Nat → Nat → Nat → Nat → Nat → Int32 → am_Hp → Nat → Nat → Prop) (k3219 : ∀ (x0 : Nat) (x1 : Nat) (x2 : Nat) (x3 : Nat) (x4 : Nat) (x5 : Int32) (M : am_Hp) (bc bs : Nat), R3219 x0 x1 x2 x3 x4 x5 M bc bs → am_J X 3219 [(0, .ref x0), (1, .ref x1), (2, .ref x2), (3, .ref x3), (4, .ref x4), (5, .int x5)] [] M bc bs) {a0 : Nat} {a1 : Nat} {a2 : Nat} {a3 : Nat} {a4 : Nat} {a5 : Int32} {M : am_Hp} (h : 1 ≤ bc ∧ (6 ≤ bs ∧ (am_CT G d rL_failedCommand [.ref a1, .ref a3] M 1 6 (fun oz9 M1 => ∃ v2 : Int32, oz9 = .inl (some (.int v2)) ∧ (hp_T M1 (a2) = 8 ∧ (am_CT G d rX7_failedCommand [.ref a2] M1 0 0 (fun oz9 M5 => ∃ v6 : Int32, oz9 = .inl (some (.int v6)) ∧ (hp_T M5 (a2) = 8 ∧ (am_CT G d rX7_thrown [.ref a2] M5 0 0 (fun oz9 M8 => ∃ v9 : Int32, oz9 = .inl (some (.int v9)) ∧ (((v9 = v2) → (((v2 = 0) → (hp_T M8 (a3) = 23 ∧ (vp_in (0 : Int32) (hp_N M8 a3) ∧ ((((lg_cmp (hp_L M8 a3 ((0 : Int32)).toNatClampNeg) ((v6).toInt64)) = 0) → (R3219 a0 a1 a2 a3 a4 a5 M8 (bc - 1) (bs - 6))) ∧ (¬ ((lg_cmp (hp_L M8 a3 ((0 : Int32)).toNatClampNeg) ((v6).toInt64)) = 0) → (False)))))) ∧ (¬ (v2 = 0) → (R3219 a0 a1 a2 a3 a4 a5 M8 (bc - 1) (bs - 6))))) ∧ (¬ (v9 = v2) → (False))))))))))))) : am_J X 3074 [(0, .ref a0), (1, .ref a1), (2, .ref a2), (3, .ref a3), (4, .ref a4), (5, .int a5)] [] M bc bs := by
  refine j_aload_n hX eL_law_3074 1 rfl ?_
  refine j_aload_n hX eL_law_3075 3 rfl ?_
  obtain ⟨b3, b4, h⟩ := h
  refine j_callSX (r' := rL_failedCommand) (As := [.ref a1, .ref a3]) (rest := []) (d1 := d) hX eL_law_3076 mm_LiftGroupLaw_368 (by decide) rfl h rfl (Nat.le_refl _) b3 b4 (Nat.le_of_ble_eq_true rfl) (fun vz9 Mz9 qz9 => ?_) (fun Ez9 Mz9 qz9 => ?_)
  · obtain ⟨M1, eMz9⟩ : ∃ M1, M1 = Mz9 := ⟨_, rfl⟩; subst eMz9
    obtain ⟨v2, hxz9, h⟩ := qz9
    cases hxz9
    refine j_istore (lv' := [(6, .int v2), (0, .ref a0), (1, .ref a1), (2, .ref a2), (3, .ref a3), (4, .ref a4), (5, .int a5)]) hX eL_law_3079 (by decide) rfl ?_
    refine j_aload_n hX eL_law_3081 3 rfl ?_
    obtain ⟨t7, h⟩ := h
    refine j_callV (a := a2) (q := (RX7, TX7, 17)) (r' := rX7_failedCommand) (As := []) (rest := []) (d1 := d) hX eL_law_3082 mm_LiftGroupLaw_370 rfl t7 (by decide) rfl h rfl (Nat.le_refl _) (Nat.zero_le _) (Nat.zero_le _) (Nat.le_of_ble_eq_true rfl) (fun vz9 Mz9 qz9 => ?_) (fun Ez9 Mz9 qz9 => ?_)
    · obtain ⟨M5, eMz9⟩ : ∃ M5, M5 = Mz9 := ⟨_, rfl⟩; subst eMz9
      obtain ⟨v6, hxz9, h⟩ := qz9
      cases hxz9
      refine j_istore (lv' := [(7, .int v6), (6, .int v2), (0, .ref a0), (1, .ref a1), (2, .ref a2), (3, .ref a3), (4, .ref a4), (5, .int a5)]) hX eL_law_3085 (by decide) rfl ?_
      refine j_aload_n hX eL_law_3087 4 rfl ?_
      obtain ⟨t10, h⟩ := h
      refine j_callV (a := a2) (q := (RX7, TX7, 17)) (r' := rX7_thrown) (As := []) (rest := []) (d1 := d) hX eL_law_3088 mm_LiftGroupLaw_185 rfl t10 (by decide) rfl h rfl (Nat.le_refl _) (Nat.zero_le _) (Nat.zero_le _) (Nat.le_of_ble_eq_true rfl) (fun vz9 Mz9 qz9 => ?_) (fun Ez9 Mz9 qz9 => ?_)
      · obtain ⟨M8, eMz9⟩ : ∃ M8, M8 = Mz9 := ⟨_, rfl⟩; subst eMz9
        obtain ⟨v9, hxz9, h⟩ := qz9
        cases hxz9
        refine j_iload hX eL_law_3091 1 rfl ?_
        refine j_icmp_eq hX 3098 eL_law_3093 (by decide) (fun c11 => ?_) (fun c11 => ?_)
        · replace h := h.1 c11
          refine j_iload hX eL_law_3098 1 rfl ?_
          refine j_if_ne hX 3115 eL_law_3100 (by decide) (fun c12 => ?_) (fun c12 => ?_)
          · replace h := h.2 c12
            refine j_goto hX 3219 eL_law_3115 (by decide) ?_
            exact j_sub [2, 3, 4, 5, 6, 7] rfl (k3219 _ _ _ _ _ _ _ _ _ h)
          · replace h := h.1 c12
            refine j_aload_n hX eL_law_3103 5 rfl ?_
            refine j_iconst (v := (0 : Int32)) hX eL_law_3104 (by decide) ?_
            obtain ⟨t13, h⟩ := h
            obtain ⟨i14, h⟩ := h
            refine j_lald hX eL_law_3105 t13 i14 ?_
            refine j_iload hX eL_law_3106 0 rfl ?_
            refine j_i2l hX eL_law_3108 ?_
            refine j_lcmp hX eL_law_3109 ?_
            refine j_if_eq hX 3115 eL_law_3110 (by decide) (fun c15 => ?_) (fun c15 => ?_)
            · replace h := h.1 c15
              refine j_goto hX 3219 eL_law_3115 (by decide) ?_
              exact j_sub [2, 3, 4, 5, 6, 7] rfl (k3219 _ _ _ _ _ _ _ _ _ h)
            · replace h := h.2 c15
              refine j_iconst (v := (0 : Int32)) hX eL_law_3113 (by decide) ?_
              exact h.elim
        · replace h := h.2 c11
          refine j_iconst (v := (0 : Int32)) hX eL_law_3096 (by decide) ?_
          exact h.elim
      · obtain ⟨v9, hxz9, h⟩ := qz9
        cases hxz9
    · obtain ⟨v6, hxz9, h⟩ := qz9
      cases hxz9
  · obtain ⟨v2, hxz9, h⟩ := qz9
    cases hxz9
set_option maxHeartbeats 4000000 in
set_option maxRecDepth 20000 in
theorem vL_law_3118 {X : am_Cx} {G : am_Gx} {d : Nat} (hX : am_ok X rL_law G (d + 1)) (hret : ∀ {pc : Nat} {lv : List (Nat × Value)} {M : am_Hp} {bc bs : Nat}, decode rL_law.2.1 pc = .ok (.ireturn, 1) → am_J X pc lv [.int (1 : Int32)] M bc bs) {bc bs : Nat} (R3219 : Nat → Nat → Nat → Nat → Nat → Int32 → am_Hp → Nat → Nat → Prop) (k3219 : ∀ (x0 : Nat) (x1 : Nat) (x2 : Nat) (x3 : Nat) (x4 : Nat) (x5 : Int32) (M : am_Hp) (bc bs : Nat), R3219 x0 x1 x2 x3 x4 x5 M bc bs → am_J X 3219 [(0, .ref x0), (1, .ref x1), (2, .ref x2), (3, .ref x3), (4, .ref x4), (5, .int x5)] [] M bc bs) {a0 : Nat} {a1 : Nat} {a2 : Nat} {a3 : Nat} {a4 : Nat} {a5 : Int32} {M : am_Hp} (h : 1 ≤ bc ∧ (6 ≤ bs ∧ (am_CT G d rL_undo [.ref a1, .ref a3] M 1 6 (fun oz9 M1 => ∃ v2 : Int32, oz9 = .inl (some (.int v2)) ∧ (hp_T M1 (a2) = 8 ∧ (am_CT G d rX7_undo [.ref a2] M1 0 0 (fun oz9 M5 => ∃ v6 : Int32, oz9 = .inl (some (.int v6)) ∧ (hp_T M5 (a2) = 8 ∧ (am_CT G d rX7_thrown [.ref a2] M5 0 0 (fun oz9 M8 => ∃ v9 : Int32, oz9 = .inl (some (.int v9)) ∧ (((v9 = v2) → (((v2 = 0) → (hp_T M8 (a3) = 23 ∧ (vp_in (0 : Int32) (hp_N M8 a3) ∧ ((((lg_cmp (hp_L M8 a3 ((0 : Int32)).toNatClampNeg) ((v6).toInt64)) = 0) → (R3219 a0 a1 a2 a3 a4 a5 M8 (bc - 1) (bs - 6))) ∧ (¬ ((lg_cmp (hp_L M8 a3 ((0 : Int32)).toNatClampNeg) ((v6).toInt64)) = 0) → (False)))))) ∧ (¬ (v2 = 0) → (R3219 a0 a1 a2 a3 a4 a5 M8 (bc - 1) (bs - 6))))) ∧ (¬ (v9 = v2) → (False))))))))))))) : am_J X 3118 [(0, .ref a0), (1, .ref a1), (2, .ref a2), (3, .ref a3), (4, .ref a4), (5, .int a5)] [] M bc bs := by
  refine j_aload_n hX eL_law_3118 1 rfl ?_
  refine j_aload_n hX eL_law_3119 3 rfl ?_
  obtain ⟨b3, b4, h⟩ := h
  refine j_callSX (r' := rL_undo) (As := [.ref a1, .ref a3]) (rest := []) (d1 := d) hX eL_law_3120 mm_LiftGroupLaw_371 (by decide) rfl h rfl (Nat.le_refl _) b3 b4 (Nat.le_of_ble_eq_true rfl) (fun vz9 Mz9 qz9 => ?_) (fun Ez9 Mz9 qz9 => ?_)
  · obtain ⟨M1, eMz9⟩ : ∃ M1, M1 = Mz9 := ⟨_, rfl⟩; subst eMz9
    obtain ⟨v2, hxz9, h⟩ := qz9
    cases hxz9
    refine j_istore (lv' := [(6, .int v2), (0, .ref a0), (1, .ref a1), (2, .ref a2), (3, .ref a3), (4, .ref a4), (5, .int a5)]) hX eL_law_3123 (by decide) rfl ?_
    refine j_aload_n hX eL_law_3125 3 rfl ?_
    obtain ⟨t7, h⟩ := h
    refine j_callV (a := a2) (q := (RX7, TX7, 17)) (r' := rX7_undo) (As := []) (rest := []) (d1 := d) hX eL_law_3126 mm_LiftGroupLaw_373 rfl t7 (by decide) rfl h rfl (Nat.le_refl _) (Nat.zero_le _) (Nat.zero_le _) (Nat.le_of_ble_eq_true rfl) (fun vz9 Mz9 qz9 => ?_) (fun Ez9 Mz9 qz9 => ?_)
    · obtain ⟨M5, eMz9⟩ : ∃ M5, M5 = Mz9 := ⟨_, rfl⟩; subst eMz9
      obtain ⟨v6, hxz9, h⟩ := qz9
      cases hxz9
      refine j_istore (lv' := [(7, .int v6), (6, .int v2), (0, .ref a0), (1, .ref a1), (2, .ref a2), (3, .ref a3), (4, .ref a4), (5, .int a5)]) hX eL_law_3129 (by decide) rfl ?_
      refine j_aload_n hX eL_law_3131 4 rfl ?_
      obtain ⟨t10, h⟩ := h
      refine j_callV (a := a2) (q := (RX7, TX7, 17)) (r' := rX7_thrown) (As := []) (rest := []) (d1 := d) hX eL_law_3132 mm_LiftGroupLaw_185 rfl t10 (by decide) rfl h rfl (Nat.le_refl _) (Nat.zero_le _) (Nat.zero_le _) (Nat.le_of_ble_eq_true rfl) (fun vz9 Mz9 qz9 => ?_) (fun Ez9 Mz9 qz9 => ?_)
      · obtain ⟨M8, eMz9⟩ : ∃ M8, M8 = Mz9 := ⟨_, rfl⟩; subst eMz9
        obtain ⟨v9, hxz9, h⟩ := qz9
        cases hxz9
        refine j_iload hX eL_law_3135 1 rfl ?_
        refine j_icmp_eq hX 3142 eL_law_3137 (by decide) (fun c11 => ?_) (fun c11 => ?_)
        · replace h := h.1 c11
          refine j_iload hX eL_law_3142 1 rfl ?_
          refine j_if_ne hX 3159 eL_law_3144 (by decide) (fun c12 => ?_) (fun c12 => ?_)
          · replace h := h.2 c12
            refine j_goto hX 3219 eL_law_3159 (by decide) ?_
            exact j_sub [2, 3, 4, 5, 6, 7] rfl (k3219 _ _ _ _ _ _ _ _ _ h)
          · replace h := h.1 c12
            refine j_aload_n hX eL_law_3147 5 rfl ?_
            refine j_iconst (v := (0 : Int32)) hX eL_law_3148 (by decide) ?_
            obtain ⟨t13, h⟩ := h
            obtain ⟨i14, h⟩ := h
            refine j_lald hX eL_law_3149 t13 i14 ?_
            refine j_iload hX eL_law_3150 0 rfl ?_
            refine j_i2l hX eL_law_3152 ?_
            refine j_lcmp hX eL_law_3153 ?_
            refine j_if_eq hX 3159 eL_law_3154 (by decide) (fun c15 => ?_) (fun c15 => ?_)
            · replace h := h.1 c15
              refine j_goto hX 3219 eL_law_3159 (by decide) ?_
              exact j_sub [2, 3, 4, 5, 6, 7] rfl (k3219 _ _ _ _ _ _ _ _ _ h)
            · replace h := h.2 c15
              refine j_iconst (v := (0 : Int32)) hX eL_law_3157 (by decide) ?_
              exact h.elim
        · replace h := h.2 c11
          refine j_iconst (v := (0 : Int32)) hX eL_law_3140 (by decide) ?_
          exact h.elim
      · obtain ⟨v9, hxz9, h⟩ := qz9
        cases hxz9
    · obtain ⟨v6, hxz9, h⟩ := qz9
      cases hxz9
  · obtain ⟨v2, hxz9, h⟩ := qz9
    cases hxz9
set_option maxHeartbeats 4000000 in
set_option maxRecDepth 20000 in
theorem vL_law_3162 {X : am_Cx} {G : am_Gx} {d : Nat} (hX : am_ok X rL_law G (d + 1)) (hret : ∀ {pc : Nat} {lv : List (Nat × Value)} {M : am_Hp} {bc bs : Nat}, decode rL_law.2.1 pc = .ok (.ireturn, 1) → am_J X pc lv [.int (1 : Int32)] M bc bs) {bc bs : Nat} (R3219 : Nat → Nat → Nat → Nat → Nat → Int32 → am_Hp → Nat → Nat → Prop) (k3219 : ∀ (x0 : Nat) (x1 : Nat) (x2 : Nat) (x3 : Nat) (x4 : Nat) (x5 : Int32) (M : am_Hp) (bc bs : Nat), R3219 x0 x1 x2 x3 x4 x5 M bc bs → am_J X 3219 [(0, .ref x0), (1, .ref x1), (2, .ref x2), (3, .ref x3), (4, .ref x4), (5, .int x5)] [] M bc bs) {a0 : Nat} {a1 : Nat} {a2 : Nat} {a3 : Nat} {a4 : Nat} {a5 : Int32} {M : am_Hp} (h : hp_T M (a1) = 7 ∧ (am_CT G d rX6_save [.ref a1] M 0 0 (fun oz9 M1 => ∃ v2 : Int32, oz9 = .inl (some (.int v2)) ∧ (hp_T M1 (a2) = 8 ∧ (am_CT G d rX7_save [.ref a2] M1 0 0 (fun oz9 M4 => ∃ v5 : Int32, oz9 = .inl (some (.int v5)) ∧ (((v2 = v5) → (R3219 a0 a1 a2 a3 a4 a5 M4 bc bs)) ∧ (¬ (v2 = v5) → (False))))))))) : am_J X 3162 [(0, .ref a0), (1, .ref a1), (2, .ref a2), (3, .ref a3), (4, .ref a4), (5, .int a5)] [] M bc bs := by
  refine j_aload_n hX eL_law_3162 1 rfl ?_
  obtain ⟨t3, h⟩ := h
  refine j_callV (a := a1) (q := (RX6, TX6, 9)) (r' := rX6_save) (As := []) (rest := []) (d1 := d) hX eL_law_3163 mm_LiftGroupLaw_374 rfl t3 (by decide) rfl h rfl (Nat.le_refl _) (Nat.zero_le _) (Nat.zero_le _) (Nat.le_of_ble_eq_true rfl) (fun vz9 Mz9 qz9 => ?_) (fun Ez9 Mz9 qz9 => ?_)
  · obtain ⟨M1, eMz9⟩ : ∃ M1, M1 = Mz9 := ⟨_, rfl⟩; subst eMz9
    obtain ⟨v2, hxz9, h⟩ := qz9
    cases hxz9
    refine j_aload_n hX eL_law_3166 2 rfl ?_
    obtain ⟨t6, h⟩ := h
    refine j_callV (a := a2) (q := (RX7, TX7, 17)) (r' := rX7_save) (As := []) (rest := [.int v2]) (d1 := d) hX eL_law_3167 mm_LiftGroupLaw_377 rfl t6 (by decide) rfl h rfl (Nat.le_refl _) (Nat.zero_le _) (Nat.zero_le _) (Nat.le_of_ble_eq_true rfl) (fun vz9 Mz9 qz9 => ?_) (fun Ez9 Mz9 qz9 => ?_)
    · obtain ⟨M4, eMz9⟩ : ∃ M4, M4 = Mz9 := ⟨_, rfl⟩; subst eMz9
      obtain ⟨v5, hxz9, h⟩ := qz9
      cases hxz9
      refine j_icmp_eq hX 3219 eL_law_3170 (by decide) (fun c7 => ?_) (fun c7 => ?_)
      · replace h := h.1 c7
        exact j_sub [0, 1, 2, 3, 4, 5] rfl (k3219 _ _ _ _ _ _ _ _ _ h)
      · replace h := h.2 c7
        refine j_iconst (v := (0 : Int32)) hX eL_law_3173 (by decide) ?_
        exact h.elim
    · obtain ⟨v5, hxz9, h⟩ := qz9
      cases hxz9
  · obtain ⟨v2, hxz9, h⟩ := qz9
    cases hxz9
set_option maxHeartbeats 4000000 in
set_option maxRecDepth 20000 in
theorem vL_law_3175 {X : am_Cx} {G : am_Gx} {d : Nat} (hX : am_ok X rL_law G (d + 1)) (hret : ∀ {pc : Nat} {lv : List (Nat × Value)} {M : am_Hp} {bc bs : Nat}, decode rL_law.2.1 pc = .ok (.ireturn, 1) → am_J X pc lv [.int (1 : Int32)] M bc bs) {bc bs : Nat} (R3219 : Nat → Nat → Nat → Nat → Nat → Int32 → am_Hp → Nat → Nat → Prop) (k3219 : ∀ (x0 : Nat) (x1 : Nat) (x2 : Nat) (x3 : Nat) (x4 : Nat) (x5 : Int32) (M : am_Hp) (bc bs : Nat), R3219 x0 x1 x2 x3 x4 x5 M bc bs → am_J X 3219 [(0, .ref x0), (1, .ref x1), (2, .ref x2), (3, .ref x3), (4, .ref x4), (5, .int x5)] [] M bc bs) {a0 : Nat} {a1 : Nat} {a2 : Nat} {a3 : Nat} {a4 : Nat} {a5 : Int32} {M : am_Hp} (h : 1 ≤ bc ∧ (6 ≤ bs ∧ (am_CT G d rL_restore [.ref a1, .ref a3] M 1 6 (fun oz9 M1 => ∃ v2 : Int32, oz9 = .inl (some (.int v2)) ∧ (hp_T M1 (a2) = 8 ∧ (am_CT G d rX7_restore [.ref a2] M1 0 0 (fun oz9 M5 => ∃ v6 : Int32, oz9 = .inl (some (.int v6)) ∧ (hp_T M5 (a2) = 8 ∧ (am_CT G d rX7_thrown [.ref a2] M5 0 0 (fun oz9 M8 => ∃ v9 : Int32, oz9 = .inl (some (.int v9)) ∧ (((v9 = v2) → (((v2 = 0) → (hp_T M8 (a3) = 23 ∧ (vp_in (0 : Int32) (hp_N M8 a3) ∧ ((((lg_cmp (hp_L M8 a3 ((0 : Int32)).toNatClampNeg) ((v6).toInt64)) = 0) → (R3219 a0 a1 a2 a3 a4 a5 M8 (bc - 1) (bs - 6))) ∧ (¬ ((lg_cmp (hp_L M8 a3 ((0 : Int32)).toNatClampNeg) ((v6).toInt64)) = 0) → (False)))))) ∧ (¬ (v2 = 0) → (R3219 a0 a1 a2 a3 a4 a5 M8 (bc - 1) (bs - 6))))) ∧ (¬ (v9 = v2) → (False))))))))))))) : am_J X 3175 [(0, .ref a0), (1, .ref a1), (2, .ref a2), (3, .ref a3), (4, .ref a4), (5, .int a5)] [] M bc bs := by
  refine j_aload_n hX eL_law_3175 1 rfl ?_
  refine j_aload_n hX eL_law_3176 3 rfl ?_
  obtain ⟨b3, b4, h⟩ := h
  refine j_callSX (r' := rL_restore) (As := [.ref a1, .ref a3]) (rest := []) (d1 := d) hX eL_law_3177 mm_LiftGroupLaw_378 (by decide) rfl h rfl (Nat.le_refl _) b3 b4 (Nat.le_of_ble_eq_true rfl) (fun vz9 Mz9 qz9 => ?_) (fun Ez9 Mz9 qz9 => ?_)
  · obtain ⟨M1, eMz9⟩ : ∃ M1, M1 = Mz9 := ⟨_, rfl⟩; subst eMz9
    obtain ⟨v2, hxz9, h⟩ := qz9
    cases hxz9
    refine j_istore (lv' := [(6, .int v2), (0, .ref a0), (1, .ref a1), (2, .ref a2), (3, .ref a3), (4, .ref a4), (5, .int a5)]) hX eL_law_3180 (by decide) rfl ?_
    refine j_aload_n hX eL_law_3182 3 rfl ?_
    obtain ⟨t7, h⟩ := h
    refine j_callV (a := a2) (q := (RX7, TX7, 17)) (r' := rX7_restore) (As := []) (rest := []) (d1 := d) hX eL_law_3183 mm_LiftGroupLaw_380 rfl t7 (by decide) rfl h rfl (Nat.le_refl _) (Nat.zero_le _) (Nat.zero_le _) (Nat.le_of_ble_eq_true rfl) (fun vz9 Mz9 qz9 => ?_) (fun Ez9 Mz9 qz9 => ?_)
    · obtain ⟨M5, eMz9⟩ : ∃ M5, M5 = Mz9 := ⟨_, rfl⟩; subst eMz9
      obtain ⟨v6, hxz9, h⟩ := qz9
      cases hxz9
      refine j_istore (lv' := [(7, .int v6), (6, .int v2), (0, .ref a0), (1, .ref a1), (2, .ref a2), (3, .ref a3), (4, .ref a4), (5, .int a5)]) hX eL_law_3186 (by decide) rfl ?_
      refine j_aload_n hX eL_law_3188 4 rfl ?_
      obtain ⟨t10, h⟩ := h
      refine j_callV (a := a2) (q := (RX7, TX7, 17)) (r' := rX7_thrown) (As := []) (rest := []) (d1 := d) hX eL_law_3189 mm_LiftGroupLaw_185 rfl t10 (by decide) rfl h rfl (Nat.le_refl _) (Nat.zero_le _) (Nat.zero_le _) (Nat.le_of_ble_eq_true rfl) (fun vz9 Mz9 qz9 => ?_) (fun Ez9 Mz9 qz9 => ?_)
      · obtain ⟨M8, eMz9⟩ : ∃ M8, M8 = Mz9 := ⟨_, rfl⟩; subst eMz9
        obtain ⟨v9, hxz9, h⟩ := qz9
        cases hxz9
        refine j_iload hX eL_law_3192 1 rfl ?_
        refine j_icmp_eq hX 3199 eL_law_3194 (by decide) (fun c11 => ?_) (fun c11 => ?_)
        · replace h := h.1 c11
          refine j_iload hX eL_law_3199 1 rfl ?_
          refine j_if_ne hX 3216 eL_law_3201 (by decide) (fun c12 => ?_) (fun c12 => ?_)
          · replace h := h.2 c12
            refine j_goto hX 3219 eL_law_3216 (by decide) ?_
            exact j_sub [2, 3, 4, 5, 6, 7] rfl (k3219 _ _ _ _ _ _ _ _ _ h)
          · replace h := h.1 c12
            refine j_aload_n hX eL_law_3204 5 rfl ?_
            refine j_iconst (v := (0 : Int32)) hX eL_law_3205 (by decide) ?_
            obtain ⟨t13, h⟩ := h
            obtain ⟨i14, h⟩ := h
            refine j_lald hX eL_law_3206 t13 i14 ?_
            refine j_iload hX eL_law_3207 0 rfl ?_
            refine j_i2l hX eL_law_3209 ?_
            refine j_lcmp hX eL_law_3210 ?_
            refine j_if_eq hX 3216 eL_law_3211 (by decide) (fun c15 => ?_) (fun c15 => ?_)
            · replace h := h.1 c15
              refine j_goto hX 3219 eL_law_3216 (by decide) ?_
              exact j_sub [2, 3, 4, 5, 6, 7] rfl (k3219 _ _ _ _ _ _ _ _ _ h)
            · replace h := h.2 c15
              refine j_iconst (v := (0 : Int32)) hX eL_law_3214 (by decide) ?_
              exact h.elim
        · replace h := h.2 c11
          refine j_iconst (v := (0 : Int32)) hX eL_law_3197 (by decide) ?_
          exact h.elim
      · obtain ⟨v9, hxz9, h⟩ := qz9
        cases hxz9
    · obtain ⟨v6, hxz9, h⟩ := qz9
      cases hxz9
  · obtain ⟨v2, hxz9, h⟩ := qz9
    cases hxz9
