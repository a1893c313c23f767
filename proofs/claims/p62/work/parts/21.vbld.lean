set_option maxHeartbeats 4000000 in
set_option maxRecDepth 20000 in
theorem vX0_init_0 {X : am_Cx} {G : am_Gx} {d : Nat} {Q : am_Q} (hX : am_ok X rX0_init G (d + 1)) (hM : am_me X rX0_init Q) {bc bs : Nat} (R69 : Nat → Int32 → am_Hp → Nat → Nat → Prop) (k69 : ∀ (x0 : Nat) (x1 : Int32) (M : am_Hp) (bc bs : Nat), R69 x0 x1 M bc bs → am_J X 69 [(0, .ref x0), (1, .int x1)] [] M bc bs) {a0 : Nat} {M : am_Hp} (h : ¬ (3 : Int32) < 0 ∧ (((3 : Int32)).toNatClampNeg * 4 ≤ 536870912 ∧ (1 ≤ bc ∧ (((3 : Int32)).toNatClampNeg ≤ bs ∧ (∀ p5 : Nat, hp_T M p5 = 0 → p5 ≠ 0 → (∀ M8 : am_Hp, M8 = hp_a M p5 26 ((3 : Int32)).toNatClampNeg → (hp_T M8 (a0) = 1 ∧ (p5 ≠ 0 ∧ (∀ M12 : am_Hp, M12 = hp_sR M8 0 a0 p5 → (¬ (12 : Int32) < 0 ∧ (((12 : Int32)).toNatClampNeg * 4 ≤ 536870912 ∧ (1 ≤ (bc - 1) ∧ (((12 : Int32)).toNatClampNeg ≤ (bs - ((3 : Int32)).toNatClampNeg) ∧ (∀ p19 : Nat, hp_T M12 p19 = 0 → p19 ≠ 0 → (∀ M22 : am_Hp, M22 = hp_a M12 p19 27 ((12 : Int32)).toNatClampNeg → (p19 ≠ 0 ∧ (∀ M27 : am_Hp, M27 = hp_sR M22 1 a0 p19 → (1 ≤ ((bc - 1) - 1) ∧ (5 ≤ ((bs - ((3 : Int32)).toNatClampNeg) - ((12 : Int32)).toNatClampNeg) ∧ (∀ p31 : Nat, hp_T M27 p31 = 0 → p31 ≠ 0 → (∀ M37 : am_Hp, M37 = hp_o M27 p31 6 → (3 ≤ (((bc - 1) - 1) - 1) ∧ (30 ≤ (((bs - ((3 : Int32)).toNatClampNeg) - ((12 : Int32)).toNatClampNeg) - 5) ∧ (am_CT G d rX5_init [.ref p31] M37 3 30 (fun oz9 M42 => oz9 = .inl none ∧ (hp_T M42 (a0) = 1 ∧ (p31 ≠ 0 ∧ (∀ M48 : am_Hp, M48 = hp_sR M42 2 a0 p31 → (∀ M50 : am_Hp, M50 = hp_sI M48 3 a0 (0 : Int32) → (∀ M52 : am_Hp, M52 = hp_sI M50 4 a0 (0 : Int32) → (∀ M54 : am_Hp, M54 = hp_sI M52 5 a0 (0 : Int32) → (∀ M56 : am_Hp, M56 = hp_sI M54 6 a0 (0 : Int32) → (∀ M58 : am_Hp, M58 = hp_sI M56 7 a0 (0 : Int32) → (∀ M60 : am_Hp, M60 = hp_sI M58 8 a0 (0 : Int32) → (∀ M62 : am_Hp, M62 = hp_sI M60 9 a0 (0 : Int32) → (R69 a0 (0 : Int32) M62 ((((bc - 1) - 1) - 1) - 3) ((((bs - ((3 : Int32)).toNatClampNeg) - ((12 : Int32)).toNatClampNeg) - 5) - 30))))))))))))))))))))))))))))))))))))) : am_J X 0 [(0, .ref a0)] [] M bc bs := by
  refine j_aload_n hX eX0_init_0 0 rfl ?_
  refine j_objInit hX eX0_init_1 tw_48 tw_41 tw_42 (Nat.le_of_ble_eq_true rfl) ?_
  refine j_aload_n hX eX0_init_4 0 rfl ?_
  refine j_iconst (v := (3 : Int32)) hX eX0_init_5 (by decide) ?_
  obtain ⟨n1, n2, b3, b4, h⟩ := h
  refine j_anew26 hX eX0_init_6 tw_49 tn_50 n1 n2 b3 b4 (fun p5 o6 z7 => ?_)
  replace h := h p5 o6 z7
  refine j_nmM (fun M8 eM8 => ?_)
  replace h := h M8 eM8
  have t9 : hp_T M8 (p5) = 26 := by rw [eM8]; exact hp_Tna
  obtain ⟨t10, h⟩ := h
  obtain ⟨z11, h⟩ := h
  refine j_putF (ty := .array (.object "LiftGroup$Car")) hX eX0_init_9 ff_LiftGroup_Building_11 rfl t10 (by decide) z11 hM rfl pp_0_0 rfl rfl ?_
  refine j_nmM (fun M12 eM12 => ?_)
  replace h := h M12 eM12
  have t13 : hp_T M12 (p5) = 26 := by rw [eM12]; exact t9
  have t14 : hp_T M12 (a0) = 1 := by rw [eM12]; exact t10
  refine j_aload_n hX eX0_init_12 0 rfl ?_
  refine j_bipush (v := (12 : Int32)) hX eX0_init_13 (by decide) ?_
  obtain ⟨n15, n16, b17, b18, h⟩ := h
  refine j_anew27 hX eX0_init_15 tw_51 tn_52 n15 n16 b17 b18 (fun p19 o20 z21 => ?_)
  replace h := h p19 o20 z21
  refine j_nmM (fun M22 eM22 => ?_)
  replace h := h M22 eM22
  have t23 : hp_T M22 (p5) = 26 := by rw [eM22]; exact (hp_Ta o20 t13 (by decide)).trans rfl
  have t24 : hp_T M22 (a0) = 1 := by rw [eM22]; exact (hp_Ta o20 t14 (by decide)).trans rfl
  have t25 : hp_T M22 (p19) = 27 := by rw [eM22]; exact hp_Tna
  obtain ⟨z26, h⟩ := h
  refine j_putF (ty := .array (.object "LiftGroup$Passenger")) hX eX0_init_18 ff_LiftGroup_Building_19 rfl t24 (by decide) z26 hM rfl pp_0_1 rfl rfl ?_
  refine j_nmM (fun M27 eM27 => ?_)
  replace h := h M27 eM27
  have t28 : hp_T M27 (p5) = 26 := by rw [eM27]; exact t23
  have t29 : hp_T M27 (a0) = 1 := by rw [eM27]; exact t24
  have t30 : hp_T M27 (p19) = 27 := by rw [eM27]; exact t25
  refine j_aload_n hX eX0_init_21 0 rfl ?_
  obtain ⟨b35, b36, h⟩ := h
  refine j_new (q := (RX5, TX5, 5)) hX eX0_init_22 rfl (by decide) tw_53 tw_54 tw_3 dv_5 b35 b36 (fun p31 o33 z34 => ?_)
  replace h := h p31 o33 z34
  refine j_nmM (fun M37 eM37 => ?_)
  replace h := h M37 eM37
  have t38 : hp_T M37 (p5) = 26 := by rw [eM37]; exact (hp_To o33 t28 (by decide)).trans rfl
  have t39 : hp_T M37 (a0) = 1 := by rw [eM37]; exact (hp_To o33 t29 (by decide)).trans rfl
  have t40 : hp_T M37 (p19) = 27 := by rw [eM37]; exact (hp_To o33 t30 (by decide)).trans rfl
  have t41 : hp_T M37 (p31) = 6 := by rw [eM37]; exact hp_Tn
  refine j_dup hX eX0_init_25 rfl ?_
  obtain ⟨b44, b45, h⟩ := h
  refine j_callIN (a := p31) (r' := rX5_init) (As := []) (rest := [.ref p31, .ref a0]) (d1 := d) hX eX0_init_26 mm_LiftGroup_Building_25 rfl h rfl (Nat.le_refl _) b44 b45 (Nat.le_of_ble_eq_true rfl) (fun vz9 Mz9 qz9 => ?_) (fun Ez9 Mz9 qz9 => ?_)
  · obtain ⟨M42, eMz9⟩ : ∃ M42, M42 = Mz9 := ⟨_, rfl⟩; subst eMz9
    obtain ⟨hxz9, h⟩ := qz9
    cases hxz9
    obtain ⟨t46, h⟩ := h
    obtain ⟨z47, h⟩ := h
    refine j_putF (ty := .object "LiftGroup$TripLog") hX eX0_init_29 ff_LiftGroup_Building_26 rfl t46 (by decide) z47 hM rfl pp_0_2 rfl rfl ?_
    refine j_nmM (fun M48 eM48 => ?_)
    replace h := h M48 eM48
    have t49 : hp_T M48 (a0) = 1 := by rw [eM48]; exact t46
    refine j_aload_n hX eX0_init_32 0 rfl ?_
    refine j_iconst (v := (0 : Int32)) hX eX0_init_33 (by decide) ?_
    refine j_putI (ty := .int) hX eX0_init_34 ff_LiftGroup_Building_30 rfl t49 (by decide) pp_0_3 rfl rfl ?_
    refine j_nmM (fun M50 eM50 => ?_)
    replace h := h M50 eM50
    have t51 : hp_T M50 (a0) = 1 := by rw [eM50]; exact t49
    refine j_aload_n hX eX0_init_37 0 rfl ?_
    refine j_iconst (v := (0 : Int32)) hX eX0_init_38 (by decide) ?_
    refine j_putI (ty := .int) hX eX0_init_39 ff_LiftGroup_Building_34 rfl t51 (by decide) pp_0_4 rfl rfl ?_
    refine j_nmM (fun M52 eM52 => ?_)
    replace h := h M52 eM52
    have t53 : hp_T M52 (a0) = 1 := by rw [eM52]; exact t51
    refine j_aload_n hX eX0_init_42 0 rfl ?_
    refine j_iconst (v := (0 : Int32)) hX eX0_init_43 (by decide) ?_
    refine j_putI (ty := .int) hX eX0_init_44 ff_LiftGroup_Building_37 rfl t53 (by decide) pp_0_5 rfl rfl ?_
    refine j_nmM (fun M54 eM54 => ?_)
    replace h := h M54 eM54
    have t55 : hp_T M54 (a0) = 1 := by rw [eM54]; exact t53
    refine j_aload_n hX eX0_init_47 0 rfl ?_
    refine j_iconst (v := (0 : Int32)) hX eX0_init_48 (by decide) ?_
    refine j_putI (ty := .int) hX eX0_init_49 ff_LiftGroup_Building_40 rfl t55 (by decide) pp_0_6 rfl rfl ?_
    refine j_nmM (fun M56 eM56 => ?_)
    replace h := h M56 eM56
    have t57 : hp_T M56 (a0) = 1 := by rw [eM56]; exact t55
    refine j_aload_n hX eX0_init_52 0 rfl ?_
    refine j_iconst (v := (0 : Int32)) hX eX0_init_53 (by decide) ?_
    refine j_putI (ty := .int) hX eX0_init_54 ff_LiftGroup_Building_43 rfl t57 (by decide) pp_0_7 rfl rfl ?_
    refine j_nmM (fun M58 eM58 => ?_)
    replace h := h M58 eM58
    have t59 : hp_T M58 (a0) = 1 := by rw [eM58]; exact t57
    refine j_aload_n hX eX0_init_57 0 rfl ?_
    refine j_iconst (v := (0 : Int32)) hX eX0_init_58 (by decide) ?_
    refine j_putI (ty := .int) hX eX0_init_59 ff_LiftGroup_Building_46 rfl t59 (by decide) pp_0_8 rfl rfl ?_
    refine j_nmM (fun M60 eM60 => ?_)
    replace h := h M60 eM60
    have t61 : hp_T M60 (a0) = 1 := by rw [eM60]; exact t59
    refine j_aload_n hX eX0_init_62 0 rfl ?_
    refine j_iconst (v := (0 : Int32)) hX eX0_init_63 (by decide) ?_
    refine j_putI (ty := .int) hX eX0_init_64 ff_LiftGroup_Building_49 rfl t61 (by decide) pp_0_9 rfl rfl ?_
    refine j_nmM (fun M62 eM62 => ?_)
    replace h := h M62 eM62
    have t63 : hp_T M62 (a0) = 1 := by rw [eM62]; exact t61
    refine j_iconst (v := (0 : Int32)) hX eX0_init_67 (by decide) ?_
    refine j_istore_n (lv' := [(1, .int (0 : Int32)), (0, .ref a0)]) hX eX0_init_68 rfl (by decide) rfl ?_
    exact j_sub [1, 0] rfl (k69 _ _ _ _ _ h)
  · obtain ⟨hxz9, h⟩ := qz9
    cases hxz9
set_option maxHeartbeats 4000000 in
set_option maxRecDepth 20000 in
theorem vX0_init_69 {X : am_Cx} {G : am_Gx} {d : Nat} {Q : am_Q} (hX : am_ok X rX0_init G (d + 1)) (hM : am_me X rX0_init Q) {bc bs : Nat} (R69 : Nat → Int32 → am_Hp → Nat → Nat → Prop) (k69 : ∀ (x0 : Nat) (x1 : Int32) (M : am_Hp) (bc bs : Nat), R69 x0 x1 M bc bs → am_J X 69 [(0, .ref x0), (1, .int x1)] [] M bc bs) (R95 : Nat → Int32 → am_Hp → Nat → Nat → Prop) (k95 : ∀ (x0 : Nat) (x1 : Int32) (M : am_Hp) (bc bs : Nat), R95 x0 x1 M bc bs → am_J X 95 [(0, .ref x0), (1, .int x1)] [] M bc bs) {a0 : Nat} {a1 : Int32} {M : am_Hp} (h : (((3 : Int32) ≤ a1) → (R95 a0 (0 : Int32) M bc bs)) ∧ (¬ ((3 : Int32) ≤ a1) → (hp_T M (a0) = 1 ∧ (hp_R M 0 a0 ≠ 0 ∧ (∀ p4 : Nat, p4 = hp_R M 0 a0 → (1 ≤ bc ∧ (8 ≤ bs ∧ (∀ p5 : Nat, hp_T M p5 = 0 → p5 ≠ 0 → (∀ M11 : am_Hp, M11 = hp_o M p5 2 → (am_CT G d rX1_init [.ref p5] M11 0 0 (fun oz9 M14 => oz9 = .inl none ∧ (hp_T M14 (p4) = 26 ∧ (hp_T M14 (p5) = 2 ∧ (p5 ≠ 0 ∧ (vp_in a1 (hp_N M14 p4) ∧ (∀ M20 : am_Hp, M20 = hp_sQ M14 p4 (a1).toNatClampNeg p5 → (∀ v23 : Int32, v23 = a1 + (1 : Int32) → (R69 a0 v23 M20 (bc - 1) (bs - 8))))))))))))))))))) : am_J X 69 [(0, .ref a0), (1, .int a1)] [] M bc bs := by
  refine j_iload_n hX eX0_init_69 1 rfl ?_
  refine j_iconst (v := (3 : Int32)) hX eX0_init_70 (by decide) ?_
  refine j_icmp_ge hX 93 eX0_init_71 (by decide) (fun c1 => ?_) (fun c1 => ?_)
  · replace h := h.1 c1
    refine j_iconst (v := (0 : Int32)) hX eX0_init_93 (by decide) ?_
    refine j_istore_n (lv' := [(1, .int (0 : Int32)), (0, .ref a0)]) hX eX0_init_94 rfl (by decide) rfl ?_
    exact j_sub [1, 0] rfl (k95 _ _ _ _ _ h)
  · replace h := h.2 c1
    refine j_aload_n hX eX0_init_74 0 rfl ?_
    obtain ⟨t2, h⟩ := h
    obtain ⟨z3, h⟩ := h
    refine j_getR hX eX0_init_75 ff_LiftGroup_Building_11 rfl t2 (by decide) z3 ?_
    refine j_nmR (fun p4 ep4 => ?_)
    replace h := h p4 ep4
    refine j_iload_n hX eX0_init_78 1 rfl ?_
    obtain ⟨b9, b10, h⟩ := h
    refine j_new (q := (RX1, TX1, 8)) hX eX0_init_79 rfl (by decide) tw_49 tw_82 tw_4 dv_1 b9 b10 (fun p5 o7 z8 => ?_)
    replace h := h p5 o7 z8
    refine j_nmM (fun M11 eM11 => ?_)
    replace h := h M11 eM11
    have t12 : hp_T M11 (a0) = 1 := by rw [eM11]; exact (hp_To o7 t2 (by decide)).trans rfl
    have t13 : hp_T M11 (p5) = 2 := by rw [eM11]; exact hp_Tn
    refine j_dup hX eX0_init_82 rfl ?_
    refine j_callIN (a := p5) (r' := rX1_init) (As := []) (rest := [.ref p5, .int a1, .ref p4]) (d1 := d) hX eX0_init_83 mm_LiftGroup_Building_52 rfl h rfl (Nat.le_refl _) (Nat.zero_le _) (Nat.zero_le _) (Nat.le_of_ble_eq_true rfl) (fun vz9 Mz9 qz9 => ?_) (fun Ez9 Mz9 qz9 => ?_)
    · obtain ⟨M14, eMz9⟩ : ∃ M14, M14 = Mz9 := ⟨_, rfl⟩; subst eMz9
      obtain ⟨hxz9, h⟩ := qz9
      cases hxz9
      obtain ⟨t16, h⟩ := h
      obtain ⟨t17, h⟩ := h
      obtain ⟨z18, h⟩ := h
      obtain ⟨i19, h⟩ := h
      refine j_aast26 hX eX0_init_86 t16 t17 z18 i19 ?_
      refine j_nmM (fun M20 eM20 => ?_)
      replace h := h M20 eM20
      have t21 : hp_T M20 (p4) = 26 := by rw [eM20]; exact t16
      have t22 : hp_T M20 (p5) = 2 := by rw [eM20]; exact t17
      obtain ⟨v23, ev23⟩ : ∃ v23 : Int32, v23 = a1 + (1 : Int32) := ⟨_, rfl⟩
      replace h := h v23 ev23
      refine j_iinc (v := v23) (lv' := [(1, .int v23), (0, .ref a0)]) hX eX0_init_87 1 rfl (by rw [ev23]; rfl) (by decide) rfl ?_
      refine j_goto hX 69 eX0_init_90 (by decide) ?_
      exact j_sub [1, 0] rfl (k69 _ _ _ _ _ h)
    · obtain ⟨hxz9, h⟩ := qz9
      cases hxz9
set_option maxHeartbeats 4000000 in
set_option maxRecDepth 20000 in
theorem vX0_init_95 {X : am_Cx} {G : am_Gx} {d : Nat} {Q : am_Q} (hX : am_ok X rX0_init G (d + 1)) (hM : am_me X rX0_init Q) {bc bs : Nat} (R95 : Nat → Int32 → am_Hp → Nat → Nat → Prop) (k95 : ∀ (x0 : Nat) (x1 : Int32) (M : am_Hp) (bc bs : Nat), R95 x0 x1 M bc bs → am_J X 95 [(0, .ref x0), (1, .int x1)] [] M bc bs) {a0 : Nat} {a1 : Int32} {M : am_Hp} (h : (((12 : Int32) ≤ a1) → (Q (.inl none) M)) ∧ (¬ ((12 : Int32) ≤ a1) → (hp_T M (a0) = 1 ∧ (hp_R M 1 a0 ≠ 0 ∧ (∀ p4 : Nat, p4 = hp_R M 1 a0 → (1 ≤ bc ∧ (7 ≤ bs ∧ (∀ p5 : Nat, hp_T M p5 = 0 → p5 ≠ 0 → (∀ M11 : am_Hp, M11 = hp_o M p5 4 → (am_CT G d rX3_init [.ref p5] M11 0 0 (fun oz9 M14 => oz9 = .inl none ∧ (hp_T M14 (p4) = 27 ∧ (hp_T M14 (p5) = 4 ∧ (p5 ≠ 0 ∧ (vp_in a1 (hp_N M14 p4) ∧ (∀ M20 : am_Hp, M20 = hp_sQ M14 p4 (a1).toNatClampNeg p5 → (∀ v23 : Int32, v23 = a1 + (1 : Int32) → (R95 a0 v23 M20 (bc - 1) (bs - 7))))))))))))))))))) : am_J X 95 [(0, .ref a0), (1, .int a1)] [] M bc bs := by
  refine j_iload_n hX eX0_init_95 1 rfl ?_
  refine j_bipush (v := (12 : Int32)) hX eX0_init_96 (by decide) ?_
  refine j_icmp_ge hX 120 eX0_init_98 (by decide) (fun c1 => ?_) (fun c1 => ?_)
  · replace h := h.1 c1
    exact j_vret hX hM eX0_init_120 rfl h
  · replace h := h.2 c1
    refine j_aload_n hX eX0_init_101 0 rfl ?_
    obtain ⟨t2, h⟩ := h
    obtain ⟨z3, h⟩ := h
    refine j_getR hX eX0_init_102 ff_LiftGroup_Building_19 rfl t2 (by decide) z3 ?_
    refine j_nmR (fun p4 ep4 => ?_)
    replace h := h p4 ep4
    refine j_iload_n hX eX0_init_105 1 rfl ?_
    obtain ⟨b9, b10, h⟩ := h
    refine j_new (q := (RX3, TX3, 7)) hX eX0_init_106 rfl (by decide) tw_51 tw_128 tw_5 dv_3 b9 b10 (fun p5 o7 z8 => ?_)
    replace h := h p5 o7 z8
    refine j_nmM (fun M11 eM11 => ?_)
    replace h := h M11 eM11
    have t12 : hp_T M11 (a0) = 1 := by rw [eM11]; exact (hp_To o7 t2 (by decide)).trans rfl
    have t13 : hp_T M11 (p5) = 4 := by rw [eM11]; exact hp_Tn
    refine j_dup hX eX0_init_109 rfl ?_
    refine j_callIN (a := p5) (r' := rX3_init) (As := []) (rest := [.ref p5, .int a1, .ref p4]) (d1 := d) hX eX0_init_110 mm_LiftGroup_Building_53 rfl h rfl (Nat.le_refl _) (Nat.zero_le _) (Nat.zero_le _) (Nat.le_of_ble_eq_true rfl) (fun vz9 Mz9 qz9 => ?_) (fun Ez9 Mz9 qz9 => ?_)
    · obtain ⟨M14, eMz9⟩ : ∃ M14, M14 = Mz9 := ⟨_, rfl⟩; subst eMz9
      obtain ⟨hxz9, h⟩ := qz9
      cases hxz9
      obtain ⟨t16, h⟩ := h
      obtain ⟨t17, h⟩ := h
      obtain ⟨z18, h⟩ := h
      obtain ⟨i19, h⟩ := h
      refine j_aast27 hX eX0_init_113 t16 t17 z18 i19 ?_
      refine j_nmM (fun M20 eM20 => ?_)
      replace h := h M20 eM20
      have t21 : hp_T M20 (p4) = 27 := by rw [eM20]; exact t16
      have t22 : hp_T M20 (p5) = 4 := by rw [eM20]; exact t17
      obtain ⟨v23, ev23⟩ : ∃ v23 : Int32, v23 = a1 + (1 : Int32) := ⟨_, rfl⟩
      replace h := h v23 ev23
      refine j_iinc (v := v23) (lv' := [(1, .int v23), (0, .ref a0)]) hX eX0_init_114 1 rfl (by rw [ev23]; rfl) (by decide) rfl ?_
      refine j_goto hX 95 eX0_init_117 (by decide) ?_
      exact j_sub [1, 0] rfl (k95 _ _ _ _ _ h)
    · obtain ⟨hxz9, h⟩ := qz9
      cases hxz9

set_option maxHeartbeats 4000000 in
set_option maxRecDepth 20000 in
theorem vX0_copyFrom_0 {X : am_Cx} {G : am_Gx} {d : Nat} {Q : am_Q} (hX : am_ok X rX0_copyFrom G (d + 1)) (hM : am_me X rX0_copyFrom Q) {bc bs : Nat} (R2 : Nat → Nat → Int32 → am_Hp → Prop) (k2 : ∀ (x0 : Nat) (x1 : Nat) (x2 : Int32) (M : am_Hp), R2 x0 x1 x2 M → am_J X 2 [(0, .ref x0), (1, .ref x1), (2, .int x2)] [] M bc bs) {a0 : Nat} {a1 : Nat} {M : am_Hp} (h : R2 a0 a1 (0 : Int32) M) : am_J X 0 [(0, .ref a0), (1, .ref a1)] [] M bc bs := by
  refine j_iconst (v := (0 : Int32)) hX eX0_copyFrom_0 (by decide) ?_
  refine j_istore_n (lv' := [(2, .int (0 : Int32)), (0, .ref a0), (1, .ref a1)]) hX eX0_copyFrom_1 rfl (by decide) rfl ?_
  exact j_sub [1, 2, 0] rfl (k2 _ _ _ _ h)
set_option maxHeartbeats 4000000 in
set_option maxRecDepth 20000 in
theorem vX0_copyFrom_2 {X : am_Cx} {G : am_Gx} {d : Nat} {Q : am_Q} (hX : am_ok X rX0_copyFrom G (d + 1)) (hM : am_me X rX0_copyFrom Q) {bc bs : Nat} (R2 : Nat → Nat → Int32 → am_Hp → Prop) (k2 : ∀ (x0 : Nat) (x1 : Nat) (x2 : Int32) (M : am_Hp), R2 x0 x1 x2 M → am_J X 2 [(0, .ref x0), (1, .ref x1), (2, .int x2)] [] M bc bs) (R30 : Nat → Nat → Int32 → am_Hp → Prop) (k30 : ∀ (x0 : Nat) (x1 : Nat) (x2 : Int32) (M : am_Hp), R30 x0 x1 x2 M → am_J X 30 [(0, .ref x0), (1, .ref x1), (2, .int x2)] [] M bc bs) {a0 : Nat} {a1 : Nat} {a2 : Int32} {M : am_Hp} (h : (((3 : Int32) ≤ a2) → (R30 a0 a1 (0 : Int32) M)) ∧ (¬ ((3 : Int32) ≤ a2) → (hp_T M (a0) = 1 ∧ (hp_R M 0 a0 ≠ 0 ∧ (∀ p4 : Nat, p4 = hp_R M 0 a0 → (hp_T M (p4) = 26 ∧ (vp_in a2 (hp_N M p4) ∧ (hp_Q M p4 (a2).toNatClampNeg ≠ 0 ∧ (∀ p8 : Nat, p8 = hp_Q M p4 (a2).toNatClampNeg → (hp_T M (a1) = 1 ∧ (hp_R M 0 a1 ≠ 0 ∧ (∀ p11 : Nat, p11 = hp_R M 0 a1 → (hp_T M (p11) = 26 ∧ (vp_in a2 (hp_N M p11) ∧ (hp_Q M p11 (a2).toNatClampNeg ≠ 0 ∧ (∀ p15 : Nat, p15 = hp_Q M p11 (a2).toNatClampNeg → (hp_T M (p8) = 2 ∧ (am_CT G d rX1_copyFrom [.ref p8, .ref p15] M 0 0 (fun oz9 M16 => oz9 = .inl none ∧ (∀ v19 : Int32, v19 = a2 + (1 : Int32) → (R2 a0 a1 v19 M16))))))))))))))))))))) : am_J X 2 [(0, .ref a0), (1, .ref a1), (2, .int a2)] [] M bc bs := by
  refine j_iload_n hX eX0_copyFrom_2 2 rfl ?_
  refine j_iconst (v := (3 : Int32)) hX eX0_copyFrom_3 (by decide) ?_
  refine j_icmp_ge hX 28 eX0_copyFrom_4 (by decide) (fun c1 => ?_) (fun c1 => ?_)
  · replace h := h.1 c1
    refine j_iconst (v := (0 : Int32)) hX eX0_copyFrom_28 (by decide) ?_
    refine j_istore_n (lv' := [(2, .int (0 : Int32)), (0, .ref a0), (1, .ref a1)]) hX eX0_copyFrom_29 rfl (by decide) rfl ?_
    exact j_sub [1, 2, 0] rfl (k30 _ _ _ _ h)
  · replace h := h.2 c1
    refine j_aload_n hX eX0_copyFrom_7 0 rfl ?_
    obtain ⟨t2, h⟩ := h
    obtain ⟨z3, h⟩ := h
    refine j_getR hX eX0_copyFrom_8 ff_LiftGroup_Building_11 rfl t2 (by decide) z3 ?_
    refine j_nmR (fun p4 ep4 => ?_)
    replace h := h p4 ep4
    refine j_iload_n hX eX0_copyFrom_11 2 rfl ?_
    obtain ⟨t5, h⟩ := h
    obtain ⟨i6, h⟩ := h
    obtain ⟨z7, h⟩ := h
    refine j_aald26 hX eX0_copyFrom_12 t5 i6 z7 ?_
    refine j_nmR (fun p8 ep8 => ?_)
    replace h := h p8 ep8
    refine j_aload_n hX eX0_copyFrom_13 1 rfl ?_
    obtain ⟨t9, h⟩ := h
    obtain ⟨z10, h⟩ := h
    refine j_getR hX eX0_copyFrom_14 ff_LiftGroup_Building_11 rfl t9 (by decide) z10 ?_
    refine j_nmR (fun p11 ep11 => ?_)
    replace h := h p11 ep11
    refine j_iload_n hX eX0_copyFrom_17 2 rfl ?_
    obtain ⟨t12, h⟩ := h
    obtain ⟨i13, h⟩ := h
    obtain ⟨z14, h⟩ := h
    refine j_aald26 hX eX0_copyFrom_18 t12 i13 z14 ?_
    refine j_nmR (fun p15 ep15 => ?_)
    replace h := h p15 ep15
    obtain ⟨t18, h⟩ := h
    refine j_callV (a := p8) (q := (RX1, TX1, 8)) (r' := rX1_copyFrom) (As := [.ref p15]) (rest := []) (d1 := d) hX eX0_copyFrom_19 mm_LiftGroup_Building_54 rfl t18 (by decide) rfl h rfl (Nat.le_refl _) (Nat.zero_le _) (Nat.zero_le _) (Nat.le_of_ble_eq_true rfl) (fun vz9 Mz9 qz9 => ?_) (fun Ez9 Mz9 qz9 => ?_)
    · obtain ⟨M16, eMz9⟩ : ∃ M16, M16 = Mz9 := ⟨_, rfl⟩; subst eMz9
      obtain ⟨hxz9, h⟩ := qz9
      cases hxz9
      obtain ⟨v19, ev19⟩ : ∃ v19 : Int32, v19 = a2 + (1 : Int32) := ⟨_, rfl⟩
      replace h := h v19 ev19
      refine j_iinc (v := v19) (lv' := [(2, .int v19), (0, .ref a0), (1, .ref a1)]) hX eX0_copyFrom_22 2 rfl (by rw [ev19]; rfl) (by decide) rfl ?_
      refine j_goto hX 2 eX0_copyFrom_25 (by decide) ?_
      exact j_sub [1, 2, 0] rfl (k2 _ _ _ _ h)
    · obtain ⟨hxz9, h⟩ := qz9
      cases hxz9
set_option maxHeartbeats 4000000 in
set_option maxRecDepth 20000 in
theorem vX0_copyFrom_30 {X : am_Cx} {G : am_Gx} {d : Nat} {Q : am_Q} (hX : am_ok X rX0_copyFrom G (d + 1)) (hM : am_me X rX0_copyFrom Q) {bc bs : Nat} (R30 : Nat → Nat → Int32 → am_Hp → Prop) (k30 : ∀ (x0 : Nat) (x1 : Nat) (x2 : Int32) (M : am_Hp), R30 x0 x1 x2 M → am_J X 30 [(0, .ref x0), (1, .ref x1), (2, .int x2)] [] M bc bs) {a0 : Nat} {a1 : Nat} {a2 : Int32} {M : am_Hp} (h : hp_T M (a1) = 1 ∧ ((((hp_I M 3 a1) ≤ a2) → (hp_T M (a0) = 1 ∧ (hp_R M 2 a0 ≠ 0 ∧ (∀ p5 : Nat, p5 = hp_R M 2 a0 → (hp_R M 2 a1 ≠ 0 ∧ (∀ p7 : Nat, p7 = hp_R M 2 a1 → (hp_T M (p5) = 6 ∧ (am_CT G d rX5_copyFrom [.ref p5, .ref p7] M 0 0 (fun oz9 M8 => oz9 = .inl none ∧ (hp_T M8 (a1) = 1 ∧ (hp_T M8 (a0) = 1 ∧ (∀ M13 : am_Hp, M13 = hp_sI M8 3 a0 (hp_I M8 3 a1) → (∀ M16 : am_Hp, M16 = hp_sI M13 4 a0 (hp_I M13 4 a1) → (∀ M19 : am_Hp, M19 = hp_sI M16 5 a0 (hp_I M16 5 a1) → (∀ M22 : am_Hp, M22 = hp_sI M19 6 a0 (hp_I M19 6 a1) → (∀ M25 : am_Hp, M25 = hp_sI M22 7 a0 (hp_I M22 7 a1) → (∀ M28 : am_Hp, M28 = hp_sI M25 8 a0 (hp_I M25 8 a1) → (∀ M31 : am_Hp, M31 = hp_sI M28 9 a0 (hp_I M28 9 a1) → (Q (.inl none) M31))))))))))))))))))) ∧ (¬ ((hp_I M 3 a1) ≤ a2) → (hp_T M (a0) = 1 ∧ (hp_R M 1 a0 ≠ 0 ∧ (∀ p36 : Nat, p36 = hp_R M 1 a0 → (hp_T M (p36) = 27 ∧ (vp_in a2 (hp_N M p36) ∧ (hp_Q M p36 (a2).toNatClampNeg ≠ 0 ∧ (∀ p40 : Nat, p40 = hp_Q M p36 (a2).toNatClampNeg → (hp_R M 1 a1 ≠ 0 ∧ (∀ p42 : Nat, p42 = hp_R M 1 a1 → (hp_T M (p42) = 27 ∧ (vp_in a2 (hp_N M p42) ∧ (hp_Q M p42 (a2).toNatClampNeg ≠ 0 ∧ (∀ p46 : Nat, p46 = hp_Q M p42 (a2).toNatClampNeg → (hp_T M (p40) = 4 ∧ (am_CT G d rX3_copyFrom [.ref p40, .ref p46] M 0 0 (fun oz9 M47 => oz9 = .inl none ∧ (∀ v50 : Int32, v50 = a2 + (1 : Int32) → (R30 a0 a1 v50 M47))))))))))))))))))))) : am_J X 30 [(0, .ref a0), (1, .ref a1), (2, .int a2)] [] M bc bs := by
  refine j_iload_n hX eX0_copyFrom_30 2 rfl ?_
  refine j_aload_n hX eX0_copyFrom_31 1 rfl ?_
  obtain ⟨t1, h⟩ := h
  refine j_getI hX eX0_copyFrom_32 ff_LiftGroup_Building_30 rfl t1 (by decide) ?_
  refine j_icmp_ge hX 59 eX0_copyFrom_35 (by decide) (fun c2 => ?_) (fun c2 => ?_)
  · replace h := h.1 c2
    refine j_aload_n hX eX0_copyFrom_59 0 rfl ?_
    obtain ⟨t3, h⟩ := h
    obtain ⟨z4, h⟩ := h
    refine j_getR hX eX0_copyFrom_60 ff_LiftGroup_Building_26 rfl t3 (by decide) z4 ?_
    refine j_nmR (fun p5 ep5 => ?_)
    replace h := h p5 ep5
    refine j_aload_n hX eX0_copyFrom_63 1 rfl ?_
    obtain ⟨z6, h⟩ := h
    refine j_getR hX eX0_copyFrom_64 ff_LiftGroup_Building_26 rfl t1 (by decide) z6 ?_
    refine j_nmR (fun p7 ep7 => ?_)
    replace h := h p7 ep7
    obtain ⟨t10, h⟩ := h
    refine j_callV (a := p5) (q := (RX5, TX5, 5)) (r' := rX5_copyFrom) (As := [.ref p7]) (rest := []) (d1 := d) hX eX0_copyFrom_67 mm_LiftGroup_Building_61 rfl t10 (by decide) rfl h rfl (Nat.le_refl _) (Nat.zero_le _) (Nat.zero_le _) (Nat.le_of_ble_eq_true rfl) (fun vz9 Mz9 qz9 => ?_) (fun Ez9 Mz9 qz9 => ?_)
    · obtain ⟨M8, eMz9⟩ : ∃ M8, M8 = Mz9 := ⟨_, rfl⟩; subst eMz9
      obtain ⟨hxz9, h⟩ := qz9
      cases hxz9
      refine j_aload_n hX eX0_copyFrom_70 0 rfl ?_
      refine j_aload_n hX eX0_copyFrom_71 1 rfl ?_
      obtain ⟨t11, h⟩ := h
      refine j_getI hX eX0_copyFrom_72 ff_LiftGroup_Building_30 rfl t11 (by decide) ?_
      obtain ⟨t12, h⟩ := h
      refine j_putI (ty := .int) hX eX0_copyFrom_75 ff_LiftGroup_Building_30 rfl t12 (by decide) pp_0_3 rfl rfl ?_
      refine j_nmM (fun M13 eM13 => ?_)
      replace h := h M13 eM13
      have t14 : hp_T M13 (a1) = 1 := by rw [eM13]; exact t11
      have t15 : hp_T M13 (a0) = 1 := by rw [eM13]; exact t12
      refine j_aload_n hX eX0_copyFrom_78 0 rfl ?_
      refine j_aload_n hX eX0_copyFrom_79 1 rfl ?_
      refine j_getI hX eX0_copyFrom_80 ff_LiftGroup_Building_34 rfl t14 (by decide) ?_
      refine j_putI (ty := .int) hX eX0_copyFrom_83 ff_LiftGroup_Building_34 rfl t15 (by decide) pp_0_4 rfl rfl ?_
      refine j_nmM (fun M16 eM16 => ?_)
      replace h := h M16 eM16
      have t17 : hp_T M16 (a1) = 1 := by rw [eM16]; exact t14
      have t18 : hp_T M16 (a0) = 1 := by rw [eM16]; exact t15
      refine j_aload_n hX eX0_copyFrom_86 0 rfl ?_
      refine j_aload_n hX eX0_copyFrom_87 1 rfl ?_
      refine j_getI hX eX0_copyFrom_88 ff_LiftGroup_Building_37 rfl t17 (by decide) ?_
      refine j_putI (ty := .int) hX eX0_copyFrom_91 ff_LiftGroup_Building_37 rfl t18 (by decide) pp_0_5 rfl rfl ?_
      refine j_nmM (fun M19 eM19 => ?_)
      replace h := h M19 eM19
      have t20 : hp_T M19 (a1) = 1 := by rw [eM19]; exact t17
      have t21 : hp_T M19 (a0) = 1 := by rw [eM19]; exact t18
      refine j_aload_n hX eX0_copyFrom_94 0 rfl ?_
      refine j_aload_n hX eX0_copyFrom_95 1 rfl ?_
      refine j_getI hX eX0_copyFrom_96 ff_LiftGroup_Building_40 rfl t20 (by decide) ?_
      refine j_putI (ty := .int) hX eX0_copyFrom_99 ff_LiftGroup_Building_40 rfl t21 (by decide) pp_0_6 rfl rfl ?_
      refine j_nmM (fun M22 eM22 => ?_)
      replace h := h M22 eM22
      have t23 : hp_T M22 (a1) = 1 := by rw [eM22]; exact t20
      have t24 : hp_T M22 (a0) = 1 := by rw [eM22]; exact t21
      refine j_aload_n hX eX0_copyFrom_102 0 rfl ?_
      refine j_aload_n hX eX0_copyFrom_103 1 rfl ?_
      refine j_getI hX eX0_copyFrom_104 ff_LiftGroup_Building_43 rfl t23 (by decide) ?_
      refine j_putI (ty := .int) hX eX0_copyFrom_107 ff_LiftGroup_Building_43 rfl t24 (by decide) pp_0_7 rfl rfl ?_
      refine j_nmM (fun M25 eM25 => ?_)
      replace h := h M25 eM25
      have t26 : hp_T M25 (a1) = 1 := by rw [eM25]; exact t23
      have t27 : hp_T M25 (a0) = 1 := by rw [eM25]; exact t24
      refine j_aload_n hX eX0_copyFrom_110 0 rfl ?_
      refine j_aload_n hX eX0_copyFrom_111 1 rfl ?_
      refine j_getI hX eX0_copyFrom_112 ff_LiftGroup_Building_46 rfl t26 (by decide) ?_
      refine j_putI (ty := .int) hX eX0_copyFrom_115 ff_LiftGroup_Building_46 rfl t27 (by decide) pp_0_8 rfl rfl ?_
      refine j_nmM (fun M28 eM28 => ?_)
      replace h := h M28 eM28
      have t29 : hp_T M28 (a1) = 1 := by rw [eM28]; exact t26
      have t30 : hp_T M28 (a0) = 1 := by rw [eM28]; exact t27
      refine j_aload_n hX eX0_copyFrom_118 0 rfl ?_
      refine j_aload_n hX eX0_copyFrom_119 1 rfl ?_
      refine j_getI hX eX0_copyFrom_120 ff_LiftGroup_Building_49 rfl t29 (by decide) ?_
      refine j_putI (ty := .int) hX eX0_copyFrom_123 ff_LiftGroup_Building_49 rfl t30 (by decide) pp_0_9 rfl rfl ?_
      refine j_nmM (fun M31 eM31 => ?_)
      replace h := h M31 eM31
      have t32 : hp_T M31 (a1) = 1 := by rw [eM31]; exact t29
      have t33 : hp_T M31 (a0) = 1 := by rw [eM31]; exact t30
      exact j_vret hX hM eX0_copyFrom_126 rfl h
    · obtain ⟨hxz9, h⟩ := qz9
      cases hxz9
  · replace h := h.2 c2
    refine j_aload_n hX eX0_copyFrom_38 0 rfl ?_
    obtain ⟨t34, h⟩ := h
    obtain ⟨z35, h⟩ := h
    refine j_getR hX eX0_copyFrom_39 ff_LiftGroup_Building_19 rfl t34 (by decide) z35 ?_
    refine j_nmR (fun p36 ep36 => ?_)
    replace h := h p36 ep36
    refine j_iload_n hX eX0_copyFrom_42 2 rfl ?_
    obtain ⟨t37, h⟩ := h
    obtain ⟨i38, h⟩ := h
    obtain ⟨z39, h⟩ := h
    refine j_aald27 hX eX0_copyFrom_43 t37 i38 z39 ?_
    refine j_nmR (fun p40 ep40 => ?_)
    replace h := h p40 ep40
    refine j_aload_n hX eX0_copyFrom_44 1 rfl ?_
    obtain ⟨z41, h⟩ := h
    refine j_getR hX eX0_copyFrom_45 ff_LiftGroup_Building_19 rfl t1 (by decide) z41 ?_
    refine j_nmR (fun p42 ep42 => ?_)
    replace h := h p42 ep42
    refine j_iload_n hX eX0_copyFrom_48 2 rfl ?_
    obtain ⟨t43, h⟩ := h
    obtain ⟨i44, h⟩ := h
    obtain ⟨z45, h⟩ := h
    refine j_aald27 hX eX0_copyFrom_49 t43 i44 z45 ?_
    refine j_nmR (fun p46 ep46 => ?_)
    replace h := h p46 ep46
    obtain ⟨t49, h⟩ := h
    refine j_callV (a := p40) (q := (RX3, TX3, 7)) (r' := rX3_copyFrom) (As := [.ref p46]) (rest := []) (d1 := d) hX eX0_copyFrom_50 mm_LiftGroup_Building_58 rfl t49 (by decide) rfl h rfl (Nat.le_refl _) (Nat.zero_le _) (Nat.zero_le _) (Nat.le_of_ble_eq_true rfl) (fun vz9 Mz9 qz9 => ?_) (fun Ez9 Mz9 qz9 => ?_)
    · obtain ⟨M47, eMz9⟩ : ∃ M47, M47 = Mz9 := ⟨_, rfl⟩; subst eMz9
      obtain ⟨hxz9, h⟩ := qz9
      cases hxz9
      obtain ⟨v50, ev50⟩ : ∃ v50 : Int32, v50 = a2 + (1 : Int32) := ⟨_, rfl⟩
      replace h := h v50 ev50
      refine j_iinc (v := v50) (lv' := [(2, .int v50), (0, .ref a0), (1, .ref a1)]) hX eX0_copyFrom_53 2 rfl (by rw [ev50]; rfl) (by decide) rfl ?_
      refine j_goto hX 30 eX0_copyFrom_56 (by decide) ?_
      exact j_sub [1, 2, 0] rfl (k30 _ _ _ _ h)
    · obtain ⟨hxz9, h⟩ := qz9
      cases hxz9

set_option maxHeartbeats 4000000 in
set_option maxRecDepth 20000 in
theorem vX0_refusalToAdd_0 {X : am_Cx} {G : am_Gx} {d : Nat} {Q : am_Q} (hX : am_ok X rX0_refusalToAdd G (d + 1)) (hM : am_me X rX0_refusalToAdd Q) {bc bs : Nat}  {a0 : Nat} {a1 : Int32} {a2 : Int32} {a3 : Int32} {M : am_Hp} (h : am_CT G d rX6_isFloor [.int a1] M 0 0 (fun oz9 M1 => ∃ v2 : Int32, oz9 = .inl (some (.int v2)) ∧ (((v2 = 0) → (Q (.inl (some (.int (2 : Int32)))) M1)) ∧ (¬ (v2 = 0) → (am_CT G d rX6_isFloor [.int a2] M1 0 0 (fun oz9 M4 => ∃ v5 : Int32, oz9 = .inl (some (.int v5)) ∧ (((v5 = 0) → (Q (.inl (some (.int (2 : Int32)))) M4)) ∧ (¬ (v5 = 0) → (((a1 = a2) → (Q (.inl (some (.int (2 : Int32)))) M4)) ∧ (¬ (a1 = a2) → (am_CT G d rX6_isWeight [.int a3] M4 0 0 (fun oz9 M8 => ∃ v9 : Int32, oz9 = .inl (some (.int v9)) ∧ (((v9 = 0) → (Q (.inl (some (.int (2 : Int32)))) M8)) ∧ (¬ (v9 = 0) → (hp_T M8 (a0) = 1 ∧ ((((12 : Int32) ≤ (hp_I M8 3 a0)) → (Q (.inl (some (.int (3 : Int32)))) M8)) ∧ (¬ ((12 : Int32) ≤ (hp_I M8 3 a0)) → (Q (.inl (some (.int (0 : Int32)))) M8)))))))))))))))))) : am_J X 0 [(0, .ref a0), (1, .int a1), (2, .int a2), (3, .int a3)] [] M bc bs := by
  refine j_iload_n hX eX0_refusalToAdd_0 1 rfl ?_
  refine j_callSN (r' := rX6_isFloor) (As := [.int a1]) (rest := []) (d1 := d) hX eX0_refusalToAdd_1 mm_LiftGroup_Building_64 rfl h rfl (Nat.le_refl _) (Nat.zero_le _) (Nat.zero_le _) (Nat.le_of_ble_eq_true rfl) (fun vz9 Mz9 qz9 => ?_) (fun Ez9 Mz9 qz9 => ?_)
  · obtain ⟨M1, eMz9⟩ : ∃ M1, M1 = Mz9 := ⟨_, rfl⟩; subst eMz9
    obtain ⟨v2, hxz9, h⟩ := qz9
    cases hxz9
    refine j_if_eq hX 26 eX0_refusalToAdd_4 (by decide) (fun c3 => ?_) (fun c3 => ?_)
    · replace h := h.1 c3
      refine j_iconst (v := (2 : Int32)) hX eX0_refusalToAdd_26 (by decide) ?_
      exact j_iret hX hM eX0_refusalToAdd_27 rfl h
    · replace h := h.2 c3
      refine j_iload_n hX eX0_refusalToAdd_7 2 rfl ?_
      refine j_callSN (r' := rX6_isFloor) (As := [.int a2]) (rest := []) (d1 := d) hX eX0_refusalToAdd_8 mm_LiftGroup_Building_64 rfl h rfl (Nat.le_refl _) (Nat.zero_le _) (Nat.zero_le _) (Nat.le_of_ble_eq_true rfl) (fun vz9 Mz9 qz9 => ?_) (fun Ez9 Mz9 qz9 => ?_)
      · obtain ⟨M4, eMz9⟩ : ∃ M4, M4 = Mz9 := ⟨_, rfl⟩; subst eMz9
        obtain ⟨v5, hxz9, h⟩ := qz9
        cases hxz9
        refine j_if_eq hX 26 eX0_refusalToAdd_11 (by decide) (fun c6 => ?_) (fun c6 => ?_)
        · replace h := h.1 c6
          refine j_iconst (v := (2 : Int32)) hX eX0_refusalToAdd_26 (by decide) ?_
          exact j_iret hX hM eX0_refusalToAdd_27 rfl h
        · replace h := h.2 c6
          refine j_iload_n hX eX0_refusalToAdd_14 1 rfl ?_
          refine j_iload_n hX eX0_refusalToAdd_15 2 rfl ?_
          refine j_icmp_eq hX 26 eX0_refusalToAdd_16 (by decide) (fun c7 => ?_) (fun c7 => ?_)
          · replace h := h.1 c7
            refine j_iconst (v := (2 : Int32)) hX eX0_refusalToAdd_26 (by decide) ?_
            exact j_iret hX hM eX0_refusalToAdd_27 rfl h
          · replace h := h.2 c7
            refine j_iload_n hX eX0_refusalToAdd_19 3 rfl ?_
            refine j_callSN (r' := rX6_isWeight) (As := [.int a3]) (rest := []) (d1 := d) hX eX0_refusalToAdd_20 mm_LiftGroup_Building_68 rfl h rfl (Nat.le_refl _) (Nat.zero_le _) (Nat.zero_le _) (Nat.le_of_ble_eq_true rfl) (fun vz9 Mz9 qz9 => ?_) (fun Ez9 Mz9 qz9 => ?_)
            · obtain ⟨M8, eMz9⟩ : ∃ M8, M8 = Mz9 := ⟨_, rfl⟩; subst eMz9
              obtain ⟨v9, hxz9, h⟩ := qz9
              cases hxz9
              refine j_if_ne hX 28 eX0_refusalToAdd_23 (by decide) (fun c10 => ?_) (fun c10 => ?_)
              · replace h := h.2 c10
                refine j_aload_n hX eX0_refusalToAdd_28 0 rfl ?_
                obtain ⟨t11, h⟩ := h
                refine j_getI hX eX0_refusalToAdd_29 ff_LiftGroup_Building_30 rfl t11 (by decide) ?_
                refine j_bipush (v := (12 : Int32)) hX eX0_refusalToAdd_32 (by decide) ?_
                refine j_icmp_ge hX 41 eX0_refusalToAdd_34 (by decide) (fun c12 => ?_) (fun c12 => ?_)
                · replace h := h.1 c12
                  refine j_iconst (v := (3 : Int32)) hX eX0_refusalToAdd_41 (by decide) ?_
                  exact j_iret hX hM eX0_refusalToAdd_42 rfl h
                · replace h := h.2 c12
                  refine j_iconst (v := (0 : Int32)) hX eX0_refusalToAdd_37 (by decide) ?_
                  refine j_goto hX 42 eX0_refusalToAdd_38 (by decide) ?_
                  exact j_iret hX hM eX0_refusalToAdd_42 rfl h
              · replace h := h.1 c10
                refine j_iconst (v := (2 : Int32)) hX eX0_refusalToAdd_26 (by decide) ?_
                exact j_iret hX hM eX0_refusalToAdd_27 rfl h
            · obtain ⟨v9, hxz9, h⟩ := qz9
              cases hxz9
      · obtain ⟨v5, hxz9, h⟩ := qz9
        cases hxz9
  · obtain ⟨v2, hxz9, h⟩ := qz9
    cases hxz9

set_option maxHeartbeats 4000000 in
set_option maxRecDepth 20000 in
theorem vX0_add_0 {X : am_Cx} {G : am_Gx} {d : Nat} {Q : am_Q} (hX : am_ok X rX0_add G (d + 1)) (hM : am_me X rX0_add Q) {bc bs : Nat}  {a0 : Nat} {a1 : Int32} {a2 : Int32} {a3 : Int32} {M : am_Hp} (h : hp_T M (a0) = 1 ∧ (hp_R M 1 a0 ≠ 0 ∧ (∀ p3 : Nat, p3 = hp_R M 1 a0 → (hp_T M (p3) = 27 ∧ (vp_in (hp_I M 3 a0) (hp_N M p3) ∧ (hp_Q M p3 ((hp_I M 3 a0)).toNatClampNeg ≠ 0 ∧ (∀ p7 : Nat, p7 = hp_Q M p3 ((hp_I M 3 a0)).toNatClampNeg → (∀ M8 : am_Hp, M8 = hp_sI M 4 a0 ((hp_I M 4 a0) + (1 : Int32)) → (hp_T M8 (p7) = 4 ∧ (∀ M12 : am_Hp, M12 = hp_sI M8 60 p7 (hp_I M8 4 a0) → (∀ M16 : am_Hp, M16 = hp_sI M12 61 p7 a1 → (∀ M20 : am_Hp, M20 = hp_sI M16 62 p7 a2 → (∀ M24 : am_Hp, M24 = hp_sI M20 63 p7 a3 → (∀ M28 : am_Hp, M28 = hp_sI M24 64 p7 (0 : Int32) → (am_bo (0 : Int32) ∧ (∀ M33 : am_Hp, M33 = hp_sI M28 66 p7 (0 : Int32) → (am_CT G d rX0_chooseCar [.ref a0, .int a1, .int a3] M33 0 0 (fun oz9 M37 => ∃ v38 : Int32, oz9 = .inl (some (.int v38)) ∧ (hp_T M37 (p7) = 4 ∧ (∀ M40 : am_Hp, M40 = hp_sI M37 65 p7 v38 → (hp_T M40 (a0) = 1 ∧ (∀ M43 : am_Hp, M43 = hp_sI M40 3 a0 ((hp_I M40 3 a0) + (1 : Int32)) → (Q (.inl (some (.int ((hp_I M43 3 a0) - (1 : Int32))))) M43))))))))))))))))))))))) : am_J X 0 [(0, .ref a0), (1, .int a1), (2, .int a2), (3, .int a3)] [] M bc bs := by
  refine j_aload_n hX eX0_add_0 0 rfl ?_
  obtain ⟨t1, h⟩ := h
  obtain ⟨z2, h⟩ := h
  refine j_getR hX eX0_add_1 ff_LiftGroup_Building_19 rfl t1 (by decide) z2 ?_
  refine j_nmR (fun p3 ep3 => ?_)
  replace h := h p3 ep3
  refine j_aload_n hX eX0_add_4 0 rfl ?_
  refine j_getI hX eX0_add_5 ff_LiftGroup_Building_30 rfl t1 (by decide) ?_
  obtain ⟨t4, h⟩ := h
  obtain ⟨i5, h⟩ := h
  obtain ⟨z6, h⟩ := h
  refine j_aald27 hX eX0_add_8 t4 i5 z6 ?_
  refine j_nmR (fun p7 ep7 => ?_)
  replace h := h p7 ep7
  refine j_astore (lv' := [(4, .ref p7), (0, .ref a0), (1, .int a1), (2, .int a2), (3, .int a3)]) hX eX0_add_9 (by decide) rfl ?_
  refine j_aload_n hX eX0_add_11 1 rfl ?_
  refine j_dup hX eX0_add_12 rfl ?_
  refine j_getI hX eX0_add_13 ff_LiftGroup_Building_34 rfl t1 (by decide) ?_
  refine j_iconst (v := (1 : Int32)) hX eX0_add_16 (by decide) ?_
  refine j_iadd hX eX0_add_17 ?_
  refine j_putI (ty := .int) hX eX0_add_18 ff_LiftGroup_Building_34 rfl t1 (by decide) pp_0_4 rfl rfl ?_
  refine j_nmM (fun M8 eM8 => ?_)
  replace h := h M8 eM8
  have t9 : hp_T M8 (a0) = 1 := by rw [eM8]; exact t1
  have t10 : hp_T M8 (p3) = 27 := by rw [eM8]; exact t4
  refine j_aload hX eX0_add_21 0 rfl ?_
  refine j_aload_n hX eX0_add_23 1 rfl ?_
  refine j_getI hX eX0_add_24 ff_LiftGroup_Building_34 rfl t9 (by decide) ?_
  obtain ⟨t11, h⟩ := h
  refine j_putI (ty := .int) hX eX0_add_27 ff_LiftGroup_Building_71 rfl t11 (by decide) pp_3_0 rfl rfl ?_
  refine j_nmM (fun M12 eM12 => ?_)
  replace h := h M12 eM12
  have t13 : hp_T M12 (a0) = 1 := by rw [eM12]; exact t9
  have t14 : hp_T M12 (p3) = 27 := by rw [eM12]; exact t10
  have t15 : hp_T M12 (p7) = 4 := by rw [eM12]; exact t11
  refine j_aload hX eX0_add_30 0 rfl ?_
  refine j_iload_n hX eX0_add_32 2 rfl ?_
  refine j_putI (ty := .int) hX eX0_add_33 ff_LiftGroup_Building_74 rfl t15 (by decide) pp_3_1 rfl rfl ?_
  refine j_nmM (fun M16 eM16 => ?_)
  replace h := h M16 eM16
  have t17 : hp_T M16 (a0) = 1 := by rw [eM16]; exact t13
  have t18 : hp_T M16 (p3) = 27 := by rw [eM16]; exact t14
  have t19 : hp_T M16 (p7) = 4 := by rw [eM16]; exact t15
  refine j_aload hX eX0_add_36 0 rfl ?_
  refine j_iload_n hX eX0_add_38 3 rfl ?_
  refine j_putI (ty := .int) hX eX0_add_39 ff_LiftGroup_Building_77 rfl t19 (by decide) pp_3_2 rfl rfl ?_
  refine j_nmM (fun M20 eM20 => ?_)
  replace h := h M20 eM20
  have t21 : hp_T M20 (a0) = 1 := by rw [eM20]; exact t17
  have t22 : hp_T M20 (p3) = 27 := by rw [eM20]; exact t18
  have t23 : hp_T M20 (p7) = 4 := by rw [eM20]; exact t19
  refine j_aload hX eX0_add_42 0 rfl ?_
  refine j_iload_n hX eX0_add_44 4 rfl ?_
  refine j_putI (ty := .int) hX eX0_add_45 ff_LiftGroup_Building_80 rfl t23 (by decide) pp_3_3 rfl rfl ?_
  refine j_nmM (fun M24 eM24 => ?_)
  replace h := h M24 eM24
  have t25 : hp_T M24 (a0) = 1 := by rw [eM24]; exact t21
  have t26 : hp_T M24 (p3) = 27 := by rw [eM24]; exact t22
  have t27 : hp_T M24 (p7) = 4 := by rw [eM24]; exact t23
  refine j_aload hX eX0_add_48 0 rfl ?_
  refine j_iconst (v := (0 : Int32)) hX eX0_add_50 (by decide) ?_
  refine j_putI (ty := .int) hX eX0_add_51 ff_LiftGroup_Building_83 rfl t27 (by decide) pp_3_4 rfl rfl ?_
  refine j_nmM (fun M28 eM28 => ?_)
  replace h := h M28 eM28
  have t29 : hp_T M28 (a0) = 1 := by rw [eM28]; exact t25
  have t30 : hp_T M28 (p3) = 27 := by rw [eM28]; exact t26
  have t31 : hp_T M28 (p7) = 4 := by rw [eM28]; exact t27
  refine j_aload hX eX0_add_54 0 rfl ?_
  refine j_iconst (v := (0 : Int32)) hX eX0_add_56 (by decide) ?_
  obtain ⟨b32, h⟩ := h
  refine j_putI (ty := .boolean) hX eX0_add_57 ff_LiftGroup_Building_86 rfl t31 (by decide) pp_3_6 (am_bo_n b32) (am_bo_f b32) ?_
  refine j_nmM (fun M33 eM33 => ?_)
  replace h := h M33 eM33
  have t34 : hp_T M33 (a0) = 1 := by rw [eM33]; exact t29
  have t35 : hp_T M33 (p3) = 27 := by rw [eM33]; exact t30
  have t36 : hp_T M33 (p7) = 4 := by rw [eM33]; exact t31
  refine j_aload hX eX0_add_60 0 rfl ?_
  refine j_aload_n hX eX0_add_62 1 rfl ?_
  refine j_iload_n hX eX0_add_63 2 rfl ?_
  refine j_iload_n hX eX0_add_64 4 rfl ?_
  refine j_callV (a := a0) (q := (RX0, TX0, 10)) (r' := rX0_chooseCar) (As := [.int a1, .int a3]) (rest := [.ref p7]) (d1 := d) hX eX0_add_65 mm_LiftGroup_Building_90 rfl t34 (by decide) rfl h rfl (Nat.le_refl _) (Nat.zero_le _) (Nat.zero_le _) (Nat.le_of_ble_eq_true rfl) (fun vz9 Mz9 qz9 => ?_) (fun Ez9 Mz9 qz9 => ?_)
  · obtain ⟨M37, eMz9⟩ : ∃ M37, M37 = Mz9 := ⟨_, rfl⟩; subst eMz9
    obtain ⟨v38, hxz9, h⟩ := qz9
    cases hxz9
    obtain ⟨t39, h⟩ := h
    refine j_putI (ty := .int) hX eX0_add_68 ff_LiftGroup_Building_94 rfl t39 (by decide) pp_3_5 rfl rfl ?_
    refine j_nmM (fun M40 eM40 => ?_)
    replace h := h M40 eM40
    have t41 : hp_T M40 (p7) = 4 := by rw [eM40]; exact t39
    refine j_aload_n hX eX0_add_71 1 rfl ?_
    refine j_dup hX eX0_add_72 rfl ?_
    obtain ⟨t42, h⟩ := h
    refine j_getI hX eX0_add_73 ff_LiftGroup_Building_30 rfl t42 (by decide) ?_
    refine j_iconst (v := (1 : Int32)) hX eX0_add_76 (by decide) ?_
    refine j_iadd hX eX0_add_77 ?_
    refine j_putI (ty := .int) hX eX0_add_78 ff_LiftGroup_Building_30 rfl t42 (by decide) pp_0_3 rfl rfl ?_
    refine j_nmM (fun M43 eM43 => ?_)
    replace h := h M43 eM43
    have t44 : hp_T M43 (p7) = 4 := by rw [eM43]; exact t41
    have t45 : hp_T M43 (a0) = 1 := by rw [eM43]; exact t42
    refine j_aload_n hX eX0_add_81 1 rfl ?_
    refine j_getI hX eX0_add_82 ff_LiftGroup_Building_30 rfl t45 (by decide) ?_
    refine j_iconst (v := (1 : Int32)) hX eX0_add_85 (by decide) ?_
    refine j_isub hX eX0_add_86 ?_
    exact j_iret hX hM eX0_add_87 rfl h
  · obtain ⟨v38, hxz9, h⟩ := qz9
    cases hxz9

set_option maxHeartbeats 4000000 in
set_option maxRecDepth 20000 in
theorem vX0_refusalToRemove_0 {X : am_Cx} {G : am_Gx} {d : Nat} {Q : am_Q} (hX : am_ok X rX0_refusalToRemove G (d + 1)) (hM : am_me X rX0_refusalToRemove Q) {bc bs : Nat}  {a0 : Nat} {a1 : Int32} {M : am_Hp} (h : hp_T M (a0) = 1 ∧ (am_CT G d rX0_isPassenger [.ref a0, .int a1] M 0 0 (fun oz9 M1 => ∃ v2 : Int32, oz9 = .inl (some (.int v2)) ∧ (((v2 = 0) → (Q (.inl (some (.int (1 : Int32)))) M1)) ∧ (¬ (v2 = 0) → (hp_T M1 (a0) = 1 ∧ (hp_R M1 1 a0 ≠ 0 ∧ (∀ p7 : Nat, p7 = hp_R M1 1 a0 → (hp_T M1 (p7) = 27 ∧ (vp_in a1 (hp_N M1 p7) ∧ (hp_Q M1 p7 (a1).toNatClampNeg ≠ 0 ∧ (∀ p11 : Nat, p11 = hp_Q M1 p7 (a1).toNatClampNeg → (hp_T M1 (p11) = 4 ∧ ((((hp_I M1 66 p11) = 0) → (Q (.inl (some (.int (0 : Int32)))) M1)) ∧ (¬ ((hp_I M1 66 p11) = 0) → (Q (.inl (some (.int (3 : Int32)))) M1)))))))))))))))) : am_J X 0 [(0, .ref a0), (1, .int a1)] [] M bc bs := by
  refine j_aload_n hX eX0_refusalToRemove_0 0 rfl ?_
  refine j_iload_n hX eX0_refusalToRemove_1 1 rfl ?_
  obtain ⟨t3, h⟩ := h
  refine j_callV (a := a0) (q := (RX0, TX0, 10)) (r' := rX0_isPassenger) (As := [.int a1]) (rest := []) (d1 := d) hX eX0_refusalToRemove_2 mm_LiftGroup_Building_97 rfl t3 (by decide) rfl h rfl (Nat.le_refl _) (Nat.zero_le _) (Nat.zero_le _) (Nat.le_of_ble_eq_true rfl) (fun vz9 Mz9 qz9 => ?_) (fun Ez9 Mz9 qz9 => ?_)
  · obtain ⟨M1, eMz9⟩ : ∃ M1, M1 = Mz9 := ⟨_, rfl⟩; subst eMz9
    obtain ⟨v2, hxz9, h⟩ := qz9
    cases hxz9
    refine j_if_ne hX 10 eX0_refusalToRemove_5 (by decide) (fun c4 => ?_) (fun c4 => ?_)
    · replace h := h.2 c4
      refine j_aload_n hX eX0_refusalToRemove_10 0 rfl ?_
      obtain ⟨t5, h⟩ := h
      obtain ⟨z6, h⟩ := h
      refine j_getR hX eX0_refusalToRemove_11 ff_LiftGroup_Building_19 rfl t5 (by decide) z6 ?_
      refine j_nmR (fun p7 ep7 => ?_)
      replace h := h p7 ep7
      refine j_iload_n hX eX0_refusalToRemove_14 1 rfl ?_
      obtain ⟨t8, h⟩ := h
      obtain ⟨i9, h⟩ := h
      obtain ⟨z10, h⟩ := h
      refine j_aald27 hX eX0_refusalToRemove_15 t8 i9 z10 ?_
      refine j_nmR (fun p11 ep11 => ?_)
      replace h := h p11 ep11
      obtain ⟨t12, h⟩ := h
      refine j_getI hX eX0_refusalToRemove_16 ff_LiftGroup_Building_86 rfl t12 (by decide) ?_
      refine j_if_eq hX 26 eX0_refusalToRemove_19 (by decide) (fun c13 => ?_) (fun c13 => ?_)
      · replace h := h.1 c13
        refine j_iconst (v := (0 : Int32)) hX eX0_refusalToRemove_26 (by decide) ?_
        exact j_iret hX hM eX0_refusalToRemove_27 rfl h
      · replace h := h.2 c13
        refine j_iconst (v := (3 : Int32)) hX eX0_refusalToRemove_22 (by decide) ?_
        refine j_goto hX 27 eX0_refusalToRemove_23 (by decide) ?_
        exact j_iret hX hM eX0_refusalToRemove_27 rfl h
    · replace h := h.1 c4
      refine j_iconst (v := (1 : Int32)) hX eX0_refusalToRemove_8 (by decide) ?_
      exact j_iret hX hM eX0_refusalToRemove_9 rfl h
  · obtain ⟨v2, hxz9, h⟩ := qz9
    cases hxz9

set_option maxHeartbeats 4000000 in
set_option maxRecDepth 20000 in
theorem vX0_remove_0 {X : am_Cx} {G : am_Gx} {d : Nat} {Q : am_Q} (hX : am_ok X rX0_remove G (d + 1)) (hM : am_me X rX0_remove Q) {bc bs : Nat} (R19 : Nat → Nat → Int32 → am_Hp → Prop) (k19 : ∀ (x0 : Nat) (x2 : Nat) (x3 : Int32) (M : am_Hp), R19 x0 x2 x3 M → am_J X 19 [(0, .ref x0), (2, .ref x2), (3, .int x3)] [] M bc bs) {a0 : Nat} {a1 : Int32} {M : am_Hp} (h : hp_T M (a0) = 1 ∧ (hp_R M 1 a0 ≠ 0 ∧ (∀ p3 : Nat, p3 = hp_R M 1 a0 → (hp_T M (p3) = 27 ∧ (vp_in a1 (hp_N M p3) ∧ (hp_Q M p3 (a1).toNatClampNeg ≠ 0 ∧ (∀ p7 : Nat, p7 = hp_Q M p3 (a1).toNatClampNeg → (∀ M8 : am_Hp, M8 = hp_sI M 3 a0 ((hp_I M 3 a0) - (1 : Int32)) → (R19 a0 p7 a1 M8))))))))) : am_J X 0 [(0, .ref a0), (1, .int a1)] [] M bc bs := by
  refine j_aload_n hX eX0_remove_0 0 rfl ?_
  obtain ⟨t1, h⟩ := h
  obtain ⟨z2, h⟩ := h
  refine j_getR hX eX0_remove_1 ff_LiftGroup_Building_19 rfl t1 (by decide) z2 ?_
  refine j_nmR (fun p3 ep3 => ?_)
  replace h := h p3 ep3
  refine j_iload_n hX eX0_remove_4 1 rfl ?_
  obtain ⟨t4, h⟩ := h
  obtain ⟨i5, h⟩ := h
  obtain ⟨z6, h⟩ := h
  refine j_aald27 hX eX0_remove_5 t4 i5 z6 ?_
  refine j_nmR (fun p7 ep7 => ?_)
  replace h := h p7 ep7
  refine j_astore_n (lv' := [(2, .ref p7), (0, .ref a0), (1, .int a1)]) hX eX0_remove_6 rfl (by decide) rfl ?_
  refine j_aload_n hX eX0_remove_7 1 rfl ?_
  refine j_dup hX eX0_remove_8 rfl ?_
  refine j_getI hX eX0_remove_9 ff_LiftGroup_Building_30 rfl t1 (by decide) ?_
  refine j_iconst (v := (1 : Int32)) hX eX0_remove_12 (by decide) ?_
  refine j_isub hX eX0_remove_13 ?_
  refine j_putI (ty := .int) hX eX0_remove_14 ff_LiftGroup_Building_30 rfl t1 (by decide) pp_0_3 rfl rfl ?_
  refine j_nmM (fun M8 eM8 => ?_)
  replace h := h M8 eM8
  have t9 : hp_T M8 (a0) = 1 := by rw [eM8]; exact t1
  have t10 : hp_T M8 (p3) = 27 := by rw [eM8]; exact t4
  refine j_iload_n hX eX0_remove_17 2 rfl ?_
  refine j_istore_n (lv' := [(3, .int a1), (2, .ref p7), (0, .ref a0), (1, .int a1)]) hX eX0_remove_18 rfl (by decide) rfl ?_
  exact j_sub [2, 1, 0] rfl (k19 _ _ _ _ h)
set_option maxHeartbeats 4000000 in
set_option maxRecDepth 20000 in
theorem vX0_remove_19 {X : am_Cx} {G : am_Gx} {d : Nat} {Q : am_Q} (hX : am_ok X rX0_remove G (d + 1)) (hM : am_me X rX0_remove Q) {bc bs : Nat} (R19 : Nat → Nat → Int32 → am_Hp → Prop) (k19 : ∀ (x0 : Nat) (x2 : Nat) (x3 : Int32) (M : am_Hp), R19 x0 x2 x3 M → am_J X 19 [(0, .ref x0), (2, .ref x2), (3, .int x3)] [] M bc bs) {a0 : Nat} {a2 : Nat} {a3 : Int32} {M : am_Hp} (h : hp_T M (a0) = 1 ∧ ((((hp_I M 3 a0) ≤ a3) → (hp_R M 1 a0 ≠ 0 ∧ (∀ p4 : Nat, p4 = hp_R M 1 a0 → (hp_T M (p4) = 27 ∧ (hp_T M (a2) = 4 ∧ (a2 ≠ 0 ∧ (vp_in (hp_I M 3 a0) (hp_N M p4) ∧ (∀ M9 : am_Hp, M9 = hp_sQ M p4 ((hp_I M 3 a0)).toNatClampNeg a2 → (Q (.inl (some (.int (hp_I M9 60 a2)))) M9))))))))) ∧ (¬ ((hp_I M 3 a0) ≤ a3) → (hp_R M 1 a0 ≠ 0 ∧ (∀ p14 : Nat, p14 = hp_R M 1 a0 → (hp_R M 1 a0 ≠ 0 ∧ (∀ p16 : Nat, p16 = hp_R M 1 a0 → (hp_T M (p16) = 27 ∧ (vp_in (a3 + (1 : Int32)) (hp_N M p16) ∧ (hp_Q M p16 ((a3 + (1 : Int32))).toNatClampNeg ≠ 0 ∧ (∀ p20 : Nat, p20 = hp_Q M p16 ((a3 + (1 : Int32))).toNatClampNeg → (hp_T M (p14) = 27 ∧ (hp_T M (p20) = 4 ∧ (p20 ≠ 0 ∧ (vp_in a3 (hp_N M p14) ∧ (∀ M25 : am_Hp, M25 = hp_sQ M p14 (a3).toNatClampNeg p20 → (∀ v30 : Int32, v30 = a3 + (1 : Int32) → (R19 a0 a2 v30 M25)))))))))))))))))) : am_J X 19 [(0, .ref a0), (2, .ref a2), (3, .int a3)] [] M bc bs := by
  refine j_iload_n hX eX0_remove_19 2 rfl ?_
  refine j_aload_n hX eX0_remove_20 0 rfl ?_
  obtain ⟨t1, h⟩ := h
  refine j_getI hX eX0_remove_21 ff_LiftGroup_Building_30 rfl t1 (by decide) ?_
  refine j_icmp_ge hX 47 eX0_remove_24 (by decide) (fun c2 => ?_) (fun c2 => ?_)
  · replace h := h.1 c2
    refine j_aload_n hX eX0_remove_47 0 rfl ?_
    obtain ⟨z3, h⟩ := h
    refine j_getR hX eX0_remove_48 ff_LiftGroup_Building_19 rfl t1 (by decide) z3 ?_
    refine j_nmR (fun p4 ep4 => ?_)
    replace h := h p4 ep4
    refine j_aload_n hX eX0_remove_51 0 rfl ?_
    refine j_getI hX eX0_remove_52 ff_LiftGroup_Building_30 rfl t1 (by decide) ?_
    refine j_aload_n hX eX0_remove_55 1 rfl ?_
    obtain ⟨t5, h⟩ := h
    obtain ⟨t6, h⟩ := h
    obtain ⟨z7, h⟩ := h
    obtain ⟨i8, h⟩ := h
    refine j_aast27 hX eX0_remove_56 t5 t6 z7 i8 ?_
    refine j_nmM (fun M9 eM9 => ?_)
    replace h := h M9 eM9
    have t10 : hp_T M9 (a0) = 1 := by rw [eM9]; exact t1
    have t11 : hp_T M9 (p4) = 27 := by rw [eM9]; exact t5
    have t12 : hp_T M9 (a2) = 4 := by rw [eM9]; exact t6
    refine j_aload_n hX eX0_remove_57 1 rfl ?_
    refine j_getI hX eX0_remove_58 ff_LiftGroup_Building_71 rfl t12 (by decide) ?_
    exact j_iret hX hM eX0_remove_61 rfl h
  · replace h := h.2 c2
    refine j_aload_n hX eX0_remove_27 0 rfl ?_
    obtain ⟨z13, h⟩ := h
    refine j_getR hX eX0_remove_28 ff_LiftGroup_Building_19 rfl t1 (by decide) z13 ?_
    refine j_nmR (fun p14 ep14 => ?_)
    replace h := h p14 ep14
    refine j_iload_n hX eX0_remove_31 2 rfl ?_
    refine j_aload_n hX eX0_remove_32 0 rfl ?_
    obtain ⟨z15, h⟩ := h
    refine j_getR hX eX0_remove_33 ff_LiftGroup_Building_19 rfl t1 (by decide) z15 ?_
    refine j_nmR (fun p16 ep16 => ?_)
    replace h := h p16 ep16
    refine j_iload_n hX eX0_remove_36 2 rfl ?_
    refine j_iconst (v := (1 : Int32)) hX eX0_remove_37 (by decide) ?_
    refine j_iadd hX eX0_remove_38 ?_
    obtain ⟨t17, h⟩ := h
    obtain ⟨i18, h⟩ := h
    obtain ⟨z19, h⟩ := h
    refine j_aald27 hX eX0_remove_39 t17 i18 z19 ?_
    refine j_nmR (fun p20 ep20 => ?_)
    replace h := h p20 ep20
    obtain ⟨t21, h⟩ := h
    obtain ⟨t22, h⟩ := h
    obtain ⟨z23, h⟩ := h
    obtain ⟨i24, h⟩ := h
    refine j_aast27 hX eX0_remove_40 t21 t22 z23 i24 ?_
    refine j_nmM (fun M25 eM25 => ?_)
    replace h := h M25 eM25
    have t26 : hp_T M25 (a0) = 1 := by rw [eM25]; exact t1
    have t27 : hp_T M25 (p16) = 27 := by rw [eM25]; exact t17
    have t28 : hp_T M25 (p14) = 27 := by rw [eM25]; exact t21
    have t29 : hp_T M25 (p20) = 4 := by rw [eM25]; exact t22
    obtain ⟨v30, ev30⟩ : ∃ v30 : Int32, v30 = a3 + (1 : Int32) := ⟨_, rfl⟩
    replace h := h v30 ev30
    refine j_iinc (v := v30) (lv' := [(3, .int v30), (0, .ref a0), (2, .ref a2)]) hX eX0_remove_41 2 rfl (by rw [ev30]; rfl) (by decide) rfl ?_
    refine j_goto hX 19 eX0_remove_44 (by decide) ?_
    exact j_sub [1, 2, 0] rfl (k19 _ _ _ _ h)

set_option maxHeartbeats 4000000 in
set_option maxRecDepth 20000 in
theorem vX0_refusalToHold_0 {X : am_Cx} {G : am_Gx} {d : Nat} {Q : am_Q} (hX : am_ok X rX0_refusalToHold G (d + 1)) (hM : am_me X rX0_refusalToHold Q) {bc bs : Nat}  {a0 : Nat} {a1 : Int32} {a2 : Int32} {M : am_Hp} (h : am_CT G d rX6_isCar [.int a1] M 0 0 (fun oz9 M1 => ∃ v2 : Int32, oz9 = .inl (some (.int v2)) ∧ (((v2 = 0) → (Q (.inl (some (.int (1 : Int32)))) M1)) ∧ (¬ (v2 = 0) → (((a2 < (1 : Int32)) → (Q (.inl (some (.int (2 : Int32)))) M1)) ∧ (¬ (a2 < (1 : Int32)) → (((a2 ≤ (3 : Int32)) → (hp_T M1 (a0) = 1 ∧ (hp_R M1 0 a0 ≠ 0 ∧ (∀ p8 : Nat, p8 = hp_R M1 0 a0 → (hp_T M1 (p8) = 26 ∧ (vp_in a1 (hp_N M1 p8) ∧ (hp_Q M1 p8 (a1).toNatClampNeg ≠ 0 ∧ (∀ p12 : Nat, p12 = hp_Q M1 p8 (a1).toNatClampNeg → (hp_T M1 (p12) = 2 ∧ ((((hp_I M1 25 p12) ≤ 0) → (Q (.inl (some (.int (3 : Int32)))) M1)) ∧ (¬ ((hp_I M1 25 p12) ≤ 0) → (Q (.inl (some (.int (0 : Int32)))) M1)))))))))))) ∧ (¬ (a2 ≤ (3 : Int32)) → (Q (.inl (some (.int (2 : Int32)))) M1))))))))) : am_J X 0 [(0, .ref a0), (1, .int a1), (2, .int a2)] [] M bc bs := by
  refine j_iload_n hX eX0_refusalToHold_0 1 rfl ?_
  refine j_callSN (r' := rX6_isCar) (As := [.int a1]) (rest := []) (d1 := d) hX eX0_refusalToHold_1 mm_LiftGroup_Building_100 rfl h rfl (Nat.le_refl _) (Nat.zero_le _) (Nat.zero_le _) (Nat.le_of_ble_eq_true rfl) (fun vz9 Mz9 qz9 => ?_) (fun Ez9 Mz9 qz9 => ?_)
  · obtain ⟨M1, eMz9⟩ : ∃ M1, M1 = Mz9 := ⟨_, rfl⟩; subst eMz9
    obtain ⟨v2, hxz9, h⟩ := qz9
    cases hxz9
    refine j_if_ne hX 9 eX0_refusalToHold_4 (by decide) (fun c3 => ?_) (fun c3 => ?_)
    · replace h := h.2 c3
      refine j_iload_n hX eX0_refusalToHold_9 2 rfl ?_
      refine j_iconst (v := (1 : Int32)) hX eX0_refusalToHold_10 (by decide) ?_
      refine j_icmp_lt hX 19 eX0_refusalToHold_11 (by decide) (fun c4 => ?_) (fun c4 => ?_)
      · replace h := h.1 c4
        refine j_iconst (v := (2 : Int32)) hX eX0_refusalToHold_19 (by decide) ?_
        exact j_iret hX hM eX0_refusalToHold_20 rfl h
      · replace h := h.2 c4
        refine j_iload_n hX eX0_refusalToHold_14 2 rfl ?_
        refine j_iconst (v := (3 : Int32)) hX eX0_refusalToHold_15 (by decide) ?_
        refine j_icmp_le hX 21 eX0_refusalToHold_16 (by decide) (fun c5 => ?_) (fun c5 => ?_)
        · replace h := h.1 c5
          refine j_aload_n hX eX0_refusalToHold_21 0 rfl ?_
          obtain ⟨t6, h⟩ := h
          obtain ⟨z7, h⟩ := h
          refine j_getR hX eX0_refusalToHold_22 ff_LiftGroup_Building_11 rfl t6 (by decide) z7 ?_
          refine j_nmR (fun p8 ep8 => ?_)
          replace h := h p8 ep8
          refine j_iload_n hX eX0_refusalToHold_25 1 rfl ?_
          obtain ⟨t9, h⟩ := h
          obtain ⟨i10, h⟩ := h
          obtain ⟨z11, h⟩ := h
          refine j_aald26 hX eX0_refusalToHold_26 t9 i10 z11 ?_
          refine j_nmR (fun p12 ep12 => ?_)
          replace h := h p12 ep12
          obtain ⟨t13, h⟩ := h
          refine j_getI hX eX0_refusalToHold_27 ff_LiftGroup_Building_103 rfl t13 (by decide) ?_
          refine j_if_le hX 37 eX0_refusalToHold_30 (by decide) (fun c14 => ?_) (fun c14 => ?_)
          · replace h := h.1 c14
            refine j_iconst (v := (3 : Int32)) hX eX0_refusalToHold_37 (by decide) ?_
            exact j_iret hX hM eX0_refusalToHold_38 rfl h
          · replace h := h.2 c14
            refine j_iconst (v := (0 : Int32)) hX eX0_refusalToHold_33 (by decide) ?_
            refine j_goto hX 38 eX0_refusalToHold_34 (by decide) ?_
            exact j_iret hX hM eX0_refusalToHold_38 rfl h
        · replace h := h.2 c5
          refine j_iconst (v := (2 : Int32)) hX eX0_refusalToHold_19 (by decide) ?_
          exact j_iret hX hM eX0_refusalToHold_20 rfl h
    · replace h := h.1 c3
      refine j_iconst (v := (1 : Int32)) hX eX0_refusalToHold_7 (by decide) ?_
      exact j_iret hX hM eX0_refusalToHold_8 rfl h
  · obtain ⟨v2, hxz9, h⟩ := qz9
    cases hxz9

set_option maxHeartbeats 4000000 in
set_option maxRecDepth 20000 in
theorem vX0_hold_0 {X : am_Cx} {G : am_Gx} {d : Nat} {Q : am_Q} (hX : am_ok X rX0_hold G (d + 1)) (hM : am_me X rX0_hold Q) {bc bs : Nat}  {a0 : Nat} {a1 : Int32} {a2 : Int32} {M : am_Hp} (h : hp_T M (a0) = 1 ∧ (hp_R M 0 a0 ≠ 0 ∧ (∀ p3 : Nat, p3 = hp_R M 0 a0 → (hp_T M (p3) = 26 ∧ (vp_in a1 (hp_N M p3) ∧ (hp_Q M p3 (a1).toNatClampNeg ≠ 0 ∧ (∀ p7 : Nat, p7 = hp_Q M p3 (a1).toNatClampNeg → (hp_T M (p7) = 2 ∧ (∀ v9 : Int32, v9 = (hp_I M 25 p7) → (hp_R M 0 a0 ≠ 0 ∧ (∀ p11 : Nat, p11 = hp_R M 0 a0 → (hp_T M (p11) = 26 ∧ (vp_in a1 (hp_N M p11) ∧ (hp_Q M p11 (a1).toNatClampNeg ≠ 0 ∧ (∀ p15 : Nat, p15 = hp_Q M p11 (a1).toNatClampNeg → (hp_T M (p15) = 2 ∧ (∀ M17 : am_Hp, M17 = hp_sI M 25 p15 a2 → (Q (.inl (some (.int v9))) M17)))))))))))))))))) : am_J X 0 [(0, .ref a0), (1, .int a1), (2, .int a2)] [] M bc bs := by
  refine j_aload_n hX eX0_hold_0 0 rfl ?_
  obtain ⟨t1, h⟩ := h
  obtain ⟨z2, h⟩ := h
  refine j_getR hX eX0_hold_1 ff_LiftGroup_Building_11 rfl t1 (by decide) z2 ?_
  refine j_nmR (fun p3 ep3 => ?_)
  replace h := h p3 ep3
  refine j_iload_n hX eX0_hold_4 1 rfl ?_
  obtain ⟨t4, h⟩ := h
  obtain ⟨i5, h⟩ := h
  obtain ⟨z6, h⟩ := h
  refine j_aald26 hX eX0_hold_5 t4 i5 z6 ?_
  refine j_nmR (fun p7 ep7 => ?_)
  replace h := h p7 ep7
  obtain ⟨t8, h⟩ := h
  refine j_getI hX eX0_hold_6 ff_LiftGroup_Building_103 rfl t8 (by decide) ?_
  refine j_nmI (fun v9 ev9 => ?_)
  replace h := h v9 ev9
  refine j_istore_n (lv' := [(3, .int v9), (0, .ref a0), (1, .int a1), (2, .int a2)]) hX eX0_hold_9 rfl (by decide) rfl ?_
  refine j_aload_n hX eX0_hold_10 1 rfl ?_
  obtain ⟨z10, h⟩ := h
  refine j_getR hX eX0_hold_11 ff_LiftGroup_Building_11 rfl t1 (by decide) z10 ?_
  refine j_nmR (fun p11 ep11 => ?_)
  replace h := h p11 ep11
  refine j_iload_n hX eX0_hold_14 2 rfl ?_
  obtain ⟨t12, h⟩ := h
  obtain ⟨i13, h⟩ := h
  obtain ⟨z14, h⟩ := h
  refine j_aald26 hX eX0_hold_15 t12 i13 z14 ?_
  refine j_nmR (fun p15 ep15 => ?_)
  replace h := h p15 ep15
  refine j_iload_n hX eX0_hold_16 3 rfl ?_
  obtain ⟨t16, h⟩ := h
  refine j_putI (ty := .int) hX eX0_hold_17 ff_LiftGroup_Building_103 rfl t16 (by decide) pp_1_5 rfl rfl ?_
  refine j_nmM (fun M17 eM17 => ?_)
  replace h := h M17 eM17
  have t18 : hp_T M17 (a0) = 1 := by rw [eM17]; exact t1
  have t19 : hp_T M17 (p3) = 26 := by rw [eM17]; exact t4
  have t20 : hp_T M17 (p7) = 2 := by rw [eM17]; exact t8
  have t21 : hp_T M17 (p11) = 26 := by rw [eM17]; exact t12
  have t22 : hp_T M17 (p15) = 2 := by rw [eM17]; exact t16
  refine j_iload_n hX eX0_hold_20 0 rfl ?_
  exact j_iret hX hM eX0_hold_21 rfl h

set_option maxHeartbeats 4000000 in
set_option maxRecDepth 20000 in
theorem vX0_refusalToStop_0 {X : am_Cx} {G : am_Gx} {d : Nat} {Q : am_Q} (hX : am_ok X rX0_refusalToStop G (d + 1)) (hM : am_me X rX0_refusalToStop Q) {bc bs : Nat}  {a0 : Nat} {a1 : Int32} {M : am_Hp} (h : am_CT G d rX6_isCar [.int a1] M 0 0 (fun oz9 M1 => ∃ v2 : Int32, oz9 = .inl (some (.int v2)) ∧ (((v2 = 0) → (Q (.inl (some (.int (1 : Int32)))) M1)) ∧ (¬ (v2 = 0) → (hp_T M1 (a0) = 1 ∧ (hp_R M1 0 a0 ≠ 0 ∧ (∀ p6 : Nat, p6 = hp_R M1 0 a0 → (hp_T M1 (p6) = 26 ∧ (vp_in a1 (hp_N M1 p6) ∧ (hp_Q M1 p6 (a1).toNatClampNeg ≠ 0 ∧ (∀ p10 : Nat, p10 = hp_Q M1 p6 (a1).toNatClampNeg → (hp_T M1 (p10) = 2 ∧ ((((hp_I M1 27 p10) = 0) → (Q (.inl (some (.int (3 : Int32)))) M1)) ∧ (¬ ((hp_I M1 27 p10) = 0) → (Q (.inl (some (.int (0 : Int32)))) M1))))))))))))))) : am_J X 0 [(0, .ref a0), (1, .int a1)] [] M bc bs := by
  refine j_iload_n hX eX0_refusalToStop_0 1 rfl ?_
  refine j_callSN (r' := rX6_isCar) (As := [.int a1]) (rest := []) (d1 := d) hX eX0_refusalToStop_1 mm_LiftGroup_Building_100 rfl h rfl (Nat.le_refl _) (Nat.zero_le _) (Nat.zero_le _) (Nat.le_of_ble_eq_true rfl) (fun vz9 Mz9 qz9 => ?_) (fun Ez9 Mz9 qz9 => ?_)
  · obtain ⟨M1, eMz9⟩ : ∃ M1, M1 = Mz9 := ⟨_, rfl⟩; subst eMz9
    obtain ⟨v2, hxz9, h⟩ := qz9
    cases hxz9
    refine j_if_ne hX 9 eX0_refusalToStop_4 (by decide) (fun c3 => ?_) (fun c3 => ?_)
    · replace h := h.2 c3
      refine j_aload_n hX eX0_refusalToStop_9 0 rfl ?_
      obtain ⟨t4, h⟩ := h
      obtain ⟨z5, h⟩ := h
      refine j_getR hX eX0_refusalToStop_10 ff_LiftGroup_Building_11 rfl t4 (by decide) z5 ?_
      refine j_nmR (fun p6 ep6 => ?_)
      replace h := h p6 ep6
      refine j_iload_n hX eX0_refusalToStop_13 1 rfl ?_
      obtain ⟨t7, h⟩ := h
      obtain ⟨i8, h⟩ := h
      obtain ⟨z9, h⟩ := h
      refine j_aald26 hX eX0_refusalToStop_14 t7 i8 z9 ?_
      refine j_nmR (fun p10 ep10 => ?_)
      replace h := h p10 ep10
      obtain ⟨t11, h⟩ := h
      refine j_getI hX eX0_refusalToStop_15 ff_LiftGroup_Building_106 rfl t11 (by decide) ?_
      refine j_if_eq hX 25 eX0_refusalToStop_18 (by decide) (fun c12 => ?_) (fun c12 => ?_)
      · replace h := h.1 c12
        refine j_iconst (v := (3 : Int32)) hX eX0_refusalToStop_25 (by decide) ?_
        exact j_iret hX hM eX0_refusalToStop_26 rfl h
      · replace h := h.2 c12
        refine j_iconst (v := (0 : Int32)) hX eX0_refusalToStop_21 (by decide) ?_
        refine j_goto hX 26 eX0_refusalToStop_22 (by decide) ?_
        exact j_iret hX hM eX0_refusalToStop_26 rfl h
    · replace h := h.1 c3
      refine j_iconst (v := (1 : Int32)) hX eX0_refusalToStop_7 (by decide) ?_
      exact j_iret hX hM eX0_refusalToStop_8 rfl h
  · obtain ⟨v2, hxz9, h⟩ := qz9
    cases hxz9

set_option maxHeartbeats 4000000 in
set_option maxRecDepth 20000 in
theorem vX0_takeOutOfService_0 {X : am_Cx} {G : am_Gx} {d : Nat} {Q : am_Q} (hX : am_ok X rX0_takeOutOfService G (d + 1)) (hM : am_me X rX0_takeOutOfService Q) {bc bs : Nat} (R4 : Nat → Int32 → Int32 → Int32 → am_Hp → Prop) (k4 : ∀ (x0 : Nat) (x1 : Int32) (x2 : Int32) (x3 : Int32) (M : am_Hp), R4 x0 x1 x2 x3 M → am_J X 4 [(0, .ref x0), (1, .int x1), (2, .int x2), (3, .int x3)] [] M bc bs) {a0 : Nat} {a1 : Int32} {M : am_Hp} (h : R4 a0 a1 (0 : Int32) (0 : Int32) M) : am_J X 0 [(0, .ref a0), (1, .int a1)] [] M bc bs := by
  refine j_iconst (v := (0 : Int32)) hX eX0_takeOutOfService_0 (by decide) ?_
  refine j_istore_n (lv' := [(2, .int (0 : Int32)), (0, .ref a0), (1, .int a1)]) hX eX0_takeOutOfService_1 rfl (by decide) rfl ?_
  refine j_iconst (v := (0 : Int32)) hX eX0_takeOutOfService_2 (by decide) ?_
  refine j_istore_n (lv' := [(3, .int (0 : Int32)), (2, .int (0 : Int32)), (0, .ref a0), (1, .int a1)]) hX eX0_takeOutOfService_3 rfl (by decide) rfl ?_
  exact j_sub [2, 3, 1, 0] rfl (k4 _ _ _ _ _ h)
set_option maxHeartbeats 4000000 in
set_option maxRecDepth 20000 in
theorem vX0_takeOutOfService_4 {X : am_Cx} {G : am_Gx} {d : Nat} {Q : am_Q} (hX : am_ok X rX0_takeOutOfService G (d + 1)) (hM : am_me X rX0_takeOutOfService Q) {bc bs : Nat} (R4 : Nat → Int32 → Int32 → Int32 → am_Hp → Prop) (k4 : ∀ (x0 : Nat) (x1 : Int32) (x2 : Int32) (x3 : Int32) (M : am_Hp), R4 x0 x1 x2 x3 M → am_J X 4 [(0, .ref x0), (1, .int x1), (2, .int x2), (3, .int x3)] [] M bc bs) {a0 : Nat} {a1 : Int32} {a2 : Int32} {a3 : Int32} {M : am_Hp} (h : hp_T M (a0) = 1 ∧ ((((hp_I M 3 a0) ≤ a3) → (hp_R M 0 a0 ≠ 0 ∧ (∀ p4 : Nat, p4 = hp_R M 0 a0 → (hp_T M (p4) = 26 ∧ (vp_in a1 (hp_N M p4) ∧ (hp_Q M p4 (a1).toNatClampNeg ≠ 0 ∧ (∀ p8 : Nat, p8 = hp_Q M p4 (a1).toNatClampNeg → (hp_T M (p8) = 2 ∧ (am_bo (0 : Int32) ∧ (∀ M11 : am_Hp, M11 = hp_sI M 27 p8 (0 : Int32) → (Q (.inl (some (.int a2))) M11))))))))))) ∧ (¬ ((hp_I M 3 a0) ≤ a3) → (hp_R M 1 a0 ≠ 0 ∧ (∀ p16 : Nat, p16 = hp_R M 1 a0 → (hp_T M (p16) = 27 ∧ (vp_in a3 (hp_N M p16) ∧ (hp_Q M p16 (a3).toNatClampNeg ≠ 0 ∧ (∀ p20 : Nat, p20 = hp_Q M p16 (a3).toNatClampNeg → (hp_T M (p20) = 4 ∧ ((((hp_I M 66 p20) = 0) → ((((hp_I M 65 p20) = a1) → (∀ M26 : am_Hp, M26 = hp_sI M 65 p20 (-1 : Int32) → (∀ v30 : Int32, v30 = a2 + (1 : Int32) → (∀ v31 : Int32, v31 = a3 + (1 : Int32) → (R4 a0 a1 v30 v31 M26))))) ∧ (¬ ((hp_I M 65 p20) = a1) → (∀ v25 : Int32, v25 = a3 + (1 : Int32) → (R4 a0 a1 a2 v25 M))))) ∧ (¬ ((hp_I M 66 p20) = 0) → (∀ v23 : Int32, v23 = a3 + (1 : Int32) → (R4 a0 a1 a2 v23 M)))))))))))))) : am_J X 4 [(0, .ref a0), (1, .int a1), (2, .int a2), (3, .int a3)] [] M bc bs := by
  refine j_iload_n hX eX0_takeOutOfService_4 3 rfl ?_
  refine j_aload_n hX eX0_takeOutOfService_5 0 rfl ?_
  obtain ⟨t1, h⟩ := h
  refine j_getI hX eX0_takeOutOfService_6 ff_LiftGroup_Building_30 rfl t1 (by decide) ?_
  refine j_icmp_ge hX 52 eX0_takeOutOfService_9 (by decide) (fun c2 => ?_) (fun c2 => ?_)
  · replace h := h.1 c2
    refine j_aload_n hX eX0_takeOutOfService_52 0 rfl ?_
    obtain ⟨z3, h⟩ := h
    refine j_getR hX eX0_takeOutOfService_53 ff_LiftGroup_Building_11 rfl t1 (by decide) z3 ?_
    refine j_nmR (fun p4 ep4 => ?_)
    replace h := h p4 ep4
    refine j_iload_n hX eX0_takeOutOfService_56 1 rfl ?_
    obtain ⟨t5, h⟩ := h
    obtain ⟨i6, h⟩ := h
    obtain ⟨z7, h⟩ := h
    refine j_aald26 hX eX0_takeOutOfService_57 t5 i6 z7 ?_
    refine j_nmR (fun p8 ep8 => ?_)
    replace h := h p8 ep8
    refine j_iconst (v := (0 : Int32)) hX eX0_takeOutOfService_58 (by decide) ?_
    obtain ⟨t9, h⟩ := h
    obtain ⟨b10, h⟩ := h
    refine j_putI (ty := .boolean) hX eX0_takeOutOfService_59 ff_LiftGroup_Building_106 rfl t9 (by decide) pp_1_7 (am_bo_n b10) (am_bo_f b10) ?_
    refine j_nmM (fun M11 eM11 => ?_)
    replace h := h M11 eM11
    have t12 : hp_T M11 (a0) = 1 := by rw [eM11]; exact t1
    have t13 : hp_T M11 (p4) = 26 := by rw [eM11]; exact t5
    have t14 : hp_T M11 (p8) = 2 := by rw [eM11]; exact t9
    refine j_iload_n hX eX0_takeOutOfService_62 2 rfl ?_
    exact j_iret hX hM eX0_takeOutOfService_63 rfl h
  · replace h := h.2 c2
    refine j_aload_n hX eX0_takeOutOfService_12 0 rfl ?_
    obtain ⟨z15, h⟩ := h
    refine j_getR hX eX0_takeOutOfService_13 ff_LiftGroup_Building_19 rfl t1 (by decide) z15 ?_
    refine j_nmR (fun p16 ep16 => ?_)
    replace h := h p16 ep16
    refine j_iload_n hX eX0_takeOutOfService_16 3 rfl ?_
    obtain ⟨t17, h⟩ := h
    obtain ⟨i18, h⟩ := h
    obtain ⟨z19, h⟩ := h
    refine j_aald27 hX eX0_takeOutOfService_17 t17 i18 z19 ?_
    refine j_nmR (fun p20 ep20 => ?_)
    replace h := h p20 ep20
    refine j_astore (lv' := [(4, .ref p20), (0, .ref a0), (1, .int a1), (2, .int a2), (3, .int a3)]) hX eX0_takeOutOfService_18 (by decide) rfl ?_
    refine j_aload hX eX0_takeOutOfService_20 0 rfl ?_
    obtain ⟨t21, h⟩ := h
    refine j_getI hX eX0_takeOutOfService_22 ff_LiftGroup_Building_86 rfl t21 (by decide) ?_
    refine j_if_ne hX 46 eX0_takeOutOfService_25 (by decide) (fun c22 => ?_) (fun c22 => ?_)
    · replace h := h.2 c22
      obtain ⟨v23, ev23⟩ : ∃ v23 : Int32, v23 = a3 + (1 : Int32) := ⟨_, rfl⟩
      replace h := h v23 ev23
      refine j_iinc (v := v23) (lv' := [(3, .int v23), (4, .ref p20), (0, .ref a0), (1, .int a1), (2, .int a2)]) hX eX0_takeOutOfService_46 4 rfl (by rw [ev23]; rfl) (by decide) rfl ?_
      refine j_goto hX 4 eX0_takeOutOfService_49 (by decide) ?_
      exact j_sub [2, 3, 4, 0] rfl (k4 _ _ _ _ _ h)
    · replace h := h.1 c22
      refine j_aload hX eX0_takeOutOfService_28 0 rfl ?_
      refine j_getI hX eX0_takeOutOfService_30 ff_LiftGroup_Building_94 rfl t21 (by decide) ?_
      refine j_iload_n hX eX0_takeOutOfService_33 2 rfl ?_
      refine j_icmp_ne hX 46 eX0_takeOutOfService_34 (by decide) (fun c24 => ?_) (fun c24 => ?_)
      · replace h := h.2 c24
        obtain ⟨v25, ev25⟩ : ∃ v25 : Int32, v25 = a3 + (1 : Int32) := ⟨_, rfl⟩
        replace h := h v25 ev25
        refine j_iinc (v := v25) (lv' := [(3, .int v25), (4, .ref p20), (0, .ref a0), (1, .int a1), (2, .int a2)]) hX eX0_takeOutOfService_46 4 rfl (by rw [ev25]; rfl) (by decide) rfl ?_
        refine j_goto hX 4 eX0_takeOutOfService_49 (by decide) ?_
        exact j_sub [2, 3, 4, 0] rfl (k4 _ _ _ _ _ h)
      · replace h := h.1 c24
        refine j_aload hX eX0_takeOutOfService_37 0 rfl ?_
        refine j_iconst (v := (-1 : Int32)) hX eX0_takeOutOfService_39 (by decide) ?_
        refine j_putI (ty := .int) hX eX0_takeOutOfService_40 ff_LiftGroup_Building_94 rfl t21 (by decide) pp_3_5 rfl rfl ?_
        refine j_nmM (fun M26 eM26 => ?_)
        replace h := h M26 eM26
        have t27 : hp_T M26 (a0) = 1 := by rw [eM26]; exact t1
        have t28 : hp_T M26 (p16) = 27 := by rw [eM26]; exact t17
        have t29 : hp_T M26 (p20) = 4 := by rw [eM26]; exact t21
        obtain ⟨v30, ev30⟩ : ∃ v30 : Int32, v30 = a2 + (1 : Int32) := ⟨_, rfl⟩
        replace h := h v30 ev30
        refine j_iinc (v := v30) (lv' := [(2, .int v30), (4, .ref p20), (0, .ref a0), (1, .int a1), (3, .int a3)]) hX eX0_takeOutOfService_43 3 rfl (by rw [ev30]; rfl) (by decide) rfl ?_
        obtain ⟨v31, ev31⟩ : ∃ v31 : Int32, v31 = a3 + (1 : Int32) := ⟨_, rfl⟩
        replace h := h v31 ev31
        refine j_iinc (v := v31) (lv' := [(3, .int v31), (2, .int v30), (4, .ref p20), (0, .ref a0), (1, .int a1)]) hX eX0_takeOutOfService_46 4 rfl (by rw [ev31]; rfl) (by decide) rfl ?_
        refine j_goto hX 4 eX0_takeOutOfService_49 (by decide) ?_
        exact j_sub [3, 4, 1, 0] rfl (k4 _ _ _ _ _ h)

set_option maxHeartbeats 4000000 in
set_option maxRecDepth 20000 in
theorem vX0_refusalToStart_0 {X : am_Cx} {G : am_Gx} {d : Nat} {Q : am_Q} (hX : am_ok X rX0_refusalToStart G (d + 1)) (hM : am_me X rX0_refusalToStart Q) {bc bs : Nat}  {a0 : Nat} {a1 : Int32} {M : am_Hp} (h : am_CT G d rX6_isCar [.int a1] M 0 0 (fun oz9 M1 => ∃ v2 : Int32, oz9 = .inl (some (.int v2)) ∧ (((v2 = 0) → (Q (.inl (some (.int (1 : Int32)))) M1)) ∧ (¬ (v2 = 0) → (hp_T M1 (a0) = 1 ∧ (hp_R M1 0 a0 ≠ 0 ∧ (∀ p6 : Nat, p6 = hp_R M1 0 a0 → (hp_T M1 (p6) = 26 ∧ (vp_in a1 (hp_N M1 p6) ∧ (hp_Q M1 p6 (a1).toNatClampNeg ≠ 0 ∧ (∀ p10 : Nat, p10 = hp_Q M1 p6 (a1).toNatClampNeg → (hp_T M1 (p10) = 2 ∧ ((((hp_I M1 27 p10) = 0) → (Q (.inl (some (.int (0 : Int32)))) M1)) ∧ (¬ ((hp_I M1 27 p10) = 0) → (Q (.inl (some (.int (3 : Int32)))) M1))))))))))))))) : am_J X 0 [(0, .ref a0), (1, .int a1)] [] M bc bs := by
  refine j_iload_n hX eX0_refusalToStart_0 1 rfl ?_
  refine j_callSN (r' := rX6_isCar) (As := [.int a1]) (rest := []) (d1 := d) hX eX0_refusalToStart_1 mm_LiftGroup_Building_100 rfl h rfl (Nat.le_refl _) (Nat.zero_le _) (Nat.zero_le _) (Nat.le_of_ble_eq_true rfl) (fun vz9 Mz9 qz9 => ?_) (fun Ez9 Mz9 qz9 => ?_)
  · obtain ⟨M1, eMz9⟩ : ∃ M1, M1 = Mz9 := ⟨_, rfl⟩; subst eMz9
    obtain ⟨v2, hxz9, h⟩ := qz9
    cases hxz9
    refine j_if_ne hX 9 eX0_refusalToStart_4 (by decide) (fun c3 => ?_) (fun c3 => ?_)
    · replace h := h.2 c3
      refine j_aload_n hX eX0_refusalToStart_9 0 rfl ?_
      obtain ⟨t4, h⟩ := h
      obtain ⟨z5, h⟩ := h
      refine j_getR hX eX0_refusalToStart_10 ff_LiftGroup_Building_11 rfl t4 (by decide) z5 ?_
      refine j_nmR (fun p6 ep6 => ?_)
      replace h := h p6 ep6
      refine j_iload_n hX eX0_refusalToStart_13 1 rfl ?_
      obtain ⟨t7, h⟩ := h
      obtain ⟨i8, h⟩ := h
      obtain ⟨z9, h⟩ := h
      refine j_aald26 hX eX0_refusalToStart_14 t7 i8 z9 ?_
      refine j_nmR (fun p10 ep10 => ?_)
      replace h := h p10 ep10
      obtain ⟨t11, h⟩ := h
      refine j_getI hX eX0_refusalToStart_15 ff_LiftGroup_Building_106 rfl t11 (by decide) ?_
      refine j_if_eq hX 25 eX0_refusalToStart_18 (by decide) (fun c12 => ?_) (fun c12 => ?_)
      · replace h := h.1 c12
        refine j_iconst (v := (0 : Int32)) hX eX0_refusalToStart_25 (by decide) ?_
        exact j_iret hX hM eX0_refusalToStart_26 rfl h
      · replace h := h.2 c12
        refine j_iconst (v := (3 : Int32)) hX eX0_refusalToStart_21 (by decide) ?_
        refine j_goto hX 26 eX0_refusalToStart_22 (by decide) ?_
        exact j_iret hX hM eX0_refusalToStart_26 rfl h
    · replace h := h.1 c3
      refine j_iconst (v := (1 : Int32)) hX eX0_refusalToStart_7 (by decide) ?_
      exact j_iret hX hM eX0_refusalToStart_8 rfl h
  · obtain ⟨v2, hxz9, h⟩ := qz9
    cases hxz9

set_option maxHeartbeats 4000000 in
set_option maxRecDepth 20000 in
theorem vX0_putInService_0 {X : am_Cx} {G : am_Gx} {d : Nat} {Q : am_Q} (hX : am_ok X rX0_putInService G (d + 1)) (hM : am_me X rX0_putInService Q) {bc bs : Nat} (R14 : Nat → Int32 → Int32 → am_Hp → Prop) (k14 : ∀ (x0 : Nat) (x2 : Int32) (x3 : Int32) (M : am_Hp), R14 x0 x2 x3 M → am_J X 14 [(0, .ref x0), (2, .int x2), (3, .int x3)] [] M bc bs) {a0 : Nat} {a1 : Int32} {M : am_Hp} (h : hp_T M (a0) = 1 ∧ (hp_R M 0 a0 ≠ 0 ∧ (∀ p3 : Nat, p3 = hp_R M 0 a0 → (hp_T M (p3) = 26 ∧ (vp_in a1 (hp_N M p3) ∧ (hp_Q M p3 (a1).toNatClampNeg ≠ 0 ∧ (∀ p7 : Nat, p7 = hp_Q M p3 (a1).toNatClampNeg → (hp_T M (p7) = 2 ∧ (am_bo (1 : Int32) ∧ (∀ M10 : am_Hp, M10 = hp_sI M 27 p7 (1 : Int32) → (R14 a0 (0 : Int32) (0 : Int32) M10))))))))))) : am_J X 0 [(0, .ref a0), (1, .int a1)] [] M bc bs := by
  refine j_aload_n hX eX0_putInService_0 0 rfl ?_
  obtain ⟨t1, h⟩ := h
  obtain ⟨z2, h⟩ := h
  refine j_getR hX eX0_putInService_1 ff_LiftGroup_Building_11 rfl t1 (by decide) z2 ?_
  refine j_nmR (fun p3 ep3 => ?_)
  replace h := h p3 ep3
  refine j_iload_n hX eX0_putInService_4 1 rfl ?_
  obtain ⟨t4, h⟩ := h
  obtain ⟨i5, h⟩ := h
  obtain ⟨z6, h⟩ := h
  refine j_aald26 hX eX0_putInService_5 t4 i5 z6 ?_
  refine j_nmR (fun p7 ep7 => ?_)
  replace h := h p7 ep7
  refine j_iconst (v := (1 : Int32)) hX eX0_putInService_6 (by decide) ?_
  obtain ⟨t8, h⟩ := h
  obtain ⟨b9, h⟩ := h
  refine j_putI (ty := .boolean) hX eX0_putInService_7 ff_LiftGroup_Building_106 rfl t8 (by decide) pp_1_7 (am_bo_n b9) (am_bo_f b9) ?_
  refine j_nmM (fun M10 eM10 => ?_)
  replace h := h M10 eM10
  have t11 : hp_T M10 (a0) = 1 := by rw [eM10]; exact t1
  have t12 : hp_T M10 (p3) = 26 := by rw [eM10]; exact t4
  have t13 : hp_T M10 (p7) = 2 := by rw [eM10]; exact t8
  refine j_iconst (v := (0 : Int32)) hX eX0_putInService_10 (by decide) ?_
  refine j_istore_n (lv' := [(2, .int (0 : Int32)), (0, .ref a0), (1, .int a1)]) hX eX0_putInService_11 rfl (by decide) rfl ?_
  refine j_iconst (v := (0 : Int32)) hX eX0_putInService_12 (by decide) ?_
  refine j_istore_n (lv' := [(3, .int (0 : Int32)), (2, .int (0 : Int32)), (0, .ref a0), (1, .int a1)]) hX eX0_putInService_13 rfl (by decide) rfl ?_
  exact j_sub [2, 1, 0] rfl (k14 _ _ _ _ h)
set_option maxHeartbeats 4000000 in
set_option maxRecDepth 20000 in
theorem vX0_putInService_14 {X : am_Cx} {G : am_Gx} {d : Nat} {Q : am_Q} (hX : am_ok X rX0_putInService G (d + 1)) (hM : am_me X rX0_putInService Q) {bc bs : Nat} (R14 : Nat → Int32 → Int32 → am_Hp → Prop) (k14 : ∀ (x0 : Nat) (x2 : Int32) (x3 : Int32) (M : am_Hp), R14 x0 x2 x3 M → am_J X 14 [(0, .ref x0), (2, .int x2), (3, .int x3)] [] M bc bs) {a0 : Nat} {a2 : Int32} {a3 : Int32} {M : am_Hp} (h : (((3 : Int32) ≤ a3) → (Q (.inl (some (.int a2))) M)) ∧ (¬ ((3 : Int32) ≤ a3) → (hp_T M (a0) = 1 ∧ (hp_R M 0 a0 ≠ 0 ∧ (∀ p4 : Nat, p4 = hp_R M 0 a0 → (hp_T M (p4) = 26 ∧ (vp_in a3 (hp_N M p4) ∧ (hp_Q M p4 (a3).toNatClampNeg ≠ 0 ∧ (∀ p8 : Nat, p8 = hp_Q M p4 (a3).toNatClampNeg → (hp_T M (p8) = 2 ∧ ((((hp_I M 27 p8) = 0) → (∀ v11 : Int32, v11 = a3 + (1 : Int32) → (R14 a0 a2 v11 M))) ∧ (¬ ((hp_I M 27 p8) = 0) → (∀ v12 : Int32, v12 = a2 + (1 : Int32) → (∀ v13 : Int32, v13 = a3 + (1 : Int32) → (R14 a0 v12 v13 M))))))))))))))) : am_J X 14 [(0, .ref a0), (2, .int a2), (3, .int a3)] [] M bc bs := by
  refine j_iload_n hX eX0_putInService_14 2 rfl ?_
  refine j_iconst (v := (3 : Int32)) hX eX0_putInService_15 (by decide) ?_
  refine j_icmp_ge hX 40 eX0_putInService_16 (by decide) (fun c1 => ?_) (fun c1 => ?_)
  · replace h := h.1 c1
    refine j_iload_n hX eX0_putInService_40 1 rfl ?_
    exact j_iret hX hM eX0_putInService_41 rfl h
  · replace h := h.2 c1
    refine j_aload_n hX eX0_putInService_19 0 rfl ?_
    obtain ⟨t2, h⟩ := h
    obtain ⟨z3, h⟩ := h
    refine j_getR hX eX0_putInService_20 ff_LiftGroup_Building_11 rfl t2 (by decide) z3 ?_
    refine j_nmR (fun p4 ep4 => ?_)
    replace h := h p4 ep4
    refine j_iload_n hX eX0_putInService_23 2 rfl ?_
    obtain ⟨t5, h⟩ := h
    obtain ⟨i6, h⟩ := h
    obtain ⟨z7, h⟩ := h
    refine j_aald26 hX eX0_putInService_24 t5 i6 z7 ?_
    refine j_nmR (fun p8 ep8 => ?_)
    replace h := h p8 ep8
    obtain ⟨t9, h⟩ := h
    refine j_getI hX eX0_putInService_25 ff_LiftGroup_Building_106 rfl t9 (by decide) ?_
    refine j_if_eq hX 34 eX0_putInService_28 (by decide) (fun c10 => ?_) (fun c10 => ?_)
    · replace h := h.1 c10
      obtain ⟨v11, ev11⟩ : ∃ v11 : Int32, v11 = a3 + (1 : Int32) := ⟨_, rfl⟩
      replace h := h v11 ev11
      refine j_iinc (v := v11) (lv' := [(3, .int v11), (0, .ref a0), (2, .int a2)]) hX eX0_putInService_34 2 rfl (by rw [ev11]; rfl) (by decide) rfl ?_
      refine j_goto hX 14 eX0_putInService_37 (by decide) ?_
      exact j_sub [1, 2, 0] rfl (k14 _ _ _ _ h)
    · replace h := h.2 c10
      obtain ⟨v12, ev12⟩ : ∃ v12 : Int32, v12 = a2 + (1 : Int32) := ⟨_, rfl⟩
      replace h := h v12 ev12
      refine j_iinc (v := v12) (lv' := [(2, .int v12), (0, .ref a0), (3, .int a3)]) hX eX0_putInService_31 1 rfl (by rw [ev12]; rfl) (by decide) rfl ?_
      obtain ⟨v13, ev13⟩ : ∃ v13 : Int32, v13 = a3 + (1 : Int32) := ⟨_, rfl⟩
      replace h := h v13 ev13
      refine j_iinc (v := v13) (lv' := [(3, .int v13), (2, .int v12), (0, .ref a0)]) hX eX0_putInService_34 2 rfl (by rw [ev13]; rfl) (by decide) rfl ?_
      refine j_goto hX 14 eX0_putInService_37 (by decide) ?_
      exact j_sub [2, 1, 0] rfl (k14 _ _ _ _ h)

set_option maxHeartbeats 4000000 in
set_option maxRecDepth 20000 in
theorem vX0_refusalToLimit_0 {X : am_Cx} {G : am_Gx} {d : Nat} {Q : am_Q} (hX : am_ok X rX0_refusalToLimit G (d + 1)) (hM : am_me X rX0_refusalToLimit Q) {bc bs : Nat}  {a0 : Nat} {a1 : Int32} {a2 : Int32} {M : am_Hp} (h : am_CT G d rX6_isCar [.int a1] M 0 0 (fun oz9 M1 => ∃ v2 : Int32, oz9 = .inl (some (.int v2)) ∧ (((v2 = 0) → (Q (.inl (some (.int (1 : Int32)))) M1)) ∧ (¬ (v2 = 0) → (((a2 < (100 : Int32)) → (Q (.inl (some (.int (2 : Int32)))) M1)) ∧ (¬ (a2 < (100 : Int32)) → (((a2 ≤ (900 : Int32)) → (hp_T M1 (a0) = 1 ∧ (hp_R M1 0 a0 ≠ 0 ∧ (∀ p8 : Nat, p8 = hp_R M1 0 a0 → (hp_T M1 (p8) = 26 ∧ (vp_in a1 (hp_N M1 p8) ∧ (hp_Q M1 p8 (a1).toNatClampNeg ≠ 0 ∧ (∀ p12 : Nat, p12 = hp_Q M1 p8 (a1).toNatClampNeg → (hp_T M1 (p12) = 2 ∧ ((((hp_I M1 23 p12) ≤ a2) → (Q (.inl (some (.int (0 : Int32)))) M1)) ∧ (¬ ((hp_I M1 23 p12) ≤ a2) → (Q (.inl (some (.int (4 : Int32)))) M1)))))))))))) ∧ (¬ (a2 ≤ (900 : Int32)) → (Q (.inl (some (.int (2 : Int32)))) M1))))))))) : am_J X 0 [(0, .ref a0), (1, .int a1), (2, .int a2)] [] M bc bs := by
  refine j_iload_n hX eX0_refusalToLimit_0 1 rfl ?_
  refine j_callSN (r' := rX6_isCar) (As := [.int a1]) (rest := []) (d1 := d) hX eX0_refusalToLimit_1 mm_LiftGroup_Building_100 rfl h rfl (Nat.le_refl _) (Nat.zero_le _) (Nat.zero_le _) (Nat.le_of_ble_eq_true rfl) (fun vz9 Mz9 qz9 => ?_) (fun Ez9 Mz9 qz9 => ?_)
  · obtain ⟨M1, eMz9⟩ : ∃ M1, M1 = Mz9 := ⟨_, rfl⟩; subst eMz9
    obtain ⟨v2, hxz9, h⟩ := qz9
    cases hxz9
    refine j_if_ne hX 9 eX0_refusalToLimit_4 (by decide) (fun c3 => ?_) (fun c3 => ?_)
    · replace h := h.2 c3
      refine j_iload_n hX eX0_refusalToLimit_9 2 rfl ?_
      refine j_bipush (v := (100 : Int32)) hX eX0_refusalToLimit_10 (by decide) ?_
      refine j_icmp_lt hX 22 eX0_refusalToLimit_12 (by decide) (fun c4 => ?_) (fun c4 => ?_)
      · replace h := h.1 c4
        refine j_iconst (v := (2 : Int32)) hX eX0_refusalToLimit_22 (by decide) ?_
        exact j_iret hX hM eX0_refusalToLimit_23 rfl h
      · replace h := h.2 c4
        refine j_iload_n hX eX0_refusalToLimit_15 2 rfl ?_
        refine j_sipush (v := (900 : Int32)) hX eX0_refusalToLimit_16 (by decide) ?_
        refine j_icmp_le hX 24 eX0_refusalToLimit_19 (by decide) (fun c5 => ?_) (fun c5 => ?_)
        · replace h := h.1 c5
          refine j_aload_n hX eX0_refusalToLimit_24 0 rfl ?_
          obtain ⟨t6, h⟩ := h
          obtain ⟨z7, h⟩ := h
          refine j_getR hX eX0_refusalToLimit_25 ff_LiftGroup_Building_11 rfl t6 (by decide) z7 ?_
          refine j_nmR (fun p8 ep8 => ?_)
          replace h := h p8 ep8
          refine j_iload_n hX eX0_refusalToLimit_28 1 rfl ?_
          obtain ⟨t9, h⟩ := h
          obtain ⟨i10, h⟩ := h
          obtain ⟨z11, h⟩ := h
          refine j_aald26 hX eX0_refusalToLimit_29 t9 i10 z11 ?_
          refine j_nmR (fun p12 ep12 => ?_)
          replace h := h p12 ep12
          obtain ⟨t13, h⟩ := h
          refine j_getI hX eX0_refusalToLimit_30 ff_LiftGroup_Building_109 rfl t13 (by decide) ?_
          refine j_iload_n hX eX0_refusalToLimit_33 2 rfl ?_
          refine j_icmp_le hX 41 eX0_refusalToLimit_34 (by decide) (fun c14 => ?_) (fun c14 => ?_)
          · replace h := h.1 c14
            refine j_iconst (v := (0 : Int32)) hX eX0_refusalToLimit_41 (by decide) ?_
            exact j_iret hX hM eX0_refusalToLimit_42 rfl h
          · replace h := h.2 c14
            refine j_iconst (v := (4 : Int32)) hX eX0_refusalToLimit_37 (by decide) ?_
            refine j_goto hX 42 eX0_refusalToLimit_38 (by decide) ?_
            exact j_iret hX hM eX0_refusalToLimit_42 rfl h
        · replace h := h.2 c5
          refine j_iconst (v := (2 : Int32)) hX eX0_refusalToLimit_22 (by decide) ?_
          exact j_iret hX hM eX0_refusalToLimit_23 rfl h
    · replace h := h.1 c3
      refine j_iconst (v := (1 : Int32)) hX eX0_refusalToLimit_7 (by decide) ?_
      exact j_iret hX hM eX0_refusalToLimit_8 rfl h
  · obtain ⟨v2, hxz9, h⟩ := qz9
    cases hxz9

set_option maxHeartbeats 4000000 in
set_option maxRecDepth 20000 in
theorem vX0_limit_0 {X : am_Cx} {G : am_Gx} {d : Nat} {Q : am_Q} (hX : am_ok X rX0_limit G (d + 1)) (hM : am_me X rX0_limit Q) {bc bs : Nat}  {a0 : Nat} {a1 : Int32} {a2 : Int32} {M : am_Hp} (h : hp_T M (a0) = 1 ∧ (hp_R M 0 a0 ≠ 0 ∧ (∀ p3 : Nat, p3 = hp_R M 0 a0 → (hp_T M (p3) = 26 ∧ (vp_in a1 (hp_N M p3) ∧ (hp_Q M p3 (a1).toNatClampNeg ≠ 0 ∧ (∀ p7 : Nat, p7 = hp_Q M p3 (a1).toNatClampNeg → (hp_T M (p7) = 2 ∧ (∀ v9 : Int32, v9 = (hp_I M 22 p7) → (hp_R M 0 a0 ≠ 0 ∧ (∀ p11 : Nat, p11 = hp_R M 0 a0 → (hp_T M (p11) = 26 ∧ (vp_in a1 (hp_N M p11) ∧ (hp_Q M p11 (a1).toNatClampNeg ≠ 0 ∧ (∀ p15 : Nat, p15 = hp_Q M p11 (a1).toNatClampNeg → (hp_T M (p15) = 2 ∧ (∀ M17 : am_Hp, M17 = hp_sI M 22 p15 a2 → (Q (.inl (some (.int v9))) M17)))))))))))))))))) : am_J X 0 [(0, .ref a0), (1, .int a1), (2, .int a2)] [] M bc bs := by
  refine j_aload_n hX eX0_limit_0 0 rfl ?_
  obtain ⟨t1, h⟩ := h
  obtain ⟨z2, h⟩ := h
  refine j_getR hX eX0_limit_1 ff_LiftGroup_Building_11 rfl t1 (by decide) z2 ?_
  refine j_nmR (fun p3 ep3 => ?_)
  replace h := h p3 ep3
  refine j_iload_n hX eX0_limit_4 1 rfl ?_
  obtain ⟨t4, h⟩ := h
  obtain ⟨i5, h⟩ := h
  obtain ⟨z6, h⟩ := h
  refine j_aald26 hX eX0_limit_5 t4 i5 z6 ?_
  refine j_nmR (fun p7 ep7 => ?_)
  replace h := h p7 ep7
  obtain ⟨t8, h⟩ := h
  refine j_getI hX eX0_limit_6 ff_LiftGroup_Building_112 rfl t8 (by decide) ?_
  refine j_nmI (fun v9 ev9 => ?_)
  replace h := h v9 ev9
  refine j_istore_n (lv' := [(3, .int v9), (0, .ref a0), (1, .int a1), (2, .int a2)]) hX eX0_limit_9 rfl (by decide) rfl ?_
  refine j_aload_n hX eX0_limit_10 1 rfl ?_
  obtain ⟨z10, h⟩ := h
  refine j_getR hX eX0_limit_11 ff_LiftGroup_Building_11 rfl t1 (by decide) z10 ?_
  refine j_nmR (fun p11 ep11 => ?_)
  replace h := h p11 ep11
  refine j_iload_n hX eX0_limit_14 2 rfl ?_
  obtain ⟨t12, h⟩ := h
  obtain ⟨i13, h⟩ := h
  obtain ⟨z14, h⟩ := h
  refine j_aald26 hX eX0_limit_15 t12 i13 z14 ?_
  refine j_nmR (fun p15 ep15 => ?_)
  replace h := h p15 ep15
  refine j_iload_n hX eX0_limit_16 3 rfl ?_
  obtain ⟨t16, h⟩ := h
  refine j_putI (ty := .int) hX eX0_limit_17 ff_LiftGroup_Building_112 rfl t16 (by decide) pp_1_2 rfl rfl ?_
  refine j_nmM (fun M17 eM17 => ?_)
  replace h := h M17 eM17
  have t18 : hp_T M17 (a0) = 1 := by rw [eM17]; exact t1
  have t19 : hp_T M17 (p3) = 26 := by rw [eM17]; exact t4
  have t20 : hp_T M17 (p7) = 2 := by rw [eM17]; exact t8
  have t21 : hp_T M17 (p11) = 26 := by rw [eM17]; exact t12
  have t22 : hp_T M17 (p15) = 2 := by rw [eM17]; exact t16
  refine j_iload_n hX eX0_limit_20 0 rfl ?_
  exact j_iret hX hM eX0_limit_21 rfl h

set_option maxHeartbeats 4000000 in
set_option maxRecDepth 20000 in
theorem vX0_refusalToPass_0 {X : am_Cx} {G : am_Gx} {d : Nat} {Q : am_Q} (hX : am_ok X rX0_refusalToPass G (d + 1)) (hM : am_me X rX0_refusalToPass Q) {bc bs : Nat}  {a0 : Nat} {a1 : Int32} {M : am_Hp} (h : ((a1 < (1 : Int32)) → (Q (.inl (some (.int (2 : Int32)))) M)) ∧ (¬ (a1 < (1 : Int32)) → ((((30 : Int32) < a1) → (Q (.inl (some (.int (2 : Int32)))) M)) ∧ (¬ ((30 : Int32) < a1) → (Q (.inl (some (.int (0 : Int32)))) M))))) : am_J X 0 [(0, .ref a0), (1, .int a1)] [] M bc bs := by
  refine j_iload_n hX eX0_refusalToPass_0 1 rfl ?_
  refine j_iconst (v := (1 : Int32)) hX eX0_refusalToPass_1 (by decide) ?_
  refine j_icmp_lt hX 15 eX0_refusalToPass_2 (by decide) (fun c1 => ?_) (fun c1 => ?_)
  · replace h := h.1 c1
    refine j_iconst (v := (2 : Int32)) hX eX0_refusalToPass_15 (by decide) ?_
    exact j_iret hX hM eX0_refusalToPass_16 rfl h
  · replace h := h.2 c1
    refine j_iload_n hX eX0_refusalToPass_5 1 rfl ?_
    refine j_bipush (v := (30 : Int32)) hX eX0_refusalToPass_6 (by decide) ?_
    refine j_icmp_gt hX 15 eX0_refusalToPass_8 (by decide) (fun c2 => ?_) (fun c2 => ?_)
    · replace h := h.1 c2
      refine j_iconst (v := (2 : Int32)) hX eX0_refusalToPass_15 (by decide) ?_
      exact j_iret hX hM eX0_refusalToPass_16 rfl h
    · replace h := h.2 c2
      refine j_iconst (v := (0 : Int32)) hX eX0_refusalToPass_11 (by decide) ?_
      refine j_goto hX 16 eX0_refusalToPass_12 (by decide) ?_
      exact j_iret hX hM eX0_refusalToPass_16 rfl h

set_option maxHeartbeats 4000000 in
set_option maxRecDepth 20000 in
theorem vX0_letPass_0 {X : am_Cx} {G : am_Gx} {d : Nat} {Q : am_Q} (hX : am_ok X rX0_letPass G (d + 1)) (hM : am_me X rX0_letPass Q) {bc bs : Nat} (R10 : Nat → Int32 → Int32 → Int32 → am_Hp → Prop) (k10 : ∀ (x0 : Nat) (x1 : Int32) (x2 : Int32) (x3 : Int32) (M : am_Hp), R10 x0 x1 x2 x3 M → am_J X 10 [(0, .ref x0), (1, .int x1), (2, .int x2), (3, .int x3)] [] M bc bs) {a0 : Nat} {a1 : Int32} {M : am_Hp} (h : hp_T M (a0) = 1 ∧ (hp_R M 2 a0 ≠ 0 ∧ (∀ p3 : Nat, p3 = hp_R M 2 a0 → (hp_T M (p3) = 6 ∧ (∀ v5 : Int32, v5 = (hp_I M 103 p3) → (R10 a0 a1 v5 (0 : Int32) M)))))) : am_J X 0 [(0, .ref a0), (1, .int a1)] [] M bc bs := by
  refine j_aload_n hX eX0_letPass_0 0 rfl ?_
  obtain ⟨t1, h⟩ := h
  obtain ⟨z2, h⟩ := h
  refine j_getR hX eX0_letPass_1 ff_LiftGroup_Building_26 rfl t1 (by decide) z2 ?_
  refine j_nmR (fun p3 ep3 => ?_)
  replace h := h p3 ep3
  obtain ⟨t4, h⟩ := h
  refine j_getI hX eX0_letPass_4 ff_LiftGroup_Building_115 rfl t4 (by decide) ?_
  refine j_nmI (fun v5 ev5 => ?_)
  replace h := h v5 ev5
  refine j_istore_n (lv' := [(2, .int v5), (0, .ref a0), (1, .int a1)]) hX eX0_letPass_7 rfl (by decide) rfl ?_
  refine j_iconst (v := (0 : Int32)) hX eX0_letPass_8 (by decide) ?_
  refine j_istore_n (lv' := [(3, .int (0 : Int32)), (2, .int v5), (0, .ref a0), (1, .int a1)]) hX eX0_letPass_9 rfl (by decide) rfl ?_
  exact j_sub [2, 3, 1, 0] rfl (k10 _ _ _ _ _ h)
set_option maxHeartbeats 4000000 in
set_option maxRecDepth 20000 in
theorem vX0_letPass_10 {X : am_Cx} {G : am_Gx} {d : Nat} {Q : am_Q} (hX : am_ok X rX0_letPass G (d + 1)) (hM : am_me X rX0_letPass Q) {bc bs : Nat} (R10 : Nat → Int32 → Int32 → Int32 → am_Hp → Prop) (k10 : ∀ (x0 : Nat) (x1 : Int32) (x2 : Int32) (x3 : Int32) (M : am_Hp), R10 x0 x1 x2 x3 M → am_J X 10 [(0, .ref x0), (1, .int x1), (2, .int x2), (3, .int x3)] [] M bc bs) {a0 : Nat} {a1 : Int32} {a2 : Int32} {a3 : Int32} {M : am_Hp} (h : ((a1 ≤ a3) → (hp_T M (a0) = 1 ∧ (hp_R M 2 a0 ≠ 0 ∧ (∀ p4 : Nat, p4 = hp_R M 2 a0 → (hp_T M (p4) = 6 ∧ (Q (.inl (some (.int ((hp_I M 103 p4) - a2)))) M)))))) ∧ (¬ (a1 ≤ a3) → (hp_T M (a0) = 1 ∧ (am_CT G d rX0_step [.ref a0] M 0 0 (fun oz9 M6 => oz9 = .inl none ∧ (∀ v9 : Int32, v9 = a3 + (1 : Int32) → (R10 a0 a1 a2 v9 M6))))))) : am_J X 10 [(0, .ref a0), (1, .int a1), (2, .int a2), (3, .int a3)] [] M bc bs := by
  refine j_iload_n hX eX0_letPass_10 3 rfl ?_
  refine j_iload_n hX eX0_letPass_11 1 rfl ?_
  refine j_icmp_ge hX 25 eX0_letPass_12 (by decide) (fun c1 => ?_) (fun c1 => ?_)
  · replace h := h.1 c1
    refine j_aload_n hX eX0_letPass_25 0 rfl ?_
    obtain ⟨t2, h⟩ := h
    obtain ⟨z3, h⟩ := h
    refine j_getR hX eX0_letPass_26 ff_LiftGroup_Building_26 rfl t2 (by decide) z3 ?_
    refine j_nmR (fun p4 ep4 => ?_)
    replace h := h p4 ep4
    obtain ⟨t5, h⟩ := h
    refine j_getI hX eX0_letPass_29 ff_LiftGroup_Building_115 rfl t5 (by decide) ?_
    refine j_iload_n hX eX0_letPass_32 2 rfl ?_
    refine j_isub hX eX0_letPass_33 ?_
    exact j_iret hX hM eX0_letPass_34 rfl h
  · replace h := h.2 c1
    refine j_aload_n hX eX0_letPass_15 0 rfl ?_
    obtain ⟨t8, h⟩ := h
    refine j_callV (a := a0) (q := (RX0, TX0, 10)) (r' := rX0_step) (As := []) (rest := []) (d1 := d) hX eX0_letPass_16 mm_LiftGroup_Building_118 rfl t8 (by decide) rfl h rfl (Nat.le_refl _) (Nat.zero_le _) (Nat.zero_le _) (Nat.le_of_ble_eq_true rfl) (fun vz9 Mz9 qz9 => ?_) (fun Ez9 Mz9 qz9 => ?_)
    · obtain ⟨M6, eMz9⟩ : ∃ M6, M6 = Mz9 := ⟨_, rfl⟩; subst eMz9
      obtain ⟨hxz9, h⟩ := qz9
      cases hxz9
      obtain ⟨v9, ev9⟩ : ∃ v9 : Int32, v9 = a3 + (1 : Int32) := ⟨_, rfl⟩
      replace h := h v9 ev9
      refine j_iinc (v := v9) (lv' := [(3, .int v9), (0, .ref a0), (1, .int a1), (2, .int a2)]) hX eX0_letPass_19 3 rfl (by rw [ev9]; rfl) (by decide) rfl ?_
      refine j_goto hX 10 eX0_letPass_22 (by decide) ?_
      exact j_sub [1, 2, 3, 0] rfl (k10 _ _ _ _ _ h)
    · obtain ⟨hxz9, h⟩ := qz9
      cases hxz9

set_option maxHeartbeats 4000000 in
set_option maxRecDepth 20000 in
theorem vX0_refusalToPerform_0 {X : am_Cx} {G : am_Gx} {d : Nat} {Q : am_Q} (hX : am_ok X rX0_refusalToPerform G (d + 1)) (hM : am_me X rX0_refusalToPerform Q) {bc bs : Nat}  {a0 : Nat} {a1 : Int32} {a2 : Nat} {M : am_Hp} (h : (a1.toInt < 0 ∨ 6 < a1.toInt → (Q (.inl (some (.int (0 : Int32)))) M)) ∧ (a1 = (0 : Int32) → (hp_T M (a2) = 22 ∧ (vp_in (0 : Int32) (hp_N M a2) ∧ (vp_in (1 : Int32) (hp_N M a2) ∧ (vp_in (2 : Int32) (hp_N M a2) ∧ (hp_T M (a0) = 1 ∧ (am_CT G d rX0_refusalToAdd [.ref a0, .int (hp_E M a2 ((0 : Int32)).toNatClampNeg), .int (hp_E M a2 ((1 : Int32)).toNatClampNeg), .int (hp_E M a2 ((2 : Int32)).toNatClampNeg)] M 0 0 (fun oz9 M5 => ∃ v6 : Int32, oz9 = .inl (some (.int v6)) ∧ (Q (.inl (some (.int v6))) M5))))))))) ∧ (a1 = (1 : Int32) → (hp_T M (a2) = 22 ∧ (vp_in (0 : Int32) (hp_N M a2) ∧ (hp_T M (a0) = 1 ∧ (am_CT G d rX0_refusalToRemove [.ref a0, .int (hp_E M a2 ((0 : Int32)).toNatClampNeg)] M 0 0 (fun oz9 M10 => ∃ v11 : Int32, oz9 = .inl (some (.int v11)) ∧ (Q (.inl (some (.int v11))) M10))))))) ∧ (a1 = (2 : Int32) → (hp_T M (a2) = 22 ∧ (vp_in (0 : Int32) (hp_N M a2) ∧ (vp_in (1 : Int32) (hp_N M a2) ∧ (hp_T M (a0) = 1 ∧ (am_CT G d rX0_refusalToHold [.ref a0, .int (hp_E M a2 ((0 : Int32)).toNatClampNeg), .int (hp_E M a2 ((1 : Int32)).toNatClampNeg)] M 0 0 (fun oz9 M16 => ∃ v17 : Int32, oz9 = .inl (some (.int v17)) ∧ (Q (.inl (some (.int v17))) M16)))))))) ∧ (a1 = (3 : Int32) → (hp_T M (a2) = 22 ∧ (vp_in (0 : Int32) (hp_N M a2) ∧ (hp_T M (a0) = 1 ∧ (am_CT G d rX0_refusalToStop [.ref a0, .int (hp_E M a2 ((0 : Int32)).toNatClampNeg)] M 0 0 (fun oz9 M21 => ∃ v22 : Int32, oz9 = .inl (some (.int v22)) ∧ (Q (.inl (some (.int v22))) M21))))))) ∧ (a1 = (4 : Int32) → (hp_T M (a2) = 22 ∧ (vp_in (0 : Int32) (hp_N M a2) ∧ (hp_T M (a0) = 1 ∧ (am_CT G d rX0_refusalToStart [.ref a0, .int (hp_E M a2 ((0 : Int32)).toNatClampNeg)] M 0 0 (fun oz9 M26 => ∃ v27 : Int32, oz9 = .inl (some (.int v27)) ∧ (Q (.inl (some (.int v27))) M26))))))) ∧ (a1 = (5 : Int32) → (hp_T M (a2) = 22 ∧ (vp_in (0 : Int32) (hp_N M a2) ∧ (vp_in (1 : Int32) (hp_N M a2) ∧ (hp_T M (a0) = 1 ∧ (am_CT G d rX0_refusalToLimit [.ref a0, .int (hp_E M a2 ((0 : Int32)).toNatClampNeg), .int (hp_E M a2 ((1 : Int32)).toNatClampNeg)] M 0 0 (fun oz9 M32 => ∃ v33 : Int32, oz9 = .inl (some (.int v33)) ∧ (Q (.inl (some (.int v33))) M32)))))))) ∧ (a1 = (6 : Int32) → (hp_T M (a2) = 22 ∧ (vp_in (0 : Int32) (hp_N M a2) ∧ (hp_T M (a0) = 1 ∧ (am_CT G d rX0_refusalToPass [.ref a0, .int (hp_E M a2 ((0 : Int32)).toNatClampNeg)] M 0 0 (fun oz9 M37 => ∃ v38 : Int32, oz9 = .inl (some (.int v38)) ∧ (Q (.inl (some (.int v38))) M37)))))))) : am_J X 0 [(0, .ref a0), (1, .int a1), (2, .ref a2)] [] M bc bs := by
  refine j_iload_n hX eX0_refusalToPerform_0 1 rfl ?_
  by_cases hsw : a1.toInt < 0 ∨ 6 < a1.toInt
  · refine j_tableOut hX 112 eX0_refusalToPerform_1 hsw (by decide) ?_
    replace h := h.1 hsw
    refine j_iconst (v := (0 : Int32)) hX eX0_refusalToPerform_112 (by decide) ?_
    exact j_iret hX hM eX0_refusalToPerform_113 rfl h
  · replace h := h.2
    have hsw1 : ¬ a1.toInt < 0 := fun z => hsw (Or.inl z)
    have hsw2 : ¬ 6 < a1.toInt := fun z => hsw (Or.inr z)
    have hsw3 : a1.toInt = 0 ∨ a1.toInt = 1 ∨ a1.toInt = 2 ∨ a1.toInt = 3 ∨ a1.toInt = 4 ∨ a1.toInt = 5 ∨ a1.toInt = 6 := by omega
    rcases hsw3 with hk | hk | hk | hk | hk | hk | hk
    · refine j_tableIn hX 44 eX0_refusalToPerform_1 hsw1 hsw2 (by rw [hk]; rfl) (by decide) ?_
      replace h := h.1 (am_i32 hk (by decide))
      refine j_aload_n hX eX0_refusalToPerform_44 0 rfl ?_
      refine j_aload_n hX eX0_refusalToPerform_45 2 rfl ?_
      refine j_iconst (v := (0 : Int32)) hX eX0_refusalToPerform_46 (by decide) ?_
      obtain ⟨t1, h⟩ := h
      obtain ⟨i2, h⟩ := h
      refine j_iald hX eX0_refusalToPerform_47 t1 i2 ?_
      refine j_aload_n hX eX0_refusalToPerform_48 2 rfl ?_
      refine j_iconst (v := (1 : Int32)) hX eX0_refusalToPerform_49 (by decide) ?_
      obtain ⟨i3, h⟩ := h
      refine j_iald hX eX0_refusalToPerform_50 t1 i3 ?_
      refine j_aload_n hX eX0_refusalToPerform_51 2 rfl ?_
      refine j_iconst (v := (2 : Int32)) hX eX0_refusalToPerform_52 (by decide) ?_
      obtain ⟨i4, h⟩ := h
      refine j_iald hX eX0_refusalToPerform_53 t1 i4 ?_
      obtain ⟨t7, h⟩ := h
      refine j_callV (a := a0) (q := (RX0, TX0, 10)) (r' := rX0_refusalToAdd) (As := [.int (hp_E M a2 ((0 : Int32)).toNatClampNeg), .int (hp_E M a2 ((1 : Int32)).toNatClampNeg), .int (hp_E M a2 ((2 : Int32)).toNatClampNeg)]) (rest := []) (d1 := d) hX eX0_refusalToPerform_54 mm_LiftGroup_Building_121 rfl t7 (by decide) rfl h rfl (Nat.le_refl _) (Nat.zero_le _) (Nat.zero_le _) (Nat.le_of_ble_eq_true rfl) (fun vz9 Mz9 qz9 => ?_) (fun Ez9 Mz9 qz9 => ?_)
      · obtain ⟨M5, eMz9⟩ : ∃ M5, M5 = Mz9 := ⟨_, rfl⟩; subst eMz9
        obtain ⟨v6, hxz9, h⟩ := qz9
        cases hxz9
        exact j_iret hX hM eX0_refusalToPerform_57 rfl h
      · obtain ⟨v6, hxz9, h⟩ := qz9
        cases hxz9
    · refine j_tableIn hX 58 eX0_refusalToPerform_1 hsw1 hsw2 (by rw [hk]; rfl) (by decide) ?_
      replace h := h.2.1 (am_i32 hk (by decide))
      refine j_aload_n hX eX0_refusalToPerform_58 0 rfl ?_
      refine j_aload_n hX eX0_refusalToPerform_59 2 rfl ?_
      refine j_iconst (v := (0 : Int32)) hX eX0_refusalToPerform_60 (by decide) ?_
      obtain ⟨t8, h⟩ := h
      obtain ⟨i9, h⟩ := h
      refine j_iald hX eX0_refusalToPerform_61 t8 i9 ?_
      obtain ⟨t12, h⟩ := h
      refine j_callV (a := a0) (q := (RX0, TX0, 10)) (r' := rX0_refusalToRemove) (As := [.int (hp_E M a2 ((0 : Int32)).toNatClampNeg)]) (rest := []) (d1 := d) hX eX0_refusalToPerform_62 mm_LiftGroup_Building_125 rfl t12 (by decide) rfl h rfl (Nat.le_refl _) (Nat.zero_le _) (Nat.zero_le _) (Nat.le_of_ble_eq_true rfl) (fun vz9 Mz9 qz9 => ?_) (fun Ez9 Mz9 qz9 => ?_)
      · obtain ⟨M10, eMz9⟩ : ∃ M10, M10 = Mz9 := ⟨_, rfl⟩; subst eMz9
        obtain ⟨v11, hxz9, h⟩ := qz9
        cases hxz9
        exact j_iret hX hM eX0_refusalToPerform_65 rfl h
      · obtain ⟨v11, hxz9, h⟩ := qz9
        cases hxz9
    · refine j_tableIn hX 66 eX0_refusalToPerform_1 hsw1 hsw2 (by rw [hk]; rfl) (by decide) ?_
      replace h := h.2.2.1 (am_i32 hk (by decide))
      refine j_aload_n hX eX0_refusalToPerform_66 0 rfl ?_
      refine j_aload_n hX eX0_refusalToPerform_67 2 rfl ?_
      refine j_iconst (v := (0 : Int32)) hX eX0_refusalToPerform_68 (by decide) ?_
      obtain ⟨t13, h⟩ := h
      obtain ⟨i14, h⟩ := h
      refine j_iald hX eX0_refusalToPerform_69 t13 i14 ?_
      refine j_aload_n hX eX0_refusalToPerform_70 2 rfl ?_
      refine j_iconst (v := (1 : Int32)) hX eX0_refusalToPerform_71 (by decide) ?_
      obtain ⟨i15, h⟩ := h
      refine j_iald hX eX0_refusalToPerform_72 t13 i15 ?_
      obtain ⟨t18, h⟩ := h
      refine j_callV (a := a0) (q := (RX0, TX0, 10)) (r' := rX0_refusalToHold) (As := [.int (hp_E M a2 ((0 : Int32)).toNatClampNeg), .int (hp_E M a2 ((1 : Int32)).toNatClampNeg)]) (rest := []) (d1 := d) hX eX0_refusalToPerform_73 mm_LiftGroup_Building_129 rfl t18 (by decide) rfl h rfl (Nat.le_refl _) (Nat.zero_le _) (Nat.zero_le _) (Nat.le_of_ble_eq_true rfl) (fun vz9 Mz9 qz9 => ?_) (fun Ez9 Mz9 qz9 => ?_)
      · obtain ⟨M16, eMz9⟩ : ∃ M16, M16 = Mz9 := ⟨_, rfl⟩; subst eMz9
        obtain ⟨v17, hxz9, h⟩ := qz9
        cases hxz9
        exact j_iret hX hM eX0_refusalToPerform_76 rfl h
      · obtain ⟨v17, hxz9, h⟩ := qz9
        cases hxz9
    · refine j_tableIn hX 77 eX0_refusalToPerform_1 hsw1 hsw2 (by rw [hk]; rfl) (by decide) ?_
      replace h := h.2.2.2.1 (am_i32 hk (by decide))
      refine j_aload_n hX eX0_refusalToPerform_77 0 rfl ?_
      refine j_aload_n hX eX0_refusalToPerform_78 2 rfl ?_
      refine j_iconst (v := (0 : Int32)) hX eX0_refusalToPerform_79 (by decide) ?_
      obtain ⟨t19, h⟩ := h
      obtain ⟨i20, h⟩ := h
      refine j_iald hX eX0_refusalToPerform_80 t19 i20 ?_
      obtain ⟨t23, h⟩ := h
      refine j_callV (a := a0) (q := (RX0, TX0, 10)) (r' := rX0_refusalToStop) (As := [.int (hp_E M a2 ((0 : Int32)).toNatClampNeg)]) (rest := []) (d1 := d) hX eX0_refusalToPerform_81 mm_LiftGroup_Building_132 rfl t23 (by decide) rfl h rfl (Nat.le_refl _) (Nat.zero_le _) (Nat.zero_le _) (Nat.le_of_ble_eq_true rfl) (fun vz9 Mz9 qz9 => ?_) (fun Ez9 Mz9 qz9 => ?_)
      · obtain ⟨M21, eMz9⟩ : ∃ M21, M21 = Mz9 := ⟨_, rfl⟩; subst eMz9
        obtain ⟨v22, hxz9, h⟩ := qz9
        cases hxz9
        exact j_iret hX hM eX0_refusalToPerform_84 rfl h
      · obtain ⟨v22, hxz9, h⟩ := qz9
        cases hxz9
    · refine j_tableIn hX 85 eX0_refusalToPerform_1 hsw1 hsw2 (by rw [hk]; rfl) (by decide) ?_
      replace h := h.2.2.2.2.1 (am_i32 hk (by decide))
      refine j_aload_n hX eX0_refusalToPerform_85 0 rfl ?_
      refine j_aload_n hX eX0_refusalToPerform_86 2 rfl ?_
      refine j_iconst (v := (0 : Int32)) hX eX0_refusalToPerform_87 (by decide) ?_
      obtain ⟨t24, h⟩ := h
      obtain ⟨i25, h⟩ := h
      refine j_iald hX eX0_refusalToPerform_88 t24 i25 ?_
      obtain ⟨t28, h⟩ := h
      refine j_callV (a := a0) (q := (RX0, TX0, 10)) (r' := rX0_refusalToStart) (As := [.int (hp_E M a2 ((0 : Int32)).toNatClampNeg)]) (rest := []) (d1 := d) hX eX0_refusalToPerform_89 mm_LiftGroup_Building_135 rfl t28 (by decide) rfl h rfl (Nat.le_refl _) (Nat.zero_le _) (Nat.zero_le _) (Nat.le_of_ble_eq_true rfl) (fun vz9 Mz9 qz9 => ?_) (fun Ez9 Mz9 qz9 => ?_)
      · obtain ⟨M26, eMz9⟩ : ∃ M26, M26 = Mz9 := ⟨_, rfl⟩; subst eMz9
        obtain ⟨v27, hxz9, h⟩ := qz9
        cases hxz9
        exact j_iret hX hM eX0_refusalToPerform_92 rfl h
      · obtain ⟨v27, hxz9, h⟩ := qz9
        cases hxz9
    · refine j_tableIn hX 93 eX0_refusalToPerform_1 hsw1 hsw2 (by rw [hk]; rfl) (by decide) ?_
      replace h := h.2.2.2.2.2.1 (am_i32 hk (by decide))
      refine j_aload_n hX eX0_refusalToPerform_93 0 rfl ?_
      refine j_aload_n hX eX0_refusalToPerform_94 2 rfl ?_
      refine j_iconst (v := (0 : Int32)) hX eX0_refusalToPerform_95 (by decide) ?_
      obtain ⟨t29, h⟩ := h
      obtain ⟨i30, h⟩ := h
      refine j_iald hX eX0_refusalToPerform_96 t29 i30 ?_
      refine j_aload_n hX eX0_refusalToPerform_97 2 rfl ?_
      refine j_iconst (v := (1 : Int32)) hX eX0_refusalToPerform_98 (by decide) ?_
      obtain ⟨i31, h⟩ := h
      refine j_iald hX eX0_refusalToPerform_99 t29 i31 ?_
      obtain ⟨t34, h⟩ := h
      refine j_callV (a := a0) (q := (RX0, TX0, 10)) (r' := rX0_refusalToLimit) (As := [.int (hp_E M a2 ((0 : Int32)).toNatClampNeg), .int (hp_E M a2 ((1 : Int32)).toNatClampNeg)]) (rest := []) (d1 := d) hX eX0_refusalToPerform_100 mm_LiftGroup_Building_138 rfl t34 (by decide) rfl h rfl (Nat.le_refl _) (Nat.zero_le _) (Nat.zero_le _) (Nat.le_of_ble_eq_true rfl) (fun vz9 Mz9 qz9 => ?_) (fun Ez9 Mz9 qz9 => ?_)
      · obtain ⟨M32, eMz9⟩ : ∃ M32, M32 = Mz9 := ⟨_, rfl⟩; subst eMz9
        obtain ⟨v33, hxz9, h⟩ := qz9
        cases hxz9
        exact j_iret hX hM eX0_refusalToPerform_103 rfl h
      · obtain ⟨v33, hxz9, h⟩ := qz9
        cases hxz9
    · refine j_tableIn hX 104 eX0_refusalToPerform_1 hsw1 hsw2 (by rw [hk]; rfl) (by decide) ?_
      replace h := h.2.2.2.2.2.2 (am_i32 hk (by decide))
      refine j_aload_n hX eX0_refusalToPerform_104 0 rfl ?_
      refine j_aload_n hX eX0_refusalToPerform_105 2 rfl ?_
      refine j_iconst (v := (0 : Int32)) hX eX0_refusalToPerform_106 (by decide) ?_
      obtain ⟨t35, h⟩ := h
      obtain ⟨i36, h⟩ := h
      refine j_iald hX eX0_refusalToPerform_107 t35 i36 ?_
      obtain ⟨t39, h⟩ := h
      refine j_callV (a := a0) (q := (RX0, TX0, 10)) (r' := rX0_refusalToPass) (As := [.int (hp_E M a2 ((0 : Int32)).toNatClampNeg)]) (rest := []) (d1 := d) hX eX0_refusalToPerform_108 mm_LiftGroup_Building_141 rfl t39 (by decide) rfl h rfl (Nat.le_refl _) (Nat.zero_le _) (Nat.zero_le _) (Nat.le_of_ble_eq_true rfl) (fun vz9 Mz9 qz9 => ?_) (fun Ez9 Mz9 qz9 => ?_)
      · obtain ⟨M37, eMz9⟩ : ∃ M37, M37 = Mz9 := ⟨_, rfl⟩; subst eMz9
        obtain ⟨v38, hxz9, h⟩ := qz9
        cases hxz9
        exact j_iret hX hM eX0_refusalToPerform_111 rfl h
      · obtain ⟨v38, hxz9, h⟩ := qz9
        cases hxz9

set_option maxHeartbeats 4000000 in
set_option maxRecDepth 20000 in
theorem vX0_perform_0 {X : am_Cx} {G : am_Gx} {d : Nat} {Q : am_Q} (hX : am_ok X rX0_perform G (d + 1)) (hM : am_me X rX0_perform Q) {bc bs : Nat}  {a0 : Nat} {a1 : Int32} {a2 : Nat} {M : am_Hp} (h : (a1.toInt < 0 ∨ 6 < a1.toInt → (hp_T M (a0) = 1 ∧ (am_CT G d rX0_letPass [.ref a0, .int (1 : Int32)] M 0 0 (fun oz9 M1 => ∃ v2 : Int32, oz9 = .inl (some (.int v2)) ∧ (Q (.inl (some (.int v2))) M1))))) ∧ (a1 = (0 : Int32) → (hp_T M (a2) = 22 ∧ (vp_in (0 : Int32) (hp_N M a2) ∧ (vp_in (1 : Int32) (hp_N M a2) ∧ (vp_in (2 : Int32) (hp_N M a2) ∧ (hp_T M (a0) = 1 ∧ (am_CT G d rX0_add [.ref a0, .int (hp_E M a2 ((0 : Int32)).toNatClampNeg), .int (hp_E M a2 ((1 : Int32)).toNatClampNeg), .int (hp_E M a2 ((2 : Int32)).toNatClampNeg)] M 0 0 (fun oz9 M8 => ∃ v9 : Int32, oz9 = .inl (some (.int v9)) ∧ (Q (.inl (some (.int v9))) M8))))))))) ∧ (a1 = (1 : Int32) → (hp_T M (a2) = 22 ∧ (vp_in (0 : Int32) (hp_N M a2) ∧ (hp_T M (a0) = 1 ∧ (am_CT G d rX0_remove [.ref a0, .int (hp_E M a2 ((0 : Int32)).toNatClampNeg)] M 0 0 (fun oz9 M13 => ∃ v14 : Int32, oz9 = .inl (some (.int v14)) ∧ (Q (.inl (some (.int v14))) M13))))))) ∧ (a1 = (2 : Int32) → (hp_T M (a2) = 22 ∧ (vp_in (0 : Int32) (hp_N M a2) ∧ (vp_in (1 : Int32) (hp_N M a2) ∧ (hp_T M (a0) = 1 ∧ (am_CT G d rX0_hold [.ref a0, .int (hp_E M a2 ((0 : Int32)).toNatClampNeg), .int (hp_E M a2 ((1 : Int32)).toNatClampNeg)] M 0 0 (fun oz9 M19 => ∃ v20 : Int32, oz9 = .inl (some (.int v20)) ∧ (Q (.inl (some (.int v20))) M19)))))))) ∧ (a1 = (3 : Int32) → (hp_T M (a2) = 22 ∧ (vp_in (0 : Int32) (hp_N M a2) ∧ (hp_T M (a0) = 1 ∧ (am_CT G d rX0_takeOutOfService [.ref a0, .int (hp_E M a2 ((0 : Int32)).toNatClampNeg)] M 0 0 (fun oz9 M24 => ∃ v25 : Int32, oz9 = .inl (some (.int v25)) ∧ (Q (.inl (some (.int v25))) M24))))))) ∧ (a1 = (4 : Int32) → (hp_T M (a2) = 22 ∧ (vp_in (0 : Int32) (hp_N M a2) ∧ (hp_T M (a0) = 1 ∧ (am_CT G d rX0_putInService [.ref a0, .int (hp_E M a2 ((0 : Int32)).toNatClampNeg)] M 0 0 (fun oz9 M29 => ∃ v30 : Int32, oz9 = .inl (some (.int v30)) ∧ (Q (.inl (some (.int v30))) M29))))))) ∧ (a1 = (5 : Int32) → (hp_T M (a2) = 22 ∧ (vp_in (0 : Int32) (hp_N M a2) ∧ (vp_in (1 : Int32) (hp_N M a2) ∧ (hp_T M (a0) = 1 ∧ (am_CT G d rX0_limit [.ref a0, .int (hp_E M a2 ((0 : Int32)).toNatClampNeg), .int (hp_E M a2 ((1 : Int32)).toNatClampNeg)] M 0 0 (fun oz9 M35 => ∃ v36 : Int32, oz9 = .inl (some (.int v36)) ∧ (Q (.inl (some (.int v36))) M35)))))))) ∧ (a1 = (6 : Int32) → (hp_T M (a2) = 22 ∧ (vp_in (0 : Int32) (hp_N M a2) ∧ (hp_T M (a0) = 1 ∧ (am_CT G d rX0_letPass [.ref a0, .int (hp_E M a2 ((0 : Int32)).toNatClampNeg)] M 0 0 (fun oz9 M40 => ∃ v41 : Int32, oz9 = .inl (some (.int v41)) ∧ (Q (.inl (some (.int v41))) M40)))))))) : am_J X 0 [(0, .ref a0), (1, .int a1), (2, .ref a2)] [] M bc bs := by
  refine j_iload_n hX eX0_perform_0 1 rfl ?_
  by_cases hsw : a1.toInt < 0 ∨ 6 < a1.toInt
  · refine j_tableOut hX 112 eX0_perform_1 hsw (by decide) ?_
    replace h := h.1 hsw
    refine j_aload_n hX eX0_perform_112 0 rfl ?_
    refine j_iconst (v := (1 : Int32)) hX eX0_perform_113 (by decide) ?_
    obtain ⟨t3, h⟩ := h
    refine j_callV (a := a0) (q := (RX0, TX0, 10)) (r' := rX0_letPass) (As := [.int (1 : Int32)]) (rest := []) (d1 := d) hX eX0_perform_114 mm_LiftGroup_Building_162 rfl t3 (by decide) rfl h rfl (Nat.le_refl _) (Nat.zero_le _) (Nat.zero_le _) (Nat.le_of_ble_eq_true rfl) (fun vz9 Mz9 qz9 => ?_) (fun Ez9 Mz9 qz9 => ?_)
    · obtain ⟨M1, eMz9⟩ : ∃ M1, M1 = Mz9 := ⟨_, rfl⟩; subst eMz9
      obtain ⟨v2, hxz9, h⟩ := qz9
      cases hxz9
      exact j_iret hX hM eX0_perform_117 rfl h
    · obtain ⟨v2, hxz9, h⟩ := qz9
      cases hxz9
  · replace h := h.2
    have hsw1 : ¬ a1.toInt < 0 := fun z => hsw (Or.inl z)
    have hsw2 : ¬ 6 < a1.toInt := fun z => hsw (Or.inr z)
    have hsw3 : a1.toInt = 0 ∨ a1.toInt = 1 ∨ a1.toInt = 2 ∨ a1.toInt = 3 ∨ a1.toInt = 4 ∨ a1.toInt = 5 ∨ a1.toInt = 6 := by omega
    rcases hsw3 with hk | hk | hk | hk | hk | hk | hk
    · refine j_tableIn hX 44 eX0_perform_1 hsw1 hsw2 (by rw [hk]; rfl) (by decide) ?_
      replace h := h.1 (am_i32 hk (by decide))
      refine j_aload_n hX eX0_perform_44 0 rfl ?_
      refine j_aload_n hX eX0_perform_45 2 rfl ?_
      refine j_iconst (v := (0 : Int32)) hX eX0_perform_46 (by decide) ?_
      obtain ⟨t4, h⟩ := h
      obtain ⟨i5, h⟩ := h
      refine j_iald hX eX0_perform_47 t4 i5 ?_
      refine j_aload_n hX eX0_perform_48 2 rfl ?_
      refine j_iconst (v := (1 : Int32)) hX eX0_perform_49 (by decide) ?_
      obtain ⟨i6, h⟩ := h
      refine j_iald hX eX0_perform_50 t4 i6 ?_
      refine j_aload_n hX eX0_perform_51 2 rfl ?_
      refine j_iconst (v := (2 : Int32)) hX eX0_perform_52 (by decide) ?_
      obtain ⟨i7, h⟩ := h
      refine j_iald hX eX0_perform_53 t4 i7 ?_
      obtain ⟨t10, h⟩ := h
      refine j_callV (a := a0) (q := (RX0, TX0, 10)) (r' := rX0_add) (As := [.int (hp_E M a2 ((0 : Int32)).toNatClampNeg), .int (hp_E M a2 ((1 : Int32)).toNatClampNeg), .int (hp_E M a2 ((2 : Int32)).toNatClampNeg)]) (rest := []) (d1 := d) hX eX0_perform_54 mm_LiftGroup_Building_144 rfl t10 (by decide) rfl h rfl (Nat.le_refl _) (Nat.zero_le _) (Nat.zero_le _) (Nat.le_of_ble_eq_true rfl) (fun vz9 Mz9 qz9 => ?_) (fun Ez9 Mz9 qz9 => ?_)
      · obtain ⟨M8, eMz9⟩ : ∃ M8, M8 = Mz9 := ⟨_, rfl⟩; subst eMz9
        obtain ⟨v9, hxz9, h⟩ := qz9
        cases hxz9
        exact j_iret hX hM eX0_perform_57 rfl h
      · obtain ⟨v9, hxz9, h⟩ := qz9
        cases hxz9
    · refine j_tableIn hX 58 eX0_perform_1 hsw1 hsw2 (by rw [hk]; rfl) (by decide) ?_
      replace h := h.2.1 (am_i32 hk (by decide))
      refine j_aload_n hX eX0_perform_58 0 rfl ?_
      refine j_aload_n hX eX0_perform_59 2 rfl ?_
      refine j_iconst (v := (0 : Int32)) hX eX0_perform_60 (by decide) ?_
      obtain ⟨t11, h⟩ := h
      obtain ⟨i12, h⟩ := h
      refine j_iald hX eX0_perform_61 t11 i12 ?_
      obtain ⟨t15, h⟩ := h
      refine j_callV (a := a0) (q := (RX0, TX0, 10)) (r' := rX0_remove) (As := [.int (hp_E M a2 ((0 : Int32)).toNatClampNeg)]) (rest := []) (d1 := d) hX eX0_perform_62 mm_LiftGroup_Building_147 rfl t15 (by decide) rfl h rfl (Nat.le_refl _) (Nat.zero_le _) (Nat.zero_le _) (Nat.le_of_ble_eq_true rfl) (fun vz9 Mz9 qz9 => ?_) (fun Ez9 Mz9 qz9 => ?_)
      · obtain ⟨M13, eMz9⟩ : ∃ M13, M13 = Mz9 := ⟨_, rfl⟩; subst eMz9
        obtain ⟨v14, hxz9, h⟩ := qz9
        cases hxz9
        exact j_iret hX hM eX0_perform_65 rfl h
      · obtain ⟨v14, hxz9, h⟩ := qz9
        cases hxz9
    · refine j_tableIn hX 66 eX0_perform_1 hsw1 hsw2 (by rw [hk]; rfl) (by decide) ?_
      replace h := h.2.2.1 (am_i32 hk (by decide))
      refine j_aload_n hX eX0_perform_66 0 rfl ?_
      refine j_aload_n hX eX0_perform_67 2 rfl ?_
      refine j_iconst (v := (0 : Int32)) hX eX0_perform_68 (by decide) ?_
      obtain ⟨t16, h⟩ := h
      obtain ⟨i17, h⟩ := h
      refine j_iald hX eX0_perform_69 t16 i17 ?_
      refine j_aload_n hX eX0_perform_70 2 rfl ?_
      refine j_iconst (v := (1 : Int32)) hX eX0_perform_71 (by decide) ?_
      obtain ⟨i18, h⟩ := h
      refine j_iald hX eX0_perform_72 t16 i18 ?_
      obtain ⟨t21, h⟩ := h
      refine j_callV (a := a0) (q := (RX0, TX0, 10)) (r' := rX0_hold) (As := [.int (hp_E M a2 ((0 : Int32)).toNatClampNeg), .int (hp_E M a2 ((1 : Int32)).toNatClampNeg)]) (rest := []) (d1 := d) hX eX0_perform_73 mm_LiftGroup_Building_150 rfl t21 (by decide) rfl h rfl (Nat.le_refl _) (Nat.zero_le _) (Nat.zero_le _) (Nat.le_of_ble_eq_true rfl) (fun vz9 Mz9 qz9 => ?_) (fun Ez9 Mz9 qz9 => ?_)
      · obtain ⟨M19, eMz9⟩ : ∃ M19, M19 = Mz9 := ⟨_, rfl⟩; subst eMz9
        obtain ⟨v20, hxz9, h⟩ := qz9
        cases hxz9
        exact j_iret hX hM eX0_perform_76 rfl h
      · obtain ⟨v20, hxz9, h⟩ := qz9
        cases hxz9
    · refine j_tableIn hX 77 eX0_perform_1 hsw1 hsw2 (by rw [hk]; rfl) (by decide) ?_
      replace h := h.2.2.2.1 (am_i32 hk (by decide))
      refine j_aload_n hX eX0_perform_77 0 rfl ?_
      refine j_aload_n hX eX0_perform_78 2 rfl ?_
      refine j_iconst (v := (0 : Int32)) hX eX0_perform_79 (by decide) ?_
      obtain ⟨t22, h⟩ := h
      obtain ⟨i23, h⟩ := h
      refine j_iald hX eX0_perform_80 t22 i23 ?_
      obtain ⟨t26, h⟩ := h
      refine j_callV (a := a0) (q := (RX0, TX0, 10)) (r' := rX0_takeOutOfService) (As := [.int (hp_E M a2 ((0 : Int32)).toNatClampNeg)]) (rest := []) (d1 := d) hX eX0_perform_81 mm_LiftGroup_Building_153 rfl t26 (by decide) rfl h rfl (Nat.le_refl _) (Nat.zero_le _) (Nat.zero_le _) (Nat.le_of_ble_eq_true rfl) (fun vz9 Mz9 qz9 => ?_) (fun Ez9 Mz9 qz9 => ?_)
      · obtain ⟨M24, eMz9⟩ : ∃ M24, M24 = Mz9 := ⟨_, rfl⟩; subst eMz9
        obtain ⟨v25, hxz9, h⟩ := qz9
        cases hxz9
        exact j_iret hX hM eX0_perform_84 rfl h
      · obtain ⟨v25, hxz9, h⟩ := qz9
        cases hxz9
    · refine j_tableIn hX 85 eX0_perform_1 hsw1 hsw2 (by rw [hk]; rfl) (by decide) ?_
      replace h := h.2.2.2.2.1 (am_i32 hk (by decide))
      refine j_aload_n hX eX0_perform_85 0 rfl ?_
      refine j_aload_n hX eX0_perform_86 2 rfl ?_
      refine j_iconst (v := (0 : Int32)) hX eX0_perform_87 (by decide) ?_
      obtain ⟨t27, h⟩ := h
      obtain ⟨i28, h⟩ := h
      refine j_iald hX eX0_perform_88 t27 i28 ?_
      obtain ⟨t31, h⟩ := h
      refine j_callV (a := a0) (q := (RX0, TX0, 10)) (r' := rX0_putInService) (As := [.int (hp_E M a2 ((0 : Int32)).toNatClampNeg)]) (rest := []) (d1 := d) hX eX0_perform_89 mm_LiftGroup_Building_156 rfl t31 (by decide) rfl h rfl (Nat.le_refl _) (Nat.zero_le _) (Nat.zero_le _) (Nat.le_of_ble_eq_true rfl) (fun vz9 Mz9 qz9 => ?_) (fun Ez9 Mz9 qz9 => ?_)
      · obtain ⟨M29, eMz9⟩ : ∃ M29, M29 = Mz9 := ⟨_, rfl⟩; subst eMz9
        obtain ⟨v30, hxz9, h⟩ := qz9
        cases hxz9
        exact j_iret hX hM eX0_perform_92 rfl h
      · obtain ⟨v30, hxz9, h⟩ := qz9
        cases hxz9
    · refine j_tableIn hX 93 eX0_perform_1 hsw1 hsw2 (by rw [hk]; rfl) (by decide) ?_
      replace h := h.2.2.2.2.2.1 (am_i32 hk (by decide))
      refine j_aload_n hX eX0_perform_93 0 rfl ?_
      refine j_aload_n hX eX0_perform_94 2 rfl ?_
      refine j_iconst (v := (0 : Int32)) hX eX0_perform_95 (by decide) ?_
      obtain ⟨t32, h⟩ := h
      obtain ⟨i33, h⟩ := h
      refine j_iald hX eX0_perform_96 t32 i33 ?_
      refine j_aload_n hX eX0_perform_97 2 rfl ?_
      refine j_iconst (v := (1 : Int32)) hX eX0_perform_98 (by decide) ?_
      obtain ⟨i34, h⟩ := h
      refine j_iald hX eX0_perform_99 t32 i34 ?_
      obtain ⟨t37, h⟩ := h
      refine j_callV (a := a0) (q := (RX0, TX0, 10)) (r' := rX0_limit) (As := [.int (hp_E M a2 ((0 : Int32)).toNatClampNeg), .int (hp_E M a2 ((1 : Int32)).toNatClampNeg)]) (rest := []) (d1 := d) hX eX0_perform_100 mm_LiftGroup_Building_159 rfl t37 (by decide) rfl h rfl (Nat.le_refl _) (Nat.zero_le _) (Nat.zero_le _) (Nat.le_of_ble_eq_true rfl) (fun vz9 Mz9 qz9 => ?_) (fun Ez9 Mz9 qz9 => ?_)
      · obtain ⟨M35, eMz9⟩ : ∃ M35, M35 = Mz9 := ⟨_, rfl⟩; subst eMz9
        obtain ⟨v36, hxz9, h⟩ := qz9
        cases hxz9
        exact j_iret hX hM eX0_perform_103 rfl h
      · obtain ⟨v36, hxz9, h⟩ := qz9
        cases hxz9
    · refine j_tableIn hX 104 eX0_perform_1 hsw1 hsw2 (by rw [hk]; rfl) (by decide) ?_
      replace h := h.2.2.2.2.2.2 (am_i32 hk (by decide))
      refine j_aload_n hX eX0_perform_104 0 rfl ?_
      refine j_aload_n hX eX0_perform_105 2 rfl ?_
      refine j_iconst (v := (0 : Int32)) hX eX0_perform_106 (by decide) ?_
      obtain ⟨t38, h⟩ := h
      obtain ⟨i39, h⟩ := h
      refine j_iald hX eX0_perform_107 t38 i39 ?_
      obtain ⟨t42, h⟩ := h
      refine j_callV (a := a0) (q := (RX0, TX0, 10)) (r' := rX0_letPass) (As := [.int (hp_E M a2 ((0 : Int32)).toNatClampNeg)]) (rest := []) (d1 := d) hX eX0_perform_108 mm_LiftGroup_Building_162 rfl t42 (by decide) rfl h rfl (Nat.le_refl _) (Nat.zero_le _) (Nat.zero_le _) (Nat.le_of_ble_eq_true rfl) (fun vz9 Mz9 qz9 => ?_) (fun Ez9 Mz9 qz9 => ?_)
      · obtain ⟨M40, eMz9⟩ : ∃ M40, M40 = Mz9 := ⟨_, rfl⟩; subst eMz9
        obtain ⟨v41, hxz9, h⟩ := qz9
        cases hxz9
        exact j_iret hX hM eX0_perform_111 rfl h
      · obtain ⟨v41, hxz9, h⟩ := qz9
        cases hxz9

set_option maxHeartbeats 4000000 in
set_option maxRecDepth 20000 in
theorem vX0_step_0 {X : am_Cx} {G : am_Gx} {d : Nat} {Q : am_Q} (hX : am_ok X rX0_step G (d + 1)) (hM : am_me X rX0_step Q) {bc bs : Nat} (R12 : Nat → Int32 → am_Hp → Prop) (k12 : ∀ (x0 : Nat) (x1 : Int32) (M : am_Hp), R12 x0 x1 M → am_J X 12 [(0, .ref x0), (1, .int x1)] [] M bc bs) {a0 : Nat} {M : am_Hp} (h : hp_T M (a0) = 1 ∧ (∀ M2 : am_Hp, M2 = hp_sI M 5 a0 ((hp_I M 5 a0) + (1 : Int32)) → (R12 a0 (0 : Int32) M2))) : am_J X 0 [(0, .ref a0)] [] M bc bs := by
  refine j_aload_n hX eX0_step_0 0 rfl ?_
  refine j_dup hX eX0_step_1 rfl ?_
  obtain ⟨t1, h⟩ := h
  refine j_getI hX eX0_step_2 ff_LiftGroup_Building_37 rfl t1 (by decide) ?_
  refine j_iconst (v := (1 : Int32)) hX eX0_step_5 (by decide) ?_
  refine j_iadd hX eX0_step_6 ?_
  refine j_putI (ty := .int) hX eX0_step_7 ff_LiftGroup_Building_37 rfl t1 (by decide) pp_0_5 rfl rfl ?_
  refine j_nmM (fun M2 eM2 => ?_)
  replace h := h M2 eM2
  have t3 : hp_T M2 (a0) = 1 := by rw [eM2]; exact t1
  refine j_iconst (v := (0 : Int32)) hX eX0_step_10 (by decide) ?_
  refine j_istore_n (lv' := [(1, .int (0 : Int32)), (0, .ref a0)]) hX eX0_step_11 rfl (by decide) rfl ?_
  exact j_sub [1, 0] rfl (k12 _ _ _ h)
set_option maxHeartbeats 4000000 in
set_option maxRecDepth 20000 in
theorem vX0_step_12 {X : am_Cx} {G : am_Gx} {d : Nat} {Q : am_Q} (hX : am_ok X rX0_step G (d + 1)) (hM : am_me X rX0_step Q) {bc bs : Nat} (R12 : Nat → Int32 → am_Hp → Prop) (k12 : ∀ (x0 : Nat) (x1 : Int32) (M : am_Hp), R12 x0 x1 M → am_J X 12 [(0, .ref x0), (1, .int x1)] [] M bc bs) (R76 : Nat → Int32 → am_Hp → Prop) (k76 : ∀ (x0 : Nat) (x1 : Int32) (M : am_Hp), R76 x0 x1 M → am_J X 76 [(0, .ref x0), (1, .int x1)] [] M bc bs) {a0 : Nat} {a1 : Int32} {M : am_Hp} (h : hp_T M (a0) = 1 ∧ ((((hp_I M 3 a0) ≤ a1) → (R76 a0 (0 : Int32) M)) ∧ (¬ ((hp_I M 3 a0) ≤ a1) → (hp_R M 1 a0 ≠ 0 ∧ (∀ p4 : Nat, p4 = hp_R M 1 a0 → (hp_T M (p4) = 27 ∧ (vp_in a1 (hp_N M p4) ∧ (hp_Q M p4 (a1).toNatClampNeg ≠ 0 ∧ (∀ p8 : Nat, p8 = hp_Q M p4 (a1).toNatClampNeg → (hp_T M (p8) = 4 ∧ ((((hp_I M 66 p8) = 0) → ((((hp_I M 65 p8) = (-1 : Int32)) → (am_CT G d rX0_chooseCar [.ref a0, .int (hp_I M 61 p8), .int (hp_I M 63 p8)] M 0 0 (fun oz9 M18 => ∃ v19 : Int32, oz9 = .inl (some (.int v19)) ∧ (hp_T M18 (p8) = 4 ∧ (∀ M21 : am_Hp, M21 = hp_sI M18 65 p8 v19 → (∀ M23 : am_Hp, M23 = hp_sI M21 64 p8 ((hp_I M21 64 p8) + (1 : Int32)) → (∀ v25 : Int32, v25 = a1 + (1 : Int32) → (R12 a0 v25 M23)))))))) ∧ (¬ ((hp_I M 65 p8) = (-1 : Int32)) → (∀ M13 : am_Hp, M13 = hp_sI M 64 p8 ((hp_I M 64 p8) + (1 : Int32)) → (∀ v17 : Int32, v17 = a1 + (1 : Int32) → (R12 a0 v17 M13)))))) ∧ (¬ ((hp_I M 66 p8) = 0) → (∀ v11 : Int32, v11 = a1 + (1 : Int32) → (R12 a0 v11 M)))))))))))))) : am_J X 12 [(0, .ref a0), (1, .int a1)] [] M bc bs := by
  refine j_iload_n hX eX0_step_12 1 rfl ?_
  refine j_aload_n hX eX0_step_13 0 rfl ?_
  obtain ⟨t1, h⟩ := h
  refine j_getI hX eX0_step_14 ff_LiftGroup_Building_30 rfl t1 (by decide) ?_
  refine j_icmp_ge hX 74 eX0_step_17 (by decide) (fun c2 => ?_) (fun c2 => ?_)
  · replace h := h.1 c2
    refine j_iconst (v := (0 : Int32)) hX eX0_step_74 (by decide) ?_
    refine j_istore_n (lv' := [(1, .int (0 : Int32)), (0, .ref a0)]) hX eX0_step_75 rfl (by decide) rfl ?_
    exact j_sub [1, 0] rfl (k76 _ _ _ h)
  · replace h := h.2 c2
    refine j_aload_n hX eX0_step_20 0 rfl ?_
    obtain ⟨z3, h⟩ := h
    refine j_getR hX eX0_step_21 ff_LiftGroup_Building_19 rfl t1 (by decide) z3 ?_
    refine j_nmR (fun p4 ep4 => ?_)
    replace h := h p4 ep4
    refine j_iload_n hX eX0_step_24 1 rfl ?_
    obtain ⟨t5, h⟩ := h
    obtain ⟨i6, h⟩ := h
    obtain ⟨z7, h⟩ := h
    refine j_aald27 hX eX0_step_25 t5 i6 z7 ?_
    refine j_nmR (fun p8 ep8 => ?_)
    replace h := h p8 ep8
    refine j_astore_n (lv' := [(2, .ref p8), (0, .ref a0), (1, .int a1)]) hX eX0_step_26 rfl (by decide) rfl ?_
    refine j_aload_n hX eX0_step_27 0 rfl ?_
    obtain ⟨t9, h⟩ := h
    refine j_getI hX eX0_step_28 ff_LiftGroup_Building_86 rfl t9 (by decide) ?_
    refine j_if_ne hX 68 eX0_step_31 (by decide) (fun c10 => ?_) (fun c10 => ?_)
    · replace h := h.2 c10
      obtain ⟨v11, ev11⟩ : ∃ v11 : Int32, v11 = a1 + (1 : Int32) := ⟨_, rfl⟩
      replace h := h v11 ev11
      refine j_iinc (v := v11) (lv' := [(1, .int v11), (2, .ref p8), (0, .ref a0)]) hX eX0_step_68 2 rfl (by rw [ev11]; rfl) (by decide) rfl ?_
      refine j_goto hX 12 eX0_step_71 (by decide) ?_
      exact j_sub [2, 0] rfl (k12 _ _ _ h)
    · replace h := h.1 c10
      refine j_aload_n hX eX0_step_34 0 rfl ?_
      refine j_getI hX eX0_step_35 ff_LiftGroup_Building_94 rfl t9 (by decide) ?_
      refine j_iconst (v := (-1 : Int32)) hX eX0_step_38 (by decide) ?_
      refine j_icmp_ne hX 58 eX0_step_39 (by decide) (fun c12 => ?_) (fun c12 => ?_)
      · replace h := h.2 c12
        refine j_aload_n hX eX0_step_58 0 rfl ?_
        refine j_dup hX eX0_step_59 rfl ?_
        refine j_getI hX eX0_step_60 ff_LiftGroup_Building_83 rfl t9 (by decide) ?_
        refine j_iconst (v := (1 : Int32)) hX eX0_step_63 (by decide) ?_
        refine j_iadd hX eX0_step_64 ?_
        refine j_putI (ty := .int) hX eX0_step_65 ff_LiftGroup_Building_83 rfl t9 (by decide) pp_3_4 rfl rfl ?_
        refine j_nmM (fun M13 eM13 => ?_)
        replace h := h M13 eM13
        have t14 : hp_T M13 (a0) = 1 := by rw [eM13]; exact t1
        have t15 : hp_T M13 (p4) = 27 := by rw [eM13]; exact t5
        have t16 : hp_T M13 (p8) = 4 := by rw [eM13]; exact t9
        obtain ⟨v17, ev17⟩ : ∃ v17 : Int32, v17 = a1 + (1 : Int32) := ⟨_, rfl⟩
        replace h := h v17 ev17
        refine j_iinc (v := v17) (lv' := [(1, .int v17), (2, .ref p8), (0, .ref a0)]) hX eX0_step_68 2 rfl (by rw [ev17]; rfl) (by decide) rfl ?_
        refine j_goto hX 12 eX0_step_71 (by decide) ?_
        exact j_sub [2, 0] rfl (k12 _ _ _ h)
      · replace h := h.1 c12
        refine j_aload_n hX eX0_step_42 0 rfl ?_
        refine j_aload_n hX eX0_step_43 1 rfl ?_
        refine j_aload_n hX eX0_step_44 0 rfl ?_
        refine j_getI hX eX0_step_45 ff_LiftGroup_Building_74 rfl t9 (by decide) ?_
        refine j_aload_n hX eX0_step_48 0 rfl ?_
        refine j_getI hX eX0_step_49 ff_LiftGroup_Building_80 rfl t9 (by decide) ?_
        refine j_callV (a := a0) (q := (RX0, TX0, 10)) (r' := rX0_chooseCar) (As := [.int (hp_I M 61 p8), .int (hp_I M 63 p8)]) (rest := [.ref p8]) (d1 := d) hX eX0_step_52 mm_LiftGroup_Building_90 rfl t1 (by decide) rfl h rfl (Nat.le_refl _) (Nat.zero_le _) (Nat.zero_le _) (Nat.le_of_ble_eq_true rfl) (fun vz9 Mz9 qz9 => ?_) (fun Ez9 Mz9 qz9 => ?_)
        · obtain ⟨M18, eMz9⟩ : ∃ M18, M18 = Mz9 := ⟨_, rfl⟩; subst eMz9
          obtain ⟨v19, hxz9, h⟩ := qz9
          cases hxz9
          obtain ⟨t20, h⟩ := h
          refine j_putI (ty := .int) hX eX0_step_55 ff_LiftGroup_Building_94 rfl t20 (by decide) pp_3_5 rfl rfl ?_
          refine j_nmM (fun M21 eM21 => ?_)
          replace h := h M21 eM21
          have t22 : hp_T M21 (p8) = 4 := by rw [eM21]; exact t20
          refine j_aload_n hX eX0_step_58 0 rfl ?_
          refine j_dup hX eX0_step_59 rfl ?_
          refine j_getI hX eX0_step_60 ff_LiftGroup_Building_83 rfl t22 (by decide) ?_
          refine j_iconst (v := (1 : Int32)) hX eX0_step_63 (by decide) ?_
          refine j_iadd hX eX0_step_64 ?_
          refine j_putI (ty := .int) hX eX0_step_65 ff_LiftGroup_Building_83 rfl t22 (by decide) pp_3_4 rfl rfl ?_
          refine j_nmM (fun M23 eM23 => ?_)
          replace h := h M23 eM23
          have t24 : hp_T M23 (p8) = 4 := by rw [eM23]; exact t22
          obtain ⟨v25, ev25⟩ : ∃ v25 : Int32, v25 = a1 + (1 : Int32) := ⟨_, rfl⟩
          replace h := h v25 ev25
          refine j_iinc (v := v25) (lv' := [(1, .int v25), (2, .ref p8), (0, .ref a0)]) hX eX0_step_68 2 rfl (by rw [ev25]; rfl) (by decide) rfl ?_
          refine j_goto hX 12 eX0_step_71 (by decide) ?_
          exact j_sub [2, 0] rfl (k12 _ _ _ h)
        · obtain ⟨v19, hxz9, h⟩ := qz9
          cases hxz9
set_option maxHeartbeats 4000000 in
set_option maxRecDepth 20000 in
theorem vX0_step_76 {X : am_Cx} {G : am_Gx} {d : Nat} {Q : am_Q} (hX : am_ok X rX0_step G (d + 1)) (hM : am_me X rX0_step Q) {bc bs : Nat} (R76 : Nat → Int32 → am_Hp → Prop) (k76 : ∀ (x0 : Nat) (x1 : Int32) (M : am_Hp), R76 x0 x1 M → am_J X 76 [(0, .ref x0), (1, .int x1)] [] M bc bs) {a0 : Nat} {a1 : Int32} {M : am_Hp} (h : (((3 : Int32) ≤ a1) → (Q (.inl none) M)) ∧ (¬ ((3 : Int32) ≤ a1) → (hp_T M (a0) = 1 ∧ (hp_R M 0 a0 ≠ 0 ∧ (∀ p4 : Nat, p4 = hp_R M 0 a0 → (hp_T M (p4) = 26 ∧ (vp_in a1 (hp_N M p4) ∧ (hp_Q M p4 (a1).toNatClampNeg ≠ 0 ∧ (∀ p8 : Nat, p8 = hp_Q M p4 (a1).toNatClampNeg → (hp_T M (p8) = 2 ∧ ((((hp_I M 27 p8) = 0) → (∀ v11 : Int32, v11 = a1 + (1 : Int32) → (R76 a0 v11 M))) ∧ (¬ ((hp_I M 27 p8) = 0) → (am_CT G d rX0_act [.ref a0, .int a1] M 0 0 (fun oz9 M12 => oz9 = .inl none ∧ (∀ v14 : Int32, v14 = a1 + (1 : Int32) → (R76 a0 v14 M12)))))))))))))))) : am_J X 76 [(0, .ref a0), (1, .int a1)] [] M bc bs := by
  refine j_iload_n hX eX0_step_76 1 rfl ?_
  refine j_iconst (v := (3 : Int32)) hX eX0_step_77 (by decide) ?_
  refine j_icmp_ge hX 104 eX0_step_78 (by decide) (fun c1 => ?_) (fun c1 => ?_)
  · replace h := h.1 c1
    exact j_vret hX hM eX0_step_104 rfl h
  · replace h := h.2 c1
    refine j_aload_n hX eX0_step_81 0 rfl ?_
    obtain ⟨t2, h⟩ := h
    obtain ⟨z3, h⟩ := h
    refine j_getR hX eX0_step_82 ff_LiftGroup_Building_11 rfl t2 (by decide) z3 ?_
    refine j_nmR (fun p4 ep4 => ?_)
    replace h := h p4 ep4
    refine j_iload_n hX eX0_step_85 1 rfl ?_
    obtain ⟨t5, h⟩ := h
    obtain ⟨i6, h⟩ := h
    obtain ⟨z7, h⟩ := h
    refine j_aald26 hX eX0_step_86 t5 i6 z7 ?_
    refine j_nmR (fun p8 ep8 => ?_)
    replace h := h p8 ep8
    obtain ⟨t9, h⟩ := h
    refine j_getI hX eX0_step_87 ff_LiftGroup_Building_106 rfl t9 (by decide) ?_
    refine j_if_eq hX 98 eX0_step_90 (by decide) (fun c10 => ?_) (fun c10 => ?_)
    · replace h := h.1 c10
      obtain ⟨v11, ev11⟩ : ∃ v11 : Int32, v11 = a1 + (1 : Int32) := ⟨_, rfl⟩
      replace h := h v11 ev11
      refine j_iinc (v := v11) (lv' := [(1, .int v11), (0, .ref a0)]) hX eX0_step_98 1 rfl (by rw [ev11]; rfl) (by decide) rfl ?_
      refine j_goto hX 76 eX0_step_101 (by decide) ?_
      exact j_sub [1, 0] rfl (k76 _ _ _ h)
    · replace h := h.2 c10
      refine j_aload_n hX eX0_step_93 0 rfl ?_
      refine j_iload_n hX eX0_step_94 1 rfl ?_
      refine j_callV (a := a0) (q := (RX0, TX0, 10)) (r' := rX0_act) (As := [.int a1]) (rest := []) (d1 := d) hX eX0_step_95 mm_LiftGroup_Building_165 rfl t2 (by decide) rfl h rfl (Nat.le_refl _) (Nat.zero_le _) (Nat.zero_le _) (Nat.le_of_ble_eq_true rfl) (fun vz9 Mz9 qz9 => ?_) (fun Ez9 Mz9 qz9 => ?_)
      · obtain ⟨M12, eMz9⟩ : ∃ M12, M12 = Mz9 := ⟨_, rfl⟩; subst eMz9
        obtain ⟨hxz9, h⟩ := qz9
        cases hxz9
        obtain ⟨v14, ev14⟩ : ∃ v14 : Int32, v14 = a1 + (1 : Int32) := ⟨_, rfl⟩
        replace h := h v14 ev14
        refine j_iinc (v := v14) (lv' := [(1, .int v14), (0, .ref a0)]) hX eX0_step_98 1 rfl (by rw [ev14]; rfl) (by decide) rfl ?_
        refine j_goto hX 76 eX0_step_101 (by decide) ?_
        exact j_sub [1, 0] rfl (k76 _ _ _ h)
      · obtain ⟨hxz9, h⟩ := qz9
        cases hxz9

set_option maxHeartbeats 4000000 in
set_option maxRecDepth 20000 in
theorem vX0_act_0 {X : am_Cx} {G : am_Gx} {d : Nat} {Q : am_Q} (hX : am_ok X rX0_act G (d + 1)) (hM : am_me X rX0_act Q) {bc bs : Nat}  {a0 : Nat} {a1 : Int32} {M : am_Hp} (h : hp_T M (a0) = 1 ∧ (hp_R M 0 a0 ≠ 0 ∧ (∀ p3 : Nat, p3 = hp_R M 0 a0 → (hp_T M (p3) = 26 ∧ (vp_in a1 (hp_N M p3) ∧ (hp_Q M p3 (a1).toNatClampNeg ≠ 0 ∧ (∀ p7 : Nat, p7 = hp_Q M p3 (a1).toNatClampNeg → (hp_T M (p7) = 2 ∧ ((((hp_I M 25 p7) ≤ 0) → (am_CT G d rX0_stopsOf [.ref a0, .int a1] M 0 0 (fun oz9 M10 => ∃ v11 : Int32, oz9 = .inl (some (.int v11)) ∧ (hp_T M10 (p7) = 2 ∧ (am_CT G d rX6_holds [.int v11, .int (hp_I M10 20 p7)] M10 0 0 (fun oz9 M13 => ∃ v14 : Int32, oz9 = .inl (some (.int v14)) ∧ (((v14 = 0) → (am_CT G d rX6_directionToChoose [.ref p7, .int v11] M13 0 0 (fun oz9 M16 => ∃ v17 : Int32, oz9 = .inl (some (.int v17)) ∧ (hp_T M16 (p7) = 2 ∧ (∀ M19 : am_Hp, M19 = hp_sI M16 21 p7 v17 → (hp_T M19 (a0) = 1 ∧ (am_CT G d rX0_move [.ref a0, .ref p7] M19 0 0 (fun oz9 M21 => oz9 = .inl none ∧ (Q (.inl none) M21))))))))) ∧ (¬ (v14 = 0) → (hp_T M13 (p7) = 2 ∧ (∀ M25 : am_Hp, M25 = hp_sI M13 25 p7 (2 : Int32) → (∀ M27 : am_Hp, M27 = hp_sI M25 26 p7 ((hp_I M25 26 p7) + (1 : Int32)) → (hp_T M27 (a0) = 1 ∧ (∀ M30 : am_Hp, M30 = hp_sI M27 9 a0 ((hp_I M27 9 a0) + (1 : Int32)) → (am_CT G d rX0_letOut [.ref a0, .int a1] M30 0 0 (fun oz9 M33 => oz9 = .inl none ∧ (hp_T M33 (a0) = 1 ∧ (am_CT G d rX0_letIn [.ref a0, .int a1] M33 0 0 (fun oz9 M35 => oz9 = .inl none ∧ (Q (.inl none) M35))))))))))))))))))) ∧ (¬ ((hp_I M 25 p7) ≤ 0) → (∀ M38 : am_Hp, M38 = hp_sI M 25 p7 ((hp_I M 25 p7) - (1 : Int32)) → (Q (.inl none) M38)))))))))))) : am_J X 0 [(0, .ref a0), (1, .int a1)] [] M bc bs := by
  refine j_aload_n hX eX0_act_0 0 rfl ?_
  obtain ⟨t1, h⟩ := h
  obtain ⟨z2, h⟩ := h
  refine j_getR hX eX0_act_1 ff_LiftGroup_Building_11 rfl t1 (by decide) z2 ?_
  refine j_nmR (fun p3 ep3 => ?_)
  replace h := h p3 ep3
  refine j_iload_n hX eX0_act_4 1 rfl ?_
  obtain ⟨t4, h⟩ := h
  obtain ⟨i5, h⟩ := h
  obtain ⟨z6, h⟩ := h
  refine j_aald26 hX eX0_act_5 t4 i5 z6 ?_
  refine j_nmR (fun p7 ep7 => ?_)
  replace h := h p7 ep7
  refine j_astore_n (lv' := [(2, .ref p7), (0, .ref a0), (1, .int a1)]) hX eX0_act_6 rfl (by decide) rfl ?_
  refine j_aload_n hX eX0_act_7 0 rfl ?_
  obtain ⟨t8, h⟩ := h
  refine j_getI hX eX0_act_8 ff_LiftGroup_Building_103 rfl t8 (by decide) ?_
  refine j_if_le hX 25 eX0_act_11 (by decide) (fun c9 => ?_) (fun c9 => ?_)
  · replace h := h.1 c9
    refine j_aload_n hX eX0_act_25 1 rfl ?_
    refine j_iload_n hX eX0_act_26 2 rfl ?_
    refine j_callV (a := a0) (q := (RX0, TX0, 10)) (r' := rX0_stopsOf) (As := [.int a1]) (rest := []) (d1 := d) hX eX0_act_27 mm_LiftGroup_Building_169 rfl t1 (by decide) rfl h rfl (Nat.le_refl _) (Nat.zero_le _) (Nat.zero_le _) (Nat.le_of_ble_eq_true rfl) (fun vz9 Mz9 qz9 => ?_) (fun Ez9 Mz9 qz9 => ?_)
    · obtain ⟨M10, eMz9⟩ : ∃ M10, M10 = Mz9 := ⟨_, rfl⟩; subst eMz9
      obtain ⟨v11, hxz9, h⟩ := qz9
      cases hxz9
      refine j_istore_n (lv' := [(3, .int v11), (2, .ref p7), (0, .ref a0), (1, .int a1)]) hX eX0_act_30 rfl (by decide) rfl ?_
      refine j_iload_n hX eX0_act_31 0 rfl ?_
      refine j_aload_n hX eX0_act_32 1 rfl ?_
      obtain ⟨t12, h⟩ := h
      refine j_getI hX eX0_act_33 ff_LiftGroup_Building_172 rfl t12 (by decide) ?_
      refine j_callSN (r' := rX6_holds) (As := [.int v11, .int (hp_I M10 20 p7)]) (rest := []) (d1 := d) hX eX0_act_36 mm_LiftGroup_Building_175 rfl h rfl (Nat.le_refl _) (Nat.zero_le _) (Nat.zero_le _) (Nat.le_of_ble_eq_true rfl) (fun vz9 Mz9 qz9 => ?_) (fun Ez9 Mz9 qz9 => ?_)
      · obtain ⟨M13, eMz9⟩ : ∃ M13, M13 = Mz9 := ⟨_, rfl⟩; subst eMz9
        obtain ⟨v14, hxz9, h⟩ := qz9
        cases hxz9
        refine j_if_eq hX 78 eX0_act_39 (by decide) (fun c15 => ?_) (fun c15 => ?_)
        · replace h := h.1 c15
          refine j_aload_n hX eX0_act_78 1 rfl ?_
          refine j_aload_n hX eX0_act_79 1 rfl ?_
          refine j_iload_n hX eX0_act_80 0 rfl ?_
          refine j_callSN (r' := rX6_directionToChoose) (As := [.ref p7, .int v11]) (rest := [.ref p7]) (d1 := d) hX eX0_act_81 mm_LiftGroup_Building_188 rfl h rfl (Nat.le_refl _) (Nat.zero_le _) (Nat.zero_le _) (Nat.le_of_ble_eq_true rfl) (fun vz9 Mz9 qz9 => ?_) (fun Ez9 Mz9 qz9 => ?_)
          · obtain ⟨M16, eMz9⟩ : ∃ M16, M16 = Mz9 := ⟨_, rfl⟩; subst eMz9
            obtain ⟨v17, hxz9, h⟩ := qz9
            cases hxz9
            obtain ⟨t18, h⟩ := h
            refine j_putI (ty := .int) hX eX0_act_84 ff_LiftGroup_Building_192 rfl t18 (by decide) pp_1_1 rfl rfl ?_
            refine j_nmM (fun M19 eM19 => ?_)
            replace h := h M19 eM19
            have t20 : hp_T M19 (p7) = 2 := by rw [eM19]; exact t18
            refine j_aload_n hX eX0_act_87 2 rfl ?_
            refine j_aload_n hX eX0_act_88 1 rfl ?_
            obtain ⟨t23, h⟩ := h
            refine j_callV (a := a0) (q := (RX0, TX0, 10)) (r' := rX0_move) (As := [.ref p7]) (rest := []) (d1 := d) hX eX0_act_89 mm_LiftGroup_Building_195 rfl t23 (by decide) rfl h rfl (Nat.le_refl _) (Nat.zero_le _) (Nat.zero_le _) (Nat.le_of_ble_eq_true rfl) (fun vz9 Mz9 qz9 => ?_) (fun Ez9 Mz9 qz9 => ?_)
            · obtain ⟨M21, eMz9⟩ : ∃ M21, M21 = Mz9 := ⟨_, rfl⟩; subst eMz9
              obtain ⟨hxz9, h⟩ := qz9
              cases hxz9
              exact j_vret hX hM eX0_act_92 rfl h
            · obtain ⟨hxz9, h⟩ := qz9
              cases hxz9
          · obtain ⟨v17, hxz9, h⟩ := qz9
            cases hxz9
        · replace h := h.2 c15
          refine j_aload_n hX eX0_act_42 1 rfl ?_
          refine j_iconst (v := (2 : Int32)) hX eX0_act_43 (by decide) ?_
          obtain ⟨t24, h⟩ := h
          refine j_putI (ty := .int) hX eX0_act_44 ff_LiftGroup_Building_103 rfl t24 (by decide) pp_1_5 rfl rfl ?_
          refine j_nmM (fun M25 eM25 => ?_)
          replace h := h M25 eM25
          have t26 : hp_T M25 (p7) = 2 := by rw [eM25]; exact t24
          refine j_aload_n hX eX0_act_47 1 rfl ?_
          refine j_dup hX eX0_act_48 rfl ?_
          refine j_getI hX eX0_act_49 ff_LiftGroup_Building_179 rfl t26 (by decide) ?_
          refine j_iconst (v := (1 : Int32)) hX eX0_act_52 (by decide) ?_
          refine j_iadd hX eX0_act_53 ?_
          refine j_putI (ty := .int) hX eX0_act_54 ff_LiftGroup_Building_179 rfl t26 (by decide) pp_1_6 rfl rfl ?_
          refine j_nmM (fun M27 eM27 => ?_)
          replace h := h M27 eM27
          have t28 : hp_T M27 (p7) = 2 := by rw [eM27]; exact t26
          refine j_aload_n hX eX0_act_57 2 rfl ?_
          refine j_dup hX eX0_act_58 rfl ?_
          obtain ⟨t29, h⟩ := h
          refine j_getI hX eX0_act_59 ff_LiftGroup_Building_49 rfl t29 (by decide) ?_
          refine j_iconst (v := (1 : Int32)) hX eX0_act_62 (by decide) ?_
          refine j_iadd hX eX0_act_63 ?_
          refine j_putI (ty := .int) hX eX0_act_64 ff_LiftGroup_Building_49 rfl t29 (by decide) pp_0_9 rfl rfl ?_
          refine j_nmM (fun M30 eM30 => ?_)
          replace h := h M30 eM30
          have t31 : hp_T M30 (p7) = 2 := by rw [eM30]; exact t28
          have t32 : hp_T M30 (a0) = 1 := by rw [eM30]; exact t29
          refine j_aload_n hX eX0_act_67 2 rfl ?_
          refine j_iload_n hX eX0_act_68 3 rfl ?_
          refine j_callV (a := a0) (q := (RX0, TX0, 10)) (r' := rX0_letOut) (As := [.int a1]) (rest := []) (d1 := d) hX eX0_act_69 mm_LiftGroup_Building_182 rfl t32 (by decide) rfl h rfl (Nat.le_refl _) (Nat.zero_le _) (Nat.zero_le _) (Nat.le_of_ble_eq_true rfl) (fun vz9 Mz9 qz9 => ?_) (fun Ez9 Mz9 qz9 => ?_)
          · obtain ⟨M33, eMz9⟩ : ∃ M33, M33 = Mz9 := ⟨_, rfl⟩; subst eMz9
            obtain ⟨hxz9, h⟩ := qz9
            cases hxz9
            refine j_aload_n hX eX0_act_72 2 rfl ?_
            refine j_iload_n hX eX0_act_73 3 rfl ?_
            obtain ⟨t37, h⟩ := h
            refine j_callV (a := a0) (q := (RX0, TX0, 10)) (r' := rX0_letIn) (As := [.int a1]) (rest := []) (d1 := d) hX eX0_act_74 mm_LiftGroup_Building_185 rfl t37 (by decide) rfl h rfl (Nat.le_refl _) (Nat.zero_le _) (Nat.zero_le _) (Nat.le_of_ble_eq_true rfl) (fun vz9 Mz9 qz9 => ?_) (fun Ez9 Mz9 qz9 => ?_)
            · obtain ⟨M35, eMz9⟩ : ∃ M35, M35 = Mz9 := ⟨_, rfl⟩; subst eMz9
              obtain ⟨hxz9, h⟩ := qz9
              cases hxz9
              exact j_vret hX hM eX0_act_77 rfl h
            · obtain ⟨hxz9, h⟩ := qz9
              cases hxz9
          · obtain ⟨hxz9, h⟩ := qz9
            cases hxz9
      · obtain ⟨v14, hxz9, h⟩ := qz9
        cases hxz9
    · obtain ⟨v11, hxz9, h⟩ := qz9
      cases hxz9
  · replace h := h.2 c9
    refine j_aload_n hX eX0_act_14 0 rfl ?_
    refine j_dup hX eX0_act_15 rfl ?_
    refine j_getI hX eX0_act_16 ff_LiftGroup_Building_103 rfl t8 (by decide) ?_
    refine j_iconst (v := (1 : Int32)) hX eX0_act_19 (by decide) ?_
    refine j_isub hX eX0_act_20 ?_
    refine j_putI (ty := .int) hX eX0_act_21 ff_LiftGroup_Building_103 rfl t8 (by decide) pp_1_5 rfl rfl ?_
    refine j_nmM (fun M38 eM38 => ?_)
    replace h := h M38 eM38
    have t39 : hp_T M38 (a0) = 1 := by rw [eM38]; exact t1
    have t40 : hp_T M38 (p3) = 26 := by rw [eM38]; exact t4
    have t41 : hp_T M38 (p7) = 2 := by rw [eM38]; exact t8
    exact j_vret hX hM eX0_act_24 rfl h

set_option maxHeartbeats 4000000 in
set_option maxRecDepth 20000 in
theorem vX0_letOut_0 {X : am_Cx} {G : am_Gx} {d : Nat} {Q : am_Q} (hX : am_ok X rX0_letOut G (d + 1)) (hM : am_me X rX0_letOut Q) {bc bs : Nat} (R12 : Nat → Int32 → Nat → Int32 → Int32 → am_Hp → Prop) (k12 : ∀ (x0 : Nat) (x1 : Int32) (x2 : Nat) (x3 : Int32) (x4 : Int32) (M : am_Hp), R12 x0 x1 x2 x3 x4 M → am_J X 12 [(0, .ref x0), (1, .int x1), (2, .ref x2), (3, .int x3), (4, .int x4)] [] M bc bs) {a0 : Nat} {a1 : Int32} {M : am_Hp} (h : hp_T M (a0) = 1 ∧ (hp_R M 0 a0 ≠ 0 ∧ (∀ p3 : Nat, p3 = hp_R M 0 a0 → (hp_T M (p3) = 26 ∧ (vp_in a1 (hp_N M p3) ∧ (hp_Q M p3 (a1).toNatClampNeg ≠ 0 ∧ (∀ p7 : Nat, p7 = hp_Q M p3 (a1).toNatClampNeg → (R12 a0 a1 p7 (0 : Int32) (0 : Int32) M)))))))) : am_J X 0 [(0, .ref a0), (1, .int a1)] [] M bc bs := by
  refine j_aload_n hX eX0_letOut_0 0 rfl ?_
  obtain ⟨t1, h⟩ := h
  obtain ⟨z2, h⟩ := h
  refine j_getR hX eX0_letOut_1 ff_LiftGroup_Building_11 rfl t1 (by decide) z2 ?_
  refine j_nmR (fun p3 ep3 => ?_)
  replace h := h p3 ep3
  refine j_iload_n hX eX0_letOut_4 1 rfl ?_
  obtain ⟨t4, h⟩ := h
  obtain ⟨i5, h⟩ := h
  obtain ⟨z6, h⟩ := h
  refine j_aald26 hX eX0_letOut_5 t4 i5 z6 ?_
  refine j_nmR (fun p7 ep7 => ?_)
  replace h := h p7 ep7
  refine j_astore_n (lv' := [(2, .ref p7), (0, .ref a0), (1, .int a1)]) hX eX0_letOut_6 rfl (by decide) rfl ?_
  refine j_iconst (v := (0 : Int32)) hX eX0_letOut_7 (by decide) ?_
  refine j_istore_n (lv' := [(3, .int (0 : Int32)), (2, .ref p7), (0, .ref a0), (1, .int a1)]) hX eX0_letOut_8 rfl (by decide) rfl ?_
  refine j_iconst (v := (0 : Int32)) hX eX0_letOut_9 (by decide) ?_
  refine j_istore (lv' := [(4, .int (0 : Int32)), (3, .int (0 : Int32)), (2, .ref p7), (0, .ref a0), (1, .int a1)]) hX eX0_letOut_10 (by decide) rfl ?_
  exact j_sub [3, 4, 2, 1, 0] rfl (k12 _ _ _ _ _ _ h)
set_option maxHeartbeats 4000000 in
set_option maxRecDepth 20000 in
theorem vX0_letOut_12 {X : am_Cx} {G : am_Gx} {d : Nat} {Q : am_Q} (hX : am_ok X rX0_letOut G (d + 1)) (hM : am_me X rX0_letOut Q) {bc bs : Nat} (R12 : Nat → Int32 → Nat → Int32 → Int32 → am_Hp → Prop) (k12 : ∀ (x0 : Nat) (x1 : Int32) (x2 : Nat) (x3 : Int32) (x4 : Int32) (M : am_Hp), R12 x0 x1 x2 x3 x4 M → am_J X 12 [(0, .ref x0), (1, .int x1), (2, .ref x2), (3, .int x3), (4, .int x4)] [] M bc bs) {a0 : Nat} {a1 : Int32} {a2 : Nat} {a3 : Int32} {a4 : Int32} {M : am_Hp} (h : hp_T M (a0) = 1 ∧ ((((hp_I M 3 a0) ≤ a4) → (∀ M3 : am_Hp, M3 = hp_sI M 3 a0 a3 → (Q (.inl none) M3))) ∧ (¬ ((hp_I M 3 a0) ≤ a4) → (hp_R M 1 a0 ≠ 0 ∧ (∀ p6 : Nat, p6 = hp_R M 1 a0 → (hp_T M (p6) = 27 ∧ (vp_in a4 (hp_N M p6) ∧ (hp_Q M p6 (a4).toNatClampNeg ≠ 0 ∧ (∀ p10 : Nat, p10 = hp_Q M p6 (a4).toNatClampNeg → (hp_T M (p10) = 4 ∧ ((((hp_I M 66 p10) = 0) → (hp_R M 1 a0 ≠ 0 ∧ (∀ p14 : Nat, p14 = hp_R M 1 a0 → (hp_R M 1 a0 ≠ 0 ∧ (∀ p16 : Nat, p16 = hp_R M 1 a0 → (hp_T M (p16) = 27 ∧ (vp_in a3 (hp_N M p16) ∧ (hp_Q M p16 (a3).toNatClampNeg ≠ 0 ∧ (∀ p20 : Nat, p20 = hp_Q M p16 (a3).toNatClampNeg → (hp_T M (p14) = 27 ∧ (hp_T M (p20) = 4 ∧ (p20 ≠ 0 ∧ (vp_in a4 (hp_N M p14) ∧ (∀ M25 : am_Hp, M25 = hp_sQ M p14 (a4).toNatClampNeg p20 → (hp_R M25 1 a0 ≠ 0 ∧ (∀ p33 : Nat, p33 = hp_R M25 1 a0 → (hp_T M25 (p33) = 27 ∧ (p10 ≠ 0 ∧ (vp_in a3 (hp_N M25 p33) ∧ (∀ M37 : am_Hp, M37 = hp_sQ M25 p33 (a3).toNatClampNeg p10 → (∀ v45 : Int32, v45 = a3 + (1 : Int32) → (∀ v46 : Int32, v46 = a4 + (1 : Int32) → (R12 a0 a1 a2 v45 v46 M37))))))))))))))))))))))) ∧ (¬ ((hp_I M 66 p10) = 0) → ((((hp_I M 65 p10) = a1) → (hp_T M (a2) = 2 ∧ ((((hp_I M 62 p10) = (hp_I M 20 a2)) → (∀ M120 : am_Hp, M120 = hp_sI M 23 a2 ((hp_I M 23 a2) - (hp_I M 63 p10)) → (∀ M125 : am_Hp, M125 = hp_sI M120 24 a2 ((hp_I M120 24 a2) - (1 : Int32)) → (hp_R M125 2 a0 ≠ 0 ∧ (∀ p131 : Nat, p131 = hp_R M125 2 a0 → (hp_T M125 (p131) = 6 ∧ (am_CT G d rX5_append [.ref p131, .int (hp_I M125 60 p10), .int a1, .int (hp_I M125 64 p10)] M125 0 0 (fun oz9 M132 => oz9 = .inl none ∧ (∀ v135 : Int32, v135 = a4 + (1 : Int32) → (R12 a0 a1 a2 a3 v135 M132)))))))))) ∧ (¬ ((hp_I M 62 p10) = (hp_I M 20 a2)) → (hp_R M 1 a0 ≠ 0 ∧ (∀ p85 : Nat, p85 = hp_R M 1 a0 → (hp_R M 1 a0 ≠ 0 ∧ (∀ p87 : Nat, p87 = hp_R M 1 a0 → (hp_T M (p87) = 27 ∧ (vp_in a3 (hp_N M p87) ∧ (hp_Q M p87 (a3).toNatClampNeg ≠ 0 ∧ (∀ p91 : Nat, p91 = hp_Q M p87 (a3).toNatClampNeg → (hp_T M (p85) = 27 ∧ (hp_T M (p91) = 4 ∧ (p91 ≠ 0 ∧ (vp_in a4 (hp_N M p85) ∧ (∀ M96 : am_Hp, M96 = hp_sQ M p85 (a4).toNatClampNeg p91 → (hp_R M96 1 a0 ≠ 0 ∧ (∀ p105 : Nat, p105 = hp_R M96 1 a0 → (hp_T M96 (p105) = 27 ∧ (p10 ≠ 0 ∧ (vp_in a3 (hp_N M96 p105) ∧ (∀ M109 : am_Hp, M109 = hp_sQ M96 p105 (a3).toNatClampNeg p10 → (∀ v118 : Int32, v118 = a3 + (1 : Int32) → (∀ v119 : Int32, v119 = a4 + (1 : Int32) → (R12 a0 a1 a2 v118 v119 M109)))))))))))))))))))))))))) ∧ (¬ ((hp_I M 65 p10) = a1) → (hp_R M 1 a0 ≠ 0 ∧ (∀ p49 : Nat, p49 = hp_R M 1 a0 → (hp_R M 1 a0 ≠ 0 ∧ (∀ p51 : Nat, p51 = hp_R M 1 a0 → (hp_T M (p51) = 27 ∧ (vp_in a3 (hp_N M p51) ∧ (hp_Q M p51 (a3).toNatClampNeg ≠ 0 ∧ (∀ p55 : Nat, p55 = hp_Q M p51 (a3).toNatClampNeg → (hp_T M (p49) = 27 ∧ (hp_T M (p55) = 4 ∧ (p55 ≠ 0 ∧ (vp_in a4 (hp_N M p49) ∧ (∀ M60 : am_Hp, M60 = hp_sQ M p49 (a4).toNatClampNeg p55 → (hp_R M60 1 a0 ≠ 0 ∧ (∀ p68 : Nat, p68 = hp_R M60 1 a0 → (hp_T M60 (p68) = 27 ∧ (p10 ≠ 0 ∧ (vp_in a3 (hp_N M60 p68) ∧ (∀ M72 : am_Hp, M72 = hp_sQ M60 p68 (a3).toNatClampNeg p10 → (∀ v80 : Int32, v80 = a3 + (1 : Int32) → (∀ v81 : Int32, v81 = a4 + (1 : Int32) → (R12 a0 a1 a2 v80 v81 M72)))))))))))))))))))))))))))))))))))) : am_J X 12 [(0, .ref a0), (1, .int a1), (2, .ref a2), (3, .int a3), (4, .int a4)] [] M bc bs := by
  refine j_iload hX eX0_letOut_12 4 rfl ?_
  refine j_aload_n hX eX0_letOut_14 0 rfl ?_
  obtain ⟨t1, h⟩ := h
  refine j_getI hX eX0_letOut_15 ff_LiftGroup_Building_30 rfl t1 (by decide) ?_
  refine j_icmp_ge hX 134 eX0_letOut_18 (by decide) (fun c2 => ?_) (fun c2 => ?_)
  · replace h := h.1 c2
    refine j_aload_n hX eX0_letOut_134 0 rfl ?_
    refine j_iload_n hX eX0_letOut_135 3 rfl ?_
    refine j_putI (ty := .int) hX eX0_letOut_136 ff_LiftGroup_Building_30 rfl t1 (by decide) pp_0_3 rfl rfl ?_
    refine j_nmM (fun M3 eM3 => ?_)
    replace h := h M3 eM3
    have t4 : hp_T M3 (a0) = 1 := by rw [eM3]; exact t1
    exact j_vret hX hM eX0_letOut_139 rfl h
  · replace h := h.2 c2
    refine j_aload_n hX eX0_letOut_21 0 rfl ?_
    obtain ⟨z5, h⟩ := h
    refine j_getR hX eX0_letOut_22 ff_LiftGroup_Building_19 rfl t1 (by decide) z5 ?_
    refine j_nmR (fun p6 ep6 => ?_)
    replace h := h p6 ep6
    refine j_iload hX eX0_letOut_25 4 rfl ?_
    obtain ⟨t7, h⟩ := h
    obtain ⟨i8, h⟩ := h
    obtain ⟨z9, h⟩ := h
    refine j_aald27 hX eX0_letOut_27 t7 i8 z9 ?_
    refine j_nmR (fun p10 ep10 => ?_)
    replace h := h p10 ep10
    refine j_astore (lv' := [(5, .ref p10), (0, .ref a0), (1, .int a1), (2, .ref a2), (3, .int a3), (4, .int a4)]) hX eX0_letOut_28 (by decide) rfl ?_
    refine j_aload hX eX0_letOut_30 0 rfl ?_
    obtain ⟨t11, h⟩ := h
    refine j_getI hX eX0_letOut_32 ff_LiftGroup_Building_86 rfl t11 (by decide) ?_
    refine j_if_eq hX 104 eX0_letOut_35 (by decide) (fun c12 => ?_) (fun c12 => ?_)
    · replace h := h.1 c12
      refine j_aload_n hX eX0_letOut_104 1 rfl ?_
      obtain ⟨z13, h⟩ := h
      refine j_getR hX eX0_letOut_105 ff_LiftGroup_Building_19 rfl t1 (by decide) z13 ?_
      refine j_nmR (fun p14 ep14 => ?_)
      replace h := h p14 ep14
      refine j_iload hX eX0_letOut_108 5 rfl ?_
      refine j_aload_n hX eX0_letOut_110 1 rfl ?_
      obtain ⟨z15, h⟩ := h
      refine j_getR hX eX0_letOut_111 ff_LiftGroup_Building_19 rfl t1 (by decide) z15 ?_
      refine j_nmR (fun p16 ep16 => ?_)
      replace h := h p16 ep16
      refine j_iload_n hX eX0_letOut_114 4 rfl ?_
      obtain ⟨t17, h⟩ := h
      obtain ⟨i18, h⟩ := h
      obtain ⟨z19, h⟩ := h
      refine j_aald27 hX eX0_letOut_115 t17 i18 z19 ?_
      refine j_nmR (fun p20 ep20 => ?_)
      replace h := h p20 ep20
      obtain ⟨t21, h⟩ := h
      obtain ⟨t22, h⟩ := h
      obtain ⟨z23, h⟩ := h
      obtain ⟨i24, h⟩ := h
      refine j_aast27 hX eX0_letOut_116 t21 t22 z23 i24 ?_
      refine j_nmM (fun M25 eM25 => ?_)
      replace h := h M25 eM25
      have t26 : hp_T M25 (a0) = 1 := by rw [eM25]; exact t1
      have t27 : hp_T M25 (p6) = 27 := by rw [eM25]; exact t7
      have t28 : hp_T M25 (p10) = 4 := by rw [eM25]; exact t11
      have t29 : hp_T M25 (p16) = 27 := by rw [eM25]; exact t17
      have t30 : hp_T M25 (p14) = 27 := by rw [eM25]; exact t21
      have t31 : hp_T M25 (p20) = 4 := by rw [eM25]; exact t22
      refine j_aload_n hX eX0_letOut_117 1 rfl ?_
      obtain ⟨z32, h⟩ := h
      refine j_getR hX eX0_letOut_118 ff_LiftGroup_Building_19 rfl t26 (by decide) z32 ?_
      refine j_nmR (fun p33 ep33 => ?_)
      replace h := h p33 ep33
      refine j_iload_n hX eX0_letOut_121 4 rfl ?_
      refine j_aload hX eX0_letOut_122 0 rfl ?_
      obtain ⟨t34, h⟩ := h
      obtain ⟨z35, h⟩ := h
      obtain ⟨i36, h⟩ := h
      refine j_aast27 hX eX0_letOut_124 t34 t28 z35 i36 ?_
      refine j_nmM (fun M37 eM37 => ?_)
      replace h := h M37 eM37
      have t38 : hp_T M37 (a0) = 1 := by rw [eM37]; exact t26
      have t39 : hp_T M37 (p6) = 27 := by rw [eM37]; exact t27
      have t40 : hp_T M37 (p10) = 4 := by rw [eM37]; exact t28
      have t41 : hp_T M37 (p16) = 27 := by rw [eM37]; exact t29
      have t42 : hp_T M37 (p14) = 27 := by rw [eM37]; exact t30
      have t43 : hp_T M37 (p20) = 4 := by rw [eM37]; exact t31
      have t44 : hp_T M37 (p33) = 27 := by rw [eM37]; exact t34
      obtain ⟨v45, ev45⟩ : ∃ v45 : Int32, v45 = a3 + (1 : Int32) := ⟨_, rfl⟩
      replace h := h v45 ev45
      refine j_iinc (v := v45) (lv' := [(3, .int v45), (5, .ref p10), (0, .ref a0), (1, .int a1), (2, .ref a2), (4, .int a4)]) hX eX0_letOut_125 4 rfl (by rw [ev45]; rfl) (by decide) rfl ?_
      obtain ⟨v46, ev46⟩ : ∃ v46 : Int32, v46 = a4 + (1 : Int32) := ⟨_, rfl⟩
      replace h := h v46 ev46
      refine j_iinc (v := v46) (lv' := [(4, .int v46), (3, .int v45), (5, .ref p10), (0, .ref a0), (1, .int a1), (2, .ref a2)]) hX eX0_letOut_128 5 rfl (by rw [ev46]; rfl) (by decide) rfl ?_
      refine j_goto hX 12 eX0_letOut_131 (by decide) ?_
      exact j_sub [3, 4, 5, 1, 0] rfl (k12 _ _ _ _ _ _ h)
    · replace h := h.2 c12
      refine j_aload hX eX0_letOut_38 0 rfl ?_
      refine j_getI hX eX0_letOut_40 ff_LiftGroup_Building_94 rfl t11 (by decide) ?_
      refine j_iload_n hX eX0_letOut_43 2 rfl ?_
      refine j_icmp_ne hX 104 eX0_letOut_44 (by decide) (fun c47 => ?_) (fun c47 => ?_)
      · replace h := h.2 c47
        refine j_aload_n hX eX0_letOut_104 1 rfl ?_
        obtain ⟨z48, h⟩ := h
        refine j_getR hX eX0_letOut_105 ff_LiftGroup_Building_19 rfl t1 (by decide) z48 ?_
        refine j_nmR (fun p49 ep49 => ?_)
        replace h := h p49 ep49
        refine j_iload hX eX0_letOut_108 5 rfl ?_
        refine j_aload_n hX eX0_letOut_110 1 rfl ?_
        obtain ⟨z50, h⟩ := h
        refine j_getR hX eX0_letOut_111 ff_LiftGroup_Building_19 rfl t1 (by decide) z50 ?_
        refine j_nmR (fun p51 ep51 => ?_)
        replace h := h p51 ep51
        refine j_iload_n hX eX0_letOut_114 4 rfl ?_
        obtain ⟨t52, h⟩ := h
        obtain ⟨i53, h⟩ := h
        obtain ⟨z54, h⟩ := h
        refine j_aald27 hX eX0_letOut_115 t52 i53 z54 ?_
        refine j_nmR (fun p55 ep55 => ?_)
        replace h := h p55 ep55
        obtain ⟨t56, h⟩ := h
        obtain ⟨t57, h⟩ := h
        obtain ⟨z58, h⟩ := h
        obtain ⟨i59, h⟩ := h
        refine j_aast27 hX eX0_letOut_116 t56 t57 z58 i59 ?_
        refine j_nmM (fun M60 eM60 => ?_)
        replace h := h M60 eM60
        have t61 : hp_T M60 (a0) = 1 := by rw [eM60]; exact t1
        have t62 : hp_T M60 (p6) = 27 := by rw [eM60]; exact t7
        have t63 : hp_T M60 (p10) = 4 := by rw [eM60]; exact t11
        have t64 : hp_T M60 (p51) = 27 := by rw [eM60]; exact t52
        have t65 : hp_T M60 (p49) = 27 := by rw [eM60]; exact t56
        have t66 : hp_T M60 (p55) = 4 := by rw [eM60]; exact t57
        refine j_aload_n hX eX0_letOut_117 1 rfl ?_
        obtain ⟨z67, h⟩ := h
        refine j_getR hX eX0_letOut_118 ff_LiftGroup_Building_19 rfl t61 (by decide) z67 ?_
        refine j_nmR (fun p68 ep68 => ?_)
        replace h := h p68 ep68
        refine j_iload_n hX eX0_letOut_121 4 rfl ?_
        refine j_aload hX eX0_letOut_122 0 rfl ?_
        obtain ⟨t69, h⟩ := h
        obtain ⟨z70, h⟩ := h
        obtain ⟨i71, h⟩ := h
        refine j_aast27 hX eX0_letOut_124 t69 t63 z70 i71 ?_
        refine j_nmM (fun M72 eM72 => ?_)
        replace h := h M72 eM72
        have t73 : hp_T M72 (a0) = 1 := by rw [eM72]; exact t61
        have t74 : hp_T M72 (p6) = 27 := by rw [eM72]; exact t62
        have t75 : hp_T M72 (p10) = 4 := by rw [eM72]; exact t63
        have t76 : hp_T M72 (p51) = 27 := by rw [eM72]; exact t64
        have t77 : hp_T M72 (p49) = 27 := by rw [eM72]; exact t65
        have t78 : hp_T M72 (p55) = 4 := by rw [eM72]; exact t66
        have t79 : hp_T M72 (p68) = 27 := by rw [eM72]; exact t69
        obtain ⟨v80, ev80⟩ : ∃ v80 : Int32, v80 = a3 + (1 : Int32) := ⟨_, rfl⟩
        replace h := h v80 ev80
        refine j_iinc (v := v80) (lv' := [(3, .int v80), (5, .ref p10), (0, .ref a0), (1, .int a1), (2, .ref a2), (4, .int a4)]) hX eX0_letOut_125 4 rfl (by rw [ev80]; rfl) (by decide) rfl ?_
        obtain ⟨v81, ev81⟩ : ∃ v81 : Int32, v81 = a4 + (1 : Int32) := ⟨_, rfl⟩
        replace h := h v81 ev81
        refine j_iinc (v := v81) (lv' := [(4, .int v81), (3, .int v80), (5, .ref p10), (0, .ref a0), (1, .int a1), (2, .ref a2)]) hX eX0_letOut_128 5 rfl (by rw [ev81]; rfl) (by decide) rfl ?_
        refine j_goto hX 12 eX0_letOut_131 (by decide) ?_
        exact j_sub [3, 4, 5, 1, 0] rfl (k12 _ _ _ _ _ _ h)
      · replace h := h.1 c47
        refine j_aload hX eX0_letOut_47 0 rfl ?_
        refine j_getI hX eX0_letOut_49 ff_LiftGroup_Building_77 rfl t11 (by decide) ?_
        refine j_aload_n hX eX0_letOut_52 3 rfl ?_
        obtain ⟨t82, h⟩ := h
        refine j_getI hX eX0_letOut_53 ff_LiftGroup_Building_172 rfl t82 (by decide) ?_
        refine j_icmp_ne hX 104 eX0_letOut_56 (by decide) (fun c83 => ?_) (fun c83 => ?_)
        · replace h := h.2 c83
          refine j_aload_n hX eX0_letOut_104 1 rfl ?_
          obtain ⟨z84, h⟩ := h
          refine j_getR hX eX0_letOut_105 ff_LiftGroup_Building_19 rfl t1 (by decide) z84 ?_
          refine j_nmR (fun p85 ep85 => ?_)
          replace h := h p85 ep85
          refine j_iload hX eX0_letOut_108 5 rfl ?_
          refine j_aload_n hX eX0_letOut_110 1 rfl ?_
          obtain ⟨z86, h⟩ := h
          refine j_getR hX eX0_letOut_111 ff_LiftGroup_Building_19 rfl t1 (by decide) z86 ?_
          refine j_nmR (fun p87 ep87 => ?_)
          replace h := h p87 ep87
          refine j_iload_n hX eX0_letOut_114 4 rfl ?_
          obtain ⟨t88, h⟩ := h
          obtain ⟨i89, h⟩ := h
          obtain ⟨z90, h⟩ := h
          refine j_aald27 hX eX0_letOut_115 t88 i89 z90 ?_
          refine j_nmR (fun p91 ep91 => ?_)
          replace h := h p91 ep91
          obtain ⟨t92, h⟩ := h
          obtain ⟨t93, h⟩ := h
          obtain ⟨z94, h⟩ := h
          obtain ⟨i95, h⟩ := h
          refine j_aast27 hX eX0_letOut_116 t92 t93 z94 i95 ?_
          refine j_nmM (fun M96 eM96 => ?_)
          replace h := h M96 eM96
          have t97 : hp_T M96 (a0) = 1 := by rw [eM96]; exact t1
          have t98 : hp_T M96 (p6) = 27 := by rw [eM96]; exact t7
          have t99 : hp_T M96 (p10) = 4 := by rw [eM96]; exact t11
          have t100 : hp_T M96 (a2) = 2 := by rw [eM96]; exact t82
          have t101 : hp_T M96 (p87) = 27 := by rw [eM96]; exact t88
          have t102 : hp_T M96 (p85) = 27 := by rw [eM96]; exact t92
          have t103 : hp_T M96 (p91) = 4 := by rw [eM96]; exact t93
          refine j_aload_n hX eX0_letOut_117 1 rfl ?_
          obtain ⟨z104, h⟩ := h
          refine j_getR hX eX0_letOut_118 ff_LiftGroup_Building_19 rfl t97 (by decide) z104 ?_
          refine j_nmR (fun p105 ep105 => ?_)
          replace h := h p105 ep105
          refine j_iload_n hX eX0_letOut_121 4 rfl ?_
          refine j_aload hX eX0_letOut_122 0 rfl ?_
          obtain ⟨t106, h⟩ := h
          obtain ⟨z107, h⟩ := h
          obtain ⟨i108, h⟩ := h
          refine j_aast27 hX eX0_letOut_124 t106 t99 z107 i108 ?_
          refine j_nmM (fun M109 eM109 => ?_)
          replace h := h M109 eM109
          have t110 : hp_T M109 (a0) = 1 := by rw [eM109]; exact t97
          have t111 : hp_T M109 (p6) = 27 := by rw [eM109]; exact t98
          have t112 : hp_T M109 (p10) = 4 := by rw [eM109]; exact t99
          have t113 : hp_T M109 (a2) = 2 := by rw [eM109]; exact t100
          have t114 : hp_T M109 (p87) = 27 := by rw [eM109]; exact t101
          have t115 : hp_T M109 (p85) = 27 := by rw [eM109]; exact t102
          have t116 : hp_T M109 (p91) = 4 := by rw [eM109]; exact t103
          have t117 : hp_T M109 (p105) = 27 := by rw [eM109]; exact t106
          obtain ⟨v118, ev118⟩ : ∃ v118 : Int32, v118 = a3 + (1 : Int32) := ⟨_, rfl⟩
          replace h := h v118 ev118
          refine j_iinc (v := v118) (lv' := [(3, .int v118), (5, .ref p10), (0, .ref a0), (1, .int a1), (2, .ref a2), (4, .int a4)]) hX eX0_letOut_125 4 rfl (by rw [ev118]; rfl) (by decide) rfl ?_
          obtain ⟨v119, ev119⟩ : ∃ v119 : Int32, v119 = a4 + (1 : Int32) := ⟨_, rfl⟩
          replace h := h v119 ev119
          refine j_iinc (v := v119) (lv' := [(4, .int v119), (3, .int v118), (5, .ref p10), (0, .ref a0), (1, .int a1), (2, .ref a2)]) hX eX0_letOut_128 5 rfl (by rw [ev119]; rfl) (by decide) rfl ?_
          refine j_goto hX 12 eX0_letOut_131 (by decide) ?_
          exact j_sub [3, 4, 5, 1, 0] rfl (k12 _ _ _ _ _ _ h)
        · replace h := h.1 c83
          refine j_aload_n hX eX0_letOut_59 3 rfl ?_
          refine j_dup hX eX0_letOut_60 rfl ?_
          refine j_getI hX eX0_letOut_61 ff_LiftGroup_Building_109 rfl t82 (by decide) ?_
          refine j_aload hX eX0_letOut_64 0 rfl ?_
          refine j_getI hX eX0_letOut_66 ff_LiftGroup_Building_80 rfl t11 (by decide) ?_
          refine j_isub hX eX0_letOut_69 ?_
          refine j_putI (ty := .int) hX eX0_letOut_70 ff_LiftGroup_Building_109 rfl t82 (by decide) pp_1_3 rfl rfl ?_
          refine j_nmM (fun M120 eM120 => ?_)
          replace h := h M120 eM120
          have t121 : hp_T M120 (a0) = 1 := by rw [eM120]; exact t1
          have t122 : hp_T M120 (p6) = 27 := by rw [eM120]; exact t7
          have t123 : hp_T M120 (p10) = 4 := by rw [eM120]; exact t11
          have t124 : hp_T M120 (a2) = 2 := by rw [eM120]; exact t82
          refine j_aload_n hX eX0_letOut_73 3 rfl ?_
          refine j_dup hX eX0_letOut_74 rfl ?_
          refine j_getI hX eX0_letOut_75 ff_LiftGroup_Building_198 rfl t124 (by decide) ?_
          refine j_iconst (v := (1 : Int32)) hX eX0_letOut_78 (by decide) ?_
          refine j_isub hX eX0_letOut_79 ?_
          refine j_putI (ty := .int) hX eX0_letOut_80 ff_LiftGroup_Building_198 rfl t124 (by decide) pp_1_4 rfl rfl ?_
          refine j_nmM (fun M125 eM125 => ?_)
          replace h := h M125 eM125
          have t126 : hp_T M125 (a0) = 1 := by rw [eM125]; exact t121
          have t127 : hp_T M125 (p6) = 27 := by rw [eM125]; exact t122
          have t128 : hp_T M125 (p10) = 4 := by rw [eM125]; exact t123
          have t129 : hp_T M125 (a2) = 2 := by rw [eM125]; exact t124
          refine j_aload_n hX eX0_letOut_83 1 rfl ?_
          obtain ⟨z130, h⟩ := h
          refine j_getR hX eX0_letOut_84 ff_LiftGroup_Building_26 rfl t126 (by decide) z130 ?_
          refine j_nmR (fun p131 ep131 => ?_)
          replace h := h p131 ep131
          refine j_aload hX eX0_letOut_87 0 rfl ?_
          refine j_getI hX eX0_letOut_89 ff_LiftGroup_Building_71 rfl t128 (by decide) ?_
          refine j_iload_n hX eX0_letOut_92 2 rfl ?_
          refine j_aload hX eX0_letOut_93 0 rfl ?_
          refine j_getI hX eX0_letOut_95 ff_LiftGroup_Building_83 rfl t128 (by decide) ?_
          obtain ⟨t134, h⟩ := h
          refine j_callV (a := p131) (q := (RX5, TX5, 5)) (r' := rX5_append) (As := [.int (hp_I M125 60 p10), .int a1, .int (hp_I M125 64 p10)]) (rest := []) (d1 := d) hX eX0_letOut_98 mm_LiftGroup_Building_201 rfl t134 (by decide) rfl h rfl (Nat.le_refl _) (Nat.zero_le _) (Nat.zero_le _) (Nat.le_of_ble_eq_true rfl) (fun vz9 Mz9 qz9 => ?_) (fun Ez9 Mz9 qz9 => ?_)
          · obtain ⟨M132, eMz9⟩ : ∃ M132, M132 = Mz9 := ⟨_, rfl⟩; subst eMz9
            obtain ⟨hxz9, h⟩ := qz9
            cases hxz9
            refine j_goto hX 128 eX0_letOut_101 (by decide) ?_
            obtain ⟨v135, ev135⟩ : ∃ v135 : Int32, v135 = a4 + (1 : Int32) := ⟨_, rfl⟩
            replace h := h v135 ev135
            refine j_iinc (v := v135) (lv' := [(4, .int v135), (5, .ref p10), (0, .ref a0), (1, .int a1), (2, .ref a2), (3, .int a3)]) hX eX0_letOut_128 5 rfl (by rw [ev135]; rfl) (by decide) rfl ?_
            refine j_goto hX 12 eX0_letOut_131 (by decide) ?_
            exact j_sub [2, 3, 4, 5, 0] rfl (k12 _ _ _ _ _ _ h)
          · obtain ⟨hxz9, h⟩ := qz9
            cases hxz9

set_option maxHeartbeats 4000000 in
set_option maxRecDepth 20000 in
theorem vX0_letIn_0 {X : am_Cx} {G : am_Gx} {d : Nat} {Q : am_Q} (hX : am_ok X rX0_letIn G (d + 1)) (hM : am_me X rX0_letIn Q) {bc bs : Nat} (R9 : Nat → Int32 → Nat → Int32 → am_Hp → Prop) (k9 : ∀ (x0 : Nat) (x1 : Int32) (x2 : Nat) (x3 : Int32) (M : am_Hp), R9 x0 x1 x2 x3 M → am_J X 9 [(0, .ref x0), (1, .int x1), (2, .ref x2), (3, .int x3)] [] M bc bs) {a0 : Nat} {a1 : Int32} {M : am_Hp} (h : hp_T M (a0) = 1 ∧ (hp_R M 0 a0 ≠ 0 ∧ (∀ p3 : Nat, p3 = hp_R M 0 a0 → (hp_T M (p3) = 26 ∧ (vp_in a1 (hp_N M p3) ∧ (hp_Q M p3 (a1).toNatClampNeg ≠ 0 ∧ (∀ p7 : Nat, p7 = hp_Q M p3 (a1).toNatClampNeg → (R9 a0 a1 p7 (0 : Int32) M)))))))) : am_J X 0 [(0, .ref a0), (1, .int a1)] [] M bc bs := by
  refine j_aload_n hX eX0_letIn_0 0 rfl ?_
  obtain ⟨t1, h⟩ := h
  obtain ⟨z2, h⟩ := h
  refine j_getR hX eX0_letIn_1 ff_LiftGroup_Building_11 rfl t1 (by decide) z2 ?_
  refine j_nmR (fun p3 ep3 => ?_)
  replace h := h p3 ep3
  refine j_iload_n hX eX0_letIn_4 1 rfl ?_
  obtain ⟨t4, h⟩ := h
  obtain ⟨i5, h⟩ := h
  obtain ⟨z6, h⟩ := h
  refine j_aald26 hX eX0_letIn_5 t4 i5 z6 ?_
  refine j_nmR (fun p7 ep7 => ?_)
  replace h := h p7 ep7
  refine j_astore_n (lv' := [(2, .ref p7), (0, .ref a0), (1, .int a1)]) hX eX0_letIn_6 rfl (by decide) rfl ?_
  refine j_iconst (v := (0 : Int32)) hX eX0_letIn_7 (by decide) ?_
  refine j_istore_n (lv' := [(3, .int (0 : Int32)), (2, .ref p7), (0, .ref a0), (1, .int a1)]) hX eX0_letIn_8 rfl (by decide) rfl ?_
  exact j_sub [2, 3, 1, 0] rfl (k9 _ _ _ _ _ h)
set_option maxHeartbeats 4000000 in
set_option maxRecDepth 20000 in
theorem vX0_letIn_9 {X : am_Cx} {G : am_Gx} {d : Nat} {Q : am_Q} (hX : am_ok X rX0_letIn G (d + 1)) (hM : am_me X rX0_letIn Q) {bc bs : Nat} (R9 : Nat → Int32 → Nat → Int32 → am_Hp → Prop) (k9 : ∀ (x0 : Nat) (x1 : Int32) (x2 : Nat) (x3 : Int32) (M : am_Hp), R9 x0 x1 x2 x3 M → am_J X 9 [(0, .ref x0), (1, .int x1), (2, .ref x2), (3, .int x3)] [] M bc bs) {a0 : Nat} {a1 : Int32} {a2 : Nat} {a3 : Int32} {M : am_Hp} (h : hp_T M (a0) = 1 ∧ ((((hp_I M 3 a0) ≤ a3) → (Q (.inl none) M)) ∧ (¬ ((hp_I M 3 a0) ≤ a3) → (hp_R M 1 a0 ≠ 0 ∧ (∀ p4 : Nat, p4 = hp_R M 1 a0 → (hp_T M (p4) = 27 ∧ (vp_in a3 (hp_N M p4) ∧ (hp_Q M p4 (a3).toNatClampNeg ≠ 0 ∧ (∀ p8 : Nat, p8 = hp_Q M p4 (a3).toNatClampNeg → (hp_T M (p8) = 4 ∧ ((((hp_I M 66 p8) = 0) → ((((hp_I M 65 p8) = a1) → (hp_T M (a2) = 2 ∧ ((((hp_I M 61 p8) = (hp_I M 20 a2)) → ((((hp_I M 22 a2) < ((hp_I M 23 a2) + (hp_I M 63 p8))) → (∀ M17 : am_Hp, M17 = hp_sI M 65 p8 (-1 : Int32) → (∀ v22 : Int32, v22 = a3 + (1 : Int32) → (R9 a0 a1 a2 v22 M17)))) ∧ (¬ ((hp_I M 22 a2) < ((hp_I M 23 a2) + (hp_I M 63 p8))) → (am_bo (1 : Int32) ∧ (∀ M24 : am_Hp, M24 = hp_sI M 66 p8 (1 : Int32) → (∀ M29 : am_Hp, M29 = hp_sI M24 23 a2 ((hp_I M24 23 a2) + (hp_I M24 63 p8)) → (∀ M34 : am_Hp, M34 = hp_sI M29 24 a2 ((hp_I M29 24 a2) + (1 : Int32)) → (∀ v39 : Int32, v39 = a3 + (1 : Int32) → (R9 a0 a1 a2 v39 M34))))))))) ∧ (¬ ((hp_I M 61 p8) = (hp_I M 20 a2)) → (∀ v40 : Int32, v40 = a3 + (1 : Int32) → (R9 a0 a1 a2 v40 M)))))) ∧ (¬ ((hp_I M 65 p8) = a1) → (∀ v13 : Int32, v13 = a3 + (1 : Int32) → (R9 a0 a1 a2 v13 M))))) ∧ (¬ ((hp_I M 66 p8) = 0) → (∀ v11 : Int32, v11 = a3 + (1 : Int32) → (R9 a0 a1 a2 v11 M)))))))))))))) : am_J X 9 [(0, .ref a0), (1, .int a1), (2, .ref a2), (3, .int a3)] [] M bc bs := by
  refine j_iload_n hX eX0_letIn_9 3 rfl ?_
  refine j_aload_n hX eX0_letIn_10 0 rfl ?_
  obtain ⟨t1, h⟩ := h
  refine j_getI hX eX0_letIn_11 ff_LiftGroup_Building_30 rfl t1 (by decide) ?_
  refine j_icmp_ge hX 119 eX0_letIn_14 (by decide) (fun c2 => ?_) (fun c2 => ?_)
  · replace h := h.1 c2
    exact j_vret hX hM eX0_letIn_119 rfl h
  · replace h := h.2 c2
    refine j_aload_n hX eX0_letIn_17 0 rfl ?_
    obtain ⟨z3, h⟩ := h
    refine j_getR hX eX0_letIn_18 ff_LiftGroup_Building_19 rfl t1 (by decide) z3 ?_
    refine j_nmR (fun p4 ep4 => ?_)
    replace h := h p4 ep4
    refine j_iload_n hX eX0_letIn_21 3 rfl ?_
    obtain ⟨t5, h⟩ := h
    obtain ⟨i6, h⟩ := h
    obtain ⟨z7, h⟩ := h
    refine j_aald27 hX eX0_letIn_22 t5 i6 z7 ?_
    refine j_nmR (fun p8 ep8 => ?_)
    replace h := h p8 ep8
    refine j_astore (lv' := [(4, .ref p8), (0, .ref a0), (1, .int a1), (2, .ref a2), (3, .int a3)]) hX eX0_letIn_23 (by decide) rfl ?_
    refine j_aload hX eX0_letIn_25 0 rfl ?_
    obtain ⟨t9, h⟩ := h
    refine j_getI hX eX0_letIn_27 ff_LiftGroup_Building_86 rfl t9 (by decide) ?_
    refine j_if_ne hX 113 eX0_letIn_30 (by decide) (fun c10 => ?_) (fun c10 => ?_)
    · replace h := h.2 c10
      obtain ⟨v11, ev11⟩ : ∃ v11 : Int32, v11 = a3 + (1 : Int32) := ⟨_, rfl⟩
      replace h := h v11 ev11
      refine j_iinc (v := v11) (lv' := [(3, .int v11), (4, .ref p8), (0, .ref a0), (1, .int a1), (2, .ref a2)]) hX eX0_letIn_113 4 rfl (by rw [ev11]; rfl) (by decide) rfl ?_
      refine j_goto hX 9 eX0_letIn_116 (by decide) ?_
      exact j_sub [2, 3, 4, 0] rfl (k9 _ _ _ _ _ h)
    · replace h := h.1 c10
      refine j_aload hX eX0_letIn_33 0 rfl ?_
      refine j_getI hX eX0_letIn_35 ff_LiftGroup_Building_94 rfl t9 (by decide) ?_
      refine j_iload_n hX eX0_letIn_38 2 rfl ?_
      refine j_icmp_ne hX 113 eX0_letIn_39 (by decide) (fun c12 => ?_) (fun c12 => ?_)
      · replace h := h.2 c12
        obtain ⟨v13, ev13⟩ : ∃ v13 : Int32, v13 = a3 + (1 : Int32) := ⟨_, rfl⟩
        replace h := h v13 ev13
        refine j_iinc (v := v13) (lv' := [(3, .int v13), (4, .ref p8), (0, .ref a0), (1, .int a1), (2, .ref a2)]) hX eX0_letIn_113 4 rfl (by rw [ev13]; rfl) (by decide) rfl ?_
        refine j_goto hX 9 eX0_letIn_116 (by decide) ?_
        exact j_sub [2, 3, 4, 0] rfl (k9 _ _ _ _ _ h)
      · replace h := h.1 c12
        refine j_aload hX eX0_letIn_42 0 rfl ?_
        refine j_getI hX eX0_letIn_44 ff_LiftGroup_Building_74 rfl t9 (by decide) ?_
        refine j_aload_n hX eX0_letIn_47 3 rfl ?_
        obtain ⟨t14, h⟩ := h
        refine j_getI hX eX0_letIn_48 ff_LiftGroup_Building_172 rfl t14 (by decide) ?_
        refine j_icmp_eq hX 57 eX0_letIn_51 (by decide) (fun c15 => ?_) (fun c15 => ?_)
        · replace h := h.1 c15
          refine j_aload_n hX eX0_letIn_57 3 rfl ?_
          refine j_getI hX eX0_letIn_58 ff_LiftGroup_Building_109 rfl t14 (by decide) ?_
          refine j_aload hX eX0_letIn_61 0 rfl ?_
          refine j_getI hX eX0_letIn_63 ff_LiftGroup_Building_80 rfl t9 (by decide) ?_
          refine j_iadd hX eX0_letIn_66 ?_
          refine j_aload_n hX eX0_letIn_67 3 rfl ?_
          refine j_getI hX eX0_letIn_68 ff_LiftGroup_Building_112 rfl t14 (by decide) ?_
          refine j_icmp_gt hX 107 eX0_letIn_71 (by decide) (fun c16 => ?_) (fun c16 => ?_)
          · replace h := h.1 c16
            refine j_aload hX eX0_letIn_107 0 rfl ?_
            refine j_iconst (v := (-1 : Int32)) hX eX0_letIn_109 (by decide) ?_
            refine j_putI (ty := .int) hX eX0_letIn_110 ff_LiftGroup_Building_94 rfl t9 (by decide) pp_3_5 rfl rfl ?_
            refine j_nmM (fun M17 eM17 => ?_)
            replace h := h M17 eM17
            have t18 : hp_T M17 (a0) = 1 := by rw [eM17]; exact t1
            have t19 : hp_T M17 (p4) = 27 := by rw [eM17]; exact t5
            have t20 : hp_T M17 (p8) = 4 := by rw [eM17]; exact t9
            have t21 : hp_T M17 (a2) = 2 := by rw [eM17]; exact t14
            obtain ⟨v22, ev22⟩ : ∃ v22 : Int32, v22 = a3 + (1 : Int32) := ⟨_, rfl⟩
            replace h := h v22 ev22
            refine j_iinc (v := v22) (lv' := [(3, .int v22), (4, .ref p8), (0, .ref a0), (1, .int a1), (2, .ref a2)]) hX eX0_letIn_113 4 rfl (by rw [ev22]; rfl) (by decide) rfl ?_
            refine j_goto hX 9 eX0_letIn_116 (by decide) ?_
            exact j_sub [2, 3, 4, 0] rfl (k9 _ _ _ _ _ h)
          · replace h := h.2 c16
            refine j_aload hX eX0_letIn_74 0 rfl ?_
            refine j_iconst (v := (1 : Int32)) hX eX0_letIn_76 (by decide) ?_
            obtain ⟨b23, h⟩ := h
            refine j_putI (ty := .boolean) hX eX0_letIn_77 ff_LiftGroup_Building_86 rfl t9 (by decide) pp_3_6 (am_bo_n b23) (am_bo_f b23) ?_
            refine j_nmM (fun M24 eM24 => ?_)
            replace h := h M24 eM24
            have t25 : hp_T M24 (a0) = 1 := by rw [eM24]; exact t1
            have t26 : hp_T M24 (p4) = 27 := by rw [eM24]; exact t5
            have t27 : hp_T M24 (p8) = 4 := by rw [eM24]; exact t9
            have t28 : hp_T M24 (a2) = 2 := by rw [eM24]; exact t14
            refine j_aload_n hX eX0_letIn_80 3 rfl ?_
            refine j_dup hX eX0_letIn_81 rfl ?_
            refine j_getI hX eX0_letIn_82 ff_LiftGroup_Building_109 rfl t28 (by decide) ?_
            refine j_aload hX eX0_letIn_85 0 rfl ?_
            refine j_getI hX eX0_letIn_87 ff_LiftGroup_Building_80 rfl t27 (by decide) ?_
            refine j_iadd hX eX0_letIn_90 ?_
            refine j_putI (ty := .int) hX eX0_letIn_91 ff_LiftGroup_Building_109 rfl t28 (by decide) pp_1_3 rfl rfl ?_
            refine j_nmM (fun M29 eM29 => ?_)
            replace h := h M29 eM29
            have t30 : hp_T M29 (a0) = 1 := by rw [eM29]; exact t25
            have t31 : hp_T M29 (p4) = 27 := by rw [eM29]; exact t26
            have t32 : hp_T M29 (p8) = 4 := by rw [eM29]; exact t27
            have t33 : hp_T M29 (a2) = 2 := by rw [eM29]; exact t28
            refine j_aload_n hX eX0_letIn_94 3 rfl ?_
            refine j_dup hX eX0_letIn_95 rfl ?_
            refine j_getI hX eX0_letIn_96 ff_LiftGroup_Building_198 rfl t33 (by decide) ?_
            refine j_iconst (v := (1 : Int32)) hX eX0_letIn_99 (by decide) ?_
            refine j_iadd hX eX0_letIn_100 ?_
            refine j_putI (ty := .int) hX eX0_letIn_101 ff_LiftGroup_Building_198 rfl t33 (by decide) pp_1_4 rfl rfl ?_
            refine j_nmM (fun M34 eM34 => ?_)
            replace h := h M34 eM34
            have t35 : hp_T M34 (a0) = 1 := by rw [eM34]; exact t30
            have t36 : hp_T M34 (p4) = 27 := by rw [eM34]; exact t31
            have t37 : hp_T M34 (p8) = 4 := by rw [eM34]; exact t32
            have t38 : hp_T M34 (a2) = 2 := by rw [eM34]; exact t33
            refine j_goto hX 113 eX0_letIn_104 (by decide) ?_
            obtain ⟨v39, ev39⟩ : ∃ v39 : Int32, v39 = a3 + (1 : Int32) := ⟨_, rfl⟩
            replace h := h v39 ev39
            refine j_iinc (v := v39) (lv' := [(3, .int v39), (4, .ref p8), (0, .ref a0), (1, .int a1), (2, .ref a2)]) hX eX0_letIn_113 4 rfl (by rw [ev39]; rfl) (by decide) rfl ?_
            refine j_goto hX 9 eX0_letIn_116 (by decide) ?_
            exact j_sub [2, 3, 4, 0] rfl (k9 _ _ _ _ _ h)
        · replace h := h.2 c15
          refine j_goto hX 113 eX0_letIn_54 (by decide) ?_
          obtain ⟨v40, ev40⟩ : ∃ v40 : Int32, v40 = a3 + (1 : Int32) := ⟨_, rfl⟩
          replace h := h v40 ev40
          refine j_iinc (v := v40) (lv' := [(3, .int v40), (4, .ref p8), (0, .ref a0), (1, .int a1), (2, .ref a2)]) hX eX0_letIn_113 4 rfl (by rw [ev40]; rfl) (by decide) rfl ?_
          refine j_goto hX 9 eX0_letIn_116 (by decide) ?_
          exact j_sub [2, 3, 4, 0] rfl (k9 _ _ _ _ _ h)

set_option maxHeartbeats 4000000 in
set_option maxRecDepth 20000 in
theorem vX0_move_0 {X : am_Cx} {G : am_Gx} {d : Nat} {Q : am_Q} (hX : am_ok X rX0_move G (d + 1)) (hM : am_me X rX0_move Q) {bc bs : Nat}  {a0 : Nat} {a1 : Nat} {M : am_Hp} (h : hp_T M (a1) = 2 ∧ (∀ M2 : am_Hp, M2 = hp_sI M 20 a1 ((hp_I M 20 a1) + (hp_I M 21 a1)) → ((((hp_I M2 21 a1) = (1 : Int32)) → (∀ v12 : Int32, v12 = ((hp_I M2 23 a1) / (100 : Int32)) → (∀ M13 : am_Hp, M13 = hp_sI M2 26 a1 ((hp_I M2 26 a1) + ((2 : Int32) + v12)) → (hp_T M13 (a0) = 1 ∧ (∀ M16 : am_Hp, M16 = hp_sI M13 6 a0 ((hp_I M13 6 a0) + (1 : Int32)) → (∀ M19 : am_Hp, M19 = hp_sI M16 8 a0 ((hp_I M16 8 a0) + v12) → (Q (.inl none) M19))))))) ∧ (¬ ((hp_I M2 21 a1) = (1 : Int32)) → ((((hp_I M2 21 a1) = (-1 : Int32)) → (∀ M6 : am_Hp, M6 = hp_sI M2 26 a1 ((hp_I M2 26 a1) + (1 : Int32)) → (hp_T M6 (a0) = 1 ∧ (∀ M9 : am_Hp, M9 = hp_sI M6 7 a0 ((hp_I M6 7 a0) + (1 : Int32)) → (Q (.inl none) M9))))) ∧ (¬ ((hp_I M2 21 a1) = (-1 : Int32)) → (Q (.inl none) M2))))))) : am_J X 0 [(0, .ref a0), (1, .ref a1)] [] M bc bs := by
  refine j_aload_n hX eX0_move_0 1 rfl ?_
  refine j_dup hX eX0_move_1 rfl ?_
  obtain ⟨t1, h⟩ := h
  refine j_getI hX eX0_move_2 ff_LiftGroup_Building_172 rfl t1 (by decide) ?_
  refine j_aload_n hX eX0_move_5 1 rfl ?_
  refine j_getI hX eX0_move_6 ff_LiftGroup_Building_192 rfl t1 (by decide) ?_
  refine j_iadd hX eX0_move_9 ?_
  refine j_putI (ty := .int) hX eX0_move_10 ff_LiftGroup_Building_172 rfl t1 (by decide) pp_1_0 rfl rfl ?_
  refine j_nmM (fun M2 eM2 => ?_)
  replace h := h M2 eM2
  have t3 : hp_T M2 (a1) = 2 := by rw [eM2]; exact t1
  refine j_aload_n hX eX0_move_13 1 rfl ?_
  refine j_getI hX eX0_move_14 ff_LiftGroup_Building_192 rfl t3 (by decide) ?_
  refine j_iconst (v := (1 : Int32)) hX eX0_move_17 (by decide) ?_
  refine j_icmp_ne hX 64 eX0_move_18 (by decide) (fun c4 => ?_) (fun c4 => ?_)
  · replace h := h.2 c4
    refine j_aload_n hX eX0_move_64 1 rfl ?_
    refine j_getI hX eX0_move_65 ff_LiftGroup_Building_192 rfl t3 (by decide) ?_
    refine j_iconst (v := (-1 : Int32)) hX eX0_move_68 (by decide) ?_
    refine j_icmp_ne hX 92 eX0_move_69 (by decide) (fun c5 => ?_) (fun c5 => ?_)
    · replace h := h.2 c5
      exact j_vret hX hM eX0_move_92 rfl h
    · replace h := h.1 c5
      refine j_aload_n hX eX0_move_72 1 rfl ?_
      refine j_dup hX eX0_move_73 rfl ?_
      refine j_getI hX eX0_move_74 ff_LiftGroup_Building_179 rfl t3 (by decide) ?_
      refine j_iconst (v := (1 : Int32)) hX eX0_move_77 (by decide) ?_
      refine j_iadd hX eX0_move_78 ?_
      refine j_putI (ty := .int) hX eX0_move_79 ff_LiftGroup_Building_179 rfl t3 (by decide) pp_1_6 rfl rfl ?_
      refine j_nmM (fun M6 eM6 => ?_)
      replace h := h M6 eM6
      have t7 : hp_T M6 (a1) = 2 := by rw [eM6]; exact t3
      refine j_aload_n hX eX0_move_82 0 rfl ?_
      refine j_dup hX eX0_move_83 rfl ?_
      obtain ⟨t8, h⟩ := h
      refine j_getI hX eX0_move_84 ff_LiftGroup_Building_43 rfl t8 (by decide) ?_
      refine j_iconst (v := (1 : Int32)) hX eX0_move_87 (by decide) ?_
      refine j_iadd hX eX0_move_88 ?_
      refine j_putI (ty := .int) hX eX0_move_89 ff_LiftGroup_Building_43 rfl t8 (by decide) pp_0_7 rfl rfl ?_
      refine j_nmM (fun M9 eM9 => ?_)
      replace h := h M9 eM9
      have t10 : hp_T M9 (a1) = 2 := by rw [eM9]; exact t7
      have t11 : hp_T M9 (a0) = 1 := by rw [eM9]; exact t8
      exact j_vret hX hM eX0_move_92 rfl h
  · replace h := h.1 c4
    refine j_aload_n hX eX0_move_21 1 rfl ?_
    refine j_getI hX eX0_move_22 ff_LiftGroup_Building_109 rfl t3 (by decide) ?_
    refine j_bipush (v := (100 : Int32)) hX eX0_move_25 (by decide) ?_
    refine j_idiv hX eX0_move_27 (by decide) ?_
    refine j_nmI (fun v12 ev12 => ?_)
    replace h := h v12 ev12
    refine j_istore_n (lv' := [(2, .int v12), (0, .ref a0), (1, .ref a1)]) hX eX0_move_28 rfl (by decide) rfl ?_
    refine j_aload_n hX eX0_move_29 2 rfl ?_
    refine j_dup hX eX0_move_30 rfl ?_
    refine j_getI hX eX0_move_31 ff_LiftGroup_Building_179 rfl t3 (by decide) ?_
    refine j_iconst (v := (2 : Int32)) hX eX0_move_34 (by decide) ?_
    refine j_iload_n hX eX0_move_35 0 rfl ?_
    refine j_iadd hX eX0_move_36 ?_
    refine j_iadd hX eX0_move_37 ?_
    refine j_putI (ty := .int) hX eX0_move_38 ff_LiftGroup_Building_179 rfl t3 (by decide) pp_1_6 rfl rfl ?_
    refine j_nmM (fun M13 eM13 => ?_)
    replace h := h M13 eM13
    have t14 : hp_T M13 (a1) = 2 := by rw [eM13]; exact t3
    refine j_aload_n hX eX0_move_41 1 rfl ?_
    refine j_dup hX eX0_move_42 rfl ?_
    obtain ⟨t15, h⟩ := h
    refine j_getI hX eX0_move_43 ff_LiftGroup_Building_40 rfl t15 (by decide) ?_
    refine j_iconst (v := (1 : Int32)) hX eX0_move_46 (by decide) ?_
    refine j_iadd hX eX0_move_47 ?_
    refine j_putI (ty := .int) hX eX0_move_48 ff_LiftGroup_Building_40 rfl t15 (by decide) pp_0_6 rfl rfl ?_
    refine j_nmM (fun M16 eM16 => ?_)
    replace h := h M16 eM16
    have t17 : hp_T M16 (a1) = 2 := by rw [eM16]; exact t14
    have t18 : hp_T M16 (a0) = 1 := by rw [eM16]; exact t15
    refine j_aload_n hX eX0_move_51 1 rfl ?_
    refine j_dup hX eX0_move_52 rfl ?_
    refine j_getI hX eX0_move_53 ff_LiftGroup_Building_46 rfl t18 (by decide) ?_
    refine j_iload_n hX eX0_move_56 0 rfl ?_
    refine j_iadd hX eX0_move_57 ?_
    refine j_putI (ty := .int) hX eX0_move_58 ff_LiftGroup_Building_46 rfl t18 (by decide) pp_0_8 rfl rfl ?_
    refine j_nmM (fun M19 eM19 => ?_)
    replace h := h M19 eM19
    have t20 : hp_T M19 (a1) = 2 := by rw [eM19]; exact t17
    have t21 : hp_T M19 (a0) = 1 := by rw [eM19]; exact t18
    refine j_goto hX 92 eX0_move_61 (by decide) ?_
    exact j_vret hX hM eX0_move_92 rfl h

set_option maxHeartbeats 4000000 in
set_option maxRecDepth 20000 in
theorem vX0_stopsOf_0 {X : am_Cx} {G : am_Gx} {d : Nat} {Q : am_Q} (hX : am_ok X rX0_stopsOf G (d + 1)) (hM : am_me X rX0_stopsOf Q) {bc bs : Nat} (R4 : Nat → Int32 → Int32 → Int32 → am_Hp → Prop) (k4 : ∀ (x0 : Nat) (x1 : Int32) (x2 : Int32) (x3 : Int32) (M : am_Hp), R4 x0 x1 x2 x3 M → am_J X 4 [(0, .ref x0), (1, .int x1), (2, .int x2), (3, .int x3)] [] M bc bs) {a0 : Nat} {a1 : Int32} {M : am_Hp} (h : R4 a0 a1 (0 : Int32) (0 : Int32) M) : am_J X 0 [(0, .ref a0), (1, .int a1)] [] M bc bs := by
  refine j_iconst (v := (0 : Int32)) hX eX0_stopsOf_0 (by decide) ?_
  refine j_istore_n (lv' := [(2, .int (0 : Int32)), (0, .ref a0), (1, .int a1)]) hX eX0_stopsOf_1 rfl (by decide) rfl ?_
  refine j_iconst (v := (0 : Int32)) hX eX0_stopsOf_2 (by decide) ?_
  refine j_istore_n (lv' := [(3, .int (0 : Int32)), (2, .int (0 : Int32)), (0, .ref a0), (1, .int a1)]) hX eX0_stopsOf_3 rfl (by decide) rfl ?_
  exact j_sub [2, 3, 1, 0] rfl (k4 _ _ _ _ _ h)
set_option maxHeartbeats 4000000 in
set_option maxRecDepth 20000 in
theorem vX0_stopsOf_4 {X : am_Cx} {G : am_Gx} {d : Nat} {Q : am_Q} (hX : am_ok X rX0_stopsOf G (d + 1)) (hM : am_me X rX0_stopsOf Q) {bc bs : Nat} (R4 : Nat → Int32 → Int32 → Int32 → am_Hp → Prop) (k4 : ∀ (x0 : Nat) (x1 : Int32) (x2 : Int32) (x3 : Int32) (M : am_Hp), R4 x0 x1 x2 x3 M → am_J X 4 [(0, .ref x0), (1, .int x1), (2, .int x2), (3, .int x3)] [] M bc bs) {a0 : Nat} {a1 : Int32} {a2 : Int32} {a3 : Int32} {M : am_Hp} (h : hp_T M (a0) = 1 ∧ ((((hp_I M 3 a0) ≤ a3) → (Q (.inl (some (.int a2))) M)) ∧ (¬ ((hp_I M 3 a0) ≤ a3) → (hp_R M 1 a0 ≠ 0 ∧ (∀ p4 : Nat, p4 = hp_R M 1 a0 → (hp_T M (p4) = 27 ∧ (vp_in a3 (hp_N M p4) ∧ (hp_Q M p4 (a3).toNatClampNeg ≠ 0 ∧ (∀ p8 : Nat, p8 = hp_Q M p4 (a3).toNatClampNeg → (hp_T M (p8) = 4 ∧ ((((hp_I M 65 p8) = a1) → ((((hp_I M 66 p8) = 0) → (∀ v13 : Int32, v13 = (a2 ||| ((1 : Int32) <<< ((hp_I M 61 p8) &&& 31))) → (∀ v14 : Int32, v14 = a3 + (1 : Int32) → (R4 a0 a1 v13 v14 M)))) ∧ (¬ ((hp_I M 66 p8) = 0) → (∀ v15 : Int32, v15 = (a2 ||| ((1 : Int32) <<< ((hp_I M 62 p8) &&& 31))) → (∀ v16 : Int32, v16 = a3 + (1 : Int32) → (R4 a0 a1 v15 v16 M)))))) ∧ (¬ ((hp_I M 65 p8) = a1) → (∀ v11 : Int32, v11 = a3 + (1 : Int32) → (R4 a0 a1 a2 v11 M)))))))))))))) : am_J X 4 [(0, .ref a0), (1, .int a1), (2, .int a2), (3, .int a3)] [] M bc bs := by
  refine j_iload_n hX eX0_stopsOf_4 3 rfl ?_
  refine j_aload_n hX eX0_stopsOf_5 0 rfl ?_
  obtain ⟨t1, h⟩ := h
  refine j_getI hX eX0_stopsOf_6 ff_LiftGroup_Building_30 rfl t1 (by decide) ?_
  refine j_icmp_ge hX 61 eX0_stopsOf_9 (by decide) (fun c2 => ?_) (fun c2 => ?_)
  · replace h := h.1 c2
    refine j_iload_n hX eX0_stopsOf_61 2 rfl ?_
    exact j_iret hX hM eX0_stopsOf_62 rfl h
  · replace h := h.2 c2
    refine j_aload_n hX eX0_stopsOf_12 0 rfl ?_
    obtain ⟨z3, h⟩ := h
    refine j_getR hX eX0_stopsOf_13 ff_LiftGroup_Building_19 rfl t1 (by decide) z3 ?_
    refine j_nmR (fun p4 ep4 => ?_)
    replace h := h p4 ep4
    refine j_iload_n hX eX0_stopsOf_16 3 rfl ?_
    obtain ⟨t5, h⟩ := h
    obtain ⟨i6, h⟩ := h
    obtain ⟨z7, h⟩ := h
    refine j_aald27 hX eX0_stopsOf_17 t5 i6 z7 ?_
    refine j_nmR (fun p8 ep8 => ?_)
    replace h := h p8 ep8
    refine j_astore (lv' := [(4, .ref p8), (0, .ref a0), (1, .int a1), (2, .int a2), (3, .int a3)]) hX eX0_stopsOf_18 (by decide) rfl ?_
    refine j_aload hX eX0_stopsOf_20 0 rfl ?_
    obtain ⟨t9, h⟩ := h
    refine j_getI hX eX0_stopsOf_22 ff_LiftGroup_Building_94 rfl t9 (by decide) ?_
    refine j_iload_n hX eX0_stopsOf_25 2 rfl ?_
    refine j_icmp_ne hX 55 eX0_stopsOf_26 (by decide) (fun c10 => ?_) (fun c10 => ?_)
    · replace h := h.2 c10
      obtain ⟨v11, ev11⟩ : ∃ v11 : Int32, v11 = a3 + (1 : Int32) := ⟨_, rfl⟩
      replace h := h v11 ev11
      refine j_iinc (v := v11) (lv' := [(3, .int v11), (4, .ref p8), (0, .ref a0), (1, .int a1), (2, .int a2)]) hX eX0_stopsOf_55 4 rfl (by rw [ev11]; rfl) (by decide) rfl ?_
      refine j_goto hX 4 eX0_stopsOf_58 (by decide) ?_
      exact j_sub [2, 3, 4, 0] rfl (k4 _ _ _ _ _ h)
    · replace h := h.1 c10
      refine j_iload_n hX eX0_stopsOf_29 3 rfl ?_
      refine j_iconst (v := (1 : Int32)) hX eX0_stopsOf_30 (by decide) ?_
      refine j_aload hX eX0_stopsOf_31 0 rfl ?_
      refine j_getI hX eX0_stopsOf_33 ff_LiftGroup_Building_86 rfl t9 (by decide) ?_
      refine j_if_eq hX 47 eX0_stopsOf_36 (by decide) (fun c12 => ?_) (fun c12 => ?_)
      · replace h := h.1 c12
        refine j_aload hX eX0_stopsOf_47 0 rfl ?_
        refine j_getI hX eX0_stopsOf_49 ff_LiftGroup_Building_74 rfl t9 (by decide) ?_
        refine j_ishl hX eX0_stopsOf_52 ?_
        refine j_ior hX eX0_stopsOf_53 ?_
        refine j_nmI (fun v13 ev13 => ?_)
        replace h := h v13 ev13
        refine j_istore_n (lv' := [(2, .int v13), (4, .ref p8), (0, .ref a0), (1, .int a1), (3, .int a3)]) hX eX0_stopsOf_54 rfl (by decide) rfl ?_
        obtain ⟨v14, ev14⟩ : ∃ v14 : Int32, v14 = a3 + (1 : Int32) := ⟨_, rfl⟩
        replace h := h v14 ev14
        refine j_iinc (v := v14) (lv' := [(3, .int v14), (2, .int v13), (4, .ref p8), (0, .ref a0), (1, .int a1)]) hX eX0_stopsOf_55 4 rfl (by rw [ev14]; rfl) (by decide) rfl ?_
        refine j_goto hX 4 eX0_stopsOf_58 (by decide) ?_
        exact j_sub [3, 4, 1, 0] rfl (k4 _ _ _ _ _ h)
      · replace h := h.2 c12
        refine j_aload hX eX0_stopsOf_39 0 rfl ?_
        refine j_getI hX eX0_stopsOf_41 ff_LiftGroup_Building_77 rfl t9 (by decide) ?_
        refine j_goto hX 52 eX0_stopsOf_44 (by decide) ?_
        refine j_ishl hX eX0_stopsOf_52 ?_
        refine j_ior hX eX0_stopsOf_53 ?_
        refine j_nmI (fun v15 ev15 => ?_)
        replace h := h v15 ev15
        refine j_istore_n (lv' := [(2, .int v15), (4, .ref p8), (0, .ref a0), (1, .int a1), (3, .int a3)]) hX eX0_stopsOf_54 rfl (by decide) rfl ?_
        obtain ⟨v16, ev16⟩ : ∃ v16 : Int32, v16 = a3 + (1 : Int32) := ⟨_, rfl⟩
        replace h := h v16 ev16
        refine j_iinc (v := v16) (lv' := [(3, .int v16), (2, .int v15), (4, .ref p8), (0, .ref a0), (1, .int a1)]) hX eX0_stopsOf_55 4 rfl (by rw [ev16]; rfl) (by decide) rfl ?_
        refine j_goto hX 4 eX0_stopsOf_58 (by decide) ?_
        exact j_sub [3, 4, 1, 0] rfl (k4 _ _ _ _ _ h)

set_option maxHeartbeats 4000000 in
set_option maxRecDepth 20000 in
theorem vX0_estimateByFormula_0 {X : am_Cx} {G : am_Gx} {d : Nat} {Q : am_Q} (hX : am_ok X rX0_estimateByFormula G (d + 1)) (hM : am_me X rX0_estimateByFormula Q) {bc bs : Nat}  {a0 : Nat} {a1 : Int32} {a2 : Int32} {M : am_Hp} (h : hp_T M (a0) = 1 ∧ (hp_R M 0 a0 ≠ 0 ∧ (∀ p3 : Nat, p3 = hp_R M 0 a0 → (hp_T M (p3) = 26 ∧ (vp_in a1 (hp_N M p3) ∧ (hp_Q M p3 (a1).toNatClampNeg ≠ 0 ∧ (∀ p7 : Nat, p7 = hp_Q M p3 (a1).toNatClampNeg → (hp_T M (p7) = 2 ∧ (∀ v9 : Int32, v9 = ((a2 - (hp_I M 20 p7)) * (hp_I M 21 p7)) → (∀ v10 : Int32, v10 = (if 0 ≤ (a2 - (hp_I M 20 p7)) then (a2 - (hp_I M 20 p7)) else 0 - (a2 - (hp_I M 20 p7))) → (((0 ≤ v9) → (Q (.inl (some (.int ((hp_I M 24 p7) + v10)))) M)) ∧ (¬ (0 ≤ v9) → (am_CT G d rX0_stopsOf [.ref a0, .int a1] M 0 0 (fun oz9 M12 => ∃ v13 : Int32, oz9 = .inl (some (.int v13)) ∧ (hp_T M12 (p7) = 2 ∧ (am_CT G d rX6_distanceToLast [.int v13, .int (hp_I M12 20 p7), .int (hp_I M12 21 p7)] M12 0 0 (fun oz9 M15 => ∃ v16 : Int32, oz9 = .inl (some (.int v16)) ∧ (∀ v17 : Int32, v17 = (v10 + ((2 : Int32) * v16)) → (hp_T M15 (p7) = 2 ∧ (Q (.inl (some (.int ((hp_I M15 24 p7) + v17)))) M15)))))))))))))))))))) : am_J X 0 [(0, .ref a0), (1, .int a1), (2, .int a2)] [] M bc bs := by
  refine j_aload_n hX eX0_estimateByFormula_0 0 rfl ?_
  obtain ⟨t1, h⟩ := h
  obtain ⟨z2, h⟩ := h
  refine j_getR hX eX0_estimateByFormula_1 ff_LiftGroup_Building_11 rfl t1 (by decide) z2 ?_
  refine j_nmR (fun p3 ep3 => ?_)
  replace h := h p3 ep3
  refine j_iload_n hX eX0_estimateByFormula_4 1 rfl ?_
  obtain ⟨t4, h⟩ := h
  obtain ⟨i5, h⟩ := h
  obtain ⟨z6, h⟩ := h
  refine j_aald26 hX eX0_estimateByFormula_5 t4 i5 z6 ?_
  refine j_nmR (fun p7 ep7 => ?_)
  replace h := h p7 ep7
  refine j_astore_n (lv' := [(3, .ref p7), (0, .ref a0), (1, .int a1), (2, .int a2)]) hX eX0_estimateByFormula_6 rfl (by decide) rfl ?_
  refine j_iload_n hX eX0_estimateByFormula_7 3 rfl ?_
  refine j_aload_n hX eX0_estimateByFormula_8 0 rfl ?_
  obtain ⟨t8, h⟩ := h
  refine j_getI hX eX0_estimateByFormula_9 ff_LiftGroup_Building_172 rfl t8 (by decide) ?_
  refine j_isub hX eX0_estimateByFormula_12 ?_
  refine j_aload_n hX eX0_estimateByFormula_13 0 rfl ?_
  refine j_getI hX eX0_estimateByFormula_14 ff_LiftGroup_Building_192 rfl t8 (by decide) ?_
  refine j_imul hX eX0_estimateByFormula_17 ?_
  refine j_nmI (fun v9 ev9 => ?_)
  replace h := h v9 ev9
  refine j_istore (lv' := [(4, .int v9), (3, .ref p7), (0, .ref a0), (1, .int a1), (2, .int a2)]) hX eX0_estimateByFormula_18 (by decide) rfl ?_
  refine j_iload_n hX eX0_estimateByFormula_20 4 rfl ?_
  refine j_aload_n hX eX0_estimateByFormula_21 1 rfl ?_
  refine j_getI hX eX0_estimateByFormula_22 ff_LiftGroup_Building_172 rfl t8 (by decide) ?_
  refine j_isub hX eX0_estimateByFormula_25 ?_
  refine j_mabs hX eX0_estimateByFormula_26 tw_494 tw_495 tw_21 (Nat.le_of_ble_eq_true rfl) ?_
  refine j_nmI (fun v10 ev10 => ?_)
  replace h := h v10 ev10
  refine j_istore (lv' := [(5, .int v10), (4, .int v9), (3, .ref p7), (0, .ref a0), (1, .int a1), (2, .int a2)]) hX eX0_estimateByFormula_29 (by decide) rfl ?_
  refine j_iload hX eX0_estimateByFormula_31 1 rfl ?_
  refine j_if_ge hX 59 eX0_estimateByFormula_33 (by decide) (fun c11 => ?_) (fun c11 => ?_)
  · replace h := h.1 c11
    refine j_aload_n hX eX0_estimateByFormula_59 2 rfl ?_
    refine j_getI hX eX0_estimateByFormula_60 ff_LiftGroup_Building_198 rfl t8 (by decide) ?_
    refine j_iload hX eX0_estimateByFormula_63 0 rfl ?_
    refine j_iadd hX eX0_estimateByFormula_65 ?_
    exact j_iret hX hM eX0_estimateByFormula_66 rfl h
  · replace h := h.2 c11
    refine j_iload hX eX0_estimateByFormula_36 0 rfl ?_
    refine j_iconst (v := (2 : Int32)) hX eX0_estimateByFormula_38 (by decide) ?_
    refine j_aload_n hX eX0_estimateByFormula_39 3 rfl ?_
    refine j_iload_n hX eX0_estimateByFormula_40 4 rfl ?_
    refine j_callV (a := a0) (q := (RX0, TX0, 10)) (r' := rX0_stopsOf) (As := [.int a1]) (rest := [.int (2 : Int32), .int v10]) (d1 := d) hX eX0_estimateByFormula_41 mm_LiftGroup_Building_169 rfl t1 (by decide) rfl h rfl (Nat.le_refl _) (Nat.zero_le _) (Nat.zero_le _) (Nat.le_of_ble_eq_true rfl) (fun vz9 Mz9 qz9 => ?_) (fun Ez9 Mz9 qz9 => ?_)
    · obtain ⟨M12, eMz9⟩ : ∃ M12, M12 = Mz9 := ⟨_, rfl⟩; subst eMz9
      obtain ⟨v13, hxz9, h⟩ := qz9
      cases hxz9
      refine j_aload_n hX eX0_estimateByFormula_44 2 rfl ?_
      obtain ⟨t14, h⟩ := h
      refine j_getI hX eX0_estimateByFormula_45 ff_LiftGroup_Building_172 rfl t14 (by decide) ?_
      refine j_aload_n hX eX0_estimateByFormula_48 2 rfl ?_
      refine j_getI hX eX0_estimateByFormula_49 ff_LiftGroup_Building_192 rfl t14 (by decide) ?_
      refine j_callSN (r' := rX6_distanceToLast) (As := [.int v13, .int (hp_I M12 20 p7), .int (hp_I M12 21 p7)]) (rest := [.int (2 : Int32), .int v10]) (d1 := d) hX eX0_estimateByFormula_52 mm_LiftGroup_Building_210 rfl h rfl (Nat.le_refl _) (Nat.zero_le _) (Nat.zero_le _) (Nat.le_of_ble_eq_true rfl) (fun vz9 Mz9 qz9 => ?_) (fun Ez9 Mz9 qz9 => ?_)
      · obtain ⟨M15, eMz9⟩ : ∃ M15, M15 = Mz9 := ⟨_, rfl⟩; subst eMz9
        obtain ⟨v16, hxz9, h⟩ := qz9
        cases hxz9
        refine j_imul hX eX0_estimateByFormula_55 ?_
        refine j_iadd hX eX0_estimateByFormula_56 ?_
        refine j_nmI (fun v17 ev17 => ?_)
        replace h := h v17 ev17
        refine j_istore (lv' := [(5, .int v17), (4, .int v9), (3, .ref p7), (0, .ref a0), (1, .int a1), (2, .int a2)]) hX eX0_estimateByFormula_57 (by decide) rfl ?_
        refine j_aload_n hX eX0_estimateByFormula_59 2 rfl ?_
        obtain ⟨t18, h⟩ := h
        refine j_getI hX eX0_estimateByFormula_60 ff_LiftGroup_Building_198 rfl t18 (by decide) ?_
        refine j_iload hX eX0_estimateByFormula_63 0 rfl ?_
        refine j_iadd hX eX0_estimateByFormula_65 ?_
        exact j_iret hX hM eX0_estimateByFormula_66 rfl h
      · obtain ⟨v16, hxz9, h⟩ := qz9
        cases hxz9
    · obtain ⟨v13, hxz9, h⟩ := qz9
      cases hxz9

set_option maxHeartbeats 4000000 in
set_option maxRecDepth 20000 in
theorem vX0_estimateByMoving_0 {X : am_Cx} {G : am_Gx} {d : Nat} {Q : am_Q} (hX : am_ok X rX0_estimateByMoving G (d + 1)) (hM : am_me X rX0_estimateByMoving Q) {bc bs : Nat} (R48 : Int32 → Nat → Int32 → Int32 → Int32 → Int32 → Int32 → am_Hp → Prop) (k48 : ∀ (x2 : Int32) (x3 : Nat) (x4 : Int32) (x5 : Int32) (x6 : Int32) (x7 : Int32) (x8 : Int32) (M : am_Hp), R48 x2 x3 x4 x5 x6 x7 x8 M → am_J X 48 [(2, .int x2), (3, .ref x3), (4, .int x4), (5, .int x5), (6, .int x6), (7, .int x7), (8, .int x8)] [] M bc bs) {a0 : Nat} {a1 : Int32} {a2 : Int32} {M : am_Hp} (h : hp_T M (a0) = 1 ∧ (hp_R M 0 a0 ≠ 0 ∧ (∀ p3 : Nat, p3 = hp_R M 0 a0 → (hp_T M (p3) = 26 ∧ (vp_in a1 (hp_N M p3) ∧ (hp_Q M p3 (a1).toNatClampNeg ≠ 0 ∧ (∀ p7 : Nat, p7 = hp_Q M p3 (a1).toNatClampNeg → (am_CT G d rX0_stopsOf [.ref a0, .int a1] M 0 0 (fun oz9 M8 => ∃ v9 : Int32, oz9 = .inl (some (.int v9)) ∧ (hp_T M8 (p7) = 2 ∧ (∀ v11 : Int32, v11 = (hp_I M8 20 p7) → ((((hp_I M8 21 p7) = 0) → (am_CT G d rJ6_compare_7cf53 [.int a2, .int v11] M8 0 0 (fun oz9 M14 => ∃ v15 : Int32, oz9 = .inl (some (.int v15)) ∧ (R48 a2 p7 v9 v11 v15 (0 : Int32) (0 : Int32) M14)))) ∧ (¬ ((hp_I M8 21 p7) = 0) → (∀ v13 : Int32, v13 = (hp_I M8 21 p7) → (R48 a2 p7 v9 v11 v13 (0 : Int32) (0 : Int32) M8))))))))))))))) : am_J X 0 [(0, .ref a0), (1, .int a1), (2, .int a2)] [] M bc bs := by
  refine j_aload_n hX eX0_estimateByMoving_0 0 rfl ?_
  obtain ⟨t1, h⟩ := h
  obtain ⟨z2, h⟩ := h
  refine j_getR hX eX0_estimateByMoving_1 ff_LiftGroup_Building_11 rfl t1 (by decide) z2 ?_
  refine j_nmR (fun p3 ep3 => ?_)
  replace h := h p3 ep3
  refine j_iload_n hX eX0_estimateByMoving_4 1 rfl ?_
  obtain ⟨t4, h⟩ := h
  obtain ⟨i5, h⟩ := h
  obtain ⟨z6, h⟩ := h
  refine j_aald26 hX eX0_estimateByMoving_5 t4 i5 z6 ?_
  refine j_nmR (fun p7 ep7 => ?_)
  replace h := h p7 ep7
  refine j_astore_n (lv' := [(3, .ref p7), (0, .ref a0), (1, .int a1), (2, .int a2)]) hX eX0_estimateByMoving_6 rfl (by decide) rfl ?_
  refine j_aload_n hX eX0_estimateByMoving_7 1 rfl ?_
  refine j_iload_n hX eX0_estimateByMoving_8 2 rfl ?_
  refine j_callV (a := a0) (q := (RX0, TX0, 10)) (r' := rX0_stopsOf) (As := [.int a1]) (rest := []) (d1 := d) hX eX0_estimateByMoving_9 mm_LiftGroup_Building_169 rfl t1 (by decide) rfl h rfl (Nat.le_refl _) (Nat.zero_le _) (Nat.zero_le _) (Nat.le_of_ble_eq_true rfl) (fun vz9 Mz9 qz9 => ?_) (fun Ez9 Mz9 qz9 => ?_)
  · obtain ⟨M8, eMz9⟩ : ∃ M8, M8 = Mz9 := ⟨_, rfl⟩; subst eMz9
    obtain ⟨v9, hxz9, h⟩ := qz9
    cases hxz9
    refine j_istore (lv' := [(4, .int v9), (3, .ref p7), (0, .ref a0), (1, .int a1), (2, .int a2)]) hX eX0_estimateByMoving_12 (by decide) rfl ?_
    refine j_aload_n hX eX0_estimateByMoving_14 1 rfl ?_
    obtain ⟨t10, h⟩ := h
    refine j_getI hX eX0_estimateByMoving_15 ff_LiftGroup_Building_172 rfl t10 (by decide) ?_
    refine j_nmI (fun v11 ev11 => ?_)
    replace h := h v11 ev11
    refine j_istore (lv' := [(5, .int v11), (4, .int v9), (3, .ref p7), (0, .ref a0), (1, .int a1), (2, .int a2)]) hX eX0_estimateByMoving_18 (by decide) rfl ?_
    refine j_aload_n hX eX0_estimateByMoving_20 2 rfl ?_
    refine j_getI hX eX0_estimateByMoving_21 ff_LiftGroup_Building_192 rfl t10 (by decide) ?_
    refine j_if_ne hX 36 eX0_estimateByMoving_24 (by decide) (fun c12 => ?_) (fun c12 => ?_)
    · replace h := h.2 c12
      refine j_aload_n hX eX0_estimateByMoving_36 2 rfl ?_
      refine j_getI hX eX0_estimateByMoving_37 ff_LiftGroup_Building_192 rfl t10 (by decide) ?_
      refine j_nmI (fun v13 ev13 => ?_)
      replace h := h v13 ev13
      refine j_istore (lv' := [(6, .int v13), (5, .int v11), (4, .int v9), (3, .ref p7), (0, .ref a0), (1, .int a1), (2, .int a2)]) hX eX0_estimateByMoving_40 (by decide) rfl ?_
      refine j_iconst (v := (0 : Int32)) hX eX0_estimateByMoving_42 (by decide) ?_
      refine j_istore (lv' := [(7, .int (0 : Int32)), (6, .int v13), (5, .int v11), (4, .int v9), (3, .ref p7), (0, .ref a0), (1, .int a1), (2, .int a2)]) hX eX0_estimateByMoving_43 (by decide) rfl ?_
      refine j_iconst (v := (0 : Int32)) hX eX0_estimateByMoving_45 (by decide) ?_
      refine j_istore (lv' := [(8, .int (0 : Int32)), (7, .int (0 : Int32)), (6, .int v13), (5, .int v11), (4, .int v9), (3, .ref p7), (0, .ref a0), (1, .int a1), (2, .int a2)]) hX eX0_estimateByMoving_46 (by decide) rfl ?_
      exact j_sub [8, 5, 4, 3, 2, 1, 0] rfl (k48 _ _ _ _ _ _ _ _ h)
    · replace h := h.1 c12
      refine j_iload_n hX eX0_estimateByMoving_27 5 rfl ?_
      refine j_iload hX eX0_estimateByMoving_28 0 rfl ?_
      refine j_callS (r' := rJ6_compare_7cf53) (As := [.int a2, .int v11]) (rest := []) (d1 := d) hX eX0_estimateByMoving_30 mm_LiftGroup_Building_213 rfl rfl h rfl (Nat.le_refl _) (Nat.zero_le _) (Nat.zero_le _) (Nat.le_of_ble_eq_true rfl) (fun vz9 Mz9 qz9 => ?_) (fun Ez9 Mz9 qz9 => ?_)
      · obtain ⟨M14, eMz9⟩ : ∃ M14, M14 = Mz9 := ⟨_, rfl⟩; subst eMz9
        obtain ⟨v15, hxz9, h⟩ := qz9
        cases hxz9
        refine j_goto hX 40 eX0_estimateByMoving_33 (by decide) ?_
        refine j_istore (lv' := [(6, .int v15), (5, .int v11), (4, .int v9), (3, .ref p7), (0, .ref a0), (1, .int a1), (2, .int a2)]) hX eX0_estimateByMoving_40 (by decide) rfl ?_
        refine j_iconst (v := (0 : Int32)) hX eX0_estimateByMoving_42 (by decide) ?_
        refine j_istore (lv' := [(7, .int (0 : Int32)), (6, .int v15), (5, .int v11), (4, .int v9), (3, .ref p7), (0, .ref a0), (1, .int a1), (2, .int a2)]) hX eX0_estimateByMoving_43 (by decide) rfl ?_
        refine j_iconst (v := (0 : Int32)) hX eX0_estimateByMoving_45 (by decide) ?_
        refine j_istore (lv' := [(8, .int (0 : Int32)), (7, .int (0 : Int32)), (6, .int v15), (5, .int v11), (4, .int v9), (3, .ref p7), (0, .ref a0), (1, .int a1), (2, .int a2)]) hX eX0_estimateByMoving_46 (by decide) rfl ?_
        exact j_sub [8, 5, 4, 3, 2, 1, 0] rfl (k48 _ _ _ _ _ _ _ _ h)
      · obtain ⟨v15, hxz9, h⟩ := qz9
        cases hxz9
  · obtain ⟨v9, hxz9, h⟩ := qz9
    cases hxz9
set_option maxHeartbeats 4000000 in
set_option maxRecDepth 20000 in
theorem vX0_estimateByMoving_48 {X : am_Cx} {G : am_Gx} {d : Nat} {Q : am_Q} (hX : am_ok X rX0_estimateByMoving G (d + 1)) (hM : am_me X rX0_estimateByMoving Q) {bc bs : Nat} (R48 : Int32 → Nat → Int32 → Int32 → Int32 → Int32 → Int32 → am_Hp → Prop) (k48 : ∀ (x2 : Int32) (x3 : Nat) (x4 : Int32) (x5 : Int32) (x6 : Int32) (x7 : Int32) (x8 : Int32) (M : am_Hp), R48 x2 x3 x4 x5 x6 x7 x8 M → am_J X 48 [(2, .int x2), (3, .ref x3), (4, .int x4), (5, .int x5), (6, .int x6), (7, .int x7), (8, .int x8)] [] M bc bs) {a2 : Int32} {a3 : Nat} {a4 : Int32} {a5 : Int32} {a6 : Int32} {a7 : Int32} {a8 : Int32} {M : am_Hp} (h : (((20 : Int32) ≤ a8) → (hp_T M (a3) = 2 ∧ (Q (.inl (some (.int ((hp_I M 24 a3) + a7)))) M))) ∧ (¬ ((20 : Int32) ≤ a8) → (((a5 = a2) → (hp_T M (a3) = 2 ∧ (Q (.inl (some (.int ((hp_I M 24 a3) + a7)))) M))) ∧ (¬ (a5 = a2) → (((0 ≤ ((a2 - a5) * a6)) → ((((0 : Int32) = 0) → (∀ v7 : Int32, v7 = (a5 + a6) → (∀ v8 : Int32, v8 = a7 + (1 : Int32) → (∀ v9 : Int32, v9 = a8 + (1 : Int32) → (R48 a2 a3 a4 v7 a6 v8 v9 M))))) ∧ (¬ ((0 : Int32) = 0) → (am_CT G d rX6_distanceToFirst [.int a4, .int a5, .int a6] M 0 0 (fun oz9 M10 => ∃ v11 : Int32, oz9 = .inl (some (.int v11)) ∧ (((v11 = 0) → (∀ v16 : Int32, v16 = (-a6) → (∀ v17 : Int32, v17 = (a5 + v16) → (∀ v18 : Int32, v18 = a7 + (1 : Int32) → (∀ v19 : Int32, v19 = a8 + (1 : Int32) → (R48 a2 a3 a4 v17 v16 v18 v19 M10)))))) ∧ (¬ (v11 = 0) → (∀ v13 : Int32, v13 = (a5 + a6) → (∀ v14 : Int32, v14 = a7 + (1 : Int32) → (∀ v15 : Int32, v15 = a8 + (1 : Int32) → (R48 a2 a3 a4 v13 a6 v14 v15 M10))))))))))) ∧ (¬ (0 ≤ ((a2 - a5) * a6)) → ((((1 : Int32) = 0) → (∀ v21 : Int32, v21 = (a5 + a6) → (∀ v22 : Int32, v22 = a7 + (1 : Int32) → (∀ v23 : Int32, v23 = a8 + (1 : Int32) → (R48 a2 a3 a4 v21 a6 v22 v23 M))))) ∧ (¬ ((1 : Int32) = 0) → (am_CT G d rX6_distanceToFirst [.int a4, .int a5, .int a6] M 0 0 (fun oz9 M24 => ∃ v25 : Int32, oz9 = .inl (some (.int v25)) ∧ (((v25 = 0) → (∀ v30 : Int32, v30 = (-a6) → (∀ v31 : Int32, v31 = (a5 + v30) → (∀ v32 : Int32, v32 = a7 + (1 : Int32) → (∀ v33 : Int32, v33 = a8 + (1 : Int32) → (R48 a2 a3 a4 v31 v30 v32 v33 M24)))))) ∧ (¬ (v25 = 0) → (∀ v27 : Int32, v27 = (a5 + a6) → (∀ v28 : Int32, v28 = a7 + (1 : Int32) → (∀ v29 : Int32, v29 = a8 + (1 : Int32) → (R48 a2 a3 a4 v27 a6 v28 v29 M24)))))))))))))))) : am_J X 48 [(2, .int a2), (3, .ref a3), (4, .int a4), (5, .int a5), (6, .int a6), (7, .int a7), (8, .int a8)] [] M bc bs := by
  refine j_iload hX eX0_estimateByMoving_48 6 rfl ?_
  refine j_bipush (v := (20 : Int32)) hX eX0_estimateByMoving_50 (by decide) ?_
  refine j_icmp_ge hX 116 eX0_estimateByMoving_52 (by decide) (fun c1 => ?_) (fun c1 => ?_)
  · replace h := h.1 c1
    refine j_aload_n hX eX0_estimateByMoving_116 1 rfl ?_
    obtain ⟨t2, h⟩ := h
    refine j_getI hX eX0_estimateByMoving_117 ff_LiftGroup_Building_198 rfl t2 (by decide) ?_
    refine j_iload hX eX0_estimateByMoving_120 5 rfl ?_
    refine j_iadd hX eX0_estimateByMoving_122 ?_
    exact j_iret hX hM eX0_estimateByMoving_123 rfl h
  · replace h := h.2 c1
    refine j_iload hX eX0_estimateByMoving_55 3 rfl ?_
    refine j_iload_n hX eX0_estimateByMoving_57 0 rfl ?_
    refine j_icmp_eq hX 116 eX0_estimateByMoving_58 (by decide) (fun c3 => ?_) (fun c3 => ?_)
    · replace h := h.1 c3
      refine j_aload_n hX eX0_estimateByMoving_116 1 rfl ?_
      obtain ⟨t4, h⟩ := h
      refine j_getI hX eX0_estimateByMoving_117 ff_LiftGroup_Building_198 rfl t4 (by decide) ?_
      refine j_iload hX eX0_estimateByMoving_120 5 rfl ?_
      refine j_iadd hX eX0_estimateByMoving_122 ?_
      exact j_iret hX hM eX0_estimateByMoving_123 rfl h
    · replace h := h.2 c3
      refine j_iload_n hX eX0_estimateByMoving_61 0 rfl ?_
      refine j_iload hX eX0_estimateByMoving_62 3 rfl ?_
      refine j_isub hX eX0_estimateByMoving_64 ?_
      refine j_iload hX eX0_estimateByMoving_65 4 rfl ?_
      refine j_imul hX eX0_estimateByMoving_67 ?_
      refine j_if_ge hX 75 eX0_estimateByMoving_68 (by decide) (fun c5 => ?_) (fun c5 => ?_)
      · replace h := h.1 c5
        refine j_iconst (v := (0 : Int32)) hX eX0_estimateByMoving_75 (by decide) ?_
        refine j_istore (lv' := [(9, .int (0 : Int32)), (2, .int a2), (3, .ref a3), (4, .int a4), (5, .int a5), (6, .int a6), (7, .int a7), (8, .int a8)]) hX eX0_estimateByMoving_76 (by decide) rfl ?_
        refine j_iload hX eX0_estimateByMoving_78 0 rfl ?_
        refine j_if_eq hX 100 eX0_estimateByMoving_80 (by decide) (fun c6 => ?_) (fun c6 => ?_)
        · replace h := h.1 c6
          refine j_iload hX eX0_estimateByMoving_100 4 rfl ?_
          refine j_iload hX eX0_estimateByMoving_102 5 rfl ?_
          refine j_iadd hX eX0_estimateByMoving_104 ?_
          refine j_nmI (fun v7 ev7 => ?_)
          replace h := h v7 ev7
          refine j_istore (lv' := [(5, .int v7), (9, .int (0 : Int32)), (2, .int a2), (3, .ref a3), (4, .int a4), (6, .int a6), (7, .int a7), (8, .int a8)]) hX eX0_estimateByMoving_105 (by decide) rfl ?_
          obtain ⟨v8, ev8⟩ : ∃ v8 : Int32, v8 = a7 + (1 : Int32) := ⟨_, rfl⟩
          replace h := h v8 ev8
          refine j_iinc (v := v8) (lv' := [(7, .int v8), (5, .int v7), (9, .int (0 : Int32)), (2, .int a2), (3, .ref a3), (4, .int a4), (6, .int a6), (8, .int a8)]) hX eX0_estimateByMoving_107 6 rfl (by rw [ev8]; rfl) (by decide) rfl ?_
          obtain ⟨v9, ev9⟩ : ∃ v9 : Int32, v9 = a8 + (1 : Int32) := ⟨_, rfl⟩
          replace h := h v9 ev9
          refine j_iinc (v := v9) (lv' := [(8, .int v9), (7, .int v8), (5, .int v7), (9, .int (0 : Int32)), (2, .int a2), (3, .ref a3), (4, .int a4), (6, .int a6)]) hX eX0_estimateByMoving_110 7 rfl (by rw [ev9]; rfl) (by decide) rfl ?_
          refine j_goto hX 48 eX0_estimateByMoving_113 (by decide) ?_
          exact j_sub [4, 5, 6, 2, 7, 1, 0] rfl (k48 _ _ _ _ _ _ _ _ h)
        · replace h := h.2 c6
          refine j_iload hX eX0_estimateByMoving_83 3 rfl ?_
          refine j_iload hX eX0_estimateByMoving_85 4 rfl ?_
          refine j_iload hX eX0_estimateByMoving_87 5 rfl ?_
          refine j_callSN (r' := rX6_distanceToFirst) (As := [.int a4, .int a5, .int a6]) (rest := []) (d1 := d) hX eX0_estimateByMoving_89 mm_LiftGroup_Building_218 rfl h rfl (Nat.le_refl _) (Nat.zero_le _) (Nat.zero_le _) (Nat.le_of_ble_eq_true rfl) (fun vz9 Mz9 qz9 => ?_) (fun Ez9 Mz9 qz9 => ?_)
          · obtain ⟨M10, eMz9⟩ : ∃ M10, M10 = Mz9 := ⟨_, rfl⟩; subst eMz9
            obtain ⟨v11, hxz9, h⟩ := qz9
            cases hxz9
            refine j_if_ne hX 100 eX0_estimateByMoving_92 (by decide) (fun c12 => ?_) (fun c12 => ?_)
            · replace h := h.2 c12
              refine j_iload hX eX0_estimateByMoving_100 4 rfl ?_
              refine j_iload hX eX0_estimateByMoving_102 5 rfl ?_
              refine j_iadd hX eX0_estimateByMoving_104 ?_
              refine j_nmI (fun v13 ev13 => ?_)
              replace h := h v13 ev13
              refine j_istore (lv' := [(5, .int v13), (9, .int (0 : Int32)), (2, .int a2), (3, .ref a3), (4, .int a4), (6, .int a6), (7, .int a7), (8, .int a8)]) hX eX0_estimateByMoving_105 (by decide) rfl ?_
              obtain ⟨v14, ev14⟩ : ∃ v14 : Int32, v14 = a7 + (1 : Int32) := ⟨_, rfl⟩
              replace h := h v14 ev14
              refine j_iinc (v := v14) (lv' := [(7, .int v14), (5, .int v13), (9, .int (0 : Int32)), (2, .int a2), (3, .ref a3), (4, .int a4), (6, .int a6), (8, .int a8)]) hX eX0_estimateByMoving_107 6 rfl (by rw [ev14]; rfl) (by decide) rfl ?_
              obtain ⟨v15, ev15⟩ : ∃ v15 : Int32, v15 = a8 + (1 : Int32) := ⟨_, rfl⟩
              replace h := h v15 ev15
              refine j_iinc (v := v15) (lv' := [(8, .int v15), (7, .int v14), (5, .int v13), (9, .int (0 : Int32)), (2, .int a2), (3, .ref a3), (4, .int a4), (6, .int a6)]) hX eX0_estimateByMoving_110 7 rfl (by rw [ev15]; rfl) (by decide) rfl ?_
              refine j_goto hX 48 eX0_estimateByMoving_113 (by decide) ?_
              exact j_sub [4, 5, 6, 2, 7, 1, 0] rfl (k48 _ _ _ _ _ _ _ _ h)
            · replace h := h.1 c12
              refine j_iload hX eX0_estimateByMoving_95 5 rfl ?_
              refine j_ineg hX eX0_estimateByMoving_97 ?_
              refine j_nmI (fun v16 ev16 => ?_)
              replace h := h v16 ev16
              refine j_istore (lv' := [(6, .int v16), (9, .int (0 : Int32)), (2, .int a2), (3, .ref a3), (4, .int a4), (5, .int a5), (7, .int a7), (8, .int a8)]) hX eX0_estimateByMoving_98 (by decide) rfl ?_
              refine j_iload hX eX0_estimateByMoving_100 5 rfl ?_
              refine j_iload hX eX0_estimateByMoving_102 0 rfl ?_
              refine j_iadd hX eX0_estimateByMoving_104 ?_
              refine j_nmI (fun v17 ev17 => ?_)
              replace h := h v17 ev17
              refine j_istore (lv' := [(5, .int v17), (6, .int v16), (9, .int (0 : Int32)), (2, .int a2), (3, .ref a3), (4, .int a4), (7, .int a7), (8, .int a8)]) hX eX0_estimateByMoving_105 (by decide) rfl ?_
              obtain ⟨v18, ev18⟩ : ∃ v18 : Int32, v18 = a7 + (1 : Int32) := ⟨_, rfl⟩
              replace h := h v18 ev18
              refine j_iinc (v := v18) (lv' := [(7, .int v18), (5, .int v17), (6, .int v16), (9, .int (0 : Int32)), (2, .int a2), (3, .ref a3), (4, .int a4), (8, .int a8)]) hX eX0_estimateByMoving_107 6 rfl (by rw [ev18]; rfl) (by decide) rfl ?_
              obtain ⟨v19, ev19⟩ : ∃ v19 : Int32, v19 = a8 + (1 : Int32) := ⟨_, rfl⟩
              replace h := h v19 ev19
              refine j_iinc (v := v19) (lv' := [(8, .int v19), (7, .int v18), (5, .int v17), (6, .int v16), (9, .int (0 : Int32)), (2, .int a2), (3, .ref a3), (4, .int a4)]) hX eX0_estimateByMoving_110 7 rfl (by rw [ev19]; rfl) (by decide) rfl ?_
              refine j_goto hX 48 eX0_estimateByMoving_113 (by decide) ?_
              exact j_sub [5, 6, 7, 2, 3, 1, 0] rfl (k48 _ _ _ _ _ _ _ _ h)
          · obtain ⟨v11, hxz9, h⟩ := qz9
            cases hxz9
      · replace h := h.2 c5
        refine j_iconst (v := (1 : Int32)) hX eX0_estimateByMoving_71 (by decide) ?_
        refine j_goto hX 76 eX0_estimateByMoving_72 (by decide) ?_
        refine j_istore (lv' := [(9, .int (1 : Int32)), (2, .int a2), (3, .ref a3), (4, .int a4), (5, .int a5), (6, .int a6), (7, .int a7), (8, .int a8)]) hX eX0_estimateByMoving_76 (by decide) rfl ?_
        refine j_iload hX eX0_estimateByMoving_78 0 rfl ?_
        refine j_if_eq hX 100 eX0_estimateByMoving_80 (by decide) (fun c20 => ?_) (fun c20 => ?_)
        · replace h := h.1 c20
          refine j_iload hX eX0_estimateByMoving_100 4 rfl ?_
          refine j_iload hX eX0_estimateByMoving_102 5 rfl ?_
          refine j_iadd hX eX0_estimateByMoving_104 ?_
          refine j_nmI (fun v21 ev21 => ?_)
          replace h := h v21 ev21
          refine j_istore (lv' := [(5, .int v21), (9, .int (1 : Int32)), (2, .int a2), (3, .ref a3), (4, .int a4), (6, .int a6), (7, .int a7), (8, .int a8)]) hX eX0_estimateByMoving_105 (by decide) rfl ?_
          obtain ⟨v22, ev22⟩ : ∃ v22 : Int32, v22 = a7 + (1 : Int32) := ⟨_, rfl⟩
          replace h := h v22 ev22
          refine j_iinc (v := v22) (lv' := [(7, .int v22), (5, .int v21), (9, .int (1 : Int32)), (2, .int a2), (3, .ref a3), (4, .int a4), (6, .int a6), (8, .int a8)]) hX eX0_estimateByMoving_107 6 rfl (by rw [ev22]; rfl) (by decide) rfl ?_
          obtain ⟨v23, ev23⟩ : ∃ v23 : Int32, v23 = a8 + (1 : Int32) := ⟨_, rfl⟩
          replace h := h v23 ev23
          refine j_iinc (v := v23) (lv' := [(8, .int v23), (7, .int v22), (5, .int v21), (9, .int (1 : Int32)), (2, .int a2), (3, .ref a3), (4, .int a4), (6, .int a6)]) hX eX0_estimateByMoving_110 7 rfl (by rw [ev23]; rfl) (by decide) rfl ?_
          refine j_goto hX 48 eX0_estimateByMoving_113 (by decide) ?_
          exact j_sub [4, 5, 6, 2, 7, 1, 0] rfl (k48 _ _ _ _ _ _ _ _ h)
        · replace h := h.2 c20
          refine j_iload hX eX0_estimateByMoving_83 3 rfl ?_
          refine j_iload hX eX0_estimateByMoving_85 4 rfl ?_
          refine j_iload hX eX0_estimateByMoving_87 5 rfl ?_
          refine j_callSN (r' := rX6_distanceToFirst) (As := [.int a4, .int a5, .int a6]) (rest := []) (d1 := d) hX eX0_estimateByMoving_89 mm_LiftGroup_Building_218 rfl h rfl (Nat.le_refl _) (Nat.zero_le _) (Nat.zero_le _) (Nat.le_of_ble_eq_true rfl) (fun vz9 Mz9 qz9 => ?_) (fun Ez9 Mz9 qz9 => ?_)
          · obtain ⟨M24, eMz9⟩ : ∃ M24, M24 = Mz9 := ⟨_, rfl⟩; subst eMz9
            obtain ⟨v25, hxz9, h⟩ := qz9
            cases hxz9
            refine j_if_ne hX 100 eX0_estimateByMoving_92 (by decide) (fun c26 => ?_) (fun c26 => ?_)
            · replace h := h.2 c26
              refine j_iload hX eX0_estimateByMoving_100 4 rfl ?_
              refine j_iload hX eX0_estimateByMoving_102 5 rfl ?_
              refine j_iadd hX eX0_estimateByMoving_104 ?_
              refine j_nmI (fun v27 ev27 => ?_)
              replace h := h v27 ev27
              refine j_istore (lv' := [(5, .int v27), (9, .int (1 : Int32)), (2, .int a2), (3, .ref a3), (4, .int a4), (6, .int a6), (7, .int a7), (8, .int a8)]) hX eX0_estimateByMoving_105 (by decide) rfl ?_
              obtain ⟨v28, ev28⟩ : ∃ v28 : Int32, v28 = a7 + (1 : Int32) := ⟨_, rfl⟩
              replace h := h v28 ev28
              refine j_iinc (v := v28) (lv' := [(7, .int v28), (5, .int v27), (9, .int (1 : Int32)), (2, .int a2), (3, .ref a3), (4, .int a4), (6, .int a6), (8, .int a8)]) hX eX0_estimateByMoving_107 6 rfl (by rw [ev28]; rfl) (by decide) rfl ?_
              obtain ⟨v29, ev29⟩ : ∃ v29 : Int32, v29 = a8 + (1 : Int32) := ⟨_, rfl⟩
              replace h := h v29 ev29
              refine j_iinc (v := v29) (lv' := [(8, .int v29), (7, .int v28), (5, .int v27), (9, .int (1 : Int32)), (2, .int a2), (3, .ref a3), (4, .int a4), (6, .int a6)]) hX eX0_estimateByMoving_110 7 rfl (by rw [ev29]; rfl) (by decide) rfl ?_
              refine j_goto hX 48 eX0_estimateByMoving_113 (by decide) ?_
              exact j_sub [4, 5, 6, 2, 7, 1, 0] rfl (k48 _ _ _ _ _ _ _ _ h)
            · replace h := h.1 c26
              refine j_iload hX eX0_estimateByMoving_95 5 rfl ?_
              refine j_ineg hX eX0_estimateByMoving_97 ?_
              refine j_nmI (fun v30 ev30 => ?_)
              replace h := h v30 ev30
              refine j_istore (lv' := [(6, .int v30), (9, .int (1 : Int32)), (2, .int a2), (3, .ref a3), (4, .int a4), (5, .int a5), (7, .int a7), (8, .int a8)]) hX eX0_estimateByMoving_98 (by decide) rfl ?_
              refine j_iload hX eX0_estimateByMoving_100 5 rfl ?_
              refine j_iload hX eX0_estimateByMoving_102 0 rfl ?_
              refine j_iadd hX eX0_estimateByMoving_104 ?_
              refine j_nmI (fun v31 ev31 => ?_)
              replace h := h v31 ev31
              refine j_istore (lv' := [(5, .int v31), (6, .int v30), (9, .int (1 : Int32)), (2, .int a2), (3, .ref a3), (4, .int a4), (7, .int a7), (8, .int a8)]) hX eX0_estimateByMoving_105 (by decide) rfl ?_
              obtain ⟨v32, ev32⟩ : ∃ v32 : Int32, v32 = a7 + (1 : Int32) := ⟨_, rfl⟩
              replace h := h v32 ev32
              refine j_iinc (v := v32) (lv' := [(7, .int v32), (5, .int v31), (6, .int v30), (9, .int (1 : Int32)), (2, .int a2), (3, .ref a3), (4, .int a4), (8, .int a8)]) hX eX0_estimateByMoving_107 6 rfl (by rw [ev32]; rfl) (by decide) rfl ?_
              obtain ⟨v33, ev33⟩ : ∃ v33 : Int32, v33 = a8 + (1 : Int32) := ⟨_, rfl⟩
              replace h := h v33 ev33
              refine j_iinc (v := v33) (lv' := [(8, .int v33), (7, .int v32), (5, .int v31), (6, .int v30), (9, .int (1 : Int32)), (2, .int a2), (3, .ref a3), (4, .int a4)]) hX eX0_estimateByMoving_110 7 rfl (by rw [ev33]; rfl) (by decide) rfl ?_
              refine j_goto hX 48 eX0_estimateByMoving_113 (by decide) ?_
              exact j_sub [5, 6, 7, 2, 3, 1, 0] rfl (k48 _ _ _ _ _ _ _ _ h)
          · obtain ⟨v25, hxz9, h⟩ := qz9
            cases hxz9

set_option maxHeartbeats 4000000 in
set_option maxRecDepth 20000 in
theorem vX0_chooseCar_0 {X : am_Cx} {G : am_Gx} {d : Nat} {Q : am_Q} (hX : am_ok X rX0_chooseCar G (d + 1)) (hM : am_me X rX0_chooseCar Q) {bc bs : Nat} (R8 : Nat → Int32 → Int32 → Int32 → Int32 → Int32 → am_Hp → Prop) (k8 : ∀ (x0 : Nat) (x1 : Int32) (x2 : Int32) (x3 : Int32) (x4 : Int32) (x5 : Int32) (M : am_Hp), R8 x0 x1 x2 x3 x4 x5 M → am_J X 8 [(0, .ref x0), (1, .int x1), (2, .int x2), (3, .int x3), (4, .int x4), (5, .int x5)] [] M bc bs) {a0 : Nat} {a1 : Int32} {a2 : Int32} {M : am_Hp} (h : R8 a0 a1 a2 (-1 : Int32) (0 : Int32) (0 : Int32) M) : am_J X 0 [(0, .ref a0), (1, .int a1), (2, .int a2)] [] M bc bs := by
  refine j_iconst (v := (-1 : Int32)) hX eX0_chooseCar_0 (by decide) ?_
  refine j_istore_n (lv' := [(3, .int (-1 : Int32)), (0, .ref a0), (1, .int a1), (2, .int a2)]) hX eX0_chooseCar_1 rfl (by decide) rfl ?_
  refine j_iconst (v := (0 : Int32)) hX eX0_chooseCar_2 (by decide) ?_
  refine j_istore (lv' := [(4, .int (0 : Int32)), (3, .int (-1 : Int32)), (0, .ref a0), (1, .int a1), (2, .int a2)]) hX eX0_chooseCar_3 (by decide) rfl ?_
  refine j_iconst (v := (0 : Int32)) hX eX0_chooseCar_5 (by decide) ?_
  refine j_istore (lv' := [(5, .int (0 : Int32)), (4, .int (0 : Int32)), (3, .int (-1 : Int32)), (0, .ref a0), (1, .int a1), (2, .int a2)]) hX eX0_chooseCar_6 (by decide) rfl ?_
  exact j_sub [3, 4, 5, 2, 1, 0] rfl (k8 _ _ _ _ _ _ _ h)
set_option maxHeartbeats 4000000 in
set_option maxRecDepth 20000 in
theorem vX0_chooseCar_8 {X : am_Cx} {G : am_Gx} {d : Nat} {Q : am_Q} (hX : am_ok X rX0_chooseCar G (d + 1)) (hM : am_me X rX0_chooseCar Q) {bc bs : Nat} (R8 : Nat → Int32 → Int32 → Int32 → Int32 → Int32 → am_Hp → Prop) (k8 : ∀ (x0 : Nat) (x1 : Int32) (x2 : Int32) (x3 : Int32) (x4 : Int32) (x5 : Int32) (M : am_Hp), R8 x0 x1 x2 x3 x4 x5 M → am_J X 8 [(0, .ref x0), (1, .int x1), (2, .int x2), (3, .int x3), (4, .int x4), (5, .int x5)] [] M bc bs) {a0 : Nat} {a1 : Int32} {a2 : Int32} {a3 : Int32} {a4 : Int32} {a5 : Int32} {M : am_Hp} (h : (((3 : Int32) ≤ a5) → (Q (.inl (some (.int a3))) M)) ∧ (¬ ((3 : Int32) ≤ a5) → (hp_T M (a0) = 1 ∧ (hp_R M 0 a0 ≠ 0 ∧ (∀ p4 : Nat, p4 = hp_R M 0 a0 → (hp_T M (p4) = 26 ∧ (vp_in a5 (hp_N M p4) ∧ (hp_Q M p4 (a5).toNatClampNeg ≠ 0 ∧ (∀ p8 : Nat, p8 = hp_Q M p4 (a5).toNatClampNeg → (hp_T M (p8) = 2 ∧ ((((hp_I M 27 p8) = 0) → (∀ v11 : Int32, v11 = a5 + (1 : Int32) → (R8 a0 a1 a2 a3 a4 v11 M))) ∧ (¬ ((hp_I M 27 p8) = 0) → ((((hp_I M 22 p8) < ((hp_I M 23 p8) + a2)) → (∀ v13 : Int32, v13 = a5 + (1 : Int32) → (R8 a0 a1 a2 a3 a4 v13 M))) ∧ (¬ ((hp_I M 22 p8) < ((hp_I M 23 p8) + a2)) → (am_CT G d rX0_estimateByFormula [.ref a0, .int a5, .int a1] M 0 0 (fun oz9 M14 => ∃ v15 : Int32, oz9 = .inl (some (.int v15)) ∧ (((a3 = (-1 : Int32)) → (∀ v17 : Int32, v17 = a5 + (1 : Int32) → (R8 a0 a1 a2 a5 v15 v17 M14))) ∧ (¬ (a3 = (-1 : Int32)) → (((a4 ≤ v15) → (∀ v19 : Int32, v19 = a5 + (1 : Int32) → (R8 a0 a1 a2 a3 a4 v19 M14))) ∧ (¬ (a4 ≤ v15) → (∀ v20 : Int32, v20 = a5 + (1 : Int32) → (R8 a0 a1 a2 a5 v15 v20 M14)))))))))))))))))))))) : am_J X 8 [(0, .ref a0), (1, .int a1), (2, .int a2), (3, .int a3), (4, .int a4), (5, .int a5)] [] M bc bs := by
  refine j_iload hX eX0_chooseCar_8 5 rfl ?_
  refine j_iconst (v := (3 : Int32)) hX eX0_chooseCar_10 (by decide) ?_
  refine j_icmp_ge hX 80 eX0_chooseCar_11 (by decide) (fun c1 => ?_) (fun c1 => ?_)
  · replace h := h.1 c1
    refine j_iload_n hX eX0_chooseCar_80 3 rfl ?_
    exact j_iret hX hM eX0_chooseCar_81 rfl h
  · replace h := h.2 c1
    refine j_aload_n hX eX0_chooseCar_14 0 rfl ?_
    obtain ⟨t2, h⟩ := h
    obtain ⟨z3, h⟩ := h
    refine j_getR hX eX0_chooseCar_15 ff_LiftGroup_Building_11 rfl t2 (by decide) z3 ?_
    refine j_nmR (fun p4 ep4 => ?_)
    replace h := h p4 ep4
    refine j_iload hX eX0_chooseCar_18 5 rfl ?_
    obtain ⟨t5, h⟩ := h
    obtain ⟨i6, h⟩ := h
    obtain ⟨z7, h⟩ := h
    refine j_aald26 hX eX0_chooseCar_20 t5 i6 z7 ?_
    refine j_nmR (fun p8 ep8 => ?_)
    replace h := h p8 ep8
    refine j_astore (lv' := [(6, .ref p8), (0, .ref a0), (1, .int a1), (2, .int a2), (3, .int a3), (4, .int a4), (5, .int a5)]) hX eX0_chooseCar_21 (by decide) rfl ?_
    refine j_aload hX eX0_chooseCar_23 0 rfl ?_
    obtain ⟨t9, h⟩ := h
    refine j_getI hX eX0_chooseCar_25 ff_LiftGroup_Building_106 rfl t9 (by decide) ?_
    refine j_if_eq hX 74 eX0_chooseCar_28 (by decide) (fun c10 => ?_) (fun c10 => ?_)
    · replace h := h.1 c10
      obtain ⟨v11, ev11⟩ : ∃ v11 : Int32, v11 = a5 + (1 : Int32) := ⟨_, rfl⟩
      replace h := h v11 ev11
      refine j_iinc (v := v11) (lv' := [(5, .int v11), (6, .ref p8), (0, .ref a0), (1, .int a1), (2, .int a2), (3, .int a3), (4, .int a4)]) hX eX0_chooseCar_74 6 rfl (by rw [ev11]; rfl) (by decide) rfl ?_
      refine j_goto hX 8 eX0_chooseCar_77 (by decide) ?_
      exact j_sub [2, 3, 4, 5, 6, 0] rfl (k8 _ _ _ _ _ _ _ h)
    · replace h := h.2 c10
      refine j_aload hX eX0_chooseCar_31 0 rfl ?_
      refine j_getI hX eX0_chooseCar_33 ff_LiftGroup_Building_109 rfl t9 (by decide) ?_
      refine j_iload_n hX eX0_chooseCar_36 3 rfl ?_
      refine j_iadd hX eX0_chooseCar_37 ?_
      refine j_aload hX eX0_chooseCar_38 0 rfl ?_
      refine j_getI hX eX0_chooseCar_40 ff_LiftGroup_Building_112 rfl t9 (by decide) ?_
      refine j_icmp_gt hX 74 eX0_chooseCar_43 (by decide) (fun c12 => ?_) (fun c12 => ?_)
      · replace h := h.1 c12
        obtain ⟨v13, ev13⟩ : ∃ v13 : Int32, v13 = a5 + (1 : Int32) := ⟨_, rfl⟩
        replace h := h v13 ev13
        refine j_iinc (v := v13) (lv' := [(5, .int v13), (6, .ref p8), (0, .ref a0), (1, .int a1), (2, .int a2), (3, .int a3), (4, .int a4)]) hX eX0_chooseCar_74 6 rfl (by rw [ev13]; rfl) (by decide) rfl ?_
        refine j_goto hX 8 eX0_chooseCar_77 (by decide) ?_
        exact j_sub [2, 3, 4, 5, 6, 0] rfl (k8 _ _ _ _ _ _ _ h)
      · replace h := h.2 c12
        refine j_aload_n hX eX0_chooseCar_46 1 rfl ?_
        refine j_iload hX eX0_chooseCar_47 6 rfl ?_
        refine j_iload_n hX eX0_chooseCar_49 2 rfl ?_
        refine j_callV (a := a0) (q := (RX0, TX0, 10)) (r' := rX0_estimateByFormula) (As := [.int a5, .int a1]) (rest := []) (d1 := d) hX eX0_chooseCar_50 mm_LiftGroup_Building_221 rfl t2 (by decide) rfl h rfl (Nat.le_refl _) (Nat.zero_le _) (Nat.zero_le _) (Nat.le_of_ble_eq_true rfl) (fun vz9 Mz9 qz9 => ?_) (fun Ez9 Mz9 qz9 => ?_)
        · obtain ⟨M14, eMz9⟩ : ∃ M14, M14 = Mz9 := ⟨_, rfl⟩; subst eMz9
          obtain ⟨v15, hxz9, h⟩ := qz9
          cases hxz9
          refine j_istore (lv' := [(7, .int v15), (6, .ref p8), (0, .ref a0), (1, .int a1), (2, .int a2), (3, .int a3), (4, .int a4), (5, .int a5)]) hX eX0_chooseCar_53 (by decide) rfl ?_
          refine j_iload_n hX eX0_chooseCar_55 5 rfl ?_
          refine j_iconst (v := (-1 : Int32)) hX eX0_chooseCar_56 (by decide) ?_
          refine j_icmp_eq hX 67 eX0_chooseCar_57 (by decide) (fun c16 => ?_) (fun c16 => ?_)
          · replace h := h.1 c16
            refine j_iload hX eX0_chooseCar_67 7 rfl ?_
            refine j_istore_n (lv' := [(3, .int a5), (7, .int v15), (6, .ref p8), (0, .ref a0), (1, .int a1), (2, .int a2), (4, .int a4), (5, .int a5)]) hX eX0_chooseCar_69 rfl (by decide) rfl ?_
            refine j_iload hX eX0_chooseCar_70 1 rfl ?_
            refine j_istore (lv' := [(4, .int v15), (3, .int a5), (7, .int v15), (6, .ref p8), (0, .ref a0), (1, .int a1), (2, .int a2), (5, .int a5)]) hX eX0_chooseCar_72 (by decide) rfl ?_
            obtain ⟨v17, ev17⟩ : ∃ v17 : Int32, v17 = a5 + (1 : Int32) := ⟨_, rfl⟩
            replace h := h v17 ev17
            refine j_iinc (v := v17) (lv' := [(5, .int v17), (4, .int v15), (3, .int a5), (7, .int v15), (6, .ref p8), (0, .ref a0), (1, .int a1), (2, .int a2)]) hX eX0_chooseCar_74 7 rfl (by rw [ev17]; rfl) (by decide) rfl ?_
            refine j_goto hX 8 eX0_chooseCar_77 (by decide) ?_
            exact j_sub [5, 6, 7, 2, 1, 0] rfl (k8 _ _ _ _ _ _ _ h)
          · replace h := h.2 c16
            refine j_iload hX eX0_chooseCar_60 0 rfl ?_
            refine j_iload hX eX0_chooseCar_62 6 rfl ?_
            refine j_icmp_ge hX 74 eX0_chooseCar_64 (by decide) (fun c18 => ?_) (fun c18 => ?_)
            · replace h := h.1 c18
              obtain ⟨v19, ev19⟩ : ∃ v19 : Int32, v19 = a5 + (1 : Int32) := ⟨_, rfl⟩
              replace h := h v19 ev19
              refine j_iinc (v := v19) (lv' := [(5, .int v19), (7, .int v15), (6, .ref p8), (0, .ref a0), (1, .int a1), (2, .int a2), (3, .int a3), (4, .int a4)]) hX eX0_chooseCar_74 7 rfl (by rw [ev19]; rfl) (by decide) rfl ?_
              refine j_goto hX 8 eX0_chooseCar_77 (by decide) ?_
              exact j_sub [3, 4, 5, 6, 7, 0] rfl (k8 _ _ _ _ _ _ _ h)
            · replace h := h.2 c18
              refine j_iload hX eX0_chooseCar_67 7 rfl ?_
              refine j_istore_n (lv' := [(3, .int a5), (7, .int v15), (6, .ref p8), (0, .ref a0), (1, .int a1), (2, .int a2), (4, .int a4), (5, .int a5)]) hX eX0_chooseCar_69 rfl (by decide) rfl ?_
              refine j_iload hX eX0_chooseCar_70 1 rfl ?_
              refine j_istore (lv' := [(4, .int v15), (3, .int a5), (7, .int v15), (6, .ref p8), (0, .ref a0), (1, .int a1), (2, .int a2), (5, .int a5)]) hX eX0_chooseCar_72 (by decide) rfl ?_
              obtain ⟨v20, ev20⟩ : ∃ v20 : Int32, v20 = a5 + (1 : Int32) := ⟨_, rfl⟩
              replace h := h v20 ev20
              refine j_iinc (v := v20) (lv' := [(5, .int v20), (4, .int v15), (3, .int a5), (7, .int v15), (6, .ref p8), (0, .ref a0), (1, .int a1), (2, .int a2)]) hX eX0_chooseCar_74 7 rfl (by rw [ev20]; rfl) (by decide) rfl ?_
              refine j_goto hX 8 eX0_chooseCar_77 (by decide) ?_
              exact j_sub [5, 6, 7, 2, 1, 0] rfl (k8 _ _ _ _ _ _ _ h)
        · obtain ⟨v15, hxz9, h⟩ := qz9
          cases hxz9

set_option maxHeartbeats 4000000 in
set_option maxRecDepth 20000 in
theorem vX0_isPassenger_0 {X : am_Cx} {G : am_Gx} {d : Nat} {Q : am_Q} (hX : am_ok X rX0_isPassenger G (d + 1)) (hM : am_me X rX0_isPassenger Q) {bc bs : Nat}  {a0 : Nat} {a1 : Int32} {M : am_Hp} (h : ((a1 < 0) → (Q (.inl (some (.int (0 : Int32)))) M)) ∧ (¬ (a1 < 0) → (hp_T M (a0) = 1 ∧ ((((hp_I M 3 a0) ≤ a1) → (Q (.inl (some (.int (0 : Int32)))) M)) ∧ (¬ ((hp_I M 3 a0) ≤ a1) → (Q (.inl (some (.int (1 : Int32)))) M)))))) : am_J X 0 [(0, .ref a0), (1, .int a1)] [] M bc bs := by
  refine j_iload_n hX eX0_isPassenger_0 1 rfl ?_
  refine j_if_lt hX 16 eX0_isPassenger_1 (by decide) (fun c1 => ?_) (fun c1 => ?_)
  · replace h := h.1 c1
    refine j_iconst (v := (0 : Int32)) hX eX0_isPassenger_16 (by decide) ?_
    exact j_zret hX hM eX0_isPassenger_17 rfl (by decide) h
  · replace h := h.2 c1
    refine j_iload_n hX eX0_isPassenger_4 1 rfl ?_
    refine j_aload_n hX eX0_isPassenger_5 0 rfl ?_
    obtain ⟨t2, h⟩ := h
    refine j_getI hX eX0_isPassenger_6 ff_LiftGroup_Building_30 rfl t2 (by decide) ?_
    refine j_icmp_ge hX 16 eX0_isPassenger_9 (by decide) (fun c3 => ?_) (fun c3 => ?_)
    · replace h := h.1 c3
      refine j_iconst (v := (0 : Int32)) hX eX0_isPassenger_16 (by decide) ?_
      exact j_zret hX hM eX0_isPassenger_17 rfl (by decide) h
    · replace h := h.2 c3
      refine j_iconst (v := (1 : Int32)) hX eX0_isPassenger_12 (by decide) ?_
      refine j_goto hX 17 eX0_isPassenger_13 (by decide) ?_
      exact j_zret hX hM eX0_isPassenger_17 rfl (by decide) h

set_option maxHeartbeats 4000000 in
set_option maxRecDepth 20000 in
theorem vX0_indexOf_0 {X : am_Cx} {G : am_Gx} {d : Nat} {Q : am_Q} (hX : am_ok X rX0_indexOf G (d + 1)) (hM : am_me X rX0_indexOf Q) {bc bs : Nat} (R2 : Nat → Int32 → Int32 → am_Hp → Prop) (k2 : ∀ (x0 : Nat) (x1 : Int32) (x2 : Int32) (M : am_Hp), R2 x0 x1 x2 M → am_J X 2 [(0, .ref x0), (1, .int x1), (2, .int x2)] [] M bc bs) {a0 : Nat} {a1 : Int32} {M : am_Hp} (h : R2 a0 a1 (0 : Int32) M) : am_J X 0 [(0, .ref a0), (1, .int a1)] [] M bc bs := by
  refine j_iconst (v := (0 : Int32)) hX eX0_indexOf_0 (by decide) ?_
  refine j_istore_n (lv' := [(2, .int (0 : Int32)), (0, .ref a0), (1, .int a1)]) hX eX0_indexOf_1 rfl (by decide) rfl ?_
  exact j_sub [1, 2, 0] rfl (k2 _ _ _ _ h)
set_option maxHeartbeats 4000000 in
set_option maxRecDepth 20000 in
theorem vX0_indexOf_2 {X : am_Cx} {G : am_Gx} {d : Nat} {Q : am_Q} (hX : am_ok X rX0_indexOf G (d + 1)) (hM : am_me X rX0_indexOf Q) {bc bs : Nat} (R2 : Nat → Int32 → Int32 → am_Hp → Prop) (k2 : ∀ (x0 : Nat) (x1 : Int32) (x2 : Int32) (M : am_Hp), R2 x0 x1 x2 M → am_J X 2 [(0, .ref x0), (1, .int x1), (2, .int x2)] [] M bc bs) {a0 : Nat} {a1 : Int32} {a2 : Int32} {M : am_Hp} (h : hp_T M (a0) = 1 ∧ ((((hp_I M 3 a0) ≤ a2) → (Q (.inl (some (.int (-1 : Int32)))) M)) ∧ (¬ ((hp_I M 3 a0) ≤ a2) → (hp_R M 1 a0 ≠ 0 ∧ (∀ p4 : Nat, p4 = hp_R M 1 a0 → (hp_T M (p4) = 27 ∧ (vp_in a2 (hp_N M p4) ∧ (hp_Q M p4 (a2).toNatClampNeg ≠ 0 ∧ (∀ p8 : Nat, p8 = hp_Q M p4 (a2).toNatClampNeg → (hp_T M (p8) = 4 ∧ ((((hp_I M 60 p8) = a1) → (Q (.inl (some (.int a2))) M)) ∧ (¬ ((hp_I M 60 p8) = a1) → (∀ v11 : Int32, v11 = a2 + (1 : Int32) → (R2 a0 a1 v11 M)))))))))))))) : am_J X 2 [(0, .ref a0), (1, .int a1), (2, .int a2)] [] M bc bs := by
  refine j_iload_n hX eX0_indexOf_2 2 rfl ?_
  refine j_aload_n hX eX0_indexOf_3 0 rfl ?_
  obtain ⟨t1, h⟩ := h
  refine j_getI hX eX0_indexOf_4 ff_LiftGroup_Building_30 rfl t1 (by decide) ?_
  refine j_icmp_ge hX 31 eX0_indexOf_7 (by decide) (fun c2 => ?_) (fun c2 => ?_)
  · replace h := h.1 c2
    refine j_iconst (v := (-1 : Int32)) hX eX0_indexOf_31 (by decide) ?_
    exact j_iret hX hM eX0_indexOf_32 rfl h
  · replace h := h.2 c2
    refine j_aload_n hX eX0_indexOf_10 0 rfl ?_
    obtain ⟨z3, h⟩ := h
    refine j_getR hX eX0_indexOf_11 ff_LiftGroup_Building_19 rfl t1 (by decide) z3 ?_
    refine j_nmR (fun p4 ep4 => ?_)
    replace h := h p4 ep4
    refine j_iload_n hX eX0_indexOf_14 2 rfl ?_
    obtain ⟨t5, h⟩ := h
    obtain ⟨i6, h⟩ := h
    obtain ⟨z7, h⟩ := h
    refine j_aald27 hX eX0_indexOf_15 t5 i6 z7 ?_
    refine j_nmR (fun p8 ep8 => ?_)
    replace h := h p8 ep8
    obtain ⟨t9, h⟩ := h
    refine j_getI hX eX0_indexOf_16 ff_LiftGroup_Building_71 rfl t9 (by decide) ?_
    refine j_iload_n hX eX0_indexOf_19 1 rfl ?_
    refine j_icmp_ne hX 25 eX0_indexOf_20 (by decide) (fun c10 => ?_) (fun c10 => ?_)
    · replace h := h.2 c10
      obtain ⟨v11, ev11⟩ : ∃ v11 : Int32, v11 = a2 + (1 : Int32) := ⟨_, rfl⟩
      replace h := h v11 ev11
      refine j_iinc (v := v11) (lv' := [(2, .int v11), (0, .ref a0), (1, .int a1)]) hX eX0_indexOf_25 2 rfl (by rw [ev11]; rfl) (by decide) rfl ?_
      refine j_goto hX 2 eX0_indexOf_28 (by decide) ?_
      exact j_sub [1, 2, 0] rfl (k2 _ _ _ _ h)
    · replace h := h.1 c10
      refine j_iload_n hX eX0_indexOf_23 2 rfl ?_
      exact j_iret hX hM eX0_indexOf_24 rfl h

set_option maxHeartbeats 4000000 in
set_option maxRecDepth 20000 in
theorem vX0_isRiding_0 {X : am_Cx} {G : am_Gx} {d : Nat} {Q : am_Q} (hX : am_ok X rX0_isRiding G (d + 1)) (hM : am_me X rX0_isRiding Q) {bc bs : Nat}  {a0 : Nat} {a1 : Int32} {M : am_Hp} (h : hp_T M (a0) = 1 ∧ (am_CT G d rX0_indexOf [.ref a0, .int a1] M 0 0 (fun oz9 M1 => ∃ v2 : Int32, oz9 = .inl (some (.int v2)) ∧ (((v2 = (-1 : Int32)) → (Q (.inl (some (.int (0 : Int32)))) M1)) ∧ (¬ (v2 = (-1 : Int32)) → (hp_T M1 (a0) = 1 ∧ (hp_R M1 1 a0 ≠ 0 ∧ (∀ p7 : Nat, p7 = hp_R M1 1 a0 → (hp_T M1 (p7) = 27 ∧ (vp_in v2 (hp_N M1 p7) ∧ (hp_Q M1 p7 (v2).toNatClampNeg ≠ 0 ∧ (∀ p11 : Nat, p11 = hp_Q M1 p7 (v2).toNatClampNeg → (hp_T M1 (p11) = 4 ∧ ((((hp_I M1 66 p11) = 0) → (Q (.inl (some (.int (0 : Int32)))) M1)) ∧ (¬ ((hp_I M1 66 p11) = 0) → (Q (.inl (some (.int (1 : Int32)))) M1)))))))))))))))) : am_J X 0 [(0, .ref a0), (1, .int a1)] [] M bc bs := by
  refine j_aload_n hX eX0_isRiding_0 0 rfl ?_
  refine j_iload_n hX eX0_isRiding_1 1 rfl ?_
  obtain ⟨t3, h⟩ := h
  refine j_callV (a := a0) (q := (RX0, TX0, 10)) (r' := rX0_indexOf) (As := [.int a1]) (rest := []) (d1 := d) hX eX0_isRiding_2 mm_LiftGroup_Building_224 rfl t3 (by decide) rfl h rfl (Nat.le_refl _) (Nat.zero_le _) (Nat.zero_le _) (Nat.le_of_ble_eq_true rfl) (fun vz9 Mz9 qz9 => ?_) (fun Ez9 Mz9 qz9 => ?_)
  · obtain ⟨M1, eMz9⟩ : ∃ M1, M1 = Mz9 := ⟨_, rfl⟩; subst eMz9
    obtain ⟨v2, hxz9, h⟩ := qz9
    cases hxz9
    refine j_istore_n (lv' := [(2, .int v2), (0, .ref a0), (1, .int a1)]) hX eX0_isRiding_5 rfl (by decide) rfl ?_
    refine j_iload_n hX eX0_isRiding_6 0 rfl ?_
    refine j_iconst (v := (-1 : Int32)) hX eX0_isRiding_7 (by decide) ?_
    refine j_icmp_eq hX 27 eX0_isRiding_8 (by decide) (fun c4 => ?_) (fun c4 => ?_)
    · replace h := h.1 c4
      refine j_iconst (v := (0 : Int32)) hX eX0_isRiding_27 (by decide) ?_
      exact j_zret hX hM eX0_isRiding_28 rfl (by decide) h
    · replace h := h.2 c4
      refine j_aload_n hX eX0_isRiding_11 1 rfl ?_
      obtain ⟨t5, h⟩ := h
      obtain ⟨z6, h⟩ := h
      refine j_getR hX eX0_isRiding_12 ff_LiftGroup_Building_19 rfl t5 (by decide) z6 ?_
      refine j_nmR (fun p7 ep7 => ?_)
      replace h := h p7 ep7
      refine j_iload_n hX eX0_isRiding_15 0 rfl ?_
      obtain ⟨t8, h⟩ := h
      obtain ⟨i9, h⟩ := h
      obtain ⟨z10, h⟩ := h
      refine j_aald27 hX eX0_isRiding_16 t8 i9 z10 ?_
      refine j_nmR (fun p11 ep11 => ?_)
      replace h := h p11 ep11
      obtain ⟨t12, h⟩ := h
      refine j_getI hX eX0_isRiding_17 ff_LiftGroup_Building_86 rfl t12 (by decide) ?_
      refine j_if_eq hX 27 eX0_isRiding_20 (by decide) (fun c13 => ?_) (fun c13 => ?_)
      · replace h := h.1 c13
        refine j_iconst (v := (0 : Int32)) hX eX0_isRiding_27 (by decide) ?_
        exact j_zret hX hM eX0_isRiding_28 rfl (by decide) h
      · replace h := h.2 c13
        refine j_iconst (v := (1 : Int32)) hX eX0_isRiding_23 (by decide) ?_
        refine j_goto hX 28 eX0_isRiding_24 (by decide) ?_
        exact j_zret hX hM eX0_isRiding_28 rfl (by decide) h
  · obtain ⟨v2, hxz9, h⟩ := qz9
    cases hxz9

set_option maxHeartbeats 4000000 in
set_option maxRecDepth 20000 in
theorem vX0_countAssigned_0 {X : am_Cx} {G : am_Gx} {d : Nat} {Q : am_Q} (hX : am_ok X rX0_countAssigned G (d + 1)) (hM : am_me X rX0_countAssigned Q) {bc bs : Nat} (R4 : Nat → Int32 → Int32 → Int32 → am_Hp → Prop) (k4 : ∀ (x0 : Nat) (x1 : Int32) (x2 : Int32) (x3 : Int32) (M : am_Hp), R4 x0 x1 x2 x3 M → am_J X 4 [(0, .ref x0), (1, .int x1), (2, .int x2), (3, .int x3)] [] M bc bs) {a0 : Nat} {a1 : Int32} {M : am_Hp} (h : R4 a0 a1 (0 : Int32) (0 : Int32) M) : am_J X 0 [(0, .ref a0), (1, .int a1)] [] M bc bs := by
  refine j_iconst (v := (0 : Int32)) hX eX0_countAssigned_0 (by decide) ?_
  refine j_istore_n (lv' := [(2, .int (0 : Int32)), (0, .ref a0), (1, .int a1)]) hX eX0_countAssigned_1 rfl (by decide) rfl ?_
  refine j_iconst (v := (0 : Int32)) hX eX0_countAssigned_2 (by decide) ?_
  refine j_istore_n (lv' := [(3, .int (0 : Int32)), (2, .int (0 : Int32)), (0, .ref a0), (1, .int a1)]) hX eX0_countAssigned_3 rfl (by decide) rfl ?_
  exact j_sub [2, 3, 1, 0] rfl (k4 _ _ _ _ _ h)
set_option maxHeartbeats 4000000 in
set_option maxRecDepth 20000 in
theorem vX0_countAssigned_4 {X : am_Cx} {G : am_Gx} {d : Nat} {Q : am_Q} (hX : am_ok X rX0_countAssigned G (d + 1)) (hM : am_me X rX0_countAssigned Q) {bc bs : Nat} (R4 : Nat → Int32 → Int32 → Int32 → am_Hp → Prop) (k4 : ∀ (x0 : Nat) (x1 : Int32) (x2 : Int32) (x3 : Int32) (M : am_Hp), R4 x0 x1 x2 x3 M → am_J X 4 [(0, .ref x0), (1, .int x1), (2, .int x2), (3, .int x3)] [] M bc bs) {a0 : Nat} {a1 : Int32} {a2 : Int32} {a3 : Int32} {M : am_Hp} (h : hp_T M (a0) = 1 ∧ ((((hp_I M 3 a0) ≤ a3) → (Q (.inl (some (.int a2))) M)) ∧ (¬ ((hp_I M 3 a0) ≤ a3) → (hp_R M 1 a0 ≠ 0 ∧ (∀ p4 : Nat, p4 = hp_R M 1 a0 → (hp_T M (p4) = 27 ∧ (vp_in a3 (hp_N M p4) ∧ (hp_Q M p4 (a3).toNatClampNeg ≠ 0 ∧ (∀ p8 : Nat, p8 = hp_Q M p4 (a3).toNatClampNeg → (hp_T M (p8) = 4 ∧ ((((hp_I M 66 p8) = 0) → (hp_R M 1 a0 ≠ 0 ∧ (∀ p13 : Nat, p13 = hp_R M 1 a0 → (hp_T M (p13) = 27 ∧ (vp_in a3 (hp_N M p13) ∧ (hp_Q M p13 (a3).toNatClampNeg ≠ 0 ∧ (∀ p17 : Nat, p17 = hp_Q M p13 (a3).toNatClampNeg → (hp_T M (p17) = 4 ∧ ((((hp_I M 65 p17) = a1) → (∀ v21 : Int32, v21 = a2 + (1 : Int32) → (∀ v22 : Int32, v22 = a3 + (1 : Int32) → (R4 a0 a1 v21 v22 M)))) ∧ (¬ ((hp_I M 65 p17) = a1) → (∀ v20 : Int32, v20 = a3 + (1 : Int32) → (R4 a0 a1 a2 v20 M)))))))))))) ∧ (¬ ((hp_I M 66 p8) = 0) → (∀ v11 : Int32, v11 = a3 + (1 : Int32) → (R4 a0 a1 a2 v11 M)))))))))))))) : am_J X 4 [(0, .ref a0), (1, .int a1), (2, .int a2), (3, .int a3)] [] M bc bs := by
  refine j_iload_n hX eX0_countAssigned_4 3 rfl ?_
  refine j_aload_n hX eX0_countAssigned_5 0 rfl ?_
  obtain ⟨t1, h⟩ := h
  refine j_getI hX eX0_countAssigned_6 ff_LiftGroup_Building_30 rfl t1 (by decide) ?_
  refine j_icmp_ge hX 46 eX0_countAssigned_9 (by decide) (fun c2 => ?_) (fun c2 => ?_)
  · replace h := h.1 c2
    refine j_iload_n hX eX0_countAssigned_46 2 rfl ?_
    exact j_iret hX hM eX0_countAssigned_47 rfl h
  · replace h := h.2 c2
    refine j_aload_n hX eX0_countAssigned_12 0 rfl ?_
    obtain ⟨z3, h⟩ := h
    refine j_getR hX eX0_countAssigned_13 ff_LiftGroup_Building_19 rfl t1 (by decide) z3 ?_
    refine j_nmR (fun p4 ep4 => ?_)
    replace h := h p4 ep4
    refine j_iload_n hX eX0_countAssigned_16 3 rfl ?_
    obtain ⟨t5, h⟩ := h
    obtain ⟨i6, h⟩ := h
    obtain ⟨z7, h⟩ := h
    refine j_aald27 hX eX0_countAssigned_17 t5 i6 z7 ?_
    refine j_nmR (fun p8 ep8 => ?_)
    replace h := h p8 ep8
    obtain ⟨t9, h⟩ := h
    refine j_getI hX eX0_countAssigned_18 ff_LiftGroup_Building_86 rfl t9 (by decide) ?_
    refine j_if_ne hX 40 eX0_countAssigned_21 (by decide) (fun c10 => ?_) (fun c10 => ?_)
    · replace h := h.2 c10
      obtain ⟨v11, ev11⟩ : ∃ v11 : Int32, v11 = a3 + (1 : Int32) := ⟨_, rfl⟩
      replace h := h v11 ev11
      refine j_iinc (v := v11) (lv' := [(3, .int v11), (0, .ref a0), (1, .int a1), (2, .int a2)]) hX eX0_countAssigned_40 3 rfl (by rw [ev11]; rfl) (by decide) rfl ?_
      refine j_goto hX 4 eX0_countAssigned_43 (by decide) ?_
      exact j_sub [1, 2, 3, 0] rfl (k4 _ _ _ _ _ h)
    · replace h := h.1 c10
      refine j_aload_n hX eX0_countAssigned_24 0 rfl ?_
      obtain ⟨z12, h⟩ := h
      refine j_getR hX eX0_countAssigned_25 ff_LiftGroup_Building_19 rfl t1 (by decide) z12 ?_
      refine j_nmR (fun p13 ep13 => ?_)
      replace h := h p13 ep13
      refine j_iload_n hX eX0_countAssigned_28 3 rfl ?_
      obtain ⟨t14, h⟩ := h
      obtain ⟨i15, h⟩ := h
      obtain ⟨z16, h⟩ := h
      refine j_aald27 hX eX0_countAssigned_29 t14 i15 z16 ?_
      refine j_nmR (fun p17 ep17 => ?_)
      replace h := h p17 ep17
      obtain ⟨t18, h⟩ := h
      refine j_getI hX eX0_countAssigned_30 ff_LiftGroup_Building_94 rfl t18 (by decide) ?_
      refine j_iload_n hX eX0_countAssigned_33 1 rfl ?_
      refine j_icmp_ne hX 40 eX0_countAssigned_34 (by decide) (fun c19 => ?_) (fun c19 => ?_)
      · replace h := h.2 c19
        obtain ⟨v20, ev20⟩ : ∃ v20 : Int32, v20 = a3 + (1 : Int32) := ⟨_, rfl⟩
        replace h := h v20 ev20
        refine j_iinc (v := v20) (lv' := [(3, .int v20), (0, .ref a0), (1, .int a1), (2, .int a2)]) hX eX0_countAssigned_40 3 rfl (by rw [ev20]; rfl) (by decide) rfl ?_
        refine j_goto hX 4 eX0_countAssigned_43 (by decide) ?_
        exact j_sub [1, 2, 3, 0] rfl (k4 _ _ _ _ _ h)
      · replace h := h.1 c19
        obtain ⟨v21, ev21⟩ : ∃ v21 : Int32, v21 = a2 + (1 : Int32) := ⟨_, rfl⟩
        replace h := h v21 ev21
        refine j_iinc (v := v21) (lv' := [(2, .int v21), (0, .ref a0), (1, .int a1), (3, .int a3)]) hX eX0_countAssigned_37 2 rfl (by rw [ev21]; rfl) (by decide) rfl ?_
        obtain ⟨v22, ev22⟩ : ∃ v22 : Int32, v22 = a3 + (1 : Int32) := ⟨_, rfl⟩
        replace h := h v22 ev22
        refine j_iinc (v := v22) (lv' := [(3, .int v22), (2, .int v21), (0, .ref a0), (1, .int a1)]) hX eX0_countAssigned_40 3 rfl (by rw [ev22]; rfl) (by decide) rfl ?_
        refine j_goto hX 4 eX0_countAssigned_43 (by decide) ?_
        exact j_sub [2, 3, 1, 0] rfl (k4 _ _ _ _ _ h)

set_option maxHeartbeats 4000000 in
set_option maxRecDepth 20000 in
theorem vX0_countMoreEnergetic_0 {X : am_Cx} {G : am_Gx} {d : Nat} {Q : am_Q} (hX : am_ok X rX0_countMoreEnergetic G (d + 1)) (hM : am_me X rX0_countMoreEnergetic Q) {bc bs : Nat} (R4 : Nat → Int32 → Int32 → Int32 → am_Hp → Prop) (k4 : ∀ (x0 : Nat) (x1 : Int32) (x2 : Int32) (x3 : Int32) (M : am_Hp), R4 x0 x1 x2 x3 M → am_J X 4 [(0, .ref x0), (1, .int x1), (2, .int x2), (3, .int x3)] [] M bc bs) {a0 : Nat} {a1 : Int32} {M : am_Hp} (h : R4 a0 a1 (0 : Int32) (0 : Int32) M) : am_J X 0 [(0, .ref a0), (1, .int a1)] [] M bc bs := by
  refine j_iconst (v := (0 : Int32)) hX eX0_countMoreEnergetic_0 (by decide) ?_
  refine j_istore_n (lv' := [(2, .int (0 : Int32)), (0, .ref a0), (1, .int a1)]) hX eX0_countMoreEnergetic_1 rfl (by decide) rfl ?_
  refine j_iconst (v := (0 : Int32)) hX eX0_countMoreEnergetic_2 (by decide) ?_
  refine j_istore_n (lv' := [(3, .int (0 : Int32)), (2, .int (0 : Int32)), (0, .ref a0), (1, .int a1)]) hX eX0_countMoreEnergetic_3 rfl (by decide) rfl ?_
  exact j_sub [2, 3, 1, 0] rfl (k4 _ _ _ _ _ h)
set_option maxHeartbeats 4000000 in
set_option maxRecDepth 20000 in
theorem vX0_countMoreEnergetic_4 {X : am_Cx} {G : am_Gx} {d : Nat} {Q : am_Q} (hX : am_ok X rX0_countMoreEnergetic G (d + 1)) (hM : am_me X rX0_countMoreEnergetic Q) {bc bs : Nat} (R4 : Nat → Int32 → Int32 → Int32 → am_Hp → Prop) (k4 : ∀ (x0 : Nat) (x1 : Int32) (x2 : Int32) (x3 : Int32) (M : am_Hp), R4 x0 x1 x2 x3 M → am_J X 4 [(0, .ref x0), (1, .int x1), (2, .int x2), (3, .int x3)] [] M bc bs) {a0 : Nat} {a1 : Int32} {a2 : Int32} {a3 : Int32} {M : am_Hp} (h : (((3 : Int32) ≤ a3) → (Q (.inl (some (.int a2))) M)) ∧ (¬ ((3 : Int32) ≤ a3) → (hp_T M (a0) = 1 ∧ (am_CT G d rX0_spendsBefore [.ref a0, .int a3, .int a1] M 0 0 (fun oz9 M2 => ∃ v3 : Int32, oz9 = .inl (some (.int v3)) ∧ (((v3 = 0) → (∀ v6 : Int32, v6 = a3 + (1 : Int32) → (R4 a0 a1 a2 v6 M2))) ∧ (¬ (v3 = 0) → (∀ v7 : Int32, v7 = a2 + (1 : Int32) → (∀ v8 : Int32, v8 = a3 + (1 : Int32) → (R4 a0 a1 v7 v8 M2)))))))))) : am_J X 4 [(0, .ref a0), (1, .int a1), (2, .int a2), (3, .int a3)] [] M bc bs := by
  refine j_iload_n hX eX0_countMoreEnergetic_4 3 rfl ?_
  refine j_iconst (v := (3 : Int32)) hX eX0_countMoreEnergetic_5 (by decide) ?_
  refine j_icmp_ge hX 27 eX0_countMoreEnergetic_6 (by decide) (fun c1 => ?_) (fun c1 => ?_)
  · replace h := h.1 c1
    refine j_iload_n hX eX0_countMoreEnergetic_27 2 rfl ?_
    exact j_iret hX hM eX0_countMoreEnergetic_28 rfl h
  · replace h := h.2 c1
    refine j_aload_n hX eX0_countMoreEnergetic_9 0 rfl ?_
    refine j_iload_n hX eX0_countMoreEnergetic_10 3 rfl ?_
    refine j_iload_n hX eX0_countMoreEnergetic_11 1 rfl ?_
    obtain ⟨t4, h⟩ := h
    refine j_callV (a := a0) (q := (RX0, TX0, 10)) (r' := rX0_spendsBefore) (As := [.int a3, .int a1]) (rest := []) (d1 := d) hX eX0_countMoreEnergetic_12 mm_LiftGroup_Building_230 rfl t4 (by decide) rfl h rfl (Nat.le_refl _) (Nat.zero_le _) (Nat.zero_le _) (Nat.le_of_ble_eq_true rfl) (fun vz9 Mz9 qz9 => ?_) (fun Ez9 Mz9 qz9 => ?_)
    · obtain ⟨M2, eMz9⟩ : ∃ M2, M2 = Mz9 := ⟨_, rfl⟩; subst eMz9
      obtain ⟨v3, hxz9, h⟩ := qz9
      cases hxz9
      refine j_if_eq hX 21 eX0_countMoreEnergetic_15 (by decide) (fun c5 => ?_) (fun c5 => ?_)
      · replace h := h.1 c5
        obtain ⟨v6, ev6⟩ : ∃ v6 : Int32, v6 = a3 + (1 : Int32) := ⟨_, rfl⟩
        replace h := h v6 ev6
        refine j_iinc (v := v6) (lv' := [(3, .int v6), (0, .ref a0), (1, .int a1), (2, .int a2)]) hX eX0_countMoreEnergetic_21 3 rfl (by rw [ev6]; rfl) (by decide) rfl ?_
        refine j_goto hX 4 eX0_countMoreEnergetic_24 (by decide) ?_
        exact j_sub [1, 2, 3, 0] rfl (k4 _ _ _ _ _ h)
      · replace h := h.2 c5
        obtain ⟨v7, ev7⟩ : ∃ v7 : Int32, v7 = a2 + (1 : Int32) := ⟨_, rfl⟩
        replace h := h v7 ev7
        refine j_iinc (v := v7) (lv' := [(2, .int v7), (0, .ref a0), (1, .int a1), (3, .int a3)]) hX eX0_countMoreEnergetic_18 2 rfl (by rw [ev7]; rfl) (by decide) rfl ?_
        obtain ⟨v8, ev8⟩ : ∃ v8 : Int32, v8 = a3 + (1 : Int32) := ⟨_, rfl⟩
        replace h := h v8 ev8
        refine j_iinc (v := v8) (lv' := [(3, .int v8), (2, .int v7), (0, .ref a0), (1, .int a1)]) hX eX0_countMoreEnergetic_21 3 rfl (by rw [ev8]; rfl) (by decide) rfl ?_
        refine j_goto hX 4 eX0_countMoreEnergetic_24 (by decide) ?_
        exact j_sub [2, 3, 1, 0] rfl (k4 _ _ _ _ _ h)
    · obtain ⟨v3, hxz9, h⟩ := qz9
      cases hxz9

set_option maxHeartbeats 4000000 in
set_option maxRecDepth 20000 in
theorem vX0_spendsBefore_0 {X : am_Cx} {G : am_Gx} {d : Nat} {Q : am_Q} (hX : am_ok X rX0_spendsBefore G (d + 1)) (hM : am_me X rX0_spendsBefore Q) {bc bs : Nat}  {a0 : Nat} {a1 : Int32} {a2 : Int32} {M : am_Hp} (h : hp_T M (a0) = 1 ∧ (hp_R M 0 a0 ≠ 0 ∧ (∀ p3 : Nat, p3 = hp_R M 0 a0 → (hp_T M (p3) = 26 ∧ (vp_in a1 (hp_N M p3) ∧ (hp_Q M p3 (a1).toNatClampNeg ≠ 0 ∧ (∀ p7 : Nat, p7 = hp_Q M p3 (a1).toNatClampNeg → (hp_R M 0 a0 ≠ 0 ∧ (∀ p9 : Nat, p9 = hp_R M 0 a0 → (hp_T M (p9) = 26 ∧ (vp_in a2 (hp_N M p9) ∧ (hp_Q M p9 (a2).toNatClampNeg ≠ 0 ∧ (∀ p13 : Nat, p13 = hp_Q M p9 (a2).toNatClampNeg → (hp_T M (p7) = 2 ∧ (hp_T M (p13) = 2 ∧ ((((hp_I M 26 p7) = (hp_I M 26 p13)) → ((((hp_I M 23 p7) = (hp_I M 23 p13)) → (((a2 ≤ a1) → (Q (.inl (some (.int (0 : Int32)))) M)) ∧ (¬ (a2 ≤ a1) → (Q (.inl (some (.int (1 : Int32)))) M)))) ∧ (¬ ((hp_I M 23 p7) = (hp_I M 23 p13)) → ((((hp_I M 23 p7) ≤ (hp_I M 23 p13)) → (Q (.inl (some (.int (0 : Int32)))) M)) ∧ (¬ ((hp_I M 23 p7) ≤ (hp_I M 23 p13)) → (Q (.inl (some (.int (1 : Int32)))) M)))))) ∧ (¬ ((hp_I M 26 p7) = (hp_I M 26 p13)) → ((((hp_I M 26 p7) ≤ (hp_I M 26 p13)) → (Q (.inl (some (.int (0 : Int32)))) M)) ∧ (¬ ((hp_I M 26 p7) ≤ (hp_I M 26 p13)) → (Q (.inl (some (.int (1 : Int32)))) M)))))))))))))))))))) : am_J X 0 [(0, .ref a0), (1, .int a1), (2, .int a2)] [] M bc bs := by
  refine j_aload_n hX eX0_spendsBefore_0 0 rfl ?_
  obtain ⟨t1, h⟩ := h
  obtain ⟨z2, h⟩ := h
  refine j_getR hX eX0_spendsBefore_1 ff_LiftGroup_Building_11 rfl t1 (by decide) z2 ?_
  refine j_nmR (fun p3 ep3 => ?_)
  replace h := h p3 ep3
  refine j_iload_n hX eX0_spendsBefore_4 1 rfl ?_
  obtain ⟨t4, h⟩ := h
  obtain ⟨i5, h⟩ := h
  obtain ⟨z6, h⟩ := h
  refine j_aald26 hX eX0_spendsBefore_5 t4 i5 z6 ?_
  refine j_nmR (fun p7 ep7 => ?_)
  replace h := h p7 ep7
  refine j_astore_n (lv' := [(3, .ref p7), (0, .ref a0), (1, .int a1), (2, .int a2)]) hX eX0_spendsBefore_6 rfl (by decide) rfl ?_
  refine j_aload_n hX eX0_spendsBefore_7 1 rfl ?_
  obtain ⟨z8, h⟩ := h
  refine j_getR hX eX0_spendsBefore_8 ff_LiftGroup_Building_11 rfl t1 (by decide) z8 ?_
  refine j_nmR (fun p9 ep9 => ?_)
  replace h := h p9 ep9
  refine j_iload_n hX eX0_spendsBefore_11 3 rfl ?_
  obtain ⟨t10, h⟩ := h
  obtain ⟨i11, h⟩ := h
  obtain ⟨z12, h⟩ := h
  refine j_aald26 hX eX0_spendsBefore_12 t10 i11 z12 ?_
  refine j_nmR (fun p13 ep13 => ?_)
  replace h := h p13 ep13
  refine j_astore (lv' := [(4, .ref p13), (3, .ref p7), (0, .ref a0), (1, .int a1), (2, .int a2)]) hX eX0_spendsBefore_13 (by decide) rfl ?_
  refine j_aload_n hX eX0_spendsBefore_15 1 rfl ?_
  obtain ⟨t14, h⟩ := h
  refine j_getI hX eX0_spendsBefore_16 ff_LiftGroup_Building_179 rfl t14 (by decide) ?_
  refine j_aload hX eX0_spendsBefore_19 0 rfl ?_
  obtain ⟨t15, h⟩ := h
  refine j_getI hX eX0_spendsBefore_21 ff_LiftGroup_Building_179 rfl t15 (by decide) ?_
  refine j_icmp_eq hX 45 eX0_spendsBefore_24 (by decide) (fun c16 => ?_) (fun c16 => ?_)
  · replace h := h.1 c16
    refine j_aload_n hX eX0_spendsBefore_45 1 rfl ?_
    refine j_getI hX eX0_spendsBefore_46 ff_LiftGroup_Building_109 rfl t14 (by decide) ?_
    refine j_aload hX eX0_spendsBefore_49 0 rfl ?_
    refine j_getI hX eX0_spendsBefore_51 ff_LiftGroup_Building_109 rfl t15 (by decide) ?_
    refine j_icmp_eq hX 75 eX0_spendsBefore_54 (by decide) (fun c17 => ?_) (fun c17 => ?_)
    · replace h := h.1 c17
      refine j_iload_n hX eX0_spendsBefore_75 3 rfl ?_
      refine j_iload_n hX eX0_spendsBefore_76 4 rfl ?_
      refine j_icmp_ge hX 84 eX0_spendsBefore_77 (by decide) (fun c18 => ?_) (fun c18 => ?_)
      · replace h := h.1 c18
        refine j_iconst (v := (0 : Int32)) hX eX0_spendsBefore_84 (by decide) ?_
        exact j_zret hX hM eX0_spendsBefore_85 rfl (by decide) h
      · replace h := h.2 c18
        refine j_iconst (v := (1 : Int32)) hX eX0_spendsBefore_80 (by decide) ?_
        refine j_goto hX 85 eX0_spendsBefore_81 (by decide) ?_
        exact j_zret hX hM eX0_spendsBefore_85 rfl (by decide) h
    · replace h := h.2 c17
      refine j_aload_n hX eX0_spendsBefore_57 1 rfl ?_
      refine j_getI hX eX0_spendsBefore_58 ff_LiftGroup_Building_109 rfl t14 (by decide) ?_
      refine j_aload hX eX0_spendsBefore_61 0 rfl ?_
      refine j_getI hX eX0_spendsBefore_63 ff_LiftGroup_Building_109 rfl t15 (by decide) ?_
      refine j_icmp_le hX 73 eX0_spendsBefore_66 (by decide) (fun c19 => ?_) (fun c19 => ?_)
      · replace h := h.1 c19
        refine j_iconst (v := (0 : Int32)) hX eX0_spendsBefore_73 (by decide) ?_
        exact j_zret hX hM eX0_spendsBefore_74 rfl (by decide) h
      · replace h := h.2 c19
        refine j_iconst (v := (1 : Int32)) hX eX0_spendsBefore_69 (by decide) ?_
        refine j_goto hX 74 eX0_spendsBefore_70 (by decide) ?_
        exact j_zret hX hM eX0_spendsBefore_74 rfl (by decide) h
  · replace h := h.2 c16
    refine j_aload_n hX eX0_spendsBefore_27 1 rfl ?_
    refine j_getI hX eX0_spendsBefore_28 ff_LiftGroup_Building_179 rfl t14 (by decide) ?_
    refine j_aload hX eX0_spendsBefore_31 0 rfl ?_
    refine j_getI hX eX0_spendsBefore_33 ff_LiftGroup_Building_179 rfl t15 (by decide) ?_
    refine j_icmp_le hX 43 eX0_spendsBefore_36 (by decide) (fun c20 => ?_) (fun c20 => ?_)
    · replace h := h.1 c20
      refine j_iconst (v := (0 : Int32)) hX eX0_spendsBefore_43 (by decide) ?_
      exact j_zret hX hM eX0_spendsBefore_44 rfl (by decide) h
    · replace h := h.2 c20
      refine j_iconst (v := (1 : Int32)) hX eX0_spendsBefore_39 (by decide) ?_
      refine j_goto hX 44 eX0_spendsBefore_40 (by decide) ?_
      exact j_zret hX hM eX0_spendsBefore_44 rfl (by decide) h

set_option maxHeartbeats 4000000 in
set_option maxRecDepth 20000 in
theorem vX0_sumOfAccounts_0 {X : am_Cx} {G : am_Gx} {d : Nat} {Q : am_Q} (hX : am_ok X rX0_sumOfAccounts G (d + 1)) (hM : am_me X rX0_sumOfAccounts Q) {bc bs : Nat} (R4 : Nat → Int64 → Int32 → am_Hp → Prop) (k4 : ∀ (x0 : Nat) (x1 : Int64) (x3 : Int32) (M : am_Hp), R4 x0 x1 x3 M → am_J X 4 [(0, .ref x0), (1, .long x1), (3, .int x3)] [] M bc bs) {a0 : Nat} {M : am_Hp} (h : R4 a0 (0 : Int64) (0 : Int32) M) : am_J X 0 [(0, .ref a0)] [] M bc bs := by
  refine j_lconst (v := (0 : Int64)) hX eX0_sumOfAccounts_0 (by decide) ?_
  refine j_lstore_n (lv' := [(1, .long (0 : Int64)), (0, .ref a0)]) hX eX0_sumOfAccounts_1 rfl (by decide) rfl ?_
  refine j_iconst (v := (0 : Int32)) hX eX0_sumOfAccounts_2 (by decide) ?_
  refine j_istore_n (lv' := [(3, .int (0 : Int32)), (1, .long (0 : Int64)), (0, .ref a0)]) hX eX0_sumOfAccounts_3 rfl (by decide) rfl ?_
  exact j_sub [2, 1, 0] rfl (k4 _ _ _ _ h)
set_option maxHeartbeats 4000000 in
set_option maxRecDepth 20000 in
theorem vX0_sumOfAccounts_4 {X : am_Cx} {G : am_Gx} {d : Nat} {Q : am_Q} (hX : am_ok X rX0_sumOfAccounts G (d + 1)) (hM : am_me X rX0_sumOfAccounts Q) {bc bs : Nat} (R4 : Nat → Int64 → Int32 → am_Hp → Prop) (k4 : ∀ (x0 : Nat) (x1 : Int64) (x3 : Int32) (M : am_Hp), R4 x0 x1 x3 M → am_J X 4 [(0, .ref x0), (1, .long x1), (3, .int x3)] [] M bc bs) {a0 : Nat} {a1 : Int64} {a3 : Int32} {M : am_Hp} (h : (((3 : Int32) ≤ a3) → (Q (.inl (some (.long a1))) M)) ∧ (¬ ((3 : Int32) ≤ a3) → (hp_T M (a0) = 1 ∧ (hp_R M 0 a0 ≠ 0 ∧ (∀ p4 : Nat, p4 = hp_R M 0 a0 → (hp_T M (p4) = 26 ∧ (vp_in a3 (hp_N M p4) ∧ (hp_Q M p4 (a3).toNatClampNeg ≠ 0 ∧ (∀ p8 : Nat, p8 = hp_Q M p4 (a3).toNatClampNeg → (hp_T M (p8) = 2 ∧ (∀ l10 : Int64, l10 = (a1 + (((hp_I M 26 p8)).toInt64)) → (∀ v11 : Int32, v11 = a3 + (1 : Int32) → (R4 a0 l10 v11 M))))))))))))) : am_J X 4 [(0, .ref a0), (1, .long a1), (3, .int a3)] [] M bc bs := by
  refine j_iload_n hX eX0_sumOfAccounts_4 2 rfl ?_
  refine j_iconst (v := (3 : Int32)) hX eX0_sumOfAccounts_5 (by decide) ?_
  refine j_icmp_ge hX 28 eX0_sumOfAccounts_6 (by decide) (fun c1 => ?_) (fun c1 => ?_)
  · replace h := h.1 c1
    refine j_lload_n hX eX0_sumOfAccounts_28 1 rfl ?_
    exact j_lret hX hM eX0_sumOfAccounts_29 rfl h
  · replace h := h.2 c1
    refine j_lload_n hX eX0_sumOfAccounts_9 1 rfl ?_
    refine j_aload_n hX eX0_sumOfAccounts_10 0 rfl ?_
    obtain ⟨t2, h⟩ := h
    obtain ⟨z3, h⟩ := h
    refine j_getR hX eX0_sumOfAccounts_11 ff_LiftGroup_Building_11 rfl t2 (by decide) z3 ?_
    refine j_nmR (fun p4 ep4 => ?_)
    replace h := h p4 ep4
    refine j_iload_n hX eX0_sumOfAccounts_14 2 rfl ?_
    obtain ⟨t5, h⟩ := h
    obtain ⟨i6, h⟩ := h
    obtain ⟨z7, h⟩ := h
    refine j_aald26 hX eX0_sumOfAccounts_15 t5 i6 z7 ?_
    refine j_nmR (fun p8 ep8 => ?_)
    replace h := h p8 ep8
    obtain ⟨t9, h⟩ := h
    refine j_getI hX eX0_sumOfAccounts_16 ff_LiftGroup_Building_179 rfl t9 (by decide) ?_
    refine j_i2l hX eX0_sumOfAccounts_19 ?_
    refine j_ladd hX eX0_sumOfAccounts_20 ?_
    refine j_nmL (fun l10 el10 => ?_)
    replace h := h l10 el10
    refine j_lstore_n (lv' := [(1, .long l10), (0, .ref a0), (3, .int a3)]) hX eX0_sumOfAccounts_21 rfl (by decide) rfl ?_
    obtain ⟨v11, ev11⟩ : ∃ v11 : Int32, v11 = a3 + (1 : Int32) := ⟨_, rfl⟩
    replace h := h v11 ev11
    refine j_iinc (v := v11) (lv' := [(3, .int v11), (1, .long l10), (0, .ref a0)]) hX eX0_sumOfAccounts_22 2 rfl (by rw [ev11]; rfl) (by decide) rfl ?_
    refine j_goto hX 4 eX0_sumOfAccounts_25 (by decide) ?_
    exact j_sub [2, 1, 0] rfl (k4 _ _ _ _ h)

set_option maxHeartbeats 4000000 in
set_option maxRecDepth 20000 in
theorem vX0_energyOfMoves_0 {X : am_Cx} {G : am_Gx} {d : Nat} {Q : am_Q} (hX : am_ok X rX0_energyOfMoves G (d + 1)) (hM : am_me X rX0_energyOfMoves Q) {bc bs : Nat}  {a0 : Nat} {M : am_Hp} (h : hp_T M (a0) = 1 ∧ (Q (.inl (some (.long (((((2 : Int64) * (((hp_I M 6 a0)).toInt64)) + (((hp_I M 8 a0)).toInt64)) + (((hp_I M 7 a0)).toInt64)) + (((hp_I M 9 a0)).toInt64))))) M)) : am_J X 0 [(0, .ref a0)] [] M bc bs := by
  refine j_ldcL hX eX0_energyOfMoves_0 tw_792 ?_
  refine j_aload_n hX eX0_energyOfMoves_3 0 rfl ?_
  obtain ⟨t1, h⟩ := h
  refine j_getI hX eX0_energyOfMoves_4 ff_LiftGroup_Building_40 rfl t1 (by decide) ?_
  refine j_i2l hX eX0_energyOfMoves_7 ?_
  refine j_lmul hX eX0_energyOfMoves_8 ?_
  refine j_aload_n hX eX0_energyOfMoves_9 0 rfl ?_
  refine j_getI hX eX0_energyOfMoves_10 ff_LiftGroup_Building_46 rfl t1 (by decide) ?_
  refine j_i2l hX eX0_energyOfMoves_13 ?_
  refine j_ladd hX eX0_energyOfMoves_14 ?_
  refine j_aload_n hX eX0_energyOfMoves_15 0 rfl ?_
  refine j_getI hX eX0_energyOfMoves_16 ff_LiftGroup_Building_43 rfl t1 (by decide) ?_
  refine j_i2l hX eX0_energyOfMoves_19 ?_
  refine j_ladd hX eX0_energyOfMoves_20 ?_
  refine j_aload_n hX eX0_energyOfMoves_21 0 rfl ?_
  refine j_getI hX eX0_energyOfMoves_22 ff_LiftGroup_Building_49 rfl t1 (by decide) ?_
  refine j_i2l hX eX0_energyOfMoves_25 ?_
  refine j_ladd hX eX0_energyOfMoves_26 ?_
  exact j_lret hX hM eX0_energyOfMoves_27 rfl h

set_option maxHeartbeats 4000000 in
set_option maxRecDepth 20000 in
theorem vX0_estimatesAgree_0 {X : am_Cx} {G : am_Gx} {d : Nat} {Q : am_Q} (hX : am_ok X rX0_estimatesAgree G (d + 1)) (hM : am_me X rX0_estimatesAgree Q) {bc bs : Nat} (R2 : Nat → Int32 → am_Hp → Prop) (k2 : ∀ (x0 : Nat) (x1 : Int32) (M : am_Hp), R2 x0 x1 M → am_J X 2 [(0, .ref x0), (1, .int x1)] [] M bc bs) {a0 : Nat} {M : am_Hp} (h : R2 a0 (0 : Int32) M) : am_J X 0 [(0, .ref a0)] [] M bc bs := by
  refine j_iconst (v := (0 : Int32)) hX eX0_estimatesAgree_0 (by decide) ?_
  refine j_istore_n (lv' := [(1, .int (0 : Int32)), (0, .ref a0)]) hX eX0_estimatesAgree_1 rfl (by decide) rfl ?_
  exact j_sub [1, 0] rfl (k2 _ _ _ h)
set_option maxHeartbeats 4000000 in
set_option maxRecDepth 20000 in
theorem vX0_estimatesAgree_2 {X : am_Cx} {G : am_Gx} {d : Nat} {Q : am_Q} (hX : am_ok X rX0_estimatesAgree G (d + 1)) (hM : am_me X rX0_estimatesAgree Q) {bc bs : Nat} (R9 : Nat → Int32 → Int32 → am_Hp → Prop) (k9 : ∀ (x0 : Nat) (x1 : Int32) (x2 : Int32) (M : am_Hp), R9 x0 x1 x2 M → am_J X 9 [(0, .ref x0), (1, .int x1), (2, .int x2)] [] M bc bs) {a0 : Nat} {a1 : Int32} {M : am_Hp} (h : (((3 : Int32) ≤ a1) → (Q (.inl (some (.int (1 : Int32)))) M)) ∧ (¬ ((3 : Int32) ≤ a1) → (R9 a0 a1 (0 : Int32) M))) : am_J X 2 [(0, .ref a0), (1, .int a1)] [] M bc bs := by
  refine j_iload_n hX eX0_estimatesAgree_2 1 rfl ?_
  refine j_iconst (v := (3 : Int32)) hX eX0_estimatesAgree_3 (by decide) ?_
  refine j_icmp_ge hX 44 eX0_estimatesAgree_4 (by decide) (fun c1 => ?_) (fun c1 => ?_)
  · replace h := h.1 c1
    refine j_iconst (v := (1 : Int32)) hX eX0_estimatesAgree_44 (by decide) ?_
    exact j_zret hX hM eX0_estimatesAgree_45 rfl (by decide) h
  · replace h := h.2 c1
    refine j_iconst (v := (0 : Int32)) hX eX0_estimatesAgree_7 (by decide) ?_
    refine j_istore_n (lv' := [(2, .int (0 : Int32)), (0, .ref a0), (1, .int a1)]) hX eX0_estimatesAgree_8 rfl (by decide) rfl ?_
    exact j_sub [1, 2, 0] rfl (k9 _ _ _ _ h)
set_option maxHeartbeats 4000000 in
set_option maxRecDepth 20000 in
theorem vX0_estimatesAgree_9 {X : am_Cx} {G : am_Gx} {d : Nat} {Q : am_Q} (hX : am_ok X rX0_estimatesAgree G (d + 1)) (hM : am_me X rX0_estimatesAgree Q) {bc bs : Nat} (R2 : Nat → Int32 → am_Hp → Prop) (k2 : ∀ (x0 : Nat) (x1 : Int32) (M : am_Hp), R2 x0 x1 M → am_J X 2 [(0, .ref x0), (1, .int x1)] [] M bc bs) (R9 : Nat → Int32 → Int32 → am_Hp → Prop) (k9 : ∀ (x0 : Nat) (x1 : Int32) (x2 : Int32) (M : am_Hp), R9 x0 x1 x2 M → am_J X 9 [(0, .ref x0), (1, .int x1), (2, .int x2)] [] M bc bs) {a0 : Nat} {a1 : Int32} {a2 : Int32} {M : am_Hp} (h : (((10 : Int32) ≤ a2) → (∀ v2 : Int32, v2 = a1 + (1 : Int32) → (R2 a0 v2 M))) ∧ (¬ ((10 : Int32) ≤ a2) → (hp_T M (a0) = 1 ∧ (am_CT G d rX0_estimateByFormula [.ref a0, .int a1, .int a2] M 0 0 (fun oz9 M3 => ∃ v4 : Int32, oz9 = .inl (some (.int v4)) ∧ (hp_T M3 (a0) = 1 ∧ (am_CT G d rX0_estimateByMoving [.ref a0, .int a1, .int a2] M3 0 0 (fun oz9 M6 => ∃ v7 : Int32, oz9 = .inl (some (.int v7)) ∧ (((v4 = v7) → (∀ v10 : Int32, v10 = a2 + (1 : Int32) → (R9 a0 a1 v10 M6))) ∧ (¬ (v4 = v7) → (Q (.inl (some (.int (0 : Int32)))) M6))))))))))) : am_J X 9 [(0, .ref a0), (1, .int a1), (2, .int a2)] [] M bc bs := by
  refine j_iload_n hX eX0_estimatesAgree_9 2 rfl ?_
  refine j_bipush (v := (10 : Int32)) hX eX0_estimatesAgree_10 (by decide) ?_
  refine j_icmp_ge hX 38 eX0_estimatesAgree_12 (by decide) (fun c1 => ?_) (fun c1 => ?_)
  · replace h := h.1 c1
    obtain ⟨v2, ev2⟩ : ∃ v2 : Int32, v2 = a1 + (1 : Int32) := ⟨_, rfl⟩
    replace h := h v2 ev2
    refine j_iinc (v := v2) (lv' := [(1, .int v2), (0, .ref a0), (2, .int a2)]) hX eX0_estimatesAgree_38 1 rfl (by rw [ev2]; rfl) (by decide) rfl ?_
    refine j_goto hX 2 eX0_estimatesAgree_41 (by decide) ?_
    exact j_sub [1, 0] rfl (k2 _ _ _ h)
  · replace h := h.2 c1
    refine j_aload_n hX eX0_estimatesAgree_15 0 rfl ?_
    refine j_iload_n hX eX0_estimatesAgree_16 1 rfl ?_
    refine j_iload_n hX eX0_estimatesAgree_17 2 rfl ?_
    obtain ⟨t5, h⟩ := h
    refine j_callV (a := a0) (q := (RX0, TX0, 10)) (r' := rX0_estimateByFormula) (As := [.int a1, .int a2]) (rest := []) (d1 := d) hX eX0_estimatesAgree_18 mm_LiftGroup_Building_221 rfl t5 (by decide) rfl h rfl (Nat.le_refl _) (Nat.zero_le _) (Nat.zero_le _) (Nat.le_of_ble_eq_true rfl) (fun vz9 Mz9 qz9 => ?_) (fun Ez9 Mz9 qz9 => ?_)
    · obtain ⟨M3, eMz9⟩ : ∃ M3, M3 = Mz9 := ⟨_, rfl⟩; subst eMz9
      obtain ⟨v4, hxz9, h⟩ := qz9
      cases hxz9
      refine j_aload_n hX eX0_estimatesAgree_21 0 rfl ?_
      refine j_iload_n hX eX0_estimatesAgree_22 1 rfl ?_
      refine j_iload_n hX eX0_estimatesAgree_23 2 rfl ?_
      obtain ⟨t8, h⟩ := h
      refine j_callV (a := a0) (q := (RX0, TX0, 10)) (r' := rX0_estimateByMoving) (As := [.int a1, .int a2]) (rest := [.int v4]) (d1 := d) hX eX0_estimatesAgree_24 mm_LiftGroup_Building_235 rfl t8 (by decide) rfl h rfl (Nat.le_refl _) (Nat.zero_le _) (Nat.zero_le _) (Nat.le_of_ble_eq_true rfl) (fun vz9 Mz9 qz9 => ?_) (fun Ez9 Mz9 qz9 => ?_)
      · obtain ⟨M6, eMz9⟩ : ∃ M6, M6 = Mz9 := ⟨_, rfl⟩; subst eMz9
        obtain ⟨v7, hxz9, h⟩ := qz9
        cases hxz9
        refine j_icmp_eq hX 32 eX0_estimatesAgree_27 (by decide) (fun c9 => ?_) (fun c9 => ?_)
        · replace h := h.1 c9
          obtain ⟨v10, ev10⟩ : ∃ v10 : Int32, v10 = a2 + (1 : Int32) := ⟨_, rfl⟩
          replace h := h v10 ev10
          refine j_iinc (v := v10) (lv' := [(2, .int v10), (0, .ref a0), (1, .int a1)]) hX eX0_estimatesAgree_32 2 rfl (by rw [ev10]; rfl) (by decide) rfl ?_
          refine j_goto hX 9 eX0_estimatesAgree_35 (by decide) ?_
          exact j_sub [1, 2, 0] rfl (k9 _ _ _ _ h)
        · replace h := h.2 c9
          refine j_iconst (v := (0 : Int32)) hX eX0_estimatesAgree_30 (by decide) ?_
          exact j_zret hX hM eX0_estimatesAgree_31 rfl (by decide) h
      · obtain ⟨v7, hxz9, h⟩ := qz9
        cases hxz9
    · obtain ⟨v4, hxz9, h⟩ := qz9
      cases hxz9

set_option maxHeartbeats 4000000 in
set_option maxRecDepth 20000 in
theorem vX0_loadsFit_0 {X : am_Cx} {G : am_Gx} {d : Nat} {Q : am_Q} (hX : am_ok X rX0_loadsFit G (d + 1)) (hM : am_me X rX0_loadsFit Q) {bc bs : Nat} (R2 : Nat → Int32 → am_Hp → Prop) (k2 : ∀ (x0 : Nat) (x1 : Int32) (M : am_Hp), R2 x0 x1 M → am_J X 2 [(0, .ref x0), (1, .int x1)] [] M bc bs) {a0 : Nat} {M : am_Hp} (h : R2 a0 (0 : Int32) M) : am_J X 0 [(0, .ref a0)] [] M bc bs := by
  refine j_iconst (v := (0 : Int32)) hX eX0_loadsFit_0 (by decide) ?_
  refine j_istore_n (lv' := [(1, .int (0 : Int32)), (0, .ref a0)]) hX eX0_loadsFit_1 rfl (by decide) rfl ?_
  exact j_sub [1, 0] rfl (k2 _ _ _ h)
set_option maxHeartbeats 4000000 in
set_option maxRecDepth 20000 in
theorem vX0_loadsFit_2 {X : am_Cx} {G : am_Gx} {d : Nat} {Q : am_Q} (hX : am_ok X rX0_loadsFit G (d + 1)) (hM : am_me X rX0_loadsFit Q) {bc bs : Nat} (R2 : Nat → Int32 → am_Hp → Prop) (k2 : ∀ (x0 : Nat) (x1 : Int32) (M : am_Hp), R2 x0 x1 M → am_J X 2 [(0, .ref x0), (1, .int x1)] [] M bc bs) {a0 : Nat} {a1 : Int32} {M : am_Hp} (h : (((3 : Int32) ≤ a1) → (Q (.inl (some (.int (1 : Int32)))) M)) ∧ (¬ ((3 : Int32) ≤ a1) → (hp_T M (a0) = 1 ∧ (hp_R M 0 a0 ≠ 0 ∧ (∀ p4 : Nat, p4 = hp_R M 0 a0 → (hp_T M (p4) = 26 ∧ (vp_in a1 (hp_N M p4) ∧ (hp_Q M p4 (a1).toNatClampNeg ≠ 0 ∧ (∀ p8 : Nat, p8 = hp_Q M p4 (a1).toNatClampNeg → (hp_T M (p8) = 2 ∧ (hp_R M 0 a0 ≠ 0 ∧ (∀ p11 : Nat, p11 = hp_R M 0 a0 → (hp_T M (p11) = 26 ∧ (vp_in a1 (hp_N M p11) ∧ (hp_Q M p11 (a1).toNatClampNeg ≠ 0 ∧ (∀ p15 : Nat, p15 = hp_Q M p11 (a1).toNatClampNeg → (hp_T M (p15) = 2 ∧ ((((hp_I M 23 p8) ≤ (hp_I M 22 p15)) → (∀ v18 : Int32, v18 = a1 + (1 : Int32) → (R2 a0 v18 M))) ∧ (¬ ((hp_I M 23 p8) ≤ (hp_I M 22 p15)) → (Q (.inl (some (.int (0 : Int32)))) M)))))))))))))))))))) : am_J X 2 [(0, .ref a0), (1, .int a1)] [] M bc bs := by
  refine j_iload_n hX eX0_loadsFit_2 1 rfl ?_
  refine j_iconst (v := (3 : Int32)) hX eX0_loadsFit_3 (by decide) ?_
  refine j_icmp_ge hX 36 eX0_loadsFit_4 (by decide) (fun c1 => ?_) (fun c1 => ?_)
  · replace h := h.1 c1
    refine j_iconst (v := (1 : Int32)) hX eX0_loadsFit_36 (by decide) ?_
    exact j_zret hX hM eX0_loadsFit_37 rfl (by decide) h
  · replace h := h.2 c1
    refine j_aload_n hX eX0_loadsFit_7 0 rfl ?_
    obtain ⟨t2, h⟩ := h
    obtain ⟨z3, h⟩ := h
    refine j_getR hX eX0_loadsFit_8 ff_LiftGroup_Building_11 rfl t2 (by decide) z3 ?_
    refine j_nmR (fun p4 ep4 => ?_)
    replace h := h p4 ep4
    refine j_iload_n hX eX0_loadsFit_11 1 rfl ?_
    obtain ⟨t5, h⟩ := h
    obtain ⟨i6, h⟩ := h
    obtain ⟨z7, h⟩ := h
    refine j_aald26 hX eX0_loadsFit_12 t5 i6 z7 ?_
    refine j_nmR (fun p8 ep8 => ?_)
    replace h := h p8 ep8
    obtain ⟨t9, h⟩ := h
    refine j_getI hX eX0_loadsFit_13 ff_LiftGroup_Building_109 rfl t9 (by decide) ?_
    refine j_aload_n hX eX0_loadsFit_16 0 rfl ?_
    obtain ⟨z10, h⟩ := h
    refine j_getR hX eX0_loadsFit_17 ff_LiftGroup_Building_11 rfl t2 (by decide) z10 ?_
    refine j_nmR (fun p11 ep11 => ?_)
    replace h := h p11 ep11
    refine j_iload_n hX eX0_loadsFit_20 1 rfl ?_
    obtain ⟨t12, h⟩ := h
    obtain ⟨i13, h⟩ := h
    obtain ⟨z14, h⟩ := h
    refine j_aald26 hX eX0_loadsFit_21 t12 i13 z14 ?_
    refine j_nmR (fun p15 ep15 => ?_)
    replace h := h p15 ep15
    obtain ⟨t16, h⟩ := h
    refine j_getI hX eX0_loadsFit_22 ff_LiftGroup_Building_112 rfl t16 (by decide) ?_
    refine j_icmp_le hX 30 eX0_loadsFit_25 (by decide) (fun c17 => ?_) (fun c17 => ?_)
    · replace h := h.1 c17
      obtain ⟨v18, ev18⟩ : ∃ v18 : Int32, v18 = a1 + (1 : Int32) := ⟨_, rfl⟩
      replace h := h v18 ev18
      refine j_iinc (v := v18) (lv' := [(1, .int v18), (0, .ref a0)]) hX eX0_loadsFit_30 1 rfl (by rw [ev18]; rfl) (by decide) rfl ?_
      refine j_goto hX 2 eX0_loadsFit_33 (by decide) ?_
      exact j_sub [1, 0] rfl (k2 _ _ _ h)
    · replace h := h.2 c17
      refine j_iconst (v := (0 : Int32)) hX eX0_loadsFit_28 (by decide) ?_
      exact j_zret hX hM eX0_loadsFit_29 rfl (by decide) h

set_option maxHeartbeats 4000000 in
set_option maxRecDepth 20000 in
theorem vX0_assignmentsServe_0 {X : am_Cx} {G : am_Gx} {d : Nat} {Q : am_Q} (hX : am_ok X rX0_assignmentsServe G (d + 1)) (hM : am_me X rX0_assignmentsServe Q) {bc bs : Nat} (R2 : Nat → Int32 → am_Hp → Prop) (k2 : ∀ (x0 : Nat) (x1 : Int32) (M : am_Hp), R2 x0 x1 M → am_J X 2 [(0, .ref x0), (1, .int x1)] [] M bc bs) {a0 : Nat} {M : am_Hp} (h : R2 a0 (0 : Int32) M) : am_J X 0 [(0, .ref a0)] [] M bc bs := by
  refine j_iconst (v := (0 : Int32)) hX eX0_assignmentsServe_0 (by decide) ?_
  refine j_istore_n (lv' := [(1, .int (0 : Int32)), (0, .ref a0)]) hX eX0_assignmentsServe_1 rfl (by decide) rfl ?_
  exact j_sub [1, 0] rfl (k2 _ _ _ h)
set_option maxHeartbeats 4000000 in
set_option maxRecDepth 20000 in
theorem vX0_assignmentsServe_2 {X : am_Cx} {G : am_Gx} {d : Nat} {Q : am_Q} (hX : am_ok X rX0_assignmentsServe G (d + 1)) (hM : am_me X rX0_assignmentsServe Q) {bc bs : Nat} (R2 : Nat → Int32 → am_Hp → Prop) (k2 : ∀ (x0 : Nat) (x1 : Int32) (M : am_Hp), R2 x0 x1 M → am_J X 2 [(0, .ref x0), (1, .int x1)] [] M bc bs) {a0 : Nat} {a1 : Int32} {M : am_Hp} (h : (((3 : Int32) ≤ a1) → (Q (.inl (some (.int (1 : Int32)))) M)) ∧ (¬ ((3 : Int32) ≤ a1) → (hp_T M (a0) = 1 ∧ (hp_R M 0 a0 ≠ 0 ∧ (∀ p4 : Nat, p4 = hp_R M 0 a0 → (hp_T M (p4) = 26 ∧ (vp_in a1 (hp_N M p4) ∧ (hp_Q M p4 (a1).toNatClampNeg ≠ 0 ∧ (∀ p8 : Nat, p8 = hp_Q M p4 (a1).toNatClampNeg → (hp_T M (p8) = 2 ∧ ((((hp_I M 27 p8) = 0) → (am_CT G d rX0_countAssigned [.ref a0, .int a1] M 0 0 (fun oz9 M12 => ∃ v13 : Int32, oz9 = .inl (some (.int v13)) ∧ (((v13 ≤ 0) → (∀ v15 : Int32, v15 = a1 + (1 : Int32) → (R2 a0 v15 M12))) ∧ (¬ (v13 ≤ 0) → (Q (.inl (some (.int (0 : Int32)))) M12)))))) ∧ (¬ ((hp_I M 27 p8) = 0) → (∀ v11 : Int32, v11 = a1 + (1 : Int32) → (R2 a0 v11 M)))))))))))))) : am_J X 2 [(0, .ref a0), (1, .int a1)] [] M bc bs := by
  refine j_iload_n hX eX0_assignmentsServe_2 1 rfl ?_
  refine j_iconst (v := (3 : Int32)) hX eX0_assignmentsServe_3 (by decide) ?_
  refine j_icmp_ge hX 35 eX0_assignmentsServe_4 (by decide) (fun c1 => ?_) (fun c1 => ?_)
  · replace h := h.1 c1
    refine j_iconst (v := (1 : Int32)) hX eX0_assignmentsServe_35 (by decide) ?_
    exact j_zret hX hM eX0_assignmentsServe_36 rfl (by decide) h
  · replace h := h.2 c1
    refine j_aload_n hX eX0_assignmentsServe_7 0 rfl ?_
    obtain ⟨t2, h⟩ := h
    obtain ⟨z3, h⟩ := h
    refine j_getR hX eX0_assignmentsServe_8 ff_LiftGroup_Building_11 rfl t2 (by decide) z3 ?_
    refine j_nmR (fun p4 ep4 => ?_)
    replace h := h p4 ep4
    refine j_iload_n hX eX0_assignmentsServe_11 1 rfl ?_
    obtain ⟨t5, h⟩ := h
    obtain ⟨i6, h⟩ := h
    obtain ⟨z7, h⟩ := h
    refine j_aald26 hX eX0_assignmentsServe_12 t5 i6 z7 ?_
    refine j_nmR (fun p8 ep8 => ?_)
    replace h := h p8 ep8
    obtain ⟨t9, h⟩ := h
    refine j_getI hX eX0_assignmentsServe_13 ff_LiftGroup_Building_106 rfl t9 (by decide) ?_
    refine j_if_ne hX 29 eX0_assignmentsServe_16 (by decide) (fun c10 => ?_) (fun c10 => ?_)
    · replace h := h.2 c10
      obtain ⟨v11, ev11⟩ : ∃ v11 : Int32, v11 = a1 + (1 : Int32) := ⟨_, rfl⟩
      replace h := h v11 ev11
      refine j_iinc (v := v11) (lv' := [(1, .int v11), (0, .ref a0)]) hX eX0_assignmentsServe_29 1 rfl (by rw [ev11]; rfl) (by decide) rfl ?_
      refine j_goto hX 2 eX0_assignmentsServe_32 (by decide) ?_
      exact j_sub [1, 0] rfl (k2 _ _ _ h)
    · replace h := h.1 c10
      refine j_aload_n hX eX0_assignmentsServe_19 0 rfl ?_
      refine j_iload_n hX eX0_assignmentsServe_20 1 rfl ?_
      refine j_callV (a := a0) (q := (RX0, TX0, 10)) (r' := rX0_countAssigned) (As := [.int a1]) (rest := []) (d1 := d) hX eX0_assignmentsServe_21 mm_LiftGroup_Building_238 rfl t2 (by decide) rfl h rfl (Nat.le_refl _) (Nat.zero_le _) (Nat.zero_le _) (Nat.le_of_ble_eq_true rfl) (fun vz9 Mz9 qz9 => ?_) (fun Ez9 Mz9 qz9 => ?_)
      · obtain ⟨M12, eMz9⟩ : ∃ M12, M12 = Mz9 := ⟨_, rfl⟩; subst eMz9
        obtain ⟨v13, hxz9, h⟩ := qz9
        cases hxz9
        refine j_if_le hX 29 eX0_assignmentsServe_24 (by decide) (fun c14 => ?_) (fun c14 => ?_)
        · replace h := h.1 c14
          obtain ⟨v15, ev15⟩ : ∃ v15 : Int32, v15 = a1 + (1 : Int32) := ⟨_, rfl⟩
          replace h := h v15 ev15
          refine j_iinc (v := v15) (lv' := [(1, .int v15), (0, .ref a0)]) hX eX0_assignmentsServe_29 1 rfl (by rw [ev15]; rfl) (by decide) rfl ?_
          refine j_goto hX 2 eX0_assignmentsServe_32 (by decide) ?_
          exact j_sub [1, 0] rfl (k2 _ _ _ h)
        · replace h := h.2 c14
          refine j_iconst (v := (0 : Int32)) hX eX0_assignmentsServe_27 (by decide) ?_
          exact j_zret hX hM eX0_assignmentsServe_28 rfl (by decide) h
      · obtain ⟨v13, hxz9, h⟩ := qz9
        cases hxz9

set_option maxHeartbeats 4000000 in
set_option maxRecDepth 20000 in
theorem vX1_init_0 {X : am_Cx} {G : am_Gx} {d : Nat} {Q : am_Q} (hX : am_ok X rX1_init G (d + 1)) (hM : am_me X rX1_init Q) {bc bs : Nat}  {a0 : Nat} {M : am_Hp} (h : hp_T M (a0) = 2 ∧ (∀ M2 : am_Hp, M2 = hp_sI M 20 a0 (0 : Int32) → (∀ M4 : am_Hp, M4 = hp_sI M2 21 a0 (0 : Int32) → (∀ M6 : am_Hp, M6 = hp_sI M4 22 a0 (400 : Int32) → (∀ M8 : am_Hp, M8 = hp_sI M6 23 a0 (0 : Int32) → (∀ M10 : am_Hp, M10 = hp_sI M8 24 a0 (0 : Int32) → (∀ M12 : am_Hp, M12 = hp_sI M10 25 a0 (0 : Int32) → (∀ M14 : am_Hp, M14 = hp_sI M12 26 a0 (0 : Int32) → (am_bo (1 : Int32) ∧ (∀ M17 : am_Hp, M17 = hp_sI M14 27 a0 (1 : Int32) → (Q (.inl none) M17))))))))))) : am_J X 0 [(0, .ref a0)] [] M bc bs := by
  refine j_aload_n hX eX1_init_0 0 rfl ?_
  refine j_objInit hX eX1_init_1 tw_86 tw_41 tw_42 (Nat.le_of_ble_eq_true rfl) ?_
  refine j_aload_n hX eX1_init_4 0 rfl ?_
  refine j_iconst (v := (0 : Int32)) hX eX1_init_5 (by decide) ?_
  obtain ⟨t1, h⟩ := h
  refine j_putI (ty := .int) hX eX1_init_6 ff_LiftGroup_Car_9 rfl t1 (by decide) pp_1_0 rfl rfl ?_
  refine j_nmM (fun M2 eM2 => ?_)
  replace h := h M2 eM2
  have t3 : hp_T M2 (a0) = 2 := by rw [eM2]; exact t1
  refine j_aload_n hX eX1_init_9 0 rfl ?_
  refine j_iconst (v := (0 : Int32)) hX eX1_init_10 (by decide) ?_
  refine j_putI (ty := .int) hX eX1_init_11 ff_LiftGroup_Car_15 rfl t3 (by decide) pp_1_1 rfl rfl ?_
  refine j_nmM (fun M4 eM4 => ?_)
  replace h := h M4 eM4
  have t5 : hp_T M4 (a0) = 2 := by rw [eM4]; exact t3
  refine j_aload_n hX eX1_init_14 0 rfl ?_
  refine j_sipush (v := (400 : Int32)) hX eX1_init_15 (by decide) ?_
  refine j_putI (ty := .int) hX eX1_init_18 ff_LiftGroup_Car_18 rfl t5 (by decide) pp_1_2 rfl rfl ?_
  refine j_nmM (fun M6 eM6 => ?_)
  replace h := h M6 eM6
  have t7 : hp_T M6 (a0) = 2 := by rw [eM6]; exact t5
  refine j_aload_n hX eX1_init_21 0 rfl ?_
  refine j_iconst (v := (0 : Int32)) hX eX1_init_22 (by decide) ?_
  refine j_putI (ty := .int) hX eX1_init_23 ff_LiftGroup_Car_21 rfl t7 (by decide) pp_1_3 rfl rfl ?_
  refine j_nmM (fun M8 eM8 => ?_)
  replace h := h M8 eM8
  have t9 : hp_T M8 (a0) = 2 := by rw [eM8]; exact t7
  refine j_aload_n hX eX1_init_26 0 rfl ?_
  refine j_iconst (v := (0 : Int32)) hX eX1_init_27 (by decide) ?_
  refine j_putI (ty := .int) hX eX1_init_28 ff_LiftGroup_Car_24 rfl t9 (by decide) pp_1_4 rfl rfl ?_
  refine j_nmM (fun M10 eM10 => ?_)
  replace h := h M10 eM10
  have t11 : hp_T M10 (a0) = 2 := by rw [eM10]; exact t9
  refine j_aload_n hX eX1_init_31 0 rfl ?_
  refine j_iconst (v := (0 : Int32)) hX eX1_init_32 (by decide) ?_
  refine j_putI (ty := .int) hX eX1_init_33 ff_LiftGroup_Car_27 rfl t11 (by decide) pp_1_5 rfl rfl ?_
  refine j_nmM (fun M12 eM12 => ?_)
  replace h := h M12 eM12
  have t13 : hp_T M12 (a0) = 2 := by rw [eM12]; exact t11
  refine j_aload_n hX eX1_init_36 0 rfl ?_
  refine j_iconst (v := (0 : Int32)) hX eX1_init_37 (by decide) ?_
  refine j_putI (ty := .int) hX eX1_init_38 ff_LiftGroup_Car_30 rfl t13 (by decide) pp_1_6 rfl rfl ?_
  refine j_nmM (fun M14 eM14 => ?_)
  replace h := h M14 eM14
  have t15 : hp_T M14 (a0) = 2 := by rw [eM14]; exact t13
  refine j_aload_n hX eX1_init_41 0 rfl ?_
  refine j_iconst (v := (1 : Int32)) hX eX1_init_42 (by decide) ?_
  obtain ⟨b16, h⟩ := h
  refine j_putI (ty := .boolean) hX eX1_init_43 ff_LiftGroup_Car_33 rfl t15 (by decide) pp_1_7 (am_bo_n b16) (am_bo_f b16) ?_
  refine j_nmM (fun M17 eM17 => ?_)
  replace h := h M17 eM17
  have t18 : hp_T M17 (a0) = 2 := by rw [eM17]; exact t15
  exact j_vret hX hM eX1_init_46 rfl h

set_option maxHeartbeats 4000000 in
set_option maxRecDepth 20000 in
theorem vX1_copyFrom_0 {X : am_Cx} {G : am_Gx} {d : Nat} {Q : am_Q} (hX : am_ok X rX1_copyFrom G (d + 1)) (hM : am_me X rX1_copyFrom Q) {bc bs : Nat}  {a0 : Nat} {a1 : Nat} {M : am_Hp} (h : hp_T M (a1) = 2 ∧ (hp_T M (a0) = 2 ∧ (∀ M3 : am_Hp, M3 = hp_sI M 20 a0 (hp_I M 20 a1) → (∀ M6 : am_Hp, M6 = hp_sI M3 21 a0 (hp_I M3 21 a1) → (∀ M9 : am_Hp, M9 = hp_sI M6 22 a0 (hp_I M6 22 a1) → (∀ M12 : am_Hp, M12 = hp_sI M9 23 a0 (hp_I M9 23 a1) → (∀ M15 : am_Hp, M15 = hp_sI M12 24 a0 (hp_I M12 24 a1) → (∀ M18 : am_Hp, M18 = hp_sI M15 25 a0 (hp_I M15 25 a1) → (∀ M21 : am_Hp, M21 = hp_sI M18 26 a0 (hp_I M18 26 a1) → (am_bo (hp_I M21 27 a1) ∧ (∀ M25 : am_Hp, M25 = hp_sI M21 27 a0 (hp_I M21 27 a1) → (Q (.inl none) M25)))))))))))) : am_J X 0 [(0, .ref a0), (1, .ref a1)] [] M bc bs := by
  refine j_aload_n hX eX1_copyFrom_0 0 rfl ?_
  refine j_aload_n hX eX1_copyFrom_1 1 rfl ?_
  obtain ⟨t1, h⟩ := h
  refine j_getI hX eX1_copyFrom_2 ff_LiftGroup_Car_9 rfl t1 (by decide) ?_
  obtain ⟨t2, h⟩ := h
  refine j_putI (ty := .int) hX eX1_copyFrom_5 ff_LiftGroup_Car_9 rfl t2 (by decide) pp_1_0 rfl rfl ?_
  refine j_nmM (fun M3 eM3 => ?_)
  replace h := h M3 eM3
  have t4 : hp_T M3 (a1) = 2 := by rw [eM3]; exact t1
  have t5 : hp_T M3 (a0) = 2 := by rw [eM3]; exact t2
  refine j_aload_n hX eX1_copyFrom_8 0 rfl ?_
  refine j_aload_n hX eX1_copyFrom_9 1 rfl ?_
  refine j_getI hX eX1_copyFrom_10 ff_LiftGroup_Car_15 rfl t4 (by decide) ?_
  refine j_putI (ty := .int) hX eX1_copyFrom_13 ff_LiftGroup_Car_15 rfl t5 (by decide) pp_1_1 rfl rfl ?_
  refine j_nmM (fun M6 eM6 => ?_)
  replace h := h M6 eM6
  have t7 : hp_T M6 (a1) = 2 := by rw [eM6]; exact t4
  have t8 : hp_T M6 (a0) = 2 := by rw [eM6]; exact t5
  refine j_aload_n hX eX1_copyFrom_16 0 rfl ?_
  refine j_aload_n hX eX1_copyFrom_17 1 rfl ?_
  refine j_getI hX eX1_copyFrom_18 ff_LiftGroup_Car_18 rfl t7 (by decide) ?_
  refine j_putI (ty := .int) hX eX1_copyFrom_21 ff_LiftGroup_Car_18 rfl t8 (by decide) pp_1_2 rfl rfl ?_
  refine j_nmM (fun M9 eM9 => ?_)
  replace h := h M9 eM9
  have t10 : hp_T M9 (a1) = 2 := by rw [eM9]; exact t7
  have t11 : hp_T M9 (a0) = 2 := by rw [eM9]; exact t8
  refine j_aload_n hX eX1_copyFrom_24 0 rfl ?_
  refine j_aload_n hX eX1_copyFrom_25 1 rfl ?_
  refine j_getI hX eX1_copyFrom_26 ff_LiftGroup_Car_21 rfl t10 (by decide) ?_
  refine j_putI (ty := .int) hX eX1_copyFrom_29 ff_LiftGroup_Car_21 rfl t11 (by decide) pp_1_3 rfl rfl ?_
  refine j_nmM (fun M12 eM12 => ?_)
  replace h := h M12 eM12
  have t13 : hp_T M12 (a1) = 2 := by rw [eM12]; exact t10
  have t14 : hp_T M12 (a0) = 2 := by rw [eM12]; exact t11
  refine j_aload_n hX eX1_copyFrom_32 0 rfl ?_
  refine j_aload_n hX eX1_copyFrom_33 1 rfl ?_
  refine j_getI hX eX1_copyFrom_34 ff_LiftGroup_Car_24 rfl t13 (by decide) ?_
  refine j_putI (ty := .int) hX eX1_copyFrom_37 ff_LiftGroup_Car_24 rfl t14 (by decide) pp_1_4 rfl rfl ?_
  refine j_nmM (fun M15 eM15 => ?_)
  replace h := h M15 eM15
  have t16 : hp_T M15 (a1) = 2 := by rw [eM15]; exact t13
  have t17 : hp_T M15 (a0) = 2 := by rw [eM15]; exact t14
  refine j_aload_n hX eX1_copyFrom_40 0 rfl ?_
  refine j_aload_n hX eX1_copyFrom_41 1 rfl ?_
  refine j_getI hX eX1_copyFrom_42 ff_LiftGroup_Car_27 rfl t16 (by decide) ?_
  refine j_putI (ty := .int) hX eX1_copyFrom_45 ff_LiftGroup_Car_27 rfl t17 (by decide) pp_1_5 rfl rfl ?_
  refine j_nmM (fun M18 eM18 => ?_)
  replace h := h M18 eM18
  have t19 : hp_T M18 (a1) = 2 := by rw [eM18]; exact t16
  have t20 : hp_T M18 (a0) = 2 := by rw [eM18]; exact t17
  refine j_aload_n hX eX1_copyFrom_48 0 rfl ?_
  refine j_aload_n hX eX1_copyFrom_49 1 rfl ?_
  refine j_getI hX eX1_copyFrom_50 ff_LiftGroup_Car_30 rfl t19 (by decide) ?_
  refine j_putI (ty := .int) hX eX1_copyFrom_53 ff_LiftGroup_Car_30 rfl t20 (by decide) pp_1_6 rfl rfl ?_
  refine j_nmM (fun M21 eM21 => ?_)
  replace h := h M21 eM21
  have t22 : hp_T M21 (a1) = 2 := by rw [eM21]; exact t19
  have t23 : hp_T M21 (a0) = 2 := by rw [eM21]; exact t20
  refine j_aload_n hX eX1_copyFrom_56 0 rfl ?_
  refine j_aload_n hX eX1_copyFrom_57 1 rfl ?_
  refine j_getI hX eX1_copyFrom_58 ff_LiftGroup_Car_33 rfl t22 (by decide) ?_
  obtain ⟨b24, h⟩ := h
  refine j_putI (ty := .boolean) hX eX1_copyFrom_61 ff_LiftGroup_Car_33 rfl t23 (by decide) pp_1_7 (am_bo_n b24) (am_bo_f b24) ?_
  refine j_nmM (fun M25 eM25 => ?_)
  replace h := h M25 eM25
  have t26 : hp_T M25 (a1) = 2 := by rw [eM25]; exact t22
  have t27 : hp_T M25 (a0) = 2 := by rw [eM25]; exact t23
  exact j_vret hX hM eX1_copyFrom_64 rfl h

set_option maxHeartbeats 4000000 in
set_option maxRecDepth 20000 in
theorem vX2_init_0 {X : am_Cx} {G : am_Gx} {d : Nat} {Q : am_Q} (hX : am_ok X rX2_init G (d + 1)) (hM : am_me X rX2_init Q) {bc bs : Nat} (R25 : Nat → Int32 → am_Hp → Nat → Nat → Prop) (k25 : ∀ (x0 : Nat) (x1 : Int32) (M : am_Hp) (bc bs : Nat), R25 x0 x1 M bc bs → am_J X 25 [(0, .ref x0), (1, .int x1)] [] M bc bs) {a0 : Nat} {M : am_Hp} (h : ¬ (8 : Int32) < 0 ∧ (((8 : Int32)).toNatClampNeg * 4 ≤ 536870912 ∧ (1 ≤ bc ∧ (((8 : Int32)).toNatClampNeg ≤ bs ∧ (∀ p5 : Nat, hp_T M p5 = 0 → p5 ≠ 0 → (∀ M8 : am_Hp, M8 = hp_a M p5 25 ((8 : Int32)).toNatClampNeg → (hp_T M8 (a0) = 3 ∧ (p5 ≠ 0 ∧ (∀ M12 : am_Hp, M12 = hp_sR M8 40 a0 p5 → (∀ M15 : am_Hp, M15 = hp_sI M12 41 a0 (0 : Int32) → (∀ M18 : am_Hp, M18 = hp_sI M15 42 a0 (0 : Int32) → (R25 a0 (0 : Int32) M18 (bc - 1) (bs - ((8 : Int32)).toNatClampNeg))))))))))))) : am_J X 0 [(0, .ref a0)] [] M bc bs := by
  refine j_aload_n hX eX2_init_0 0 rfl ?_
  refine j_objInit hX eX2_init_1 tw_213 tw_41 tw_42 (Nat.le_of_ble_eq_true rfl) ?_
  refine j_aload_n hX eX2_init_4 0 rfl ?_
  refine j_bipush (v := (8 : Int32)) hX eX2_init_5 (by decide) ?_
  obtain ⟨n1, n2, b3, b4, h⟩ := h
  refine j_anew25 hX eX2_init_7 tw_214 tn_215 n1 n2 b3 b4 (fun p5 o6 z7 => ?_)
  replace h := h p5 o6 z7
  refine j_nmM (fun M8 eM8 => ?_)
  replace h := h M8 eM8
  have t9 : hp_T M8 (p5) = 25 := by rw [eM8]; exact hp_Tna
  obtain ⟨t10, h⟩ := h
  obtain ⟨z11, h⟩ := h
  refine j_putF (ty := .array (.object "LiftGroup$Building")) hX eX2_init_10 ff_LiftGroup_History_11 rfl t10 (by decide) z11 hM rfl pp_2_0 rfl rfl ?_
  refine j_nmM (fun M12 eM12 => ?_)
  replace h := h M12 eM12
  have t13 : hp_T M12 (p5) = 25 := by rw [eM12]; exact t9
  have t14 : hp_T M12 (a0) = 3 := by rw [eM12]; exact t10
  refine j_aload_n hX eX2_init_13 0 rfl ?_
  refine j_iconst (v := (0 : Int32)) hX eX2_init_14 (by decide) ?_
  refine j_putI (ty := .int) hX eX2_init_15 ff_LiftGroup_History_17 rfl t14 (by decide) pp_2_1 rfl rfl ?_
  refine j_nmM (fun M15 eM15 => ?_)
  replace h := h M15 eM15
  have t16 : hp_T M15 (p5) = 25 := by rw [eM15]; exact t13
  have t17 : hp_T M15 (a0) = 3 := by rw [eM15]; exact t14
  refine j_aload_n hX eX2_init_18 0 rfl ?_
  refine j_iconst (v := (0 : Int32)) hX eX2_init_19 (by decide) ?_
  refine j_putI (ty := .int) hX eX2_init_20 ff_LiftGroup_History_21 rfl t17 (by decide) pp_2_2 rfl rfl ?_
  refine j_nmM (fun M18 eM18 => ?_)
  replace h := h M18 eM18
  have t19 : hp_T M18 (p5) = 25 := by rw [eM18]; exact t16
  have t20 : hp_T M18 (a0) = 3 := by rw [eM18]; exact t17
  refine j_iconst (v := (0 : Int32)) hX eX2_init_23 (by decide) ?_
  refine j_istore_n (lv' := [(1, .int (0 : Int32)), (0, .ref a0)]) hX eX2_init_24 rfl (by decide) rfl ?_
  exact j_sub [1, 0] rfl (k25 _ _ _ _ _ h)
set_option maxHeartbeats 4000000 in
set_option maxRecDepth 20000 in
theorem vX2_init_25 {X : am_Cx} {G : am_Gx} {d : Nat} {Q : am_Q} (hX : am_ok X rX2_init G (d + 1)) (hM : am_me X rX2_init Q) {bc bs : Nat} (R25 : Nat → Int32 → am_Hp → Nat → Nat → Prop) (k25 : ∀ (x0 : Nat) (x1 : Int32) (M : am_Hp) (bc bs : Nat), R25 x0 x1 M bc bs → am_J X 25 [(0, .ref x0), (1, .int x1)] [] M bc bs) {a0 : Nat} {a1 : Int32} {M : am_Hp} (h : (((8 : Int32) ≤ a1) → (Q (.inl none) M)) ∧ (¬ ((8 : Int32) ≤ a1) → (hp_T M (a0) = 3 ∧ (hp_R M 40 a0 ≠ 0 ∧ (∀ p4 : Nat, p4 = hp_R M 40 a0 → (1 ≤ bc ∧ (10 ≤ bs ∧ (∀ p5 : Nat, hp_T M p5 = 0 → p5 ≠ 0 → (∀ M11 : am_Hp, M11 = hp_o M p5 1 → (21 ≤ (bc - 1) ∧ (158 ≤ (bs - 10) ∧ (am_CT G d rX0_init [.ref p5] M11 21 158 (fun oz9 M14 => oz9 = .inl none ∧ (hp_T M14 (p4) = 25 ∧ (hp_T M14 (p5) = 1 ∧ (p5 ≠ 0 ∧ (vp_in a1 (hp_N M14 p4) ∧ (∀ M22 : am_Hp, M22 = hp_sQ M14 p4 (a1).toNatClampNeg p5 → (∀ v25 : Int32, v25 = a1 + (1 : Int32) → (R25 a0 v25 M22 ((bc - 1) - 21) ((bs - 10) - 158))))))))))))))))))))) : am_J X 25 [(0, .ref a0), (1, .int a1)] [] M bc bs := by
  refine j_iload_n hX eX2_init_25 1 rfl ?_
  refine j_bipush (v := (8 : Int32)) hX eX2_init_26 (by decide) ?_
  refine j_icmp_ge hX 50 eX2_init_28 (by decide) (fun c1 => ?_) (fun c1 => ?_)
  · replace h := h.1 c1
    exact j_vret hX hM eX2_init_50 rfl h
  · replace h := h.2 c1
    refine j_aload_n hX eX2_init_31 0 rfl ?_
    obtain ⟨t2, h⟩ := h
    obtain ⟨z3, h⟩ := h
    refine j_getR hX eX2_init_32 ff_LiftGroup_History_11 rfl t2 (by decide) z3 ?_
    refine j_nmR (fun p4 ep4 => ?_)
    replace h := h p4 ep4
    refine j_iload_n hX eX2_init_35 1 rfl ?_
    obtain ⟨b9, b10, h⟩ := h
    refine j_new (q := (RX0, TX0, 10)) hX eX2_init_36 rfl (by decide) tw_214 tw_44 tw_2 dv_0 b9 b10 (fun p5 o7 z8 => ?_)
    replace h := h p5 o7 z8
    refine j_nmM (fun M11 eM11 => ?_)
    replace h := h M11 eM11
    have t12 : hp_T M11 (a0) = 3 := by rw [eM11]; exact (hp_To o7 t2 (by decide)).trans rfl
    have t13 : hp_T M11 (p5) = 1 := by rw [eM11]; exact hp_Tn
    refine j_dup hX eX2_init_39 rfl ?_
    obtain ⟨b16, b17, h⟩ := h
    refine j_callI (a := p5) (r' := rX0_init) (As := []) (rest := [.ref p5, .int a1, .ref p4]) (d1 := d) hX eX2_init_40 mm_LiftGroup_History_24 rfl h rfl (Nat.le_refl _) b16 b17 (Nat.le_of_ble_eq_true rfl) (fun vz9 Mz9 qz9 => ?_) (fun Ez9 Mz9 qz9 => ?_)
    · obtain ⟨M14, eMz9⟩ : ∃ M14, M14 = Mz9 := ⟨_, rfl⟩; subst eMz9
      obtain ⟨hxz9, h⟩ := qz9
      cases hxz9
      obtain ⟨t18, h⟩ := h
      obtain ⟨t19, h⟩ := h
      obtain ⟨z20, h⟩ := h
      obtain ⟨i21, h⟩ := h
      refine j_aast25 hX eX2_init_43 t18 t19 z20 i21 ?_
      refine j_nmM (fun M22 eM22 => ?_)
      replace h := h M22 eM22
      have t23 : hp_T M22 (p4) = 25 := by rw [eM22]; exact t18
      have t24 : hp_T M22 (p5) = 1 := by rw [eM22]; exact t19
      obtain ⟨v25, ev25⟩ : ∃ v25 : Int32, v25 = a1 + (1 : Int32) := ⟨_, rfl⟩
      replace h := h v25 ev25
      refine j_iinc (v := v25) (lv' := [(1, .int v25), (0, .ref a0)]) hX eX2_init_44 1 rfl (by rw [ev25]; rfl) (by decide) rfl ?_
      refine j_goto hX 25 eX2_init_47 (by decide) ?_
      exact j_sub [1, 0] rfl (k25 _ _ _ _ _ h)
    · obtain ⟨hxz9, h⟩ := qz9
      cases hxz9

set_option maxHeartbeats 4000000 in
set_option maxRecDepth 20000 in
theorem vX2_remember_0 {X : am_Cx} {G : am_Gx} {d : Nat} {Q : am_Q} (hX : am_ok X rX2_remember G (d + 1)) (hM : am_me X rX2_remember Q) {bc bs : Nat}  {a0 : Nat} {a1 : Nat} {M : am_Hp} (h : hp_T M (a0) = 3 ∧ (hp_R M 40 a0 ≠ 0 ∧ (∀ p3 : Nat, p3 = hp_R M 40 a0 → (hp_T M (p3) = 25 ∧ (vp_in (hp_I M 42 a0) (hp_N M p3) ∧ (hp_Q M p3 ((hp_I M 42 a0)).toNatClampNeg ≠ 0 ∧ (∀ p7 : Nat, p7 = hp_Q M p3 ((hp_I M 42 a0)).toNatClampNeg → (hp_T M (p7) = 1 ∧ (am_CT G d rX0_copyFrom [.ref p7, .ref a1] M 0 0 (fun oz9 M8 => oz9 = .inl none ∧ (hp_T M8 (a0) = 3 ∧ (∀ M12 : am_Hp, M12 = hp_sI M8 42 a0 (((hp_I M8 42 a0) + (1 : Int32)) - ((hp_I M8 42 a0) + (1 : Int32)) / (8 : Int32) * (8 : Int32)) → (∀ v14 : Int32, v14 = (if (8 : Int32) < ((hp_I M12 41 a0) + (1 : Int32)) then (8 : Int32) else ((hp_I M12 41 a0) + (1 : Int32))) → (∀ M15 : am_Hp, M15 = hp_sI M12 41 a0 v14 → (Q (.inl none) M15))))))))))))))) : am_J X 0 [(0, .ref a0), (1, .ref a1)] [] M bc bs := by
  refine j_aload_n hX eX2_remember_0 0 rfl ?_
  obtain ⟨t1, h⟩ := h
  obtain ⟨z2, h⟩ := h
  refine j_getR hX eX2_remember_1 ff_LiftGroup_History_11 rfl t1 (by decide) z2 ?_
  refine j_nmR (fun p3 ep3 => ?_)
  replace h := h p3 ep3
  refine j_aload_n hX eX2_remember_4 0 rfl ?_
  refine j_getI hX eX2_remember_5 ff_LiftGroup_History_21 rfl t1 (by decide) ?_
  obtain ⟨t4, h⟩ := h
  obtain ⟨i5, h⟩ := h
  obtain ⟨z6, h⟩ := h
  refine j_aald25 hX eX2_remember_8 t4 i5 z6 ?_
  refine j_nmR (fun p7 ep7 => ?_)
  replace h := h p7 ep7
  refine j_aload_n hX eX2_remember_9 1 rfl ?_
  obtain ⟨t10, h⟩ := h
  refine j_callV (a := p7) (q := (RX0, TX0, 10)) (r' := rX0_copyFrom) (As := [.ref a1]) (rest := []) (d1 := d) hX eX2_remember_10 mm_LiftGroup_History_25 rfl t10 (by decide) rfl h rfl (Nat.le_refl _) (Nat.zero_le _) (Nat.zero_le _) (Nat.le_of_ble_eq_true rfl) (fun vz9 Mz9 qz9 => ?_) (fun Ez9 Mz9 qz9 => ?_)
  · obtain ⟨M8, eMz9⟩ : ∃ M8, M8 = Mz9 := ⟨_, rfl⟩; subst eMz9
    obtain ⟨hxz9, h⟩ := qz9
    cases hxz9
    refine j_aload_n hX eX2_remember_13 0 rfl ?_
    refine j_aload_n hX eX2_remember_14 0 rfl ?_
    obtain ⟨t11, h⟩ := h
    refine j_getI hX eX2_remember_15 ff_LiftGroup_History_21 rfl t11 (by decide) ?_
    refine j_iconst (v := (1 : Int32)) hX eX2_remember_18 (by decide) ?_
    refine j_iadd hX eX2_remember_19 ?_
    refine j_bipush (v := (8 : Int32)) hX eX2_remember_20 (by decide) ?_
    refine j_irem hX eX2_remember_22 (by decide) ?_
    refine j_putI (ty := .int) hX eX2_remember_23 ff_LiftGroup_History_21 rfl t11 (by decide) pp_2_2 rfl rfl ?_
    refine j_nmM (fun M12 eM12 => ?_)
    replace h := h M12 eM12
    have t13 : hp_T M12 (a0) = 3 := by rw [eM12]; exact t11
    refine j_aload_n hX eX2_remember_26 0 rfl ?_
    refine j_aload_n hX eX2_remember_27 0 rfl ?_
    refine j_getI hX eX2_remember_28 ff_LiftGroup_History_17 rfl t13 (by decide) ?_
    refine j_iconst (v := (1 : Int32)) hX eX2_remember_31 (by decide) ?_
    refine j_iadd hX eX2_remember_32 ?_
    refine j_bipush (v := (8 : Int32)) hX eX2_remember_33 (by decide) ?_
    refine j_mmin hX eX2_remember_35 tw_479 tw_480 tw_21 (Nat.le_of_ble_eq_true rfl) ?_
    refine j_nmI (fun v14 ev14 => ?_)
    replace h := h v14 ev14
    refine j_putI (ty := .int) hX eX2_remember_38 ff_LiftGroup_History_17 rfl t13 (by decide) pp_2_1 rfl rfl ?_
    refine j_nmM (fun M15 eM15 => ?_)
    replace h := h M15 eM15
    have t16 : hp_T M15 (a0) = 3 := by rw [eM15]; exact t13
    exact j_vret hX hM eX2_remember_41 rfl h
  · obtain ⟨hxz9, h⟩ := qz9
    cases hxz9

set_option maxHeartbeats 4000000 in
set_option maxRecDepth 20000 in
theorem vX2_takeBack_0 {X : am_Cx} {G : am_Gx} {d : Nat} {Q : am_Q} (hX : am_ok X rX2_takeBack G (d + 1)) (hM : am_me X rX2_takeBack Q) {bc bs : Nat}  {a0 : Nat} {a1 : Nat} {M : am_Hp} (h : hp_T M (a0) = 3 ∧ (∀ M2 : am_Hp, M2 = hp_sI M 42 a0 ((((hp_I M 42 a0) + (8 : Int32)) - (1 : Int32)) - (((hp_I M 42 a0) + (8 : Int32)) - (1 : Int32)) / (8 : Int32) * (8 : Int32)) → (∀ M4 : am_Hp, M4 = hp_sI M2 41 a0 ((hp_I M2 41 a0) - (1 : Int32)) → (hp_R M4 40 a0 ≠ 0 ∧ (∀ p7 : Nat, p7 = hp_R M4 40 a0 → (hp_T M4 (p7) = 25 ∧ (vp_in (hp_I M4 42 a0) (hp_N M4 p7) ∧ (hp_Q M4 p7 ((hp_I M4 42 a0)).toNatClampNeg ≠ 0 ∧ (∀ p11 : Nat, p11 = hp_Q M4 p7 ((hp_I M4 42 a0)).toNatClampNeg → (hp_T M4 (a1) = 1 ∧ (am_CT G d rX0_copyFrom [.ref a1, .ref p11] M4 0 0 (fun oz9 M12 => oz9 = .inl none ∧ (Q (.inl none) M12))))))))))))) : am_J X 0 [(0, .ref a0), (1, .ref a1)] [] M bc bs := by
  refine j_aload_n hX eX2_takeBack_0 0 rfl ?_
  refine j_aload_n hX eX2_takeBack_1 0 rfl ?_
  obtain ⟨t1, h⟩ := h
  refine j_getI hX eX2_takeBack_2 ff_LiftGroup_History_21 rfl t1 (by decide) ?_
  refine j_bipush (v := (8 : Int32)) hX eX2_takeBack_5 (by decide) ?_
  refine j_iadd hX eX2_takeBack_7 ?_
  refine j_iconst (v := (1 : Int32)) hX eX2_takeBack_8 (by decide) ?_
  refine j_isub hX eX2_takeBack_9 ?_
  refine j_bipush (v := (8 : Int32)) hX eX2_takeBack_10 (by decide) ?_
  refine j_irem hX eX2_takeBack_12 (by decide) ?_
  refine j_putI (ty := .int) hX eX2_takeBack_13 ff_LiftGroup_History_21 rfl t1 (by decide) pp_2_2 rfl rfl ?_
  refine j_nmM (fun M2 eM2 => ?_)
  replace h := h M2 eM2
  have t3 : hp_T M2 (a0) = 3 := by rw [eM2]; exact t1
  refine j_aload_n hX eX2_takeBack_16 0 rfl ?_
  refine j_dup hX eX2_takeBack_17 rfl ?_
  refine j_getI hX eX2_takeBack_18 ff_LiftGroup_History_17 rfl t3 (by decide) ?_
  refine j_iconst (v := (1 : Int32)) hX eX2_takeBack_21 (by decide) ?_
  refine j_isub hX eX2_takeBack_22 ?_
  refine j_putI (ty := .int) hX eX2_takeBack_23 ff_LiftGroup_History_17 rfl t3 (by decide) pp_2_1 rfl rfl ?_
  refine j_nmM (fun M4 eM4 => ?_)
  replace h := h M4 eM4
  have t5 : hp_T M4 (a0) = 3 := by rw [eM4]; exact t3
  refine j_aload_n hX eX2_takeBack_26 1 rfl ?_
  refine j_aload_n hX eX2_takeBack_27 0 rfl ?_
  obtain ⟨z6, h⟩ := h
  refine j_getR hX eX2_takeBack_28 ff_LiftGroup_History_11 rfl t5 (by decide) z6 ?_
  refine j_nmR (fun p7 ep7 => ?_)
  replace h := h p7 ep7
  refine j_aload_n hX eX2_takeBack_31 0 rfl ?_
  refine j_getI hX eX2_takeBack_32 ff_LiftGroup_History_21 rfl t5 (by decide) ?_
  obtain ⟨t8, h⟩ := h
  obtain ⟨i9, h⟩ := h
  obtain ⟨z10, h⟩ := h
  refine j_aald25 hX eX2_takeBack_35 t8 i9 z10 ?_
  refine j_nmR (fun p11 ep11 => ?_)
  replace h := h p11 ep11
  obtain ⟨t14, h⟩ := h
  refine j_callV (a := a1) (q := (RX0, TX0, 10)) (r' := rX0_copyFrom) (As := [.ref p11]) (rest := []) (d1 := d) hX eX2_takeBack_36 mm_LiftGroup_History_25 rfl t14 (by decide) rfl h rfl (Nat.le_refl _) (Nat.zero_le _) (Nat.zero_le _) (Nat.le_of_ble_eq_true rfl) (fun vz9 Mz9 qz9 => ?_) (fun Ez9 Mz9 qz9 => ?_)
  · obtain ⟨M12, eMz9⟩ : ∃ M12, M12 = Mz9 := ⟨_, rfl⟩; subst eMz9
    obtain ⟨hxz9, h⟩ := qz9
    cases hxz9
    exact j_vret hX hM eX2_takeBack_39 rfl h
  · obtain ⟨hxz9, h⟩ := qz9
    cases hxz9

set_option maxHeartbeats 4000000 in
set_option maxRecDepth 20000 in
theorem vX3_init_0 {X : am_Cx} {G : am_Gx} {d : Nat} {Q : am_Q} (hX : am_ok X rX3_init G (d + 1)) (hM : am_me X rX3_init Q) {bc bs : Nat}  {a0 : Nat} {M : am_Hp} (h : hp_T M (a0) = 4 ∧ (∀ M2 : am_Hp, M2 = hp_sI M 60 a0 (0 : Int32) → (∀ M4 : am_Hp, M4 = hp_sI M2 61 a0 (0 : Int32) → (∀ M6 : am_Hp, M6 = hp_sI M4 62 a0 (0 : Int32) → (∀ M8 : am_Hp, M8 = hp_sI M6 63 a0 (0 : Int32) → (∀ M10 : am_Hp, M10 = hp_sI M8 64 a0 (0 : Int32) → (∀ M12 : am_Hp, M12 = hp_sI M10 65 a0 (-1 : Int32) → (am_bo (0 : Int32) ∧ (∀ M15 : am_Hp, M15 = hp_sI M12 66 a0 (0 : Int32) → (Q (.inl none) M15)))))))))) : am_J X 0 [(0, .ref a0)] [] M bc bs := by
  refine j_aload_n hX eX3_init_0 0 rfl ?_
  refine j_objInit hX eX3_init_1 tw_132 tw_41 tw_42 (Nat.le_of_ble_eq_true rfl) ?_
  refine j_aload_n hX eX3_init_4 0 rfl ?_
  refine j_iconst (v := (0 : Int32)) hX eX3_init_5 (by decide) ?_
  obtain ⟨t1, h⟩ := h
  refine j_putI (ty := .int) hX eX3_init_6 ff_LiftGroup_Passenger_9 rfl t1 (by decide) pp_3_0 rfl rfl ?_
  refine j_nmM (fun M2 eM2 => ?_)
  replace h := h M2 eM2
  have t3 : hp_T M2 (a0) = 4 := by rw [eM2]; exact t1
  refine j_aload_n hX eX3_init_9 0 rfl ?_
  refine j_iconst (v := (0 : Int32)) hX eX3_init_10 (by decide) ?_
  refine j_putI (ty := .int) hX eX3_init_11 ff_LiftGroup_Passenger_15 rfl t3 (by decide) pp_3_1 rfl rfl ?_
  refine j_nmM (fun M4 eM4 => ?_)
  replace h := h M4 eM4
  have t5 : hp_T M4 (a0) = 4 := by rw [eM4]; exact t3
  refine j_aload_n hX eX3_init_14 0 rfl ?_
  refine j_iconst (v := (0 : Int32)) hX eX3_init_15 (by decide) ?_
  refine j_putI (ty := .int) hX eX3_init_16 ff_LiftGroup_Passenger_18 rfl t5 (by decide) pp_3_2 rfl rfl ?_
  refine j_nmM (fun M6 eM6 => ?_)
  replace h := h M6 eM6
  have t7 : hp_T M6 (a0) = 4 := by rw [eM6]; exact t5
  refine j_aload_n hX eX3_init_19 0 rfl ?_
  refine j_iconst (v := (0 : Int32)) hX eX3_init_20 (by decide) ?_
  refine j_putI (ty := .int) hX eX3_init_21 ff_LiftGroup_Passenger_21 rfl t7 (by decide) pp_3_3 rfl rfl ?_
  refine j_nmM (fun M8 eM8 => ?_)
  replace h := h M8 eM8
  have t9 : hp_T M8 (a0) = 4 := by rw [eM8]; exact t7
  refine j_aload_n hX eX3_init_24 0 rfl ?_
  refine j_iconst (v := (0 : Int32)) hX eX3_init_25 (by decide) ?_
  refine j_putI (ty := .int) hX eX3_init_26 ff_LiftGroup_Passenger_24 rfl t9 (by decide) pp_3_4 rfl rfl ?_
  refine j_nmM (fun M10 eM10 => ?_)
  replace h := h M10 eM10
  have t11 : hp_T M10 (a0) = 4 := by rw [eM10]; exact t9
  refine j_aload_n hX eX3_init_29 0 rfl ?_
  refine j_iconst (v := (-1 : Int32)) hX eX3_init_30 (by decide) ?_
  refine j_putI (ty := .int) hX eX3_init_31 ff_LiftGroup_Passenger_27 rfl t11 (by decide) pp_3_5 rfl rfl ?_
  refine j_nmM (fun M12 eM12 => ?_)
  replace h := h M12 eM12
  have t13 : hp_T M12 (a0) = 4 := by rw [eM12]; exact t11
  refine j_aload_n hX eX3_init_34 0 rfl ?_
  refine j_iconst (v := (0 : Int32)) hX eX3_init_35 (by decide) ?_
  obtain ⟨b14, h⟩ := h
  refine j_putI (ty := .boolean) hX eX3_init_36 ff_LiftGroup_Passenger_30 rfl t13 (by decide) pp_3_6 (am_bo_n b14) (am_bo_f b14) ?_
  refine j_nmM (fun M15 eM15 => ?_)
  replace h := h M15 eM15
  have t16 : hp_T M15 (a0) = 4 := by rw [eM15]; exact t13
  exact j_vret hX hM eX3_init_39 rfl h

set_option maxHeartbeats 4000000 in
set_option maxRecDepth 20000 in
theorem vX3_copyFrom_0 {X : am_Cx} {G : am_Gx} {d : Nat} {Q : am_Q} (hX : am_ok X rX3_copyFrom G (d + 1)) (hM : am_me X rX3_copyFrom Q) {bc bs : Nat}  {a0 : Nat} {a1 : Nat} {M : am_Hp} (h : hp_T M (a1) = 4 ∧ (hp_T M (a0) = 4 ∧ (∀ M3 : am_Hp, M3 = hp_sI M 60 a0 (hp_I M 60 a1) → (∀ M6 : am_Hp, M6 = hp_sI M3 61 a0 (hp_I M3 61 a1) → (∀ M9 : am_Hp, M9 = hp_sI M6 62 a0 (hp_I M6 62 a1) → (∀ M12 : am_Hp, M12 = hp_sI M9 63 a0 (hp_I M9 63 a1) → (∀ M15 : am_Hp, M15 = hp_sI M12 64 a0 (hp_I M12 64 a1) → (∀ M18 : am_Hp, M18 = hp_sI M15 65 a0 (hp_I M15 65 a1) → (am_bo (hp_I M18 66 a1) ∧ (∀ M22 : am_Hp, M22 = hp_sI M18 66 a0 (hp_I M18 66 a1) → (Q (.inl none) M22))))))))))) : am_J X 0 [(0, .ref a0), (1, .ref a1)] [] M bc bs := by
  refine j_aload_n hX eX3_copyFrom_0 0 rfl ?_
  refine j_aload_n hX eX3_copyFrom_1 1 rfl ?_
  obtain ⟨t1, h⟩ := h
  refine j_getI hX eX3_copyFrom_2 ff_LiftGroup_Passenger_9 rfl t1 (by decide) ?_
  obtain ⟨t2, h⟩ := h
  refine j_putI (ty := .int) hX eX3_copyFrom_5 ff_LiftGroup_Passenger_9 rfl t2 (by decide) pp_3_0 rfl rfl ?_
  refine j_nmM (fun M3 eM3 => ?_)
  replace h := h M3 eM3
  have t4 : hp_T M3 (a1) = 4 := by rw [eM3]; exact t1
  have t5 : hp_T M3 (a0) = 4 := by rw [eM3]; exact t2
  refine j_aload_n hX eX3_copyFrom_8 0 rfl ?_
  refine j_aload_n hX eX3_copyFrom_9 1 rfl ?_
  refine j_getI hX eX3_copyFrom_10 ff_LiftGroup_Passenger_15 rfl t4 (by decide) ?_
  refine j_putI (ty := .int) hX eX3_copyFrom_13 ff_LiftGroup_Passenger_15 rfl t5 (by decide) pp_3_1 rfl rfl ?_
  refine j_nmM (fun M6 eM6 => ?_)
  replace h := h M6 eM6
  have t7 : hp_T M6 (a1) = 4 := by rw [eM6]; exact t4
  have t8 : hp_T M6 (a0) = 4 := by rw [eM6]; exact t5
  refine j_aload_n hX eX3_copyFrom_16 0 rfl ?_
  refine j_aload_n hX eX3_copyFrom_17 1 rfl ?_
  refine j_getI hX eX3_copyFrom_18 ff_LiftGroup_Passenger_18 rfl t7 (by decide) ?_
  refine j_putI (ty := .int) hX eX3_copyFrom_21 ff_LiftGroup_Passenger_18 rfl t8 (by decide) pp_3_2 rfl rfl ?_
  refine j_nmM (fun M9 eM9 => ?_)
  replace h := h M9 eM9
  have t10 : hp_T M9 (a1) = 4 := by rw [eM9]; exact t7
  have t11 : hp_T M9 (a0) = 4 := by rw [eM9]; exact t8
  refine j_aload_n hX eX3_copyFrom_24 0 rfl ?_
  refine j_aload_n hX eX3_copyFrom_25 1 rfl ?_
  refine j_getI hX eX3_copyFrom_26 ff_LiftGroup_Passenger_21 rfl t10 (by decide) ?_
  refine j_putI (ty := .int) hX eX3_copyFrom_29 ff_LiftGroup_Passenger_21 rfl t11 (by decide) pp_3_3 rfl rfl ?_
  refine j_nmM (fun M12 eM12 => ?_)
  replace h := h M12 eM12
  have t13 : hp_T M12 (a1) = 4 := by rw [eM12]; exact t10
  have t14 : hp_T M12 (a0) = 4 := by rw [eM12]; exact t11
  refine j_aload_n hX eX3_copyFrom_32 0 rfl ?_
  refine j_aload_n hX eX3_copyFrom_33 1 rfl ?_
  refine j_getI hX eX3_copyFrom_34 ff_LiftGroup_Passenger_24 rfl t13 (by decide) ?_
  refine j_putI (ty := .int) hX eX3_copyFrom_37 ff_LiftGroup_Passenger_24 rfl t14 (by decide) pp_3_4 rfl rfl ?_
  refine j_nmM (fun M15 eM15 => ?_)
  replace h := h M15 eM15
  have t16 : hp_T M15 (a1) = 4 := by rw [eM15]; exact t13
  have t17 : hp_T M15 (a0) = 4 := by rw [eM15]; exact t14
  refine j_aload_n hX eX3_copyFrom_40 0 rfl ?_
  refine j_aload_n hX eX3_copyFrom_41 1 rfl ?_
  refine j_getI hX eX3_copyFrom_42 ff_LiftGroup_Passenger_27 rfl t16 (by decide) ?_
  refine j_putI (ty := .int) hX eX3_copyFrom_45 ff_LiftGroup_Passenger_27 rfl t17 (by decide) pp_3_5 rfl rfl ?_
  refine j_nmM (fun M18 eM18 => ?_)
  replace h := h M18 eM18
  have t19 : hp_T M18 (a1) = 4 := by rw [eM18]; exact t16
  have t20 : hp_T M18 (a0) = 4 := by rw [eM18]; exact t17
  refine j_aload_n hX eX3_copyFrom_48 0 rfl ?_
  refine j_aload_n hX eX3_copyFrom_49 1 rfl ?_
  refine j_getI hX eX3_copyFrom_50 ff_LiftGroup_Passenger_30 rfl t19 (by decide) ?_
  obtain ⟨b21, h⟩ := h
  refine j_putI (ty := .boolean) hX eX3_copyFrom_53 ff_LiftGroup_Passenger_30 rfl t20 (by decide) pp_3_6 (am_bo_n b21) (am_bo_f b21) ?_
  refine j_nmM (fun M22 eM22 => ?_)
  replace h := h M22 eM22
  have t23 : hp_T M22 (a1) = 4 := by rw [eM22]; exact t19
  have t24 : hp_T M22 (a0) = 4 := by rw [eM22]; exact t20
  exact j_vret hX hM eX3_copyFrom_56 rfl h

set_option maxHeartbeats 4000000 in
set_option maxRecDepth 20000 in
theorem vX4_formOf_0 {X : am_Cx} {G : am_Gx} {d : Nat} {Q : am_Q} (hX : am_ok X rX4_formOf G (d + 1)) (hM : am_me X rX4_formOf Q) {bc bs : Nat}  {a0 : Int32} {M : am_Hp} (h : (a0.toInt < 0 ∨ 6 < a0.toInt → (Q (.inl (some (.ref (gx_s G "LiftGroup$Script" 48)))) M)) ∧ (a0 = (0 : Int32) → (Q (.inl (some (.ref (gx_s G "LiftGroup$Script" 34)))) M)) ∧ (a0 = (1 : Int32) → (Q (.inl (some (.ref (gx_s G "LiftGroup$Script" 36)))) M)) ∧ (a0 = (2 : Int32) → (Q (.inl (some (.ref (gx_s G "LiftGroup$Script" 38)))) M)) ∧ (a0 = (3 : Int32) → (Q (.inl (some (.ref (gx_s G "LiftGroup$Script" 40)))) M)) ∧ (a0 = (4 : Int32) → (Q (.inl (some (.ref (gx_s G "LiftGroup$Script" 42)))) M)) ∧ (a0 = (5 : Int32) → (Q (.inl (some (.ref (gx_s G "LiftGroup$Script" 44)))) M)) ∧ (a0 = (6 : Int32) → (Q (.inl (some (.ref (gx_s G "LiftGroup$Script" 46)))) M))) : am_J X 0 [(0, .int a0)] [] M bc bs := by
  refine j_iload_n hX eX4_formOf_0 0 rfl ?_
  by_cases hsw : a0.toInt < 0 ∨ 6 < a0.toInt
  · refine j_tableOut hX 65 eX4_formOf_1 hsw (by decide) ?_
    replace h := h.1 hsw
    refine j_ldcS hX eX4_formOf_65 ts_LiftGroup_Script_48 ?_
    exact j_aret hX hM eX4_formOf_67 rfl (by first | exact Or.inl ⟨_, rfl⟩ | exact Or.inr ⟨_, rfl⟩) h
  · replace h := h.2
    have hsw1 : ¬ a0.toInt < 0 := fun z => hsw (Or.inl z)
    have hsw2 : ¬ 6 < a0.toInt := fun z => hsw (Or.inr z)
    have hsw3 : a0.toInt = 0 ∨ a0.toInt = 1 ∨ a0.toInt = 2 ∨ a0.toInt = 3 ∨ a0.toInt = 4 ∨ a0.toInt = 5 ∨ a0.toInt = 6 := by omega
    rcases hsw3 with hk | hk | hk | hk | hk | hk | hk
    · refine j_tableIn hX 44 eX4_formOf_1 hsw1 hsw2 (by rw [hk]; rfl) (by decide) ?_
      replace h := h.1 (am_i32 hk (by decide))
      refine j_ldcS hX eX4_formOf_44 ts_LiftGroup_Script_34 ?_
      exact j_aret hX hM eX4_formOf_46 rfl (by first | exact Or.inl ⟨_, rfl⟩ | exact Or.inr ⟨_, rfl⟩) h
    · refine j_tableIn hX 47 eX4_formOf_1 hsw1 hsw2 (by rw [hk]; rfl) (by decide) ?_
      replace h := h.2.1 (am_i32 hk (by decide))
      refine j_ldcS hX eX4_formOf_47 ts_LiftGroup_Script_36 ?_
      exact j_aret hX hM eX4_formOf_49 rfl (by first | exact Or.inl ⟨_, rfl⟩ | exact Or.inr ⟨_, rfl⟩) h
    · refine j_tableIn hX 50 eX4_formOf_1 hsw1 hsw2 (by rw [hk]; rfl) (by decide) ?_
      replace h := h.2.2.1 (am_i32 hk (by decide))
      refine j_ldcS hX eX4_formOf_50 ts_LiftGroup_Script_38 ?_
      exact j_aret hX hM eX4_formOf_52 rfl (by first | exact Or.inl ⟨_, rfl⟩ | exact Or.inr ⟨_, rfl⟩) h
    · refine j_tableIn hX 53 eX4_formOf_1 hsw1 hsw2 (by rw [hk]; rfl) (by decide) ?_
      replace h := h.2.2.2.1 (am_i32 hk (by decide))
      refine j_ldcS hX eX4_formOf_53 ts_LiftGroup_Script_40 ?_
      exact j_aret hX hM eX4_formOf_55 rfl (by first | exact Or.inl ⟨_, rfl⟩ | exact Or.inr ⟨_, rfl⟩) h
    · refine j_tableIn hX 56 eX4_formOf_1 hsw1 hsw2 (by rw [hk]; rfl) (by decide) ?_
      replace h := h.2.2.2.2.1 (am_i32 hk (by decide))
      refine j_ldcS hX eX4_formOf_56 ts_LiftGroup_Script_42 ?_
      exact j_aret hX hM eX4_formOf_58 rfl (by first | exact Or.inl ⟨_, rfl⟩ | exact Or.inr ⟨_, rfl⟩) h
    · refine j_tableIn hX 59 eX4_formOf_1 hsw1 hsw2 (by rw [hk]; rfl) (by decide) ?_
      replace h := h.2.2.2.2.2.1 (am_i32 hk (by decide))
      refine j_ldcS hX eX4_formOf_59 ts_LiftGroup_Script_44 ?_
      exact j_aret hX hM eX4_formOf_61 rfl (by first | exact Or.inl ⟨_, rfl⟩ | exact Or.inr ⟨_, rfl⟩) h
    · refine j_tableIn hX 62 eX4_formOf_1 hsw1 hsw2 (by rw [hk]; rfl) (by decide) ?_
      replace h := h.2.2.2.2.2.2 (am_i32 hk (by decide))
      refine j_ldcS hX eX4_formOf_62 ts_LiftGroup_Script_46 ?_
      exact j_aret hX hM eX4_formOf_64 rfl (by first | exact Or.inl ⟨_, rfl⟩ | exact Or.inr ⟨_, rfl⟩) h

set_option maxHeartbeats 4000000 in
set_option maxRecDepth 20000 in
theorem vX4_read_0 {X : am_Cx} {G : am_Gx} {d : Nat} {Q : am_Q} (hX : am_ok X rX4_read G (d + 1)) (hM : am_me X rX4_read Q) {bc bs : Nat} (R9 : Nat → Int32 → Int32 → am_Hp → Prop) (k9 : ∀ (x0 : Nat) (x1 : Int32) (x2 : Int32) (M : am_Hp), R9 x0 x1 x2 M → am_J X 9 [(0, .ref x0), (1, .int x1), (2, .int x2)] [] M bc bs) {a0 : Nat} {M : am_Hp} (h : hp_T M (a0) = 5 ∧ (∀ M2 : am_Hp, M2 = hp_sI M 83 a0 (0 : Int32) → (R9 a0 (0 : Int32) (0 : Int32) M2))) : am_J X 0 [(0, .ref a0)] [] M bc bs := by
  refine j_iconst (v := (0 : Int32)) hX eX4_read_0 (by decide) ?_
  refine j_istore_n (lv' := [(1, .int (0 : Int32)), (0, .ref a0)]) hX eX4_read_1 rfl (by decide) rfl ?_
  refine j_aload_n hX eX4_read_2 1 rfl ?_
  refine j_iconst (v := (0 : Int32)) hX eX4_read_3 (by decide) ?_
  obtain ⟨t1, h⟩ := h
  refine j_putI (ty := .int) hX eX4_read_4 ff_LiftGroup_Script_27 rfl t1 (by decide) pp_4_3 rfl rfl ?_
  refine j_nmM (fun M2 eM2 => ?_)
  replace h := h M2 eM2
  have t3 : hp_T M2 (a0) = 5 := by rw [eM2]; exact t1
  refine j_iconst (v := (0 : Int32)) hX eX4_read_7 (by decide) ?_
  refine j_istore_n (lv' := [(2, .int (0 : Int32)), (1, .int (0 : Int32)), (0, .ref a0)]) hX eX4_read_8 rfl (by decide) rfl ?_
  exact j_sub [2, 1, 0] rfl (k9 _ _ _ _ h)
set_option maxHeartbeats 4000000 in
set_option maxRecDepth 20000 in
theorem vX4_read_9 {X : am_Cx} {G : am_Gx} {d : Nat} {Q : am_Q} (hX : am_ok X rX4_read G (d + 1)) (hM : am_me X rX4_read Q) {bc bs : Nat} (R9 : Nat → Int32 → Int32 → am_Hp → Prop) (k9 : ∀ (x0 : Nat) (x1 : Int32) (x2 : Int32) (M : am_Hp), R9 x0 x1 x2 M → am_J X 9 [(0, .ref x0), (1, .int x1), (2, .int x2)] [] M bc bs) {a0 : Nat} {a1 : Int32} {a2 : Int32} {M : am_Hp} (h : (((13 : Int32) ≤ a2) → (Q (.inl (some (.int a1))) M)) ∧ (¬ ((13 : Int32) ≤ a2) → (hp_T M (a0) = 5 ∧ (am_CT G d rX4_endOfCommand [.ref a0, .int a1] M 0 0 (fun oz9 M2 => ∃ v3 : Int32, oz9 = .inl (some (.int v3)) ∧ (((v3 = (-1 : Int32)) → (hp_T M2 (a0) = 5 ∧ (Q (.inl (some (.int (hp_I M2 84 a0)))) M2))) ∧ (¬ (v3 = (-1 : Int32)) → (hp_T M2 (a0) = 5 ∧ (∀ M7 : am_Hp, M7 = hp_sI M2 83 a0 ((hp_I M2 83 a0) + (1 : Int32)) → (hp_R M7 80 a0 ≠ 0 ∧ (∀ p10 : Nat, p10 = hp_R M7 80 a0 → (hp_T M7 (p10) = 9 ∧ (am_CT G d rJ4_length_8abf5 [.ref p10] M7 0 0 (fun oz9 M11 => ∃ v12 : Int32, oz9 = .inl (some (.int v12)) ∧ (((v3 < v12) → (∀ v15 : Int32, v15 = (v3 + (1 : Int32)) → (∀ v16 : Int32, v16 = a2 + (1 : Int32) → (R9 a0 v15 v16 M11)))) ∧ (¬ (v3 < v12) → (Q (.inl (some (.int (-1 : Int32)))) M11))))))))))))))))) : am_J X 9 [(0, .ref a0), (1, .int a1), (2, .int a2)] [] M bc bs := by
  refine j_iload_n hX eX4_read_9 2 rfl ?_
  refine j_bipush (v := (13 : Int32)) hX eX4_read_10 (by decide) ?_
  refine j_icmp_ge hX 64 eX4_read_12 (by decide) (fun c1 => ?_) (fun c1 => ?_)
  · replace h := h.1 c1
    refine j_iload_n hX eX4_read_64 1 rfl ?_
    exact j_iret hX hM eX4_read_65 rfl h
  · replace h := h.2 c1
    refine j_aload_n hX eX4_read_15 0 rfl ?_
    refine j_iload_n hX eX4_read_16 1 rfl ?_
    obtain ⟨t4, h⟩ := h
    refine j_callV (a := a0) (q := (RX4, TX4, 5)) (r' := rX4_endOfCommand) (As := [.int a1]) (rest := []) (d1 := d) hX eX4_read_17 mm_LiftGroup_Script_50 rfl t4 (by decide) rfl h rfl (Nat.le_refl _) (Nat.zero_le _) (Nat.zero_le _) (Nat.le_of_ble_eq_true rfl) (fun vz9 Mz9 qz9 => ?_) (fun Ez9 Mz9 qz9 => ?_)
    · obtain ⟨M2, eMz9⟩ : ∃ M2, M2 = Mz9 := ⟨_, rfl⟩; subst eMz9
      obtain ⟨v3, hxz9, h⟩ := qz9
      cases hxz9
      refine j_istore_n (lv' := [(3, .int v3), (0, .ref a0), (1, .int a1), (2, .int a2)]) hX eX4_read_20 rfl (by decide) rfl ?_
      refine j_iload_n hX eX4_read_21 0 rfl ?_
      refine j_iconst (v := (-1 : Int32)) hX eX4_read_22 (by decide) ?_
      refine j_icmp_ne hX 31 eX4_read_23 (by decide) (fun c5 => ?_) (fun c5 => ?_)
      · replace h := h.2 c5
        refine j_aload_n hX eX4_read_31 1 rfl ?_
        refine j_dup hX eX4_read_32 rfl ?_
        obtain ⟨t6, h⟩ := h
        refine j_getI hX eX4_read_33 ff_LiftGroup_Script_27 rfl t6 (by decide) ?_
        refine j_iconst (v := (1 : Int32)) hX eX4_read_36 (by decide) ?_
        refine j_iadd hX eX4_read_37 ?_
        refine j_putI (ty := .int) hX eX4_read_38 ff_LiftGroup_Script_27 rfl t6 (by decide) pp_4_3 rfl rfl ?_
        refine j_nmM (fun M7 eM7 => ?_)
        replace h := h M7 eM7
        have t8 : hp_T M7 (a0) = 5 := by rw [eM7]; exact t6
        refine j_iload_n hX eX4_read_41 0 rfl ?_
        refine j_aload_n hX eX4_read_42 1 rfl ?_
        obtain ⟨z9, h⟩ := h
        refine j_getR hX eX4_read_43 ff_LiftGroup_Script_12 rfl t8 (by decide) z9 ?_
        refine j_nmR (fun p10 ep10 => ?_)
        replace h := h p10 ep10
        obtain ⟨t13, h⟩ := h
        refine j_callV (a := p10) (q := (RJ4, TJ4, 4)) (r' := rJ4_length_8abf5) (As := []) (rest := [.int v3]) (d1 := d) hX eX4_read_46 mm_LiftGroup_Script_54 rfl t13 (by decide) rfl h rfl (Nat.le_refl _) (Nat.zero_le _) (Nat.zero_le _) (Nat.le_of_ble_eq_true rfl) (fun vz9 Mz9 qz9 => ?_) (fun Ez9 Mz9 qz9 => ?_)
        · obtain ⟨M11, eMz9⟩ : ∃ M11, M11 = Mz9 := ⟨_, rfl⟩; subst eMz9
          obtain ⟨v12, hxz9, h⟩ := qz9
          cases hxz9
          refine j_icmp_lt hX 54 eX4_read_49 (by decide) (fun c14 => ?_) (fun c14 => ?_)
          · replace h := h.1 c14
            refine j_iload_n hX eX4_read_54 0 rfl ?_
            refine j_iconst (v := (1 : Int32)) hX eX4_read_55 (by decide) ?_
            refine j_iadd hX eX4_read_56 ?_
            refine j_nmI (fun v15 ev15 => ?_)
            replace h := h v15 ev15
            refine j_istore_n (lv' := [(1, .int v15), (3, .int v3), (0, .ref a0), (2, .int a2)]) hX eX4_read_57 rfl (by decide) rfl ?_
            obtain ⟨v16, ev16⟩ : ∃ v16 : Int32, v16 = a2 + (1 : Int32) := ⟨_, rfl⟩
            replace h := h v16 ev16
            refine j_iinc (v := v16) (lv' := [(2, .int v16), (1, .int v15), (3, .int v3), (0, .ref a0)]) hX eX4_read_58 3 rfl (by rw [ev16]; rfl) (by decide) rfl ?_
            refine j_goto hX 9 eX4_read_61 (by decide) ?_
            exact j_sub [3, 1, 0] rfl (k9 _ _ _ _ h)
          · replace h := h.2 c14
            refine j_iconst (v := (-1 : Int32)) hX eX4_read_52 (by decide) ?_
            exact j_iret hX hM eX4_read_53 rfl h
        · obtain ⟨v12, hxz9, h⟩ := qz9
          cases hxz9
      · replace h := h.1 c5
        refine j_aload_n hX eX4_read_26 1 rfl ?_
        obtain ⟨t17, h⟩ := h
        refine j_getI hX eX4_read_27 ff_LiftGroup_Script_31 rfl t17 (by decide) ?_
        exact j_iret hX hM eX4_read_30 rfl h
    · obtain ⟨v3, hxz9, h⟩ := qz9
      cases hxz9

set_option maxHeartbeats 4000000 in
set_option maxRecDepth 20000 in
theorem vX4_endOfCommand_0 {X : am_Cx} {G : am_Gx} {d : Nat} {Q : am_Q} (hX : am_ok X rX4_endOfCommand G (d + 1)) (hM : am_me X rX4_endOfCommand Q) {bc bs : Nat} (R7 : Nat → Int32 → Int32 → am_Hp → Prop) (k7 : ∀ (x0 : Nat) (x1 : Int32) (x2 : Int32) (M : am_Hp), R7 x0 x1 x2 M → am_J X 7 [(0, .ref x0), (1, .int x1), (2, .int x2)] [] M bc bs) {a0 : Nat} {a1 : Int32} {M : am_Hp} (h : hp_T M (a0) = 5 ∧ (∀ M2 : am_Hp, M2 = hp_sI M 84 a0 a1 → (R7 a0 a1 (0 : Int32) M2))) : am_J X 0 [(0, .ref a0), (1, .int a1)] [] M bc bs := by
  refine j_aload_n hX eX4_endOfCommand_0 0 rfl ?_
  refine j_iload_n hX eX4_endOfCommand_1 1 rfl ?_
  obtain ⟨t1, h⟩ := h
  refine j_putI (ty := .int) hX eX4_endOfCommand_2 ff_LiftGroup_Script_31 rfl t1 (by decide) pp_4_4 rfl rfl ?_
  refine j_nmM (fun M2 eM2 => ?_)
  replace h := h M2 eM2
  have t3 : hp_T M2 (a0) = 5 := by rw [eM2]; exact t1
  refine j_iconst (v := (0 : Int32)) hX eX4_endOfCommand_5 (by decide) ?_
  refine j_istore_n (lv' := [(2, .int (0 : Int32)), (0, .ref a0), (1, .int a1)]) hX eX4_endOfCommand_6 rfl (by decide) rfl ?_
  exact j_sub [1, 2, 0] rfl (k7 _ _ _ _ h)
set_option maxHeartbeats 4000000 in
set_option maxRecDepth 20000 in
theorem vX4_endOfCommand_7 {X : am_Cx} {G : am_Gx} {d : Nat} {Q : am_Q} (hX : am_ok X rX4_endOfCommand G (d + 1)) (hM : am_me X rX4_endOfCommand Q) {bc bs : Nat} (R7 : Nat → Int32 → Int32 → am_Hp → Prop) (k7 : ∀ (x0 : Nat) (x1 : Int32) (x2 : Int32) (M : am_Hp), R7 x0 x1 x2 M → am_J X 7 [(0, .ref x0), (1, .int x1), (2, .int x2)] [] M bc bs) {a0 : Nat} {a1 : Int32} {a2 : Int32} {M : am_Hp} (h : (((8 : Int32) ≤ a2) → (Q (.inl (some (.int (-1 : Int32)))) M)) ∧ (¬ ((8 : Int32) ≤ a2) → (hp_T M (a0) = 5 ∧ (am_CT G d rX4_endOfForm [.ref a0, .int a2, .int a1] M 0 0 (fun oz9 M2 => ∃ v3 : Int32, oz9 = .inl (some (.int v3)) ∧ (((v3 = (-1 : Int32)) → (∀ v6 : Int32, v6 = a2 + (1 : Int32) → (R7 a0 a1 v6 M2))) ∧ (¬ (v3 = (-1 : Int32)) → (hp_T M2 (a0) = 5 ∧ (hp_R M2 81 a0 ≠ 0 ∧ (∀ p9 : Nat, p9 = hp_R M2 81 a0 → (hp_T M2 (p9) = 22 ∧ (vp_in (hp_I M2 83 a0) (hp_N M2 p9) ∧ (∀ M12 : am_Hp, M12 = hp_sE M2 p9 ((hp_I M2 83 a0)).toNatClampNeg a2 → (Q (.inl (some (.int v3))) M12)))))))))))))) : am_J X 7 [(0, .ref a0), (1, .int a1), (2, .int a2)] [] M bc bs := by
  refine j_iload_n hX eX4_endOfCommand_7 2 rfl ?_
  refine j_bipush (v := (8 : Int32)) hX eX4_endOfCommand_8 (by decide) ?_
  refine j_icmp_ge hX 43 eX4_endOfCommand_10 (by decide) (fun c1 => ?_) (fun c1 => ?_)
  · replace h := h.1 c1
    refine j_iconst (v := (-1 : Int32)) hX eX4_endOfCommand_43 (by decide) ?_
    exact j_iret hX hM eX4_endOfCommand_44 rfl h
  · replace h := h.2 c1
    refine j_aload_n hX eX4_endOfCommand_13 0 rfl ?_
    refine j_iload_n hX eX4_endOfCommand_14 2 rfl ?_
    refine j_iload_n hX eX4_endOfCommand_15 1 rfl ?_
    obtain ⟨t4, h⟩ := h
    refine j_callV (a := a0) (q := (RX4, TX4, 5)) (r' := rX4_endOfForm) (As := [.int a2, .int a1]) (rest := []) (d1 := d) hX eX4_endOfCommand_16 mm_LiftGroup_Script_58 rfl t4 (by decide) rfl h rfl (Nat.le_refl _) (Nat.zero_le _) (Nat.zero_le _) (Nat.le_of_ble_eq_true rfl) (fun vz9 Mz9 qz9 => ?_) (fun Ez9 Mz9 qz9 => ?_)
    · obtain ⟨M2, eMz9⟩ : ∃ M2, M2 = Mz9 := ⟨_, rfl⟩; subst eMz9
      obtain ⟨v3, hxz9, h⟩ := qz9
      cases hxz9
      refine j_istore_n (lv' := [(3, .int v3), (0, .ref a0), (1, .int a1), (2, .int a2)]) hX eX4_endOfCommand_19 rfl (by decide) rfl ?_
      refine j_iload_n hX eX4_endOfCommand_20 0 rfl ?_
      refine j_iconst (v := (-1 : Int32)) hX eX4_endOfCommand_21 (by decide) ?_
      refine j_icmp_eq hX 37 eX4_endOfCommand_22 (by decide) (fun c5 => ?_) (fun c5 => ?_)
      · replace h := h.1 c5
        obtain ⟨v6, ev6⟩ : ∃ v6 : Int32, v6 = a2 + (1 : Int32) := ⟨_, rfl⟩
        replace h := h v6 ev6
        refine j_iinc (v := v6) (lv' := [(2, .int v6), (3, .int v3), (0, .ref a0), (1, .int a1)]) hX eX4_endOfCommand_37 3 rfl (by rw [ev6]; rfl) (by decide) rfl ?_
        refine j_goto hX 7 eX4_endOfCommand_40 (by decide) ?_
        exact j_sub [2, 3, 0] rfl (k7 _ _ _ _ h)
      · replace h := h.2 c5
        refine j_aload_n hX eX4_endOfCommand_25 1 rfl ?_
        obtain ⟨t7, h⟩ := h
        obtain ⟨z8, h⟩ := h
        refine j_getR hX eX4_endOfCommand_26 ff_LiftGroup_Script_18 rfl t7 (by decide) z8 ?_
        refine j_nmR (fun p9 ep9 => ?_)
        replace h := h p9 ep9
        refine j_aload_n hX eX4_endOfCommand_29 1 rfl ?_
        refine j_getI hX eX4_endOfCommand_30 ff_LiftGroup_Script_27 rfl t7 (by decide) ?_
        refine j_iload_n hX eX4_endOfCommand_33 3 rfl ?_
        obtain ⟨t10, h⟩ := h
        obtain ⟨i11, h⟩ := h
        refine j_iast hX eX4_endOfCommand_34 t10 i11 ?_
        refine j_nmM (fun M12 eM12 => ?_)
        replace h := h M12 eM12
        have t13 : hp_T M12 (a0) = 5 := by rw [eM12]; exact t7
        have t14 : hp_T M12 (p9) = 22 := by rw [eM12]; exact t10
        refine j_iload_n hX eX4_endOfCommand_35 0 rfl ?_
        exact j_iret hX hM eX4_endOfCommand_36 rfl h
    · obtain ⟨v3, hxz9, h⟩ := qz9
      cases hxz9

set_option maxHeartbeats 4000000 in
set_option maxRecDepth 20000 in
theorem vX4_endOfForm_0 {X : am_Cx} {G : am_Gx} {d : Nat} {Q : am_Q} (hX : am_ok X rX4_endOfForm G (d + 1)) (hM : am_me X rX4_endOfForm Q) {bc bs : Nat} (R14 : Nat → Nat → Int32 → Int32 → Int32 → am_Hp → Prop) (k14 : ∀ (x0 : Nat) (x3 : Nat) (x4 : Int32) (x5 : Int32) (x6 : Int32) (M : am_Hp), R14 x0 x3 x4 x5 x6 M → am_J X 14 [(0, .ref x0), (3, .ref x3), (4, .int x4), (5, .int x5), (6, .int x6)] [] M bc bs) {a0 : Nat} {a1 : Int32} {a2 : Int32} {M : am_Hp} (h : am_CT G d rX4_formOf [.int a1] M 0 0 (fun oz9 M1 => ∃ p2 : Nat, oz9 = .inl (some (.ref p2)) ∧ (R14 a0 p2 a2 (0 : Int32) (0 : Int32) M1))) : am_J X 0 [(0, .ref a0), (1, .int a1), (2, .int a2)] [] M bc bs := by
  refine j_iload_n hX eX4_endOfForm_0 1 rfl ?_
  refine j_callS (r' := rX4_formOf) (As := [.int a1]) (rest := []) (d1 := d) hX eX4_endOfForm_1 mm_LiftGroup_Script_62 rfl rfl h rfl (Nat.le_refl _) (Nat.zero_le _) (Nat.zero_le _) (Nat.le_of_ble_eq_true rfl) (fun vz9 Mz9 qz9 => ?_) (fun Ez9 Mz9 qz9 => ?_)
  · obtain ⟨M1, eMz9⟩ : ∃ M1, M1 = Mz9 := ⟨_, rfl⟩; subst eMz9
    obtain ⟨p2, hxz9, h⟩ := qz9
    cases hxz9
    refine j_astore_n (lv' := [(3, .ref p2), (0, .ref a0), (1, .int a1), (2, .int a2)]) hX eX4_endOfForm_4 rfl (by decide) rfl ?_
    refine j_iload_n hX eX4_endOfForm_5 3 rfl ?_
    refine j_istore (lv' := [(4, .int a2), (3, .ref p2), (0, .ref a0), (1, .int a1), (2, .int a2)]) hX eX4_endOfForm_6 (by decide) rfl ?_
    refine j_iconst (v := (0 : Int32)) hX eX4_endOfForm_8 (by decide) ?_
    refine j_istore (lv' := [(5, .int (0 : Int32)), (4, .int a2), (3, .ref p2), (0, .ref a0), (1, .int a1), (2, .int a2)]) hX eX4_endOfForm_9 (by decide) rfl ?_
    refine j_iconst (v := (0 : Int32)) hX eX4_endOfForm_11 (by decide) ?_
    refine j_istore (lv' := [(6, .int (0 : Int32)), (5, .int (0 : Int32)), (4, .int a2), (3, .ref p2), (0, .ref a0), (1, .int a1), (2, .int a2)]) hX eX4_endOfForm_12 (by decide) rfl ?_
    exact j_sub [4, 3, 2, 1, 0] rfl (k14 _ _ _ _ _ _ h)
  · obtain ⟨p2, hxz9, h⟩ := qz9
    cases hxz9
set_option maxHeartbeats 4000000 in
set_option maxRecDepth 20000 in
theorem vX4_endOfForm_14 {X : am_Cx} {G : am_Gx} {d : Nat} {Q : am_Q} (hX : am_ok X rX4_endOfForm G (d + 1)) (hM : am_me X rX4_endOfForm Q) {bc bs : Nat} (R14 : Nat → Nat → Int32 → Int32 → Int32 → am_Hp → Prop) (k14 : ∀ (x0 : Nat) (x3 : Nat) (x4 : Int32) (x5 : Int32) (x6 : Int32) (M : am_Hp), R14 x0 x3 x4 x5 x6 M → am_J X 14 [(0, .ref x0), (3, .ref x3), (4, .int x4), (5, .int x5), (6, .int x6)] [] M bc bs) {a0 : Nat} {a3 : Nat} {a4 : Int32} {a5 : Int32} {a6 : Int32} {M : am_Hp} (h : hp_T M (a3) = 40 ∧ (am_CT G d rJ0_length_8abf5 [.ref a3] M 0 0 (fun oz9 M1 => ∃ v2 : Int32, oz9 = .inl (some (.int v2)) ∧ (((v2 ≤ a6) → (hp_T M1 (a0) = 5 ∧ (hp_R M1 80 a0 ≠ 0 ∧ (∀ p7 : Nat, p7 = hp_R M1 80 a0 → (hp_T M1 (p7) = 9 ∧ (am_CT G d rJ4_length_8abf5 [.ref p7] M1 0 0 (fun oz9 M8 => ∃ v9 : Int32, oz9 = .inl (some (.int v9)) ∧ (((v9 ≤ a4) → (Q (.inl (some (.int a4))) M8)) ∧ (¬ (v9 ≤ a4) → (hp_T M8 (a0) = 5 ∧ (hp_R M8 80 a0 ≠ 0 ∧ (∀ p14 : Nat, p14 = hp_R M8 80 a0 → (hp_T M8 (p14) = 9 ∧ (am_CT G d rJ4_charAt_5068e [.ref p14, .int a4] M8 0 0 (fun oz9 M15 => ∃ v16 : Int32, oz9 = .inl (some (.int v16)) ∧ (((v16 = (59 : Int32)) → (Q (.inl (some (.int a4))) M15)) ∧ (¬ (v16 = (59 : Int32)) → (hp_T M15 (a0) = 5 ∧ (am_CT G d rX4_breakOff [.ref a0, .int a4] M15 0 0 (fun oz9 M19 => ∃ v20 : Int32, oz9 = .inl (some (.int v20)) ∧ (Q (.inl (some (.int v20))) M19))))))))))))))))))))) ∧ (¬ (v2 ≤ a6) → (hp_T M1 (a3) = 40 ∧ (am_CT G d rJ0_charAt_5068e [.ref a3, .int a6] M1 0 0 (fun oz9 M22 => ∃ v23 : Int32, oz9 = .inl (some (.int v23)) ∧ (((v23 = (48 : Int32)) → (((v23 = (48 : Int32)) → (hp_T M22 (a0) = 5 ∧ (am_CT G d rX4_endOfDigits [.ref a0, .int a4, .int (1 : Int32)] M22 0 0 (fun oz9 M55 => ∃ v56 : Int32, oz9 = .inl (some (.int v56)) ∧ ((((3 : Int32) ≤ a5) → (((v56 = a4) → (hp_T M55 (a0) = 5 ∧ (am_CT G d rX4_breakOff [.ref a0, .int v56] M55 0 0 (fun oz9 M61 => ∃ v62 : Int32, oz9 = .inl (some (.int v62)) ∧ (Q (.inl (some (.int v62))) M61))))) ∧ (¬ (v56 = a4) → (∀ v60 : Int32, v60 = a6 + (1 : Int32) → (R14 a0 a3 v56 a5 v60 M55))))) ∧ (¬ ((3 : Int32) ≤ a5) → (hp_T M55 (a0) = 5 ∧ (hp_R M55 82 a0 ≠ 0 ∧ (∀ p66 : Nat, p66 = hp_R M55 82 a0 → (hp_T M55 (p66) = 28 ∧ (vp_in (hp_I M55 83 a0) (hp_N M55 p66) ∧ (hp_Q M55 p66 ((hp_I M55 83 a0)).toNatClampNeg ≠ 0 ∧ (∀ p70 : Nat, p70 = hp_Q M55 p66 ((hp_I M55 83 a0)).toNatClampNeg → (am_CT G d rX4_valueOf [.ref a0, .int a4, .int v56] M55 0 0 (fun oz9 M71 => ∃ v72 : Int32, oz9 = .inl (some (.int v72)) ∧ (hp_T M71 (p70) = 22 ∧ (vp_in a5 (hp_N M71 p70) ∧ (∀ M75 : am_Hp, M75 = hp_sE M71 p70 (a5).toNatClampNeg v72 → (∀ v77 : Int32, v77 = a5 + (1 : Int32) → (((v56 = a4) → (hp_T M75 (a0) = 5 ∧ (am_CT G d rX4_breakOff [.ref a0, .int v56] M75 0 0 (fun oz9 M80 => ∃ v81 : Int32, oz9 = .inl (some (.int v81)) ∧ (Q (.inl (some (.int v81))) M80))))) ∧ (¬ (v56 = a4) → (∀ v79 : Int32, v79 = a6 + (1 : Int32) → (R14 a0 a3 v56 v77 v79 M75))))))))))))))))))))))) ∧ (¬ (v23 = (48 : Int32)) → (hp_T M22 (a0) = 5 ∧ (am_CT G d rX4_endOfDigits [.ref a0, .int a4, .int (3 : Int32)] M22 0 0 (fun oz9 M27 => ∃ v28 : Int32, oz9 = .inl (some (.int v28)) ∧ ((((3 : Int32) ≤ a5) → (((v28 = a4) → (hp_T M27 (a0) = 5 ∧ (am_CT G d rX4_breakOff [.ref a0, .int v28] M27 0 0 (fun oz9 M33 => ∃ v34 : Int32, oz9 = .inl (some (.int v34)) ∧ (Q (.inl (some (.int v34))) M33))))) ∧ (¬ (v28 = a4) → (∀ v32 : Int32, v32 = a6 + (1 : Int32) → (R14 a0 a3 v28 a5 v32 M27))))) ∧ (¬ ((3 : Int32) ≤ a5) → (hp_T M27 (a0) = 5 ∧ (hp_R M27 82 a0 ≠ 0 ∧ (∀ p38 : Nat, p38 = hp_R M27 82 a0 → (hp_T M27 (p38) = 28 ∧ (vp_in (hp_I M27 83 a0) (hp_N M27 p38) ∧ (hp_Q M27 p38 ((hp_I M27 83 a0)).toNatClampNeg ≠ 0 ∧ (∀ p42 : Nat, p42 = hp_Q M27 p38 ((hp_I M27 83 a0)).toNatClampNeg → (am_CT G d rX4_valueOf [.ref a0, .int a4, .int v28] M27 0 0 (fun oz9 M43 => ∃ v44 : Int32, oz9 = .inl (some (.int v44)) ∧ (hp_T M43 (p42) = 22 ∧ (vp_in a5 (hp_N M43 p42) ∧ (∀ M47 : am_Hp, M47 = hp_sE M43 p42 (a5).toNatClampNeg v44 → (∀ v49 : Int32, v49 = a5 + (1 : Int32) → (((v28 = a4) → (hp_T M47 (a0) = 5 ∧ (am_CT G d rX4_breakOff [.ref a0, .int v28] M47 0 0 (fun oz9 M52 => ∃ v53 : Int32, oz9 = .inl (some (.int v53)) ∧ (Q (.inl (some (.int v53))) M52))))) ∧ (¬ (v28 = a4) → (∀ v51 : Int32, v51 = a6 + (1 : Int32) → (R14 a0 a3 v28 v49 v51 M47))))))))))))))))))))))))) ∧ (¬ (v23 = (48 : Int32)) → (((v23 = (78 : Int32)) → (((v23 = (48 : Int32)) → (hp_T M22 (a0) = 5 ∧ (am_CT G d rX4_endOfDigits [.ref a0, .int a4, .int (1 : Int32)] M22 0 0 (fun oz9 M143 => ∃ v144 : Int32, oz9 = .inl (some (.int v144)) ∧ ((((3 : Int32) ≤ a5) → (((v144 = a4) → (hp_T M143 (a0) = 5 ∧ (am_CT G d rX4_breakOff [.ref a0, .int v144] M143 0 0 (fun oz9 M149 => ∃ v150 : Int32, oz9 = .inl (some (.int v150)) ∧ (Q (.inl (some (.int v150))) M149))))) ∧ (¬ (v144 = a4) → (∀ v148 : Int32, v148 = a6 + (1 : Int32) → (R14 a0 a3 v144 a5 v148 M143))))) ∧ (¬ ((3 : Int32) ≤ a5) → (hp_T M143 (a0) = 5 ∧ (hp_R M143 82 a0 ≠ 0 ∧ (∀ p154 : Nat, p154 = hp_R M143 82 a0 → (hp_T M143 (p154) = 28 ∧ (vp_in (hp_I M143 83 a0) (hp_N M143 p154) ∧ (hp_Q M143 p154 ((hp_I M143 83 a0)).toNatClampNeg ≠ 0 ∧ (∀ p158 : Nat, p158 = hp_Q M143 p154 ((hp_I M143 83 a0)).toNatClampNeg → (am_CT G d rX4_valueOf [.ref a0, .int a4, .int v144] M143 0 0 (fun oz9 M159 => ∃ v160 : Int32, oz9 = .inl (some (.int v160)) ∧ (hp_T M159 (p158) = 22 ∧ (vp_in a5 (hp_N M159 p158) ∧ (∀ M163 : am_Hp, M163 = hp_sE M159 p158 (a5).toNatClampNeg v160 → (∀ v165 : Int32, v165 = a5 + (1 : Int32) → (((v144 = a4) → (hp_T M163 (a0) = 5 ∧ (am_CT G d rX4_breakOff [.ref a0, .int v144] M163 0 0 (fun oz9 M168 => ∃ v169 : Int32, oz9 = .inl (some (.int v169)) ∧ (Q (.inl (some (.int v169))) M168))))) ∧ (¬ (v144 = a4) → (∀ v167 : Int32, v167 = a6 + (1 : Int32) → (R14 a0 a3 v144 v165 v167 M163))))))))))))))))))))))) ∧ (¬ (v23 = (48 : Int32)) → (hp_T M22 (a0) = 5 ∧ (am_CT G d rX4_endOfDigits [.ref a0, .int a4, .int (3 : Int32)] M22 0 0 (fun oz9 M115 => ∃ v116 : Int32, oz9 = .inl (some (.int v116)) ∧ ((((3 : Int32) ≤ a5) → (((v116 = a4) → (hp_T M115 (a0) = 5 ∧ (am_CT G d rX4_breakOff [.ref a0, .int v116] M115 0 0 (fun oz9 M121 => ∃ v122 : Int32, oz9 = .inl (some (.int v122)) ∧ (Q (.inl (some (.int v122))) M121))))) ∧ (¬ (v116 = a4) → (∀ v120 : Int32, v120 = a6 + (1 : Int32) → (R14 a0 a3 v116 a5 v120 M115))))) ∧ (¬ ((3 : Int32) ≤ a5) → (hp_T M115 (a0) = 5 ∧ (hp_R M115 82 a0 ≠ 0 ∧ (∀ p126 : Nat, p126 = hp_R M115 82 a0 → (hp_T M115 (p126) = 28 ∧ (vp_in (hp_I M115 83 a0) (hp_N M115 p126) ∧ (hp_Q M115 p126 ((hp_I M115 83 a0)).toNatClampNeg ≠ 0 ∧ (∀ p130 : Nat, p130 = hp_Q M115 p126 ((hp_I M115 83 a0)).toNatClampNeg → (am_CT G d rX4_valueOf [.ref a0, .int a4, .int v116] M115 0 0 (fun oz9 M131 => ∃ v132 : Int32, oz9 = .inl (some (.int v132)) ∧ (hp_T M131 (p130) = 22 ∧ (vp_in a5 (hp_N M131 p130) ∧ (∀ M135 : am_Hp, M135 = hp_sE M131 p130 (a5).toNatClampNeg v132 → (∀ v137 : Int32, v137 = a5 + (1 : Int32) → (((v116 = a4) → (hp_T M135 (a0) = 5 ∧ (am_CT G d rX4_breakOff [.ref a0, .int v116] M135 0 0 (fun oz9 M140 => ∃ v141 : Int32, oz9 = .inl (some (.int v141)) ∧ (Q (.inl (some (.int v141))) M140))))) ∧ (¬ (v116 = a4) → (∀ v139 : Int32, v139 = a6 + (1 : Int32) → (R14 a0 a3 v116 v137 v139 M135))))))))))))))))))))))))) ∧ (¬ (v23 = (78 : Int32)) → (hp_T M22 (a0) = 5 ∧ (hp_R M22 80 a0 ≠ 0 ∧ (∀ p86 : Nat, p86 = hp_R M22 80 a0 → (hp_T M22 (p86) = 9 ∧ (am_CT G d rJ4_length_8abf5 [.ref p86] M22 0 0 (fun oz9 M87 => ∃ v88 : Int32, oz9 = .inl (some (.int v88)) ∧ (((v88 ≤ a4) → (((a4 = a4) → (hp_T M87 (a0) = 5 ∧ (am_CT G d rX4_breakOff [.ref a0, .int a4] M87 0 0 (fun oz9 M93 => ∃ v94 : Int32, oz9 = .inl (some (.int v94)) ∧ (Q (.inl (some (.int v94))) M93))))) ∧ (¬ (a4 = a4) → (∀ v92 : Int32, v92 = a6 + (1 : Int32) → (R14 a0 a3 a4 a5 v92 M87))))) ∧ (¬ (v88 ≤ a4) → (hp_T M87 (a0) = 5 ∧ (hp_R M87 80 a0 ≠ 0 ∧ (∀ p98 : Nat, p98 = hp_R M87 80 a0 → (hp_T M87 (p98) = 9 ∧ (am_CT G d rJ4_charAt_5068e [.ref p98, .int a4] M87 0 0 (fun oz9 M99 => ∃ v100 : Int32, oz9 = .inl (some (.int v100)) ∧ (((v100 = v23) → (∀ v108 : Int32, v108 = a4 + (1 : Int32) → (((v108 = a4) → (hp_T M99 (a0) = 5 ∧ (am_CT G d rX4_breakOff [.ref a0, .int v108] M99 0 0 (fun oz9 M111 => ∃ v112 : Int32, oz9 = .inl (some (.int v112)) ∧ (Q (.inl (some (.int v112))) M111))))) ∧ (¬ (v108 = a4) → (∀ v110 : Int32, v110 = a6 + (1 : Int32) → (R14 a0 a3 v108 a5 v110 M99)))))) ∧ (¬ (v100 = v23) → (((a4 = a4) → (hp_T M99 (a0) = 5 ∧ (am_CT G d rX4_breakOff [.ref a0, .int a4] M99 0 0 (fun oz9 M105 => ∃ v106 : Int32, oz9 = .inl (some (.int v106)) ∧ (Q (.inl (some (.int v106))) M105))))) ∧ (¬ (a4 = a4) → (∀ v104 : Int32, v104 = a6 + (1 : Int32) → (R14 a0 a3 a4 a5 v104 M99)))))))))))))))))))))))))))))))) : am_J X 14 [(0, .ref a0), (3, .ref a3), (4, .int a4), (5, .int a5), (6, .int a6)] [] M bc bs := by
  refine j_iload hX eX4_endOfForm_14 4 rfl ?_
  refine j_aload_n hX eX4_endOfForm_16 1 rfl ?_
  obtain ⟨t3, h⟩ := h
  refine j_callVs (a := a3) (q := (RJ0, TJ0, 4)) (r' := rJ0_length_8abf5) (As := []) (rest := [.int a6]) (d1 := d) hX eX4_endOfForm_17 mm_LiftGroup_Script_66 rfl t3 rfl h rfl (Nat.le_refl _) (Nat.zero_le _) (Nat.zero_le _) (Nat.le_of_ble_eq_true rfl) (fun vz9 Mz9 qz9 => ?_) (fun Ez9 Mz9 qz9 => ?_)
  · obtain ⟨M1, eMz9⟩ : ∃ M1, M1 = Mz9 := ⟨_, rfl⟩; subst eMz9
    obtain ⟨v2, hxz9, h⟩ := qz9
    cases hxz9
    refine j_icmp_ge hX 150 eX4_endOfForm_20 (by decide) (fun c4 => ?_) (fun c4 => ?_)
    · replace h := h.1 c4
      refine j_iload hX eX4_endOfForm_150 2 rfl ?_
      refine j_aload_n hX eX4_endOfForm_152 0 rfl ?_
      obtain ⟨t5, h⟩ := h
      obtain ⟨z6, h⟩ := h
      refine j_getR hX eX4_endOfForm_153 ff_LiftGroup_Script_12 rfl t5 (by decide) z6 ?_
      refine j_nmR (fun p7 ep7 => ?_)
      replace h := h p7 ep7
      obtain ⟨t10, h⟩ := h
      refine j_callV (a := p7) (q := (RJ4, TJ4, 4)) (r' := rJ4_length_8abf5) (As := []) (rest := [.int a4]) (d1 := d) hX eX4_endOfForm_156 mm_LiftGroup_Script_54 rfl t10 (by decide) rfl h rfl (Nat.le_refl _) (Nat.zero_le _) (Nat.zero_le _) (Nat.le_of_ble_eq_true rfl) (fun vz9 Mz9 qz9 => ?_) (fun Ez9 Mz9 qz9 => ?_)
      · obtain ⟨M8, eMz9⟩ : ∃ M8, M8 = Mz9 := ⟨_, rfl⟩; subst eMz9
        obtain ⟨v9, hxz9, h⟩ := qz9
        cases hxz9
        refine j_icmp_ge hX 185 eX4_endOfForm_159 (by decide) (fun c11 => ?_) (fun c11 => ?_)
        · replace h := h.1 c11
          refine j_iload hX eX4_endOfForm_185 2 rfl ?_
          exact j_iret hX hM eX4_endOfForm_187 rfl h
        · replace h := h.2 c11
          refine j_aload_n hX eX4_endOfForm_162 0 rfl ?_
          obtain ⟨t12, h⟩ := h
          obtain ⟨z13, h⟩ := h
          refine j_getR hX eX4_endOfForm_163 ff_LiftGroup_Script_12 rfl t12 (by decide) z13 ?_
          refine j_nmR (fun p14 ep14 => ?_)
          replace h := h p14 ep14
          refine j_iload hX eX4_endOfForm_166 2 rfl ?_
          obtain ⟨t17, h⟩ := h
          refine j_callV (a := p14) (q := (RJ4, TJ4, 4)) (r' := rJ4_charAt_5068e) (As := [.int a4]) (rest := []) (d1 := d) hX eX4_endOfForm_168 mm_LiftGroup_Script_79 rfl t17 (by decide) rfl h rfl (Nat.le_refl _) (Nat.zero_le _) (Nat.zero_le _) (Nat.le_of_ble_eq_true rfl) (fun vz9 Mz9 qz9 => ?_) (fun Ez9 Mz9 qz9 => ?_)
          · obtain ⟨M15, eMz9⟩ : ∃ M15, M15 = Mz9 := ⟨_, rfl⟩; subst eMz9
            obtain ⟨v16, hxz9, h⟩ := qz9
            cases hxz9
            refine j_bipush (v := (59 : Int32)) hX eX4_endOfForm_171 (by decide) ?_
            refine j_icmp_eq hX 185 eX4_endOfForm_173 (by decide) (fun c18 => ?_) (fun c18 => ?_)
            · replace h := h.1 c18
              refine j_iload hX eX4_endOfForm_185 2 rfl ?_
              exact j_iret hX hM eX4_endOfForm_187 rfl h
            · replace h := h.2 c18
              refine j_aload_n hX eX4_endOfForm_176 0 rfl ?_
              refine j_iload hX eX4_endOfForm_177 2 rfl ?_
              obtain ⟨t21, h⟩ := h
              refine j_callV (a := a0) (q := (RX4, TX4, 5)) (r' := rX4_breakOff) (As := [.int a4]) (rest := []) (d1 := d) hX eX4_endOfForm_179 mm_LiftGroup_Script_80 rfl t21 (by decide) rfl h rfl (Nat.le_refl _) (Nat.zero_le _) (Nat.zero_le _) (Nat.le_of_ble_eq_true rfl) (fun vz9 Mz9 qz9 => ?_) (fun Ez9 Mz9 qz9 => ?_)
              · obtain ⟨M19, eMz9⟩ : ∃ M19, M19 = Mz9 := ⟨_, rfl⟩; subst eMz9
                obtain ⟨v20, hxz9, h⟩ := qz9
                cases hxz9
                refine j_goto hX 187 eX4_endOfForm_182 (by decide) ?_
                exact j_iret hX hM eX4_endOfForm_187 rfl h
              · obtain ⟨v20, hxz9, h⟩ := qz9
                cases hxz9
          · obtain ⟨v16, hxz9, h⟩ := qz9
            cases hxz9
      · obtain ⟨v9, hxz9, h⟩ := qz9
        cases hxz9
    · replace h := h.2 c4
      refine j_aload_n hX eX4_endOfForm_23 1 rfl ?_
      refine j_iload hX eX4_endOfForm_24 4 rfl ?_
      obtain ⟨t24, h⟩ := h
      refine j_callVs (a := a3) (q := (RJ0, TJ0, 4)) (r' := rJ0_charAt_5068e) (As := [.int a6]) (rest := []) (d1 := d) hX eX4_endOfForm_26 mm_LiftGroup_Script_69 rfl t24 rfl h rfl (Nat.le_refl _) (Nat.zero_le _) (Nat.zero_le _) (Nat.le_of_ble_eq_true rfl) (fun vz9 Mz9 qz9 => ?_) (fun Ez9 Mz9 qz9 => ?_)
      · obtain ⟨M22, eMz9⟩ : ∃ M22, M22 = Mz9 := ⟨_, rfl⟩; subst eMz9
        obtain ⟨v23, hxz9, h⟩ := qz9
        cases hxz9
        refine j_istore (lv' := [(7, .int v23), (0, .ref a0), (3, .ref a3), (4, .int a4), (5, .int a5), (6, .int a6)]) hX eX4_endOfForm_29 (by decide) rfl ?_
        refine j_iload hX eX4_endOfForm_31 3 rfl ?_
        refine j_istore (lv' := [(8, .int a4), (7, .int v23), (0, .ref a0), (3, .ref a3), (4, .int a4), (5, .int a5), (6, .int a6)]) hX eX4_endOfForm_33 (by decide) rfl ?_
        refine j_iload hX eX4_endOfForm_35 1 rfl ?_
        refine j_bipush (v := (48 : Int32)) hX eX4_endOfForm_37 (by decide) ?_
        refine j_icmp_eq hX 49 eX4_endOfForm_39 (by decide) (fun c25 => ?_) (fun c25 => ?_)
        · replace h := h.1 c25
          refine j_aload_n hX eX4_endOfForm_49 2 rfl ?_
          refine j_iload hX eX4_endOfForm_50 0 rfl ?_
          refine j_iload hX eX4_endOfForm_52 1 rfl ?_
          refine j_bipush (v := (48 : Int32)) hX eX4_endOfForm_54 (by decide) ?_
          refine j_icmp_ne hX 63 eX4_endOfForm_56 (by decide) (fun c26 => ?_) (fun c26 => ?_)
          · replace h := h.2 c26
            refine j_iconst (v := (3 : Int32)) hX eX4_endOfForm_63 (by decide) ?_
            obtain ⟨t29, h⟩ := h
            refine j_callV (a := a0) (q := (RX4, TX4, 5)) (r' := rX4_endOfDigits) (As := [.int a4, .int (3 : Int32)]) (rest := []) (d1 := d) hX eX4_endOfForm_64 mm_LiftGroup_Script_73 rfl t29 (by decide) rfl h rfl (Nat.le_refl _) (Nat.zero_le _) (Nat.zero_le _) (Nat.le_of_ble_eq_true rfl) (fun vz9 Mz9 qz9 => ?_) (fun Ez9 Mz9 qz9 => ?_)
            · obtain ⟨M27, eMz9⟩ : ∃ M27, M27 = Mz9 := ⟨_, rfl⟩; subst eMz9
              obtain ⟨v28, hxz9, h⟩ := qz9
              cases hxz9
              refine j_istore (lv' := [(4, .int v28), (8, .int a4), (7, .int v23), (0, .ref a0), (3, .ref a3), (5, .int a5), (6, .int a6)]) hX eX4_endOfForm_67 (by decide) rfl ?_
              refine j_iload hX eX4_endOfForm_69 5 rfl ?_
              refine j_iconst (v := (3 : Int32)) hX eX4_endOfForm_71 (by decide) ?_
              refine j_icmp_ge hX 130 eX4_endOfForm_72 (by decide) (fun c30 => ?_) (fun c30 => ?_)
              · replace h := h.1 c30
                refine j_iload hX eX4_endOfForm_130 0 rfl ?_
                refine j_iload hX eX4_endOfForm_132 1 rfl ?_
                refine j_icmp_ne hX 144 eX4_endOfForm_134 (by decide) (fun c31 => ?_) (fun c31 => ?_)
                · replace h := h.2 c31
                  obtain ⟨v32, ev32⟩ : ∃ v32 : Int32, v32 = a6 + (1 : Int32) := ⟨_, rfl⟩
                  replace h := h v32 ev32
                  refine j_iinc (v := v32) (lv' := [(6, .int v32), (4, .int v28), (8, .int a4), (7, .int v23), (0, .ref a0), (3, .ref a3), (5, .int a5)]) hX eX4_endOfForm_144 6 rfl (by rw [ev32]; rfl) (by decide) rfl ?_
                  refine j_goto hX 14 eX4_endOfForm_147 (by decide) ?_
                  exact j_sub [4, 5, 1, 6, 0] rfl (k14 _ _ _ _ _ _ h)
                · replace h := h.1 c31
                  refine j_aload_n hX eX4_endOfForm_137 3 rfl ?_
                  refine j_iload hX eX4_endOfForm_138 0 rfl ?_
                  obtain ⟨t35, h⟩ := h
                  refine j_callV (a := a0) (q := (RX4, TX4, 5)) (r' := rX4_breakOff) (As := [.int v28]) (rest := []) (d1 := d) hX eX4_endOfForm_140 mm_LiftGroup_Script_80 rfl t35 (by decide) rfl h rfl (Nat.le_refl _) (Nat.zero_le _) (Nat.zero_le _) (Nat.le_of_ble_eq_true rfl) (fun vz9 Mz9 qz9 => ?_) (fun Ez9 Mz9 qz9 => ?_)
                  · obtain ⟨M33, eMz9⟩ : ∃ M33, M33 = Mz9 := ⟨_, rfl⟩; subst eMz9
                    obtain ⟨v34, hxz9, h⟩ := qz9
                    cases hxz9
                    exact j_iret hX hM eX4_endOfForm_143 rfl h
                  · obtain ⟨v34, hxz9, h⟩ := qz9
                    cases hxz9
              · replace h := h.2 c30
                refine j_aload_n hX eX4_endOfForm_75 3 rfl ?_
                obtain ⟨t36, h⟩ := h
                obtain ⟨z37, h⟩ := h
                refine j_getR hX eX4_endOfForm_76 ff_LiftGroup_Script_24 rfl t36 (by decide) z37 ?_
                refine j_nmR (fun p38 ep38 => ?_)
                replace h := h p38 ep38
                refine j_aload_n hX eX4_endOfForm_79 3 rfl ?_
                refine j_getI hX eX4_endOfForm_80 ff_LiftGroup_Script_27 rfl t36 (by decide) ?_
                obtain ⟨t39, h⟩ := h
                obtain ⟨i40, h⟩ := h
                obtain ⟨z41, h⟩ := h
                refine j_aald28 hX eX4_endOfForm_83 t39 i40 z41 ?_
                refine j_nmR (fun p42 ep42 => ?_)
                replace h := h p42 ep42
                refine j_iload hX eX4_endOfForm_84 5 rfl ?_
                refine j_aload_n hX eX4_endOfForm_86 3 rfl ?_
                refine j_iload hX eX4_endOfForm_87 1 rfl ?_
                refine j_iload hX eX4_endOfForm_89 0 rfl ?_
                refine j_callV (a := a0) (q := (RX4, TX4, 5)) (r' := rX4_valueOf) (As := [.int a4, .int v28]) (rest := [.int a5, .ref p42]) (d1 := d) hX eX4_endOfForm_91 mm_LiftGroup_Script_76 rfl t36 (by decide) rfl h rfl (Nat.le_refl _) (Nat.zero_le _) (Nat.zero_le _) (Nat.le_of_ble_eq_true rfl) (fun vz9 Mz9 qz9 => ?_) (fun Ez9 Mz9 qz9 => ?_)
                · obtain ⟨M43, eMz9⟩ : ∃ M43, M43 = Mz9 := ⟨_, rfl⟩; subst eMz9
                  obtain ⟨v44, hxz9, h⟩ := qz9
                  cases hxz9
                  obtain ⟨t45, h⟩ := h
                  obtain ⟨i46, h⟩ := h
                  refine j_iast hX eX4_endOfForm_94 t45 i46 ?_
                  refine j_nmM (fun M47 eM47 => ?_)
                  replace h := h M47 eM47
                  have t48 : hp_T M47 (p42) = 22 := by rw [eM47]; exact t45
                  obtain ⟨v49, ev49⟩ : ∃ v49 : Int32, v49 = a5 + (1 : Int32) := ⟨_, rfl⟩
                  replace h := h v49 ev49
                  refine j_iinc (v := v49) (lv' := [(5, .int v49), (4, .int v28), (8, .int a4), (7, .int v23), (0, .ref a0), (3, .ref a3), (6, .int a6)]) hX eX4_endOfForm_95 5 rfl (by rw [ev49]; rfl) (by decide) rfl ?_
                  refine j_goto hX 130 eX4_endOfForm_98 (by decide) ?_
                  refine j_iload hX eX4_endOfForm_130 1 rfl ?_
                  refine j_iload hX eX4_endOfForm_132 2 rfl ?_
                  refine j_icmp_ne hX 144 eX4_endOfForm_134 (by decide) (fun c50 => ?_) (fun c50 => ?_)
                  · replace h := h.2 c50
                    obtain ⟨v51, ev51⟩ : ∃ v51 : Int32, v51 = a6 + (1 : Int32) := ⟨_, rfl⟩
                    replace h := h v51 ev51
                    refine j_iinc (v := v51) (lv' := [(6, .int v51), (5, .int v49), (4, .int v28), (8, .int a4), (7, .int v23), (0, .ref a0), (3, .ref a3)]) hX eX4_endOfForm_144 6 rfl (by rw [ev51]; rfl) (by decide) rfl ?_
                    refine j_goto hX 14 eX4_endOfForm_147 (by decide) ?_
                    exact j_sub [5, 6, 2, 1, 0] rfl (k14 _ _ _ _ _ _ h)
                  · replace h := h.1 c50
                    refine j_aload_n hX eX4_endOfForm_137 4 rfl ?_
                    refine j_iload hX eX4_endOfForm_138 1 rfl ?_
                    obtain ⟨t54, h⟩ := h
                    refine j_callV (a := a0) (q := (RX4, TX4, 5)) (r' := rX4_breakOff) (As := [.int v28]) (rest := []) (d1 := d) hX eX4_endOfForm_140 mm_LiftGroup_Script_80 rfl t54 (by decide) rfl h rfl (Nat.le_refl _) (Nat.zero_le _) (Nat.zero_le _) (Nat.le_of_ble_eq_true rfl) (fun vz9 Mz9 qz9 => ?_) (fun Ez9 Mz9 qz9 => ?_)
                    · obtain ⟨M52, eMz9⟩ : ∃ M52, M52 = Mz9 := ⟨_, rfl⟩; subst eMz9
                      obtain ⟨v53, hxz9, h⟩ := qz9
                      cases hxz9
                      exact j_iret hX hM eX4_endOfForm_143 rfl h
                    · obtain ⟨v53, hxz9, h⟩ := qz9
                      cases hxz9
                · obtain ⟨v44, hxz9, h⟩ := qz9
                  cases hxz9
            · obtain ⟨v28, hxz9, h⟩ := qz9
              cases hxz9
          · replace h := h.1 c26
            refine j_iconst (v := (1 : Int32)) hX eX4_endOfForm_59 (by decide) ?_
            refine j_goto hX 64 eX4_endOfForm_60 (by decide) ?_
            obtain ⟨t57, h⟩ := h
            refine j_callV (a := a0) (q := (RX4, TX4, 5)) (r' := rX4_endOfDigits) (As := [.int a4, .int (1 : Int32)]) (rest := []) (d1 := d) hX eX4_endOfForm_64 mm_LiftGroup_Script_73 rfl t57 (by decide) rfl h rfl (Nat.le_refl _) (Nat.zero_le _) (Nat.zero_le _) (Nat.le_of_ble_eq_true rfl) (fun vz9 Mz9 qz9 => ?_) (fun Ez9 Mz9 qz9 => ?_)
            · obtain ⟨M55, eMz9⟩ : ∃ M55, M55 = Mz9 := ⟨_, rfl⟩; subst eMz9
              obtain ⟨v56, hxz9, h⟩ := qz9
              cases hxz9
              refine j_istore (lv' := [(4, .int v56), (8, .int a4), (7, .int v23), (0, .ref a0), (3, .ref a3), (5, .int a5), (6, .int a6)]) hX eX4_endOfForm_67 (by decide) rfl ?_
              refine j_iload hX eX4_endOfForm_69 5 rfl ?_
              refine j_iconst (v := (3 : Int32)) hX eX4_endOfForm_71 (by decide) ?_
              refine j_icmp_ge hX 130 eX4_endOfForm_72 (by decide) (fun c58 => ?_) (fun c58 => ?_)
              · replace h := h.1 c58
                refine j_iload hX eX4_endOfForm_130 0 rfl ?_
                refine j_iload hX eX4_endOfForm_132 1 rfl ?_
                refine j_icmp_ne hX 144 eX4_endOfForm_134 (by decide) (fun c59 => ?_) (fun c59 => ?_)
                · replace h := h.2 c59
                  obtain ⟨v60, ev60⟩ : ∃ v60 : Int32, v60 = a6 + (1 : Int32) := ⟨_, rfl⟩
                  replace h := h v60 ev60
                  refine j_iinc (v := v60) (lv' := [(6, .int v60), (4, .int v56), (8, .int a4), (7, .int v23), (0, .ref a0), (3, .ref a3), (5, .int a5)]) hX eX4_endOfForm_144 6 rfl (by rw [ev60]; rfl) (by decide) rfl ?_
                  refine j_goto hX 14 eX4_endOfForm_147 (by decide) ?_
                  exact j_sub [4, 5, 1, 6, 0] rfl (k14 _ _ _ _ _ _ h)
                · replace h := h.1 c59
                  refine j_aload_n hX eX4_endOfForm_137 3 rfl ?_
                  refine j_iload hX eX4_endOfForm_138 0 rfl ?_
                  obtain ⟨t63, h⟩ := h
                  refine j_callV (a := a0) (q := (RX4, TX4, 5)) (r' := rX4_breakOff) (As := [.int v56]) (rest := []) (d1 := d) hX eX4_endOfForm_140 mm_LiftGroup_Script_80 rfl t63 (by decide) rfl h rfl (Nat.le_refl _) (Nat.zero_le _) (Nat.zero_le _) (Nat.le_of_ble_eq_true rfl) (fun vz9 Mz9 qz9 => ?_) (fun Ez9 Mz9 qz9 => ?_)
                  · obtain ⟨M61, eMz9⟩ : ∃ M61, M61 = Mz9 := ⟨_, rfl⟩; subst eMz9
                    obtain ⟨v62, hxz9, h⟩ := qz9
                    cases hxz9
                    exact j_iret hX hM eX4_endOfForm_143 rfl h
                  · obtain ⟨v62, hxz9, h⟩ := qz9
                    cases hxz9
              · replace h := h.2 c58
                refine j_aload_n hX eX4_endOfForm_75 3 rfl ?_
                obtain ⟨t64, h⟩ := h
                obtain ⟨z65, h⟩ := h
                refine j_getR hX eX4_endOfForm_76 ff_LiftGroup_Script_24 rfl t64 (by decide) z65 ?_
                refine j_nmR (fun p66 ep66 => ?_)
                replace h := h p66 ep66
                refine j_aload_n hX eX4_endOfForm_79 3 rfl ?_
                refine j_getI hX eX4_endOfForm_80 ff_LiftGroup_Script_27 rfl t64 (by decide) ?_
                obtain ⟨t67, h⟩ := h
                obtain ⟨i68, h⟩ := h
                obtain ⟨z69, h⟩ := h
                refine j_aald28 hX eX4_endOfForm_83 t67 i68 z69 ?_
                refine j_nmR (fun p70 ep70 => ?_)
                replace h := h p70 ep70
                refine j_iload hX eX4_endOfForm_84 5 rfl ?_
                refine j_aload_n hX eX4_endOfForm_86 3 rfl ?_
                refine j_iload hX eX4_endOfForm_87 1 rfl ?_
                refine j_iload hX eX4_endOfForm_89 0 rfl ?_
                refine j_callV (a := a0) (q := (RX4, TX4, 5)) (r' := rX4_valueOf) (As := [.int a4, .int v56]) (rest := [.int a5, .ref p70]) (d1 := d) hX eX4_endOfForm_91 mm_LiftGroup_Script_76 rfl t64 (by decide) rfl h rfl (Nat.le_refl _) (Nat.zero_le _) (Nat.zero_le _) (Nat.le_of_ble_eq_true rfl) (fun vz9 Mz9 qz9 => ?_) (fun Ez9 Mz9 qz9 => ?_)
                · obtain ⟨M71, eMz9⟩ : ∃ M71, M71 = Mz9 := ⟨_, rfl⟩; subst eMz9
                  obtain ⟨v72, hxz9, h⟩ := qz9
                  cases hxz9
                  obtain ⟨t73, h⟩ := h
                  obtain ⟨i74, h⟩ := h
                  refine j_iast hX eX4_endOfForm_94 t73 i74 ?_
                  refine j_nmM (fun M75 eM75 => ?_)
                  replace h := h M75 eM75
                  have t76 : hp_T M75 (p70) = 22 := by rw [eM75]; exact t73
                  obtain ⟨v77, ev77⟩ : ∃ v77 : Int32, v77 = a5 + (1 : Int32) := ⟨_, rfl⟩
                  replace h := h v77 ev77
                  refine j_iinc (v := v77) (lv' := [(5, .int v77), (4, .int v56), (8, .int a4), (7, .int v23), (0, .ref a0), (3, .ref a3), (6, .int a6)]) hX eX4_endOfForm_95 5 rfl (by rw [ev77]; rfl) (by decide) rfl ?_
                  refine j_goto hX 130 eX4_endOfForm_98 (by decide) ?_
                  refine j_iload hX eX4_endOfForm_130 1 rfl ?_
                  refine j_iload hX eX4_endOfForm_132 2 rfl ?_
                  refine j_icmp_ne hX 144 eX4_endOfForm_134 (by decide) (fun c78 => ?_) (fun c78 => ?_)
                  · replace h := h.2 c78
                    obtain ⟨v79, ev79⟩ : ∃ v79 : Int32, v79 = a6 + (1 : Int32) := ⟨_, rfl⟩
                    replace h := h v79 ev79
                    refine j_iinc (v := v79) (lv' := [(6, .int v79), (5, .int v77), (4, .int v56), (8, .int a4), (7, .int v23), (0, .ref a0), (3, .ref a3)]) hX eX4_endOfForm_144 6 rfl (by rw [ev79]; rfl) (by decide) rfl ?_
                    refine j_goto hX 14 eX4_endOfForm_147 (by decide) ?_
                    exact j_sub [5, 6, 2, 1, 0] rfl (k14 _ _ _ _ _ _ h)
                  · replace h := h.1 c78
                    refine j_aload_n hX eX4_endOfForm_137 4 rfl ?_
                    refine j_iload hX eX4_endOfForm_138 1 rfl ?_
                    obtain ⟨t82, h⟩ := h
                    refine j_callV (a := a0) (q := (RX4, TX4, 5)) (r' := rX4_breakOff) (As := [.int v56]) (rest := []) (d1 := d) hX eX4_endOfForm_140 mm_LiftGroup_Script_80 rfl t82 (by decide) rfl h rfl (Nat.le_refl _) (Nat.zero_le _) (Nat.zero_le _) (Nat.le_of_ble_eq_true rfl) (fun vz9 Mz9 qz9 => ?_) (fun Ez9 Mz9 qz9 => ?_)
                    · obtain ⟨M80, eMz9⟩ : ∃ M80, M80 = Mz9 := ⟨_, rfl⟩; subst eMz9
                      obtain ⟨v81, hxz9, h⟩ := qz9
                      cases hxz9
                      exact j_iret hX hM eX4_endOfForm_143 rfl h
                    · obtain ⟨v81, hxz9, h⟩ := qz9
                      cases hxz9
                · obtain ⟨v72, hxz9, h⟩ := qz9
                  cases hxz9
            · obtain ⟨v56, hxz9, h⟩ := qz9
              cases hxz9
        · replace h := h.2 c25
          refine j_iload hX eX4_endOfForm_42 1 rfl ?_
          refine j_bipush (v := (78 : Int32)) hX eX4_endOfForm_44 (by decide) ?_
          refine j_icmp_ne hX 101 eX4_endOfForm_46 (by decide) (fun c83 => ?_) (fun c83 => ?_)
          · replace h := h.2 c83
            refine j_iload hX eX4_endOfForm_101 4 rfl ?_
            refine j_aload_n hX eX4_endOfForm_103 2 rfl ?_
            obtain ⟨t84, h⟩ := h
            obtain ⟨z85, h⟩ := h
            refine j_getR hX eX4_endOfForm_104 ff_LiftGroup_Script_12 rfl t84 (by decide) z85 ?_
            refine j_nmR (fun p86 ep86 => ?_)
            replace h := h p86 ep86
            obtain ⟨t89, h⟩ := h
            refine j_callV (a := p86) (q := (RJ4, TJ4, 4)) (r' := rJ4_length_8abf5) (As := []) (rest := [.int a4]) (d1 := d) hX eX4_endOfForm_107 mm_LiftGroup_Script_54 rfl t89 (by decide) rfl h rfl (Nat.le_refl _) (Nat.zero_le _) (Nat.zero_le _) (Nat.le_of_ble_eq_true rfl) (fun vz9 Mz9 qz9 => ?_) (fun Ez9 Mz9 qz9 => ?_)
            · obtain ⟨M87, eMz9⟩ : ∃ M87, M87 = Mz9 := ⟨_, rfl⟩; subst eMz9
              obtain ⟨v88, hxz9, h⟩ := qz9
              cases hxz9
              refine j_icmp_ge hX 130 eX4_endOfForm_110 (by decide) (fun c90 => ?_) (fun c90 => ?_)
              · replace h := h.1 c90
                refine j_iload hX eX4_endOfForm_130 4 rfl ?_
                refine j_iload hX eX4_endOfForm_132 0 rfl ?_
                refine j_icmp_ne hX 144 eX4_endOfForm_134 (by decide) (fun c91 => ?_) (fun c91 => ?_)
                · replace h := h.2 c91
                  obtain ⟨v92, ev92⟩ : ∃ v92 : Int32, v92 = a6 + (1 : Int32) := ⟨_, rfl⟩
                  replace h := h v92 ev92
                  refine j_iinc (v := v92) (lv' := [(6, .int v92), (8, .int a4), (7, .int v23), (0, .ref a0), (3, .ref a3), (4, .int a4), (5, .int a5)]) hX eX4_endOfForm_144 6 rfl (by rw [ev92]; rfl) (by decide) rfl ?_
                  refine j_goto hX 14 eX4_endOfForm_147 (by decide) ?_
                  exact j_sub [3, 4, 5, 6, 0] rfl (k14 _ _ _ _ _ _ h)
                · replace h := h.1 c91
                  refine j_aload_n hX eX4_endOfForm_137 2 rfl ?_
                  refine j_iload hX eX4_endOfForm_138 4 rfl ?_
                  obtain ⟨t95, h⟩ := h
                  refine j_callV (a := a0) (q := (RX4, TX4, 5)) (r' := rX4_breakOff) (As := [.int a4]) (rest := []) (d1 := d) hX eX4_endOfForm_140 mm_LiftGroup_Script_80 rfl t95 (by decide) rfl h rfl (Nat.le_refl _) (Nat.zero_le _) (Nat.zero_le _) (Nat.le_of_ble_eq_true rfl) (fun vz9 Mz9 qz9 => ?_) (fun Ez9 Mz9 qz9 => ?_)
                  · obtain ⟨M93, eMz9⟩ : ∃ M93, M93 = Mz9 := ⟨_, rfl⟩; subst eMz9
                    obtain ⟨v94, hxz9, h⟩ := qz9
                    cases hxz9
                    exact j_iret hX hM eX4_endOfForm_143 rfl h
                  · obtain ⟨v94, hxz9, h⟩ := qz9
                    cases hxz9
              · replace h := h.2 c90
                refine j_aload_n hX eX4_endOfForm_113 2 rfl ?_
                obtain ⟨t96, h⟩ := h
                obtain ⟨z97, h⟩ := h
                refine j_getR hX eX4_endOfForm_114 ff_LiftGroup_Script_12 rfl t96 (by decide) z97 ?_
                refine j_nmR (fun p98 ep98 => ?_)
                replace h := h p98 ep98
                refine j_iload hX eX4_endOfForm_117 4 rfl ?_
                obtain ⟨t101, h⟩ := h
                refine j_callV (a := p98) (q := (RJ4, TJ4, 4)) (r' := rJ4_charAt_5068e) (As := [.int a4]) (rest := []) (d1 := d) hX eX4_endOfForm_119 mm_LiftGroup_Script_79 rfl t101 (by decide) rfl h rfl (Nat.le_refl _) (Nat.zero_le _) (Nat.zero_le _) (Nat.le_of_ble_eq_true rfl) (fun vz9 Mz9 qz9 => ?_) (fun Ez9 Mz9 qz9 => ?_)
                · obtain ⟨M99, eMz9⟩ : ∃ M99, M99 = Mz9 := ⟨_, rfl⟩; subst eMz9
                  obtain ⟨v100, hxz9, h⟩ := qz9
                  cases hxz9
                  refine j_iload hX eX4_endOfForm_122 1 rfl ?_
                  refine j_icmp_ne hX 130 eX4_endOfForm_124 (by decide) (fun c102 => ?_) (fun c102 => ?_)
                  · replace h := h.2 c102
                    refine j_iload hX eX4_endOfForm_130 4 rfl ?_
                    refine j_iload hX eX4_endOfForm_132 0 rfl ?_
                    refine j_icmp_ne hX 144 eX4_endOfForm_134 (by decide) (fun c103 => ?_) (fun c103 => ?_)
                    · replace h := h.2 c103
                      obtain ⟨v104, ev104⟩ : ∃ v104 : Int32, v104 = a6 + (1 : Int32) := ⟨_, rfl⟩
                      replace h := h v104 ev104
                      refine j_iinc (v := v104) (lv' := [(6, .int v104), (8, .int a4), (7, .int v23), (0, .ref a0), (3, .ref a3), (4, .int a4), (5, .int a5)]) hX eX4_endOfForm_144 6 rfl (by rw [ev104]; rfl) (by decide) rfl ?_
                      refine j_goto hX 14 eX4_endOfForm_147 (by decide) ?_
                      exact j_sub [3, 4, 5, 6, 0] rfl (k14 _ _ _ _ _ _ h)
                    · replace h := h.1 c103
                      refine j_aload_n hX eX4_endOfForm_137 2 rfl ?_
                      refine j_iload hX eX4_endOfForm_138 4 rfl ?_
                      obtain ⟨t107, h⟩ := h
                      refine j_callV (a := a0) (q := (RX4, TX4, 5)) (r' := rX4_breakOff) (As := [.int a4]) (rest := []) (d1 := d) hX eX4_endOfForm_140 mm_LiftGroup_Script_80 rfl t107 (by decide) rfl h rfl (Nat.le_refl _) (Nat.zero_le _) (Nat.zero_le _) (Nat.le_of_ble_eq_true rfl) (fun vz9 Mz9 qz9 => ?_) (fun Ez9 Mz9 qz9 => ?_)
                      · obtain ⟨M105, eMz9⟩ : ∃ M105, M105 = Mz9 := ⟨_, rfl⟩; subst eMz9
                        obtain ⟨v106, hxz9, h⟩ := qz9
                        cases hxz9
                        exact j_iret hX hM eX4_endOfForm_143 rfl h
                      · obtain ⟨v106, hxz9, h⟩ := qz9
                        cases hxz9
                  · replace h := h.1 c102
                    obtain ⟨v108, ev108⟩ : ∃ v108 : Int32, v108 = a4 + (1 : Int32) := ⟨_, rfl⟩
                    replace h := h v108 ev108
                    refine j_iinc (v := v108) (lv' := [(4, .int v108), (8, .int a4), (7, .int v23), (0, .ref a0), (3, .ref a3), (5, .int a5), (6, .int a6)]) hX eX4_endOfForm_127 4 rfl (by rw [ev108]; rfl) (by decide) rfl ?_
                    refine j_iload hX eX4_endOfForm_130 0 rfl ?_
                    refine j_iload hX eX4_endOfForm_132 1 rfl ?_
                    refine j_icmp_ne hX 144 eX4_endOfForm_134 (by decide) (fun c109 => ?_) (fun c109 => ?_)
                    · replace h := h.2 c109
                      obtain ⟨v110, ev110⟩ : ∃ v110 : Int32, v110 = a6 + (1 : Int32) := ⟨_, rfl⟩
                      replace h := h v110 ev110
                      refine j_iinc (v := v110) (lv' := [(6, .int v110), (4, .int v108), (8, .int a4), (7, .int v23), (0, .ref a0), (3, .ref a3), (5, .int a5)]) hX eX4_endOfForm_144 6 rfl (by rw [ev110]; rfl) (by decide) rfl ?_
                      refine j_goto hX 14 eX4_endOfForm_147 (by decide) ?_
                      exact j_sub [4, 5, 1, 6, 0] rfl (k14 _ _ _ _ _ _ h)
                    · replace h := h.1 c109
                      refine j_aload_n hX eX4_endOfForm_137 3 rfl ?_
                      refine j_iload hX eX4_endOfForm_138 0 rfl ?_
                      obtain ⟨t113, h⟩ := h
                      refine j_callV (a := a0) (q := (RX4, TX4, 5)) (r' := rX4_breakOff) (As := [.int v108]) (rest := []) (d1 := d) hX eX4_endOfForm_140 mm_LiftGroup_Script_80 rfl t113 (by decide) rfl h rfl (Nat.le_refl _) (Nat.zero_le _) (Nat.zero_le _) (Nat.le_of_ble_eq_true rfl) (fun vz9 Mz9 qz9 => ?_) (fun Ez9 Mz9 qz9 => ?_)
                      · obtain ⟨M111, eMz9⟩ : ∃ M111, M111 = Mz9 := ⟨_, rfl⟩; subst eMz9
                        obtain ⟨v112, hxz9, h⟩ := qz9
                        cases hxz9
                        exact j_iret hX hM eX4_endOfForm_143 rfl h
                      · obtain ⟨v112, hxz9, h⟩ := qz9
                        cases hxz9
                · obtain ⟨v100, hxz9, h⟩ := qz9
                  cases hxz9
            · obtain ⟨v88, hxz9, h⟩ := qz9
              cases hxz9
          · replace h := h.1 c83
            refine j_aload_n hX eX4_endOfForm_49 2 rfl ?_
            refine j_iload hX eX4_endOfForm_50 0 rfl ?_
            refine j_iload hX eX4_endOfForm_52 1 rfl ?_
            refine j_bipush (v := (48 : Int32)) hX eX4_endOfForm_54 (by decide) ?_
            refine j_icmp_ne hX 63 eX4_endOfForm_56 (by decide) (fun c114 => ?_) (fun c114 => ?_)
            · replace h := h.2 c114
              refine j_iconst (v := (3 : Int32)) hX eX4_endOfForm_63 (by decide) ?_
              obtain ⟨t117, h⟩ := h
              refine j_callV (a := a0) (q := (RX4, TX4, 5)) (r' := rX4_endOfDigits) (As := [.int a4, .int (3 : Int32)]) (rest := []) (d1 := d) hX eX4_endOfForm_64 mm_LiftGroup_Script_73 rfl t117 (by decide) rfl h rfl (Nat.le_refl _) (Nat.zero_le _) (Nat.zero_le _) (Nat.le_of_ble_eq_true rfl) (fun vz9 Mz9 qz9 => ?_) (fun Ez9 Mz9 qz9 => ?_)
              · obtain ⟨M115, eMz9⟩ : ∃ M115, M115 = Mz9 := ⟨_, rfl⟩; subst eMz9
                obtain ⟨v116, hxz9, h⟩ := qz9
                cases hxz9
                refine j_istore (lv' := [(4, .int v116), (8, .int a4), (7, .int v23), (0, .ref a0), (3, .ref a3), (5, .int a5), (6, .int a6)]) hX eX4_endOfForm_67 (by decide) rfl ?_
                refine j_iload hX eX4_endOfForm_69 5 rfl ?_
                refine j_iconst (v := (3 : Int32)) hX eX4_endOfForm_71 (by decide) ?_
                refine j_icmp_ge hX 130 eX4_endOfForm_72 (by decide) (fun c118 => ?_) (fun c118 => ?_)
                · replace h := h.1 c118
                  refine j_iload hX eX4_endOfForm_130 0 rfl ?_
                  refine j_iload hX eX4_endOfForm_132 1 rfl ?_
                  refine j_icmp_ne hX 144 eX4_endOfForm_134 (by decide) (fun c119 => ?_) (fun c119 => ?_)
                  · replace h := h.2 c119
                    obtain ⟨v120, ev120⟩ : ∃ v120 : Int32, v120 = a6 + (1 : Int32) := ⟨_, rfl⟩
                    replace h := h v120 ev120
                    refine j_iinc (v := v120) (lv' := [(6, .int v120), (4, .int v116), (8, .int a4), (7, .int v23), (0, .ref a0), (3, .ref a3), (5, .int a5)]) hX eX4_endOfForm_144 6 rfl (by rw [ev120]; rfl) (by decide) rfl ?_
                    refine j_goto hX 14 eX4_endOfForm_147 (by decide) ?_
                    exact j_sub [4, 5, 1, 6, 0] rfl (k14 _ _ _ _ _ _ h)
                  · replace h := h.1 c119
                    refine j_aload_n hX eX4_endOfForm_137 3 rfl ?_
                    refine j_iload hX eX4_endOfForm_138 0 rfl ?_
                    obtain ⟨t123, h⟩ := h
                    refine j_callV (a := a0) (q := (RX4, TX4, 5)) (r' := rX4_breakOff) (As := [.int v116]) (rest := []) (d1 := d) hX eX4_endOfForm_140 mm_LiftGroup_Script_80 rfl t123 (by decide) rfl h rfl (Nat.le_refl _) (Nat.zero_le _) (Nat.zero_le _) (Nat.le_of_ble_eq_true rfl) (fun vz9 Mz9 qz9 => ?_) (fun Ez9 Mz9 qz9 => ?_)
                    · obtain ⟨M121, eMz9⟩ : ∃ M121, M121 = Mz9 := ⟨_, rfl⟩; subst eMz9
                      obtain ⟨v122, hxz9, h⟩ := qz9
                      cases hxz9
                      exact j_iret hX hM eX4_endOfForm_143 rfl h
                    · obtain ⟨v122, hxz9, h⟩ := qz9
                      cases hxz9
                · replace h := h.2 c118
                  refine j_aload_n hX eX4_endOfForm_75 3 rfl ?_
                  obtain ⟨t124, h⟩ := h
                  obtain ⟨z125, h⟩ := h
                  refine j_getR hX eX4_endOfForm_76 ff_LiftGroup_Script_24 rfl t124 (by decide) z125 ?_
                  refine j_nmR (fun p126 ep126 => ?_)
                  replace h := h p126 ep126
                  refine j_aload_n hX eX4_endOfForm_79 3 rfl ?_
                  refine j_getI hX eX4_endOfForm_80 ff_LiftGroup_Script_27 rfl t124 (by decide) ?_
                  obtain ⟨t127, h⟩ := h
                  obtain ⟨i128, h⟩ := h
                  obtain ⟨z129, h⟩ := h
                  refine j_aald28 hX eX4_endOfForm_83 t127 i128 z129 ?_
                  refine j_nmR (fun p130 ep130 => ?_)
                  replace h := h p130 ep130
                  refine j_iload hX eX4_endOfForm_84 5 rfl ?_
                  refine j_aload_n hX eX4_endOfForm_86 3 rfl ?_
                  refine j_iload hX eX4_endOfForm_87 1 rfl ?_
                  refine j_iload hX eX4_endOfForm_89 0 rfl ?_
                  refine j_callV (a := a0) (q := (RX4, TX4, 5)) (r' := rX4_valueOf) (As := [.int a4, .int v116]) (rest := [.int a5, .ref p130]) (d1 := d) hX eX4_endOfForm_91 mm_LiftGroup_Script_76 rfl t124 (by decide) rfl h rfl (Nat.le_refl _) (Nat.zero_le _) (Nat.zero_le _) (Nat.le_of_ble_eq_true rfl) (fun vz9 Mz9 qz9 => ?_) (fun Ez9 Mz9 qz9 => ?_)
                  · obtain ⟨M131, eMz9⟩ : ∃ M131, M131 = Mz9 := ⟨_, rfl⟩; subst eMz9
                    obtain ⟨v132, hxz9, h⟩ := qz9
                    cases hxz9
                    obtain ⟨t133, h⟩ := h
                    obtain ⟨i134, h⟩ := h
                    refine j_iast hX eX4_endOfForm_94 t133 i134 ?_
                    refine j_nmM (fun M135 eM135 => ?_)
                    replace h := h M135 eM135
                    have t136 : hp_T M135 (p130) = 22 := by rw [eM135]; exact t133
                    obtain ⟨v137, ev137⟩ : ∃ v137 : Int32, v137 = a5 + (1 : Int32) := ⟨_, rfl⟩
                    replace h := h v137 ev137
                    refine j_iinc (v := v137) (lv' := [(5, .int v137), (4, .int v116), (8, .int a4), (7, .int v23), (0, .ref a0), (3, .ref a3), (6, .int a6)]) hX eX4_endOfForm_95 5 rfl (by rw [ev137]; rfl) (by decide) rfl ?_
                    refine j_goto hX 130 eX4_endOfForm_98 (by decide) ?_
                    refine j_iload hX eX4_endOfForm_130 1 rfl ?_
                    refine j_iload hX eX4_endOfForm_132 2 rfl ?_
                    refine j_icmp_ne hX 144 eX4_endOfForm_134 (by decide) (fun c138 => ?_) (fun c138 => ?_)
                    · replace h := h.2 c138
                      obtain ⟨v139, ev139⟩ : ∃ v139 : Int32, v139 = a6 + (1 : Int32) := ⟨_, rfl⟩
                      replace h := h v139 ev139
                      refine j_iinc (v := v139) (lv' := [(6, .int v139), (5, .int v137), (4, .int v116), (8, .int a4), (7, .int v23), (0, .ref a0), (3, .ref a3)]) hX eX4_endOfForm_144 6 rfl (by rw [ev139]; rfl) (by decide) rfl ?_
                      refine j_goto hX 14 eX4_endOfForm_147 (by decide) ?_
                      exact j_sub [5, 6, 2, 1, 0] rfl (k14 _ _ _ _ _ _ h)
                    · replace h := h.1 c138
                      refine j_aload_n hX eX4_endOfForm_137 4 rfl ?_
                      refine j_iload hX eX4_endOfForm_138 1 rfl ?_
                      obtain ⟨t142, h⟩ := h
                      refine j_callV (a := a0) (q := (RX4, TX4, 5)) (r' := rX4_breakOff) (As := [.int v116]) (rest := []) (d1 := d) hX eX4_endOfForm_140 mm_LiftGroup_Script_80 rfl t142 (by decide) rfl h rfl (Nat.le_refl _) (Nat.zero_le _) (Nat.zero_le _) (Nat.le_of_ble_eq_true rfl) (fun vz9 Mz9 qz9 => ?_) (fun Ez9 Mz9 qz9 => ?_)
                      · obtain ⟨M140, eMz9⟩ : ∃ M140, M140 = Mz9 := ⟨_, rfl⟩; subst eMz9
                        obtain ⟨v141, hxz9, h⟩ := qz9
                        cases hxz9
                        exact j_iret hX hM eX4_endOfForm_143 rfl h
                      · obtain ⟨v141, hxz9, h⟩ := qz9
                        cases hxz9
                  · obtain ⟨v132, hxz9, h⟩ := qz9
                    cases hxz9
              · obtain ⟨v116, hxz9, h⟩ := qz9
                cases hxz9
            · replace h := h.1 c114
              refine j_iconst (v := (1 : Int32)) hX eX4_endOfForm_59 (by decide) ?_
              refine j_goto hX 64 eX4_endOfForm_60 (by decide) ?_
              obtain ⟨t145, h⟩ := h
              refine j_callV (a := a0) (q := (RX4, TX4, 5)) (r' := rX4_endOfDigits) (As := [.int a4, .int (1 : Int32)]) (rest := []) (d1 := d) hX eX4_endOfForm_64 mm_LiftGroup_Script_73 rfl t145 (by decide) rfl h rfl (Nat.le_refl _) (Nat.zero_le _) (Nat.zero_le _) (Nat.le_of_ble_eq_true rfl) (fun vz9 Mz9 qz9 => ?_) (fun Ez9 Mz9 qz9 => ?_)
              · obtain ⟨M143, eMz9⟩ : ∃ M143, M143 = Mz9 := ⟨_, rfl⟩; subst eMz9
                obtain ⟨v144, hxz9, h⟩ := qz9
                cases hxz9
                refine j_istore (lv' := [(4, .int v144), (8, .int a4), (7, .int v23), (0, .ref a0), (3, .ref a3), (5, .int a5), (6, .int a6)]) hX eX4_endOfForm_67 (by decide) rfl ?_
                refine j_iload hX eX4_endOfForm_69 5 rfl ?_
                refine j_iconst (v := (3 : Int32)) hX eX4_endOfForm_71 (by decide) ?_
                refine j_icmp_ge hX 130 eX4_endOfForm_72 (by decide) (fun c146 => ?_) (fun c146 => ?_)
                · replace h := h.1 c146
                  refine j_iload hX eX4_endOfForm_130 0 rfl ?_
                  refine j_iload hX eX4_endOfForm_132 1 rfl ?_
                  refine j_icmp_ne hX 144 eX4_endOfForm_134 (by decide) (fun c147 => ?_) (fun c147 => ?_)
                  · replace h := h.2 c147
                    obtain ⟨v148, ev148⟩ : ∃ v148 : Int32, v148 = a6 + (1 : Int32) := ⟨_, rfl⟩
                    replace h := h v148 ev148
                    refine j_iinc (v := v148) (lv' := [(6, .int v148), (4, .int v144), (8, .int a4), (7, .int v23), (0, .ref a0), (3, .ref a3), (5, .int a5)]) hX eX4_endOfForm_144 6 rfl (by rw [ev148]; rfl) (by decide) rfl ?_
                    refine j_goto hX 14 eX4_endOfForm_147 (by decide) ?_
                    exact j_sub [4, 5, 1, 6, 0] rfl (k14 _ _ _ _ _ _ h)
                  · replace h := h.1 c147
                    refine j_aload_n hX eX4_endOfForm_137 3 rfl ?_
                    refine j_iload hX eX4_endOfForm_138 0 rfl ?_
                    obtain ⟨t151, h⟩ := h
                    refine j_callV (a := a0) (q := (RX4, TX4, 5)) (r' := rX4_breakOff) (As := [.int v144]) (rest := []) (d1 := d) hX eX4_endOfForm_140 mm_LiftGroup_Script_80 rfl t151 (by decide) rfl h rfl (Nat.le_refl _) (Nat.zero_le _) (Nat.zero_le _) (Nat.le_of_ble_eq_true rfl) (fun vz9 Mz9 qz9 => ?_) (fun Ez9 Mz9 qz9 => ?_)
                    · obtain ⟨M149, eMz9⟩ : ∃ M149, M149 = Mz9 := ⟨_, rfl⟩; subst eMz9
                      obtain ⟨v150, hxz9, h⟩ := qz9
                      cases hxz9
                      exact j_iret hX hM eX4_endOfForm_143 rfl h
                    · obtain ⟨v150, hxz9, h⟩ := qz9
                      cases hxz9
                · replace h := h.2 c146
                  refine j_aload_n hX eX4_endOfForm_75 3 rfl ?_
                  obtain ⟨t152, h⟩ := h
                  obtain ⟨z153, h⟩ := h
                  refine j_getR hX eX4_endOfForm_76 ff_LiftGroup_Script_24 rfl t152 (by decide) z153 ?_
                  refine j_nmR (fun p154 ep154 => ?_)
                  replace h := h p154 ep154
                  refine j_aload_n hX eX4_endOfForm_79 3 rfl ?_
                  refine j_getI hX eX4_endOfForm_80 ff_LiftGroup_Script_27 rfl t152 (by decide) ?_
                  obtain ⟨t155, h⟩ := h
                  obtain ⟨i156, h⟩ := h
                  obtain ⟨z157, h⟩ := h
                  refine j_aald28 hX eX4_endOfForm_83 t155 i156 z157 ?_
                  refine j_nmR (fun p158 ep158 => ?_)
                  replace h := h p158 ep158
                  refine j_iload hX eX4_endOfForm_84 5 rfl ?_
                  refine j_aload_n hX eX4_endOfForm_86 3 rfl ?_
                  refine j_iload hX eX4_endOfForm_87 1 rfl ?_
                  refine j_iload hX eX4_endOfForm_89 0 rfl ?_
                  refine j_callV (a := a0) (q := (RX4, TX4, 5)) (r' := rX4_valueOf) (As := [.int a4, .int v144]) (rest := [.int a5, .ref p158]) (d1 := d) hX eX4_endOfForm_91 mm_LiftGroup_Script_76 rfl t152 (by decide) rfl h rfl (Nat.le_refl _) (Nat.zero_le _) (Nat.zero_le _) (Nat.le_of_ble_eq_true rfl) (fun vz9 Mz9 qz9 => ?_) (fun Ez9 Mz9 qz9 => ?_)
                  · obtain ⟨M159, eMz9⟩ : ∃ M159, M159 = Mz9 := ⟨_, rfl⟩; subst eMz9
                    obtain ⟨v160, hxz9, h⟩ := qz9
                    cases hxz9
                    obtain ⟨t161, h⟩ := h
                    obtain ⟨i162, h⟩ := h
                    refine j_iast hX eX4_endOfForm_94 t161 i162 ?_
                    refine j_nmM (fun M163 eM163 => ?_)
                    replace h := h M163 eM163
                    have t164 : hp_T M163 (p158) = 22 := by rw [eM163]; exact t161
                    obtain ⟨v165, ev165⟩ : ∃ v165 : Int32, v165 = a5 + (1 : Int32) := ⟨_, rfl⟩
                    replace h := h v165 ev165
                    refine j_iinc (v := v165) (lv' := [(5, .int v165), (4, .int v144), (8, .int a4), (7, .int v23), (0, .ref a0), (3, .ref a3), (6, .int a6)]) hX eX4_endOfForm_95 5 rfl (by rw [ev165]; rfl) (by decide) rfl ?_
                    refine j_goto hX 130 eX4_endOfForm_98 (by decide) ?_
                    refine j_iload hX eX4_endOfForm_130 1 rfl ?_
                    refine j_iload hX eX4_endOfForm_132 2 rfl ?_
                    refine j_icmp_ne hX 144 eX4_endOfForm_134 (by decide) (fun c166 => ?_) (fun c166 => ?_)
                    · replace h := h.2 c166
                      obtain ⟨v167, ev167⟩ : ∃ v167 : Int32, v167 = a6 + (1 : Int32) := ⟨_, rfl⟩
                      replace h := h v167 ev167
                      refine j_iinc (v := v167) (lv' := [(6, .int v167), (5, .int v165), (4, .int v144), (8, .int a4), (7, .int v23), (0, .ref a0), (3, .ref a3)]) hX eX4_endOfForm_144 6 rfl (by rw [ev167]; rfl) (by decide) rfl ?_
                      refine j_goto hX 14 eX4_endOfForm_147 (by decide) ?_
                      exact j_sub [5, 6, 2, 1, 0] rfl (k14 _ _ _ _ _ _ h)
                    · replace h := h.1 c166
                      refine j_aload_n hX eX4_endOfForm_137 4 rfl ?_
                      refine j_iload hX eX4_endOfForm_138 1 rfl ?_
                      obtain ⟨t170, h⟩ := h
                      refine j_callV (a := a0) (q := (RX4, TX4, 5)) (r' := rX4_breakOff) (As := [.int v144]) (rest := []) (d1 := d) hX eX4_endOfForm_140 mm_LiftGroup_Script_80 rfl t170 (by decide) rfl h rfl (Nat.le_refl _) (Nat.zero_le _) (Nat.zero_le _) (Nat.le_of_ble_eq_true rfl) (fun vz9 Mz9 qz9 => ?_) (fun Ez9 Mz9 qz9 => ?_)
                      · obtain ⟨M168, eMz9⟩ : ∃ M168, M168 = Mz9 := ⟨_, rfl⟩; subst eMz9
                        obtain ⟨v169, hxz9, h⟩ := qz9
                        cases hxz9
                        exact j_iret hX hM eX4_endOfForm_143 rfl h
                      · obtain ⟨v169, hxz9, h⟩ := qz9
                        cases hxz9
                  · obtain ⟨v160, hxz9, h⟩ := qz9
                    cases hxz9
              · obtain ⟨v144, hxz9, h⟩ := qz9
                cases hxz9
      · obtain ⟨v23, hxz9, h⟩ := qz9
        cases hxz9
  · obtain ⟨v2, hxz9, h⟩ := qz9
    cases hxz9

set_option maxHeartbeats 4000000 in
set_option maxRecDepth 20000 in
theorem vX4_breakOff_0 {X : am_Cx} {G : am_Gx} {d : Nat} {Q : am_Q} (hX : am_ok X rX4_breakOff G (d + 1)) (hM : am_me X rX4_breakOff Q) {bc bs : Nat}  {a0 : Nat} {a1 : Int32} {M : am_Hp} (h : hp_T M (a0) = 5 ∧ (∀ v2 : Int32, v2 = (if (hp_I M 84 a0) < a1 then a1 else (hp_I M 84 a0)) → (∀ M3 : am_Hp, M3 = hp_sI M 84 a0 v2 → (Q (.inl (some (.int (-1 : Int32)))) M3)))) : am_J X 0 [(0, .ref a0), (1, .int a1)] [] M bc bs := by
  refine j_aload_n hX eX4_breakOff_0 0 rfl ?_
  refine j_aload_n hX eX4_breakOff_1 0 rfl ?_
  obtain ⟨t1, h⟩ := h
  refine j_getI hX eX4_breakOff_2 ff_LiftGroup_Script_31 rfl t1 (by decide) ?_
  refine j_iload_n hX eX4_breakOff_5 1 rfl ?_
  refine j_mmax hX eX4_breakOff_6 tw_949 tw_950 tw_21 (Nat.le_of_ble_eq_true rfl) ?_
  refine j_nmI (fun v2 ev2 => ?_)
  replace h := h v2 ev2
  refine j_putI (ty := .int) hX eX4_breakOff_9 ff_LiftGroup_Script_31 rfl t1 (by decide) pp_4_4 rfl rfl ?_
  refine j_nmM (fun M3 eM3 => ?_)
  replace h := h M3 eM3
  have t4 : hp_T M3 (a0) = 5 := by rw [eM3]; exact t1
  refine j_iconst (v := (-1 : Int32)) hX eX4_breakOff_12 (by decide) ?_
  exact j_iret hX hM eX4_breakOff_13 rfl h

set_option maxHeartbeats 4000000 in
set_option maxRecDepth 20000 in
theorem vX4_endOfDigits_0 {X : am_Cx} {G : am_Gx} {d : Nat} {Q : am_Q} (hX : am_ok X rX4_endOfDigits G (d + 1)) (hM : am_me X rX4_endOfDigits Q) {bc bs : Nat} (R2 : Nat → Int32 → Int32 → Int32 → am_Hp → Prop) (k2 : ∀ (x0 : Nat) (x1 : Int32) (x2 : Int32) (x3 : Int32) (M : am_Hp), R2 x0 x1 x2 x3 M → am_J X 2 [(0, .ref x0), (1, .int x1), (2, .int x2), (3, .int x3)] [] M bc bs) {a0 : Nat} {a1 : Int32} {a2 : Int32} {M : am_Hp} (h : R2 a0 a1 a2 a1 M) : am_J X 0 [(0, .ref a0), (1, .int a1), (2, .int a2)] [] M bc bs := by
  refine j_iload_n hX eX4_endOfDigits_0 1 rfl ?_
  refine j_istore_n (lv' := [(3, .int a1), (0, .ref a0), (1, .int a1), (2, .int a2)]) hX eX4_endOfDigits_1 rfl (by decide) rfl ?_
  exact j_sub [1, 2, 3, 0] rfl (k2 _ _ _ _ _ h)
set_option maxHeartbeats 4000000 in
set_option maxRecDepth 20000 in
theorem vX4_endOfDigits_2 {X : am_Cx} {G : am_Gx} {d : Nat} {Q : am_Q} (hX : am_ok X rX4_endOfDigits G (d + 1)) (hM : am_me X rX4_endOfDigits Q) {bc bs : Nat} (R2 : Nat → Int32 → Int32 → Int32 → am_Hp → Prop) (k2 : ∀ (x0 : Nat) (x1 : Int32) (x2 : Int32) (x3 : Int32) (M : am_Hp), R2 x0 x1 x2 x3 M → am_J X 2 [(0, .ref x0), (1, .int x1), (2, .int x2), (3, .int x3)] [] M bc bs) {a0 : Nat} {a1 : Int32} {a2 : Int32} {a3 : Int32} {M : am_Hp} (h : (((a1 + a2) ≤ a3) → (Q (.inl (some (.int (a1 + a2)))) M)) ∧ (¬ ((a1 + a2) ≤ a3) → (hp_T M (a0) = 5 ∧ (hp_R M 80 a0 ≠ 0 ∧ (∀ p4 : Nat, p4 = hp_R M 80 a0 → (hp_T M (p4) = 9 ∧ (am_CT G d rJ4_length_8abf5 [.ref p4] M 0 0 (fun oz9 M5 => ∃ v6 : Int32, oz9 = .inl (some (.int v6)) ∧ (((v6 ≤ a3) → (Q (.inl (some (.int a3))) M5)) ∧ (¬ (v6 ≤ a3) → (hp_T M5 (a0) = 5 ∧ (hp_R M5 80 a0 ≠ 0 ∧ (∀ p11 : Nat, p11 = hp_R M5 80 a0 → (hp_T M5 (p11) = 9 ∧ (am_CT G d rJ4_charAt_5068e [.ref p11, .int a3] M5 0 0 (fun oz9 M12 => ∃ v13 : Int32, oz9 = .inl (some (.int v13)) ∧ (((v13 < (48 : Int32)) → (Q (.inl (some (.int a3))) M12)) ∧ (¬ (v13 < (48 : Int32)) → (hp_T M12 (a0) = 5 ∧ (hp_R M12 80 a0 ≠ 0 ∧ (∀ p18 : Nat, p18 = hp_R M12 80 a0 → (hp_T M12 (p18) = 9 ∧ (am_CT G d rJ4_charAt_5068e [.ref p18, .int a3] M12 0 0 (fun oz9 M19 => ∃ v20 : Int32, oz9 = .inl (some (.int v20)) ∧ (((v20 ≤ (57 : Int32)) → (∀ v23 : Int32, v23 = a3 + (1 : Int32) → (R2 a0 a1 a2 v23 M19))) ∧ (¬ (v20 ≤ (57 : Int32)) → (Q (.inl (some (.int a3))) M19))))))))))))))))))))))))))) : am_J X 2 [(0, .ref a0), (1, .int a1), (2, .int a2), (3, .int a3)] [] M bc bs := by
  refine j_iload_n hX eX4_endOfDigits_2 3 rfl ?_
  refine j_iload_n hX eX4_endOfDigits_3 1 rfl ?_
  refine j_iload_n hX eX4_endOfDigits_4 2 rfl ?_
  refine j_iadd hX eX4_endOfDigits_5 ?_
  refine j_icmp_ge hX 54 eX4_endOfDigits_6 (by decide) (fun c1 => ?_) (fun c1 => ?_)
  · replace h := h.1 c1
    refine j_iload_n hX eX4_endOfDigits_54 1 rfl ?_
    refine j_iload_n hX eX4_endOfDigits_55 2 rfl ?_
    refine j_iadd hX eX4_endOfDigits_56 ?_
    exact j_iret hX hM eX4_endOfDigits_57 rfl h
  · replace h := h.2 c1
    refine j_iload_n hX eX4_endOfDigits_9 3 rfl ?_
    refine j_aload_n hX eX4_endOfDigits_10 0 rfl ?_
    obtain ⟨t2, h⟩ := h
    obtain ⟨z3, h⟩ := h
    refine j_getR hX eX4_endOfDigits_11 ff_LiftGroup_Script_12 rfl t2 (by decide) z3 ?_
    refine j_nmR (fun p4 ep4 => ?_)
    replace h := h p4 ep4
    obtain ⟨t7, h⟩ := h
    refine j_callV (a := p4) (q := (RJ4, TJ4, 4)) (r' := rJ4_length_8abf5) (As := []) (rest := [.int a3]) (d1 := d) hX eX4_endOfDigits_14 mm_LiftGroup_Script_54 rfl t7 (by decide) rfl h rfl (Nat.le_refl _) (Nat.zero_le _) (Nat.zero_le _) (Nat.le_of_ble_eq_true rfl) (fun vz9 Mz9 qz9 => ?_) (fun Ez9 Mz9 qz9 => ?_)
    · obtain ⟨M5, eMz9⟩ : ∃ M5, M5 = Mz9 := ⟨_, rfl⟩; subst eMz9
      obtain ⟨v6, hxz9, h⟩ := qz9
      cases hxz9
      refine j_icmp_ge hX 46 eX4_endOfDigits_17 (by decide) (fun c8 => ?_) (fun c8 => ?_)
      · replace h := h.1 c8
        refine j_iload_n hX eX4_endOfDigits_46 3 rfl ?_
        exact j_iret hX hM eX4_endOfDigits_47 rfl h
      · replace h := h.2 c8
        refine j_aload_n hX eX4_endOfDigits_20 0 rfl ?_
        obtain ⟨t9, h⟩ := h
        obtain ⟨z10, h⟩ := h
        refine j_getR hX eX4_endOfDigits_21 ff_LiftGroup_Script_12 rfl t9 (by decide) z10 ?_
        refine j_nmR (fun p11 ep11 => ?_)
        replace h := h p11 ep11
        refine j_iload_n hX eX4_endOfDigits_24 3 rfl ?_
        obtain ⟨t14, h⟩ := h
        refine j_callV (a := p11) (q := (RJ4, TJ4, 4)) (r' := rJ4_charAt_5068e) (As := [.int a3]) (rest := []) (d1 := d) hX eX4_endOfDigits_25 mm_LiftGroup_Script_79 rfl t14 (by decide) rfl h rfl (Nat.le_refl _) (Nat.zero_le _) (Nat.zero_le _) (Nat.le_of_ble_eq_true rfl) (fun vz9 Mz9 qz9 => ?_) (fun Ez9 Mz9 qz9 => ?_)
        · obtain ⟨M12, eMz9⟩ : ∃ M12, M12 = Mz9 := ⟨_, rfl⟩; subst eMz9
          obtain ⟨v13, hxz9, h⟩ := qz9
          cases hxz9
          refine j_bipush (v := (48 : Int32)) hX eX4_endOfDigits_28 (by decide) ?_
          refine j_icmp_lt hX 46 eX4_endOfDigits_30 (by decide) (fun c15 => ?_) (fun c15 => ?_)
          · replace h := h.1 c15
            refine j_iload_n hX eX4_endOfDigits_46 3 rfl ?_
            exact j_iret hX hM eX4_endOfDigits_47 rfl h
          · replace h := h.2 c15
            refine j_aload_n hX eX4_endOfDigits_33 0 rfl ?_
            obtain ⟨t16, h⟩ := h
            obtain ⟨z17, h⟩ := h
            refine j_getR hX eX4_endOfDigits_34 ff_LiftGroup_Script_12 rfl t16 (by decide) z17 ?_
            refine j_nmR (fun p18 ep18 => ?_)
            replace h := h p18 ep18
            refine j_iload_n hX eX4_endOfDigits_37 3 rfl ?_
            obtain ⟨t21, h⟩ := h
            refine j_callV (a := p18) (q := (RJ4, TJ4, 4)) (r' := rJ4_charAt_5068e) (As := [.int a3]) (rest := []) (d1 := d) hX eX4_endOfDigits_38 mm_LiftGroup_Script_79 rfl t21 (by decide) rfl h rfl (Nat.le_refl _) (Nat.zero_le _) (Nat.zero_le _) (Nat.le_of_ble_eq_true rfl) (fun vz9 Mz9 qz9 => ?_) (fun Ez9 Mz9 qz9 => ?_)
            · obtain ⟨M19, eMz9⟩ : ∃ M19, M19 = Mz9 := ⟨_, rfl⟩; subst eMz9
              obtain ⟨v20, hxz9, h⟩ := qz9
              cases hxz9
              refine j_bipush (v := (57 : Int32)) hX eX4_endOfDigits_41 (by decide) ?_
              refine j_icmp_le hX 48 eX4_endOfDigits_43 (by decide) (fun c22 => ?_) (fun c22 => ?_)
              · replace h := h.1 c22
                obtain ⟨v23, ev23⟩ : ∃ v23 : Int32, v23 = a3 + (1 : Int32) := ⟨_, rfl⟩
                replace h := h v23 ev23
                refine j_iinc (v := v23) (lv' := [(3, .int v23), (0, .ref a0), (1, .int a1), (2, .int a2)]) hX eX4_endOfDigits_48 3 rfl (by rw [ev23]; rfl) (by decide) rfl ?_
                refine j_goto hX 2 eX4_endOfDigits_51 (by decide) ?_
                exact j_sub [1, 2, 3, 0] rfl (k2 _ _ _ _ _ h)
              · replace h := h.2 c22
                refine j_iload_n hX eX4_endOfDigits_46 3 rfl ?_
                exact j_iret hX hM eX4_endOfDigits_47 rfl h
            · obtain ⟨v20, hxz9, h⟩ := qz9
              cases hxz9
        · obtain ⟨v13, hxz9, h⟩ := qz9
          cases hxz9
    · obtain ⟨v6, hxz9, h⟩ := qz9
      cases hxz9

set_option maxHeartbeats 4000000 in
set_option maxRecDepth 20000 in
theorem vX4_valueOf_0 {X : am_Cx} {G : am_Gx} {d : Nat} {Q : am_Q} (hX : am_ok X rX4_valueOf G (d + 1)) (hM : am_me X rX4_valueOf Q) {bc bs : Nat} (R5 : Nat → Int32 → Int32 → Int32 → am_Hp → Prop) (k5 : ∀ (x0 : Nat) (x2 : Int32) (x3 : Int32) (x4 : Int32) (M : am_Hp), R5 x0 x2 x3 x4 M → am_J X 5 [(0, .ref x0), (2, .int x2), (3, .int x3), (4, .int x4)] [] M bc bs) {a0 : Nat} {a1 : Int32} {a2 : Int32} {M : am_Hp} (h : R5 a0 a2 (0 : Int32) a1 M) : am_J X 0 [(0, .ref a0), (1, .int a1), (2, .int a2)] [] M bc bs := by
  refine j_iconst (v := (0 : Int32)) hX eX4_valueOf_0 (by decide) ?_
  refine j_istore_n (lv' := [(3, .int (0 : Int32)), (0, .ref a0), (1, .int a1), (2, .int a2)]) hX eX4_valueOf_1 rfl (by decide) rfl ?_
  refine j_iload_n hX eX4_valueOf_2 2 rfl ?_
  refine j_istore (lv' := [(4, .int a1), (3, .int (0 : Int32)), (0, .ref a0), (1, .int a1), (2, .int a2)]) hX eX4_valueOf_3 (by decide) rfl ?_
  exact j_sub [2, 4, 1, 0] rfl (k5 _ _ _ _ _ h)
set_option maxHeartbeats 4000000 in
set_option maxRecDepth 20000 in
theorem vX4_valueOf_5 {X : am_Cx} {G : am_Gx} {d : Nat} {Q : am_Q} (hX : am_ok X rX4_valueOf G (d + 1)) (hM : am_me X rX4_valueOf Q) {bc bs : Nat} (R5 : Nat → Int32 → Int32 → Int32 → am_Hp → Prop) (k5 : ∀ (x0 : Nat) (x2 : Int32) (x3 : Int32) (x4 : Int32) (M : am_Hp), R5 x0 x2 x3 x4 M → am_J X 5 [(0, .ref x0), (2, .int x2), (3, .int x3), (4, .int x4)] [] M bc bs) {a0 : Nat} {a2 : Int32} {a3 : Int32} {a4 : Int32} {M : am_Hp} (h : ((a2 ≤ a4) → (Q (.inl (some (.int a3))) M)) ∧ (¬ (a2 ≤ a4) → (hp_T M (a0) = 5 ∧ (hp_R M 80 a0 ≠ 0 ∧ (∀ p4 : Nat, p4 = hp_R M 80 a0 → (hp_T M (p4) = 9 ∧ (am_CT G d rJ4_length_8abf5 [.ref p4] M 0 0 (fun oz9 M5 => ∃ v6 : Int32, oz9 = .inl (some (.int v6)) ∧ (((v6 ≤ a4) → (Q (.inl (some (.int a3))) M5)) ∧ (¬ (v6 ≤ a4) → (hp_T M5 (a0) = 5 ∧ (hp_R M5 80 a0 ≠ 0 ∧ (∀ p11 : Nat, p11 = hp_R M5 80 a0 → (hp_T M5 (p11) = 9 ∧ (am_CT G d rJ4_charAt_5068e [.ref p11, .int a4] M5 0 0 (fun oz9 M12 => ∃ v13 : Int32, oz9 = .inl (some (.int v13)) ∧ (∀ v15 : Int32, v15 = (((10 : Int32) * a3) + (v13 - (48 : Int32))) → (∀ v16 : Int32, v16 = a4 + (1 : Int32) → (R5 a0 a2 v15 v16 M12))))))))))))))))))) : am_J X 5 [(0, .ref a0), (2, .int a2), (3, .int a3), (4, .int a4)] [] M bc bs := by
  refine j_iload hX eX4_valueOf_5 3 rfl ?_
  refine j_iload_n hX eX4_valueOf_7 1 rfl ?_
  refine j_icmp_ge hX 47 eX4_valueOf_8 (by decide) (fun c1 => ?_) (fun c1 => ?_)
  · replace h := h.1 c1
    refine j_iload_n hX eX4_valueOf_47 2 rfl ?_
    exact j_iret hX hM eX4_valueOf_48 rfl h
  · replace h := h.2 c1
    refine j_iload hX eX4_valueOf_11 3 rfl ?_
    refine j_aload_n hX eX4_valueOf_13 0 rfl ?_
    obtain ⟨t2, h⟩ := h
    obtain ⟨z3, h⟩ := h
    refine j_getR hX eX4_valueOf_14 ff_LiftGroup_Script_12 rfl t2 (by decide) z3 ?_
    refine j_nmR (fun p4 ep4 => ?_)
    replace h := h p4 ep4
    obtain ⟨t7, h⟩ := h
    refine j_callV (a := p4) (q := (RJ4, TJ4, 4)) (r' := rJ4_length_8abf5) (As := []) (rest := [.int a4]) (d1 := d) hX eX4_valueOf_17 mm_LiftGroup_Script_54 rfl t7 (by decide) rfl h rfl (Nat.le_refl _) (Nat.zero_le _) (Nat.zero_le _) (Nat.le_of_ble_eq_true rfl) (fun vz9 Mz9 qz9 => ?_) (fun Ez9 Mz9 qz9 => ?_)
    · obtain ⟨M5, eMz9⟩ : ∃ M5, M5 = Mz9 := ⟨_, rfl⟩; subst eMz9
      obtain ⟨v6, hxz9, h⟩ := qz9
      cases hxz9
      refine j_icmp_ge hX 47 eX4_valueOf_20 (by decide) (fun c8 => ?_) (fun c8 => ?_)
      · replace h := h.1 c8
        refine j_iload_n hX eX4_valueOf_47 2 rfl ?_
        exact j_iret hX hM eX4_valueOf_48 rfl h
      · replace h := h.2 c8
        refine j_bipush (v := (10 : Int32)) hX eX4_valueOf_23 (by decide) ?_
        refine j_iload_n hX eX4_valueOf_25 2 rfl ?_
        refine j_imul hX eX4_valueOf_26 ?_
        refine j_aload_n hX eX4_valueOf_27 0 rfl ?_
        obtain ⟨t9, h⟩ := h
        obtain ⟨z10, h⟩ := h
        refine j_getR hX eX4_valueOf_28 ff_LiftGroup_Script_12 rfl t9 (by decide) z10 ?_
        refine j_nmR (fun p11 ep11 => ?_)
        replace h := h p11 ep11
        refine j_iload hX eX4_valueOf_31 3 rfl ?_
        obtain ⟨t14, h⟩ := h
        refine j_callV (a := p11) (q := (RJ4, TJ4, 4)) (r' := rJ4_charAt_5068e) (As := [.int a4]) (rest := [.int ((10 : Int32) * a3)]) (d1 := d) hX eX4_valueOf_33 mm_LiftGroup_Script_79 rfl t14 (by decide) rfl h rfl (Nat.le_refl _) (Nat.zero_le _) (Nat.zero_le _) (Nat.le_of_ble_eq_true rfl) (fun vz9 Mz9 qz9 => ?_) (fun Ez9 Mz9 qz9 => ?_)
        · obtain ⟨M12, eMz9⟩ : ∃ M12, M12 = Mz9 := ⟨_, rfl⟩; subst eMz9
          obtain ⟨v13, hxz9, h⟩ := qz9
          cases hxz9
          refine j_bipush (v := (48 : Int32)) hX eX4_valueOf_36 (by decide) ?_
          refine j_isub hX eX4_valueOf_38 ?_
          refine j_iadd hX eX4_valueOf_39 ?_
          refine j_nmI (fun v15 ev15 => ?_)
          replace h := h v15 ev15
          refine j_istore_n (lv' := [(3, .int v15), (0, .ref a0), (2, .int a2), (4, .int a4)]) hX eX4_valueOf_40 rfl (by decide) rfl ?_
          obtain ⟨v16, ev16⟩ : ∃ v16 : Int32, v16 = a4 + (1 : Int32) := ⟨_, rfl⟩
          replace h := h v16 ev16
          refine j_iinc (v := v16) (lv' := [(4, .int v16), (3, .int v15), (0, .ref a0), (2, .int a2)]) hX eX4_valueOf_41 3 rfl (by rw [ev16]; rfl) (by decide) rfl ?_
          refine j_goto hX 5 eX4_valueOf_44 (by decide) ?_
          exact j_sub [2, 3, 1, 0] rfl (k5 _ _ _ _ _ h)
        · obtain ⟨v13, hxz9, h⟩ := qz9
          cases hxz9
    · obtain ⟨v6, hxz9, h⟩ := qz9
      cases hxz9

set_option maxHeartbeats 4000000 in
set_option maxRecDepth 20000 in
theorem vX5_init_0 {X : am_Cx} {G : am_Gx} {d : Nat} {Q : am_Q} (hX : am_ok X rX5_init G (d + 1)) (hM : am_me X rX5_init Q) {bc bs : Nat}  {a0 : Nat} {M : am_Hp} (h : ¬ (10 : Int32) < 0 ∧ (((10 : Int32)).toNatClampNeg * componentBytes .int ≤ 536870912 ∧ (1 ≤ bc ∧ (((10 : Int32)).toNatClampNeg ≤ bs ∧ (∀ p5 : Nat, hp_T M p5 = 0 → p5 ≠ 0 → (∀ M8 : am_Hp, M8 = hp_a M p5 22 ((10 : Int32)).toNatClampNeg → (hp_T M8 (a0) = 6 ∧ (p5 ≠ 0 ∧ (∀ M12 : am_Hp, M12 = hp_sR M8 100 a0 p5 → (¬ (10 : Int32) < 0 ∧ (((10 : Int32)).toNatClampNeg * componentBytes .int ≤ 536870912 ∧ (1 ≤ (bc - 1) ∧ (((10 : Int32)).toNatClampNeg ≤ (bs - ((10 : Int32)).toNatClampNeg) ∧ (∀ p19 : Nat, hp_T M12 p19 = 0 → p19 ≠ 0 → (∀ M22 : am_Hp, M22 = hp_a M12 p19 22 ((10 : Int32)).toNatClampNeg → (p19 ≠ 0 ∧ (∀ M27 : am_Hp, M27 = hp_sR M22 101 a0 p19 → (¬ (10 : Int32) < 0 ∧ (((10 : Int32)).toNatClampNeg * componentBytes .int ≤ 536870912 ∧ (1 ≤ ((bc - 1) - 1) ∧ (((10 : Int32)).toNatClampNeg ≤ ((bs - ((10 : Int32)).toNatClampNeg) - ((10 : Int32)).toNatClampNeg) ∧ (∀ p35 : Nat, hp_T M27 p35 = 0 → p35 ≠ 0 → (∀ M38 : am_Hp, M38 = hp_a M27 p35 22 ((10 : Int32)).toNatClampNeg → (p35 ≠ 0 ∧ (∀ M44 : am_Hp, M44 = hp_sR M38 102 a0 p35 → (∀ M49 : am_Hp, M49 = hp_sI M44 103 a0 (0 : Int32) → (∀ M54 : am_Hp, M54 = hp_sI M49 104 a0 (0 : Int32) → (Q (.inl none) M54)))))))))))))))))))))))))))) : am_J X 0 [(0, .ref a0)] [] M bc bs := by
  refine j_aload_n hX eX5_init_0 0 rfl ?_
  refine j_objInit hX eX5_init_1 tw_58 tw_41 tw_42 (Nat.le_of_ble_eq_true rfl) ?_
  refine j_aload_n hX eX5_init_4 0 rfl ?_
  refine j_bipush (v := (10 : Int32)) hX eX5_init_5 (by decide) ?_
  obtain ⟨n1, n2, b3, b4, h⟩ := h
  refine j_newa_i hX eX5_init_7 tw_81 n1 n2 b3 b4 (fun p5 o6 z7 => ?_)
  replace h := h p5 o6 z7
  refine j_nmM (fun M8 eM8 => ?_)
  replace h := h M8 eM8
  have t9 : hp_T M8 (p5) = 22 := by rw [eM8]; exact hp_Tna
  obtain ⟨t10, h⟩ := h
  obtain ⟨z11, h⟩ := h
  refine j_putF (ty := .array .int) hX eX5_init_9 ff_LiftGroup_TripLog_9 rfl t10 (by decide) z11 hM rfl pp_5_0 rfl rfl ?_
  refine j_nmM (fun M12 eM12 => ?_)
  replace h := h M12 eM12
  have t13 : hp_T M12 (p5) = 22 := by rw [eM12]; exact t9
  have t14 : hp_T M12 (a0) = 6 := by rw [eM12]; exact t10
  refine j_aload_n hX eX5_init_12 0 rfl ?_
  refine j_bipush (v := (10 : Int32)) hX eX5_init_13 (by decide) ?_
  obtain ⟨n15, n16, b17, b18, h⟩ := h
  refine j_newa_i hX eX5_init_15 tw_81 n15 n16 b17 b18 (fun p19 o20 z21 => ?_)
  replace h := h p19 o20 z21
  refine j_nmM (fun M22 eM22 => ?_)
  replace h := h M22 eM22
  have t23 : hp_T M22 (p5) = 22 := by rw [eM22]; exact (hp_Ta o20 t13 (by decide)).trans rfl
  have t24 : hp_T M22 (a0) = 6 := by rw [eM22]; exact (hp_Ta o20 t14 (by decide)).trans rfl
  have t25 : hp_T M22 (p19) = 22 := by rw [eM22]; exact hp_Tna
  obtain ⟨z26, h⟩ := h
  refine j_putF (ty := .array .int) hX eX5_init_17 ff_LiftGroup_TripLog_15 rfl t24 (by decide) z26 hM rfl pp_5_1 rfl rfl ?_
  refine j_nmM (fun M27 eM27 => ?_)
  replace h := h M27 eM27
  have t28 : hp_T M27 (p5) = 22 := by rw [eM27]; exact t23
  have t29 : hp_T M27 (a0) = 6 := by rw [eM27]; exact t24
  have t30 : hp_T M27 (p19) = 22 := by rw [eM27]; exact t25
  refine j_aload_n hX eX5_init_20 0 rfl ?_
  refine j_bipush (v := (10 : Int32)) hX eX5_init_21 (by decide) ?_
  obtain ⟨n31, n32, b33, b34, h⟩ := h
  refine j_newa_i hX eX5_init_23 tw_81 n31 n32 b33 b34 (fun p35 o36 z37 => ?_)
  replace h := h p35 o36 z37
  refine j_nmM (fun M38 eM38 => ?_)
  replace h := h M38 eM38
  have t39 : hp_T M38 (p5) = 22 := by rw [eM38]; exact (hp_Ta o36 t28 (by decide)).trans rfl
  have t40 : hp_T M38 (a0) = 6 := by rw [eM38]; exact (hp_Ta o36 t29 (by decide)).trans rfl
  have t41 : hp_T M38 (p19) = 22 := by rw [eM38]; exact (hp_Ta o36 t30 (by decide)).trans rfl
  have t42 : hp_T M38 (p35) = 22 := by rw [eM38]; exact hp_Tna
  obtain ⟨z43, h⟩ := h
  refine j_putF (ty := .array .int) hX eX5_init_25 ff_LiftGroup_TripLog_18 rfl t40 (by decide) z43 hM rfl pp_5_2 rfl rfl ?_
  refine j_nmM (fun M44 eM44 => ?_)
  replace h := h M44 eM44
  have t45 : hp_T M44 (p5) = 22 := by rw [eM44]; exact t39
  have t46 : hp_T M44 (a0) = 6 := by rw [eM44]; exact t40
  have t47 : hp_T M44 (p19) = 22 := by rw [eM44]; exact t41
  have t48 : hp_T M44 (p35) = 22 := by rw [eM44]; exact t42
  refine j_aload_n hX eX5_init_28 0 rfl ?_
  refine j_iconst (v := (0 : Int32)) hX eX5_init_29 (by decide) ?_
  refine j_putI (ty := .int) hX eX5_init_30 ff_LiftGroup_TripLog_21 rfl t46 (by decide) pp_5_3 rfl rfl ?_
  refine j_nmM (fun M49 eM49 => ?_)
  replace h := h M49 eM49
  have t50 : hp_T M49 (p5) = 22 := by rw [eM49]; exact t45
  have t51 : hp_T M49 (a0) = 6 := by rw [eM49]; exact t46
  have t52 : hp_T M49 (p19) = 22 := by rw [eM49]; exact t47
  have t53 : hp_T M49 (p35) = 22 := by rw [eM49]; exact t48
  refine j_aload_n hX eX5_init_33 0 rfl ?_
  refine j_iconst (v := (0 : Int32)) hX eX5_init_34 (by decide) ?_
  refine j_putI (ty := .int) hX eX5_init_35 ff_LiftGroup_TripLog_25 rfl t51 (by decide) pp_5_4 rfl rfl ?_
  refine j_nmM (fun M54 eM54 => ?_)
  replace h := h M54 eM54
  have t55 : hp_T M54 (p5) = 22 := by rw [eM54]; exact t50
  have t56 : hp_T M54 (a0) = 6 := by rw [eM54]; exact t51
  have t57 : hp_T M54 (p19) = 22 := by rw [eM54]; exact t52
  have t58 : hp_T M54 (p35) = 22 := by rw [eM54]; exact t53
  exact j_vret hX hM eX5_init_38 rfl h

set_option maxHeartbeats 4000000 in
set_option maxRecDepth 20000 in
theorem vX5_append_0 {X : am_Cx} {G : am_Gx} {d : Nat} {Q : am_Q} (hX : am_ok X rX5_append G (d + 1)) (hM : am_me X rX5_append Q) {bc bs : Nat}  {a0 : Nat} {a1 : Int32} {a2 : Int32} {a3 : Int32} {M : am_Hp} (h : hp_T M (a0) = 6 ∧ (∀ v2 : Int32, v2 = ((hp_I M 103 a0) - (hp_I M 103 a0) / (10 : Int32) * (10 : Int32)) → (hp_R M 100 a0 ≠ 0 ∧ (∀ p4 : Nat, p4 = hp_R M 100 a0 → (hp_T M (p4) = 22 ∧ (vp_in v2 (hp_N M p4) ∧ (∀ M7 : am_Hp, M7 = hp_sE M p4 (v2).toNatClampNeg a1 → (hp_R M7 101 a0 ≠ 0 ∧ (∀ p11 : Nat, p11 = hp_R M7 101 a0 → (hp_T M7 (p11) = 22 ∧ (vp_in v2 (hp_N M7 p11) ∧ (∀ M14 : am_Hp, M14 = hp_sE M7 p11 (v2).toNatClampNeg a2 → (hp_R M14 102 a0 ≠ 0 ∧ (∀ p19 : Nat, p19 = hp_R M14 102 a0 → (hp_T M14 (p19) = 22 ∧ (vp_in v2 (hp_N M14 p19) ∧ (∀ M22 : am_Hp, M22 = hp_sE M14 p19 (v2).toNatClampNeg a3 → (∀ M27 : am_Hp, M27 = hp_sI M22 103 a0 ((hp_I M22 103 a0) + (1 : Int32)) → (∀ M32 : am_Hp, M32 = hp_sI M27 104 a0 ((hp_I M27 104 a0) + a3) → (Q (.inl none) M32)))))))))))))))))))) : am_J X 0 [(0, .ref a0), (1, .int a1), (2, .int a2), (3, .int a3)] [] M bc bs := by
  refine j_aload_n hX eX5_append_0 0 rfl ?_
  obtain ⟨t1, h⟩ := h
  refine j_getI hX eX5_append_1 ff_LiftGroup_TripLog_21 rfl t1 (by decide) ?_
  refine j_bipush (v := (10 : Int32)) hX eX5_append_4 (by decide) ?_
  refine j_irem hX eX5_append_6 (by decide) ?_
  refine j_nmI (fun v2 ev2 => ?_)
  replace h := h v2 ev2
  refine j_istore (lv' := [(4, .int v2), (0, .ref a0), (1, .int a1), (2, .int a2), (3, .int a3)]) hX eX5_append_7 (by decide) rfl ?_
  refine j_aload_n hX eX5_append_9 1 rfl ?_
  obtain ⟨z3, h⟩ := h
  refine j_getR hX eX5_append_10 ff_LiftGroup_TripLog_9 rfl t1 (by decide) z3 ?_
  refine j_nmR (fun p4 ep4 => ?_)
  replace h := h p4 ep4
  refine j_iload hX eX5_append_13 0 rfl ?_
  refine j_iload_n hX eX5_append_15 2 rfl ?_
  obtain ⟨t5, h⟩ := h
  obtain ⟨i6, h⟩ := h
  refine j_iast hX eX5_append_16 t5 i6 ?_
  refine j_nmM (fun M7 eM7 => ?_)
  replace h := h M7 eM7
  have t8 : hp_T M7 (a0) = 6 := by rw [eM7]; exact t1
  have t9 : hp_T M7 (p4) = 22 := by rw [eM7]; exact t5
  refine j_aload_n hX eX5_append_17 1 rfl ?_
  obtain ⟨z10, h⟩ := h
  refine j_getR hX eX5_append_18 ff_LiftGroup_TripLog_15 rfl t8 (by decide) z10 ?_
  refine j_nmR (fun p11 ep11 => ?_)
  replace h := h p11 ep11
  refine j_iload hX eX5_append_21 0 rfl ?_
  refine j_iload_n hX eX5_append_23 3 rfl ?_
  obtain ⟨t12, h⟩ := h
  obtain ⟨i13, h⟩ := h
  refine j_iast hX eX5_append_24 t12 i13 ?_
  refine j_nmM (fun M14 eM14 => ?_)
  replace h := h M14 eM14
  have t15 : hp_T M14 (a0) = 6 := by rw [eM14]; exact t8
  have t16 : hp_T M14 (p4) = 22 := by rw [eM14]; exact t9
  have t17 : hp_T M14 (p11) = 22 := by rw [eM14]; exact t12
  refine j_aload_n hX eX5_append_25 1 rfl ?_
  obtain ⟨z18, h⟩ := h
  refine j_getR hX eX5_append_26 ff_LiftGroup_TripLog_18 rfl t15 (by decide) z18 ?_
  refine j_nmR (fun p19 ep19 => ?_)
  replace h := h p19 ep19
  refine j_iload hX eX5_append_29 0 rfl ?_
  refine j_iload_n hX eX5_append_31 4 rfl ?_
  obtain ⟨t20, h⟩ := h
  obtain ⟨i21, h⟩ := h
  refine j_iast hX eX5_append_32 t20 i21 ?_
  refine j_nmM (fun M22 eM22 => ?_)
  replace h := h M22 eM22
  have t23 : hp_T M22 (a0) = 6 := by rw [eM22]; exact t15
  have t24 : hp_T M22 (p4) = 22 := by rw [eM22]; exact t16
  have t25 : hp_T M22 (p11) = 22 := by rw [eM22]; exact t17
  have t26 : hp_T M22 (p19) = 22 := by rw [eM22]; exact t20
  refine j_aload_n hX eX5_append_33 1 rfl ?_
  refine j_dup hX eX5_append_34 rfl ?_
  refine j_getI hX eX5_append_35 ff_LiftGroup_TripLog_21 rfl t23 (by decide) ?_
  refine j_iconst (v := (1 : Int32)) hX eX5_append_38 (by decide) ?_
  refine j_iadd hX eX5_append_39 ?_
  refine j_putI (ty := .int) hX eX5_append_40 ff_LiftGroup_TripLog_21 rfl t23 (by decide) pp_5_3 rfl rfl ?_
  refine j_nmM (fun M27 eM27 => ?_)
  replace h := h M27 eM27
  have t28 : hp_T M27 (a0) = 6 := by rw [eM27]; exact t23
  have t29 : hp_T M27 (p4) = 22 := by rw [eM27]; exact t24
  have t30 : hp_T M27 (p11) = 22 := by rw [eM27]; exact t25
  have t31 : hp_T M27 (p19) = 22 := by rw [eM27]; exact t26
  refine j_aload_n hX eX5_append_43 1 rfl ?_
  refine j_dup hX eX5_append_44 rfl ?_
  refine j_getI hX eX5_append_45 ff_LiftGroup_TripLog_25 rfl t28 (by decide) ?_
  refine j_iload_n hX eX5_append_48 4 rfl ?_
  refine j_iadd hX eX5_append_49 ?_
  refine j_putI (ty := .int) hX eX5_append_50 ff_LiftGroup_TripLog_25 rfl t28 (by decide) pp_5_4 rfl rfl ?_
  refine j_nmM (fun M32 eM32 => ?_)
  replace h := h M32 eM32
  have t33 : hp_T M32 (a0) = 6 := by rw [eM32]; exact t28
  have t34 : hp_T M32 (p4) = 22 := by rw [eM32]; exact t29
  have t35 : hp_T M32 (p11) = 22 := by rw [eM32]; exact t30
  have t36 : hp_T M32 (p19) = 22 := by rw [eM32]; exact t31
  exact j_vret hX hM eX5_append_53 rfl h

set_option maxHeartbeats 4000000 in
set_option maxRecDepth 20000 in
theorem vX5_remembers_0 {X : am_Cx} {G : am_Gx} {d : Nat} {Q : am_Q} (hX : am_ok X rX5_remembers G (d + 1)) (hM : am_me X rX5_remembers Q) {bc bs : Nat}  {a0 : Nat} {a1 : Int32} {M : am_Hp} (h : ((a1 < 0) → (Q (.inl (some (.int (0 : Int32)))) M)) ∧ (¬ (a1 < 0) → (hp_T M (a0) = 6 ∧ ((((hp_I M 103 a0) ≤ a1) → (Q (.inl (some (.int (0 : Int32)))) M)) ∧ (¬ ((hp_I M 103 a0) ≤ a1) → ((((10 : Int32) ≤ a1) → (Q (.inl (some (.int (0 : Int32)))) M)) ∧ (¬ ((10 : Int32) ≤ a1) → (Q (.inl (some (.int (1 : Int32)))) M)))))))) : am_J X 0 [(0, .ref a0), (1, .int a1)] [] M bc bs := by
  refine j_iload_n hX eX5_remembers_0 1 rfl ?_
  refine j_if_lt hX 22 eX5_remembers_1 (by decide) (fun c1 => ?_) (fun c1 => ?_)
  · replace h := h.1 c1
    refine j_iconst (v := (0 : Int32)) hX eX5_remembers_22 (by decide) ?_
    exact j_zret hX hM eX5_remembers_23 rfl (by decide) h
  · replace h := h.2 c1
    refine j_iload_n hX eX5_remembers_4 1 rfl ?_
    refine j_aload_n hX eX5_remembers_5 0 rfl ?_
    obtain ⟨t2, h⟩ := h
    refine j_getI hX eX5_remembers_6 ff_LiftGroup_TripLog_21 rfl t2 (by decide) ?_
    refine j_icmp_ge hX 22 eX5_remembers_9 (by decide) (fun c3 => ?_) (fun c3 => ?_)
    · replace h := h.1 c3
      refine j_iconst (v := (0 : Int32)) hX eX5_remembers_22 (by decide) ?_
      exact j_zret hX hM eX5_remembers_23 rfl (by decide) h
    · replace h := h.2 c3
      refine j_iload_n hX eX5_remembers_12 1 rfl ?_
      refine j_bipush (v := (10 : Int32)) hX eX5_remembers_13 (by decide) ?_
      refine j_icmp_ge hX 22 eX5_remembers_15 (by decide) (fun c4 => ?_) (fun c4 => ?_)
      · replace h := h.1 c4
        refine j_iconst (v := (0 : Int32)) hX eX5_remembers_22 (by decide) ?_
        exact j_zret hX hM eX5_remembers_23 rfl (by decide) h
      · replace h := h.2 c4
        refine j_iconst (v := (1 : Int32)) hX eX5_remembers_18 (by decide) ?_
        refine j_goto hX 23 eX5_remembers_19 (by decide) ?_
        exact j_zret hX hM eX5_remembers_23 rfl (by decide) h

set_option maxHeartbeats 4000000 in
set_option maxRecDepth 20000 in
theorem vX5_placeOf_0 {X : am_Cx} {G : am_Gx} {d : Nat} {Q : am_Q} (hX : am_ok X rX5_placeOf G (d + 1)) (hM : am_me X rX5_placeOf Q) {bc bs : Nat}  {a0 : Nat} {a1 : Int32} {M : am_Hp} (h : hp_T M (a0) = 6 ∧ (Q (.inl (some (.int ((((hp_I M 103 a0) - (1 : Int32)) - a1) - (((hp_I M 103 a0) - (1 : Int32)) - a1) / (10 : Int32) * (10 : Int32))))) M)) : am_J X 0 [(0, .ref a0), (1, .int a1)] [] M bc bs := by
  refine j_aload_n hX eX5_placeOf_0 0 rfl ?_
  obtain ⟨t1, h⟩ := h
  refine j_getI hX eX5_placeOf_1 ff_LiftGroup_TripLog_21 rfl t1 (by decide) ?_
  refine j_iconst (v := (1 : Int32)) hX eX5_placeOf_4 (by decide) ?_
  refine j_isub hX eX5_placeOf_5 ?_
  refine j_iload_n hX eX5_placeOf_6 1 rfl ?_
  refine j_isub hX eX5_placeOf_7 ?_
  refine j_bipush (v := (10 : Int32)) hX eX5_placeOf_8 (by decide) ?_
  refine j_irem hX eX5_placeOf_10 (by decide) ?_
  exact j_iret hX hM eX5_placeOf_11 rfl h

set_option maxHeartbeats 4000000 in
set_option maxRecDepth 20000 in
theorem vX5_copyFrom_0 {X : am_Cx} {G : am_Gx} {d : Nat} {Q : am_Q} (hX : am_ok X rX5_copyFrom G (d + 1)) (hM : am_me X rX5_copyFrom Q) {bc bs : Nat}  {a0 : Nat} {a1 : Nat} {M : am_Hp} (h : hp_T M (a1) = 6 ∧ (hp_R M 100 a1 ≠ 0 ∧ (∀ p3 : Nat, p3 = hp_R M 100 a1 → (hp_T M (a0) = 6 ∧ (hp_R M 100 a0 ≠ 0 ∧ (∀ p6 : Nat, p6 = hp_R M 100 a0 → (hp_T M (p6) = 22 ∧ (hp_T M (p3) = 22 ∧ (¬ (0 : Int32) < 0 ∧ (¬ (0 : Int32) < 0 ∧ (¬ (10 : Int32) < 0 ∧ (((0 : Int32)).toNatClampNeg + ((10 : Int32)).toNatClampNeg ≤ hp_N M p3 ∧ (((0 : Int32)).toNatClampNeg + ((10 : Int32)).toNatClampNeg ≤ hp_N M p6 ∧ (∀ M14 : am_Hp, M14 = hp_sA M p6 (va_cpy (hp_E M p3) (hp_E M p6) ((0 : Int32)).toNatClampNeg ((0 : Int32)).toNatClampNeg ((10 : Int32)).toNatClampNeg) → (hp_R M14 101 a1 ≠ 0 ∧ (∀ p20 : Nat, p20 = hp_R M14 101 a1 → (hp_R M14 101 a0 ≠ 0 ∧ (∀ p22 : Nat, p22 = hp_R M14 101 a0 → (hp_T M14 (p22) = 22 ∧ (hp_T M14 (p20) = 22 ∧ (¬ (0 : Int32) < 0 ∧ (¬ (0 : Int32) < 0 ∧ (¬ (10 : Int32) < 0 ∧ (((0 : Int32)).toNatClampNeg + ((10 : Int32)).toNatClampNeg ≤ hp_N M14 p20 ∧ (((0 : Int32)).toNatClampNeg + ((10 : Int32)).toNatClampNeg ≤ hp_N M14 p22 ∧ (∀ M30 : am_Hp, M30 = hp_sA M14 p22 (va_cpy (hp_E M14 p20) (hp_E M14 p22) ((0 : Int32)).toNatClampNeg ((0 : Int32)).toNatClampNeg ((10 : Int32)).toNatClampNeg) → (hp_R M30 102 a1 ≠ 0 ∧ (∀ p38 : Nat, p38 = hp_R M30 102 a1 → (hp_R M30 102 a0 ≠ 0 ∧ (∀ p40 : Nat, p40 = hp_R M30 102 a0 → (hp_T M30 (p40) = 22 ∧ (hp_T M30 (p38) = 22 ∧ (¬ (0 : Int32) < 0 ∧ (¬ (0 : Int32) < 0 ∧ (¬ (10 : Int32) < 0 ∧ (((0 : Int32)).toNatClampNeg + ((10 : Int32)).toNatClampNeg ≤ hp_N M30 p38 ∧ (((0 : Int32)).toNatClampNeg + ((10 : Int32)).toNatClampNeg ≤ hp_N M30 p40 ∧ (∀ M48 : am_Hp, M48 = hp_sA M30 p40 (va_cpy (hp_E M30 p38) (hp_E M30 p40) ((0 : Int32)).toNatClampNeg ((0 : Int32)).toNatClampNeg ((10 : Int32)).toNatClampNeg) → (∀ M57 : am_Hp, M57 = hp_sI M48 103 a0 (hp_I M48 103 a1) → (∀ M66 : am_Hp, M66 = hp_sI M57 104 a0 (hp_I M57 104 a1) → (Q (.inl none) M66))))))))))))))))))))))))))))))))))))))))) : am_J X 0 [(0, .ref a0), (1, .ref a1)] [] M bc bs := by
  refine j_aload_n hX eX5_copyFrom_0 1 rfl ?_
  obtain ⟨t1, h⟩ := h
  obtain ⟨z2, h⟩ := h
  refine j_getR hX eX5_copyFrom_1 ff_LiftGroup_TripLog_9 rfl t1 (by decide) z2 ?_
  refine j_nmR (fun p3 ep3 => ?_)
  replace h := h p3 ep3
  refine j_iconst (v := (0 : Int32)) hX eX5_copyFrom_4 (by decide) ?_
  refine j_aload_n hX eX5_copyFrom_5 0 rfl ?_
  obtain ⟨t4, h⟩ := h
  obtain ⟨z5, h⟩ := h
  refine j_getR hX eX5_copyFrom_6 ff_LiftGroup_TripLog_9 rfl t4 (by decide) z5 ?_
  refine j_nmR (fun p6 ep6 => ?_)
  replace h := h p6 ep6
  refine j_iconst (v := (0 : Int32)) hX eX5_copyFrom_9 (by decide) ?_
  refine j_bipush (v := (10 : Int32)) hX eX5_copyFrom_10 (by decide) ?_
  obtain ⟨t7, h⟩ := h
  obtain ⟨t8, h⟩ := h
  obtain ⟨g9, g10, g11, g12, g13, h⟩ := h
  refine j_copyi hX eX5_copyFrom_12 tw_476 tw_478 tw_477 tw_20 t7 t8 g9 g10 g11 g12 g13 (Nat.le_of_ble_eq_true rfl) ?_
  refine j_nmM (fun M14 eM14 => ?_)
  replace h := h M14 eM14
  have t15 : hp_T M14 (a1) = 6 := by rw [eM14]; exact t1
  have t16 : hp_T M14 (a0) = 6 := by rw [eM14]; exact t4
  have t17 : hp_T M14 (p6) = 22 := by rw [eM14]; exact t7
  have t18 : hp_T M14 (p3) = 22 := by rw [eM14]; exact t8
  refine j_aload_n hX eX5_copyFrom_15 1 rfl ?_
  obtain ⟨z19, h⟩ := h
  refine j_getR hX eX5_copyFrom_16 ff_LiftGroup_TripLog_15 rfl t15 (by decide) z19 ?_
  refine j_nmR (fun p20 ep20 => ?_)
  replace h := h p20 ep20
  refine j_iconst (v := (0 : Int32)) hX eX5_copyFrom_19 (by decide) ?_
  refine j_aload_n hX eX5_copyFrom_20 0 rfl ?_
  obtain ⟨z21, h⟩ := h
  refine j_getR hX eX5_copyFrom_21 ff_LiftGroup_TripLog_15 rfl t16 (by decide) z21 ?_
  refine j_nmR (fun p22 ep22 => ?_)
  replace h := h p22 ep22
  refine j_iconst (v := (0 : Int32)) hX eX5_copyFrom_24 (by decide) ?_
  refine j_bipush (v := (10 : Int32)) hX eX5_copyFrom_25 (by decide) ?_
  obtain ⟨t23, h⟩ := h
  obtain ⟨t24, h⟩ := h
  obtain ⟨g25, g26, g27, g28, g29, h⟩ := h
  refine j_copyi hX eX5_copyFrom_27 tw_476 tw_478 tw_477 tw_20 t23 t24 g25 g26 g27 g28 g29 (Nat.le_of_ble_eq_true rfl) ?_
  refine j_nmM (fun M30 eM30 => ?_)
  replace h := h M30 eM30
  have t31 : hp_T M30 (a1) = 6 := by rw [eM30]; exact t15
  have t32 : hp_T M30 (a0) = 6 := by rw [eM30]; exact t16
  have t33 : hp_T M30 (p6) = 22 := by rw [eM30]; exact t17
  have t34 : hp_T M30 (p3) = 22 := by rw [eM30]; exact t18
  have t35 : hp_T M30 (p22) = 22 := by rw [eM30]; exact t23
  have t36 : hp_T M30 (p20) = 22 := by rw [eM30]; exact t24
  refine j_aload_n hX eX5_copyFrom_30 1 rfl ?_
  obtain ⟨z37, h⟩ := h
  refine j_getR hX eX5_copyFrom_31 ff_LiftGroup_TripLog_18 rfl t31 (by decide) z37 ?_
  refine j_nmR (fun p38 ep38 => ?_)
  replace h := h p38 ep38
  refine j_iconst (v := (0 : Int32)) hX eX5_copyFrom_34 (by decide) ?_
  refine j_aload_n hX eX5_copyFrom_35 0 rfl ?_
  obtain ⟨z39, h⟩ := h
  refine j_getR hX eX5_copyFrom_36 ff_LiftGroup_TripLog_18 rfl t32 (by decide) z39 ?_
  refine j_nmR (fun p40 ep40 => ?_)
  replace h := h p40 ep40
  refine j_iconst (v := (0 : Int32)) hX eX5_copyFrom_39 (by decide) ?_
  refine j_bipush (v := (10 : Int32)) hX eX5_copyFrom_40 (by decide) ?_
  obtain ⟨t41, h⟩ := h
  obtain ⟨t42, h⟩ := h
  obtain ⟨g43, g44, g45, g46, g47, h⟩ := h
  refine j_copyi hX eX5_copyFrom_42 tw_476 tw_478 tw_477 tw_20 t41 t42 g43 g44 g45 g46 g47 (Nat.le_of_ble_eq_true rfl) ?_
  refine j_nmM (fun M48 eM48 => ?_)
  replace h := h M48 eM48
  have t49 : hp_T M48 (a1) = 6 := by rw [eM48]; exact t31
  have t50 : hp_T M48 (a0) = 6 := by rw [eM48]; exact t32
  have t51 : hp_T M48 (p6) = 22 := by rw [eM48]; exact t33
  have t52 : hp_T M48 (p3) = 22 := by rw [eM48]; exact t34
  have t53 : hp_T M48 (p22) = 22 := by rw [eM48]; exact t35
  have t54 : hp_T M48 (p20) = 22 := by rw [eM48]; exact t36
  have t55 : hp_T M48 (p40) = 22 := by rw [eM48]; exact t41
  have t56 : hp_T M48 (p38) = 22 := by rw [eM48]; exact t42
  refine j_aload_n hX eX5_copyFrom_45 0 rfl ?_
  refine j_aload_n hX eX5_copyFrom_46 1 rfl ?_
  refine j_getI hX eX5_copyFrom_47 ff_LiftGroup_TripLog_21 rfl t49 (by decide) ?_
  refine j_putI (ty := .int) hX eX5_copyFrom_50 ff_LiftGroup_TripLog_21 rfl t50 (by decide) pp_5_3 rfl rfl ?_
  refine j_nmM (fun M57 eM57 => ?_)
  replace h := h M57 eM57
  have t58 : hp_T M57 (a1) = 6 := by rw [eM57]; exact t49
  have t59 : hp_T M57 (a0) = 6 := by rw [eM57]; exact t50
  have t60 : hp_T M57 (p6) = 22 := by rw [eM57]; exact t51
  have t61 : hp_T M57 (p3) = 22 := by rw [eM57]; exact t52
  have t62 : hp_T M57 (p22) = 22 := by rw [eM57]; exact t53
  have t63 : hp_T M57 (p20) = 22 := by rw [eM57]; exact t54
  have t64 : hp_T M57 (p40) = 22 := by rw [eM57]; exact t55
  have t65 : hp_T M57 (p38) = 22 := by rw [eM57]; exact t56
  refine j_aload_n hX eX5_copyFrom_53 0 rfl ?_
  refine j_aload_n hX eX5_copyFrom_54 1 rfl ?_
  refine j_getI hX eX5_copyFrom_55 ff_LiftGroup_TripLog_25 rfl t58 (by decide) ?_
  refine j_putI (ty := .int) hX eX5_copyFrom_58 ff_LiftGroup_TripLog_25 rfl t59 (by decide) pp_5_4 rfl rfl ?_
  refine j_nmM (fun M66 eM66 => ?_)
  replace h := h M66 eM66
  have t67 : hp_T M66 (a1) = 6 := by rw [eM66]; exact t58
  have t68 : hp_T M66 (a0) = 6 := by rw [eM66]; exact t59
  have t69 : hp_T M66 (p6) = 22 := by rw [eM66]; exact t60
  have t70 : hp_T M66 (p3) = 22 := by rw [eM66]; exact t61
  have t71 : hp_T M66 (p22) = 22 := by rw [eM66]; exact t62
  have t72 : hp_T M66 (p20) = 22 := by rw [eM66]; exact t63
  have t73 : hp_T M66 (p40) = 22 := by rw [eM66]; exact t64
  have t74 : hp_T M66 (p38) = 22 := by rw [eM66]; exact t65
  exact j_vret hX hM eX5_copyFrom_61 rfl h
