set_option maxHeartbeats 4000000 in
set_option maxRecDepth 20000 in
theorem vX6_init_0 {X : am_Cx} {G : am_Gx} {d : Nat} {Q : am_Q} (hX : am_ok X rX6_init G (d + 1)) (hM : am_me X rX6_init Q) {bc bs : Nat}  {a0 : Nat} {M : am_Hp} (h : 1 ≤ bc ∧ (10 ≤ bs ∧ (∀ p1 : Nat, hp_T M p1 = 0 → p1 ≠ 0 → (∀ M7 : am_Hp, M7 = hp_o M p1 1 → (21 ≤ (bc - 1) ∧ (158 ≤ (bs - 10) ∧ (am_CT G d rX0_init [.ref p1] M7 21 158 (fun oz9 M9 => oz9 = .inl none ∧ (hp_T M9 (a0) = 7 ∧ (p1 ≠ 0 ∧ (∀ M15 : am_Hp, M15 = hp_sR M9 120 a0 p1 → (1 ≤ ((bc - 1) - 21) ∧ (10 ≤ ((bs - 10) - 158) ∧ (∀ p17 : Nat, hp_T M15 p17 = 0 → p17 ≠ 0 → (∀ M23 : am_Hp, M23 = hp_o M15 p17 1 → (21 ≤ (((bc - 1) - 21) - 1) ∧ (158 ≤ (((bs - 10) - 158) - 10) ∧ (am_CT G d rX0_init [.ref p17] M23 21 158 (fun oz9 M26 => oz9 = .inl none ∧ (hp_T M26 (a0) = 7 ∧ (p17 ≠ 0 ∧ (∀ M32 : am_Hp, M32 = hp_sR M26 121 a0 p17 → (1 ≤ ((((bc - 1) - 21) - 1) - 21) ∧ (10 ≤ ((((bs - 10) - 158) - 10) - 158) ∧ (∀ p34 : Nat, hp_T M32 p34 = 0 → p34 ≠ 0 → (∀ M40 : am_Hp, M40 = hp_o M32 p34 1 → (21 ≤ (((((bc - 1) - 21) - 1) - 21) - 1) ∧ (158 ≤ (((((bs - 10) - 158) - 10) - 158) - 10) ∧ (am_CT G d rX0_init [.ref p34] M40 21 158 (fun oz9 M43 => oz9 = .inl none ∧ (hp_T M43 (a0) = 7 ∧ (p34 ≠ 0 ∧ (∀ M49 : am_Hp, M49 = hp_sR M43 122 a0 p34 → (1 ≤ ((((((bc - 1) - 21) - 1) - 21) - 1) - 21) ∧ (3 ≤ ((((((bs - 10) - 158) - 10) - 158) - 10) - 158) ∧ (∀ p51 : Nat, hp_T M49 p51 = 0 → p51 ≠ 0 → (∀ M57 : am_Hp, M57 = hp_o M49 p51 3 → (177 ≤ (((((((bc - 1) - 21) - 1) - 21) - 1) - 21) - 1) ∧ (1352 ≤ (((((((bs - 10) - 158) - 10) - 158) - 10) - 158) - 3) ∧ (am_CT G d rX2_init [.ref p51] M57 177 1352 (fun oz9 M60 => oz9 = .inl none ∧ (hp_T M60 (a0) = 7 ∧ (p51 ≠ 0 ∧ (∀ M66 : am_Hp, M66 = hp_sR M60 123 a0 p51 → (1 ≤ ((((((((bc - 1) - 21) - 1) - 21) - 1) - 21) - 1) - 177) ∧ (5 ≤ ((((((((bs - 10) - 158) - 10) - 158) - 10) - 158) - 3) - 1352) ∧ (∀ p68 : Nat, hp_T M66 p68 = 0 → p68 ≠ 0 → (∀ M74 : am_Hp, M74 = hp_o M66 p68 5 → (17 ≤ (((((((((bc - 1) - 21) - 1) - 21) - 1) - 21) - 1) - 177) - 1) ∧ (85 ≤ (((((((((bs - 10) - 158) - 10) - 158) - 10) - 158) - 3) - 1352) - 5) ∧ (am_CT G d rX4_init [.ref p68] M74 17 85 (fun oz9 M77 => oz9 = .inl none ∧ (hp_T M77 (a0) = 7 ∧ (p68 ≠ 0 ∧ (∀ M83 : am_Hp, M83 = hp_sR M77 124 a0 p68 → (1 ≤ ((((((((((bc - 1) - 21) - 1) - 21) - 1) - 21) - 1) - 177) - 1) - 17) ∧ (4 ≤ ((((((((((bs - 10) - 158) - 10) - 158) - 10) - 158) - 3) - 1352) - 5) - 85) ∧ (∀ p85 : Nat, hp_T M83 p85 = 0 → p85 ≠ 0 → (∀ M91 : am_Hp, M91 = hp_o M83 p85 9 → (1 ≤ (((((((((((bc - 1) - 21) - 1) - 21) - 1) - 21) - 1) - 177) - 1) - 17) - 1) ∧ (16 ≤ (((((((((((bs - 10) - 158) - 10) - 158) - 10) - 158) - 3) - 1352) - 5) - 85) - 4) ∧ (am_CT G d rJ4_init_da8c8 [.ref p85] M91 1 16 (fun oz9 M94 => oz9 = .inl none ∧ (hp_T M94 (a0) = 7 ∧ (p85 ≠ 0 ∧ (∀ M100 : am_Hp, M100 = hp_sR M94 125 a0 p85 → (am_bo (0 : Int32) ∧ (∀ M103 : am_Hp, M103 = hp_sI M100 126 a0 (0 : Int32) → (∀ M105 : am_Hp, M105 = hp_sI M103 127 a0 (-1 : Int32) → (∀ M107 : am_Hp, M107 = hp_sI M105 128 a0 (-1 : Int32) → (Q (.inl none) M107))))))))))))))))))))))))))))))))))))))))))))))))))))))))))))))))))))))) : am_J X 0 [(0, .ref a0)] [] M bc bs := by
  refine j_aload_n hX eX6_init_0 0 rfl ?_
  refine j_objInit hX eX6_init_1 tw_40 tw_41 tw_42 (Nat.le_of_ble_eq_true rfl) ?_
  refine j_aload_n hX eX6_init_4 0 rfl ?_
  obtain ⟨b5, b6, h⟩ := h
  refine j_new (q := (RX0, TX0, 10)) hX eX6_init_5 rfl (by decide) tw_43 tw_44 tw_2 dv_0 b5 b6 (fun p1 o3 z4 => ?_)
  replace h := h p1 o3 z4
  refine j_nmM (fun M7 eM7 => ?_)
  replace h := h M7 eM7
  have t8 : hp_T M7 (p1) = 1 := by rw [eM7]; exact hp_Tn
  refine j_dup hX eX6_init_8 rfl ?_
  obtain ⟨b11, b12, h⟩ := h
  refine j_callI (a := p1) (r' := rX0_init) (As := []) (rest := [.ref p1, .ref a0]) (d1 := d) hX eX6_init_9 mm_LiftGroup_11 rfl h rfl (Nat.le_refl _) b11 b12 (Nat.le_of_ble_eq_true rfl) (fun vz9 Mz9 qz9 => ?_) (fun Ez9 Mz9 qz9 => ?_)
  · obtain ⟨M9, eMz9⟩ : ∃ M9, M9 = Mz9 := ⟨_, rfl⟩; subst eMz9
    obtain ⟨hxz9, h⟩ := qz9
    cases hxz9
    obtain ⟨t13, h⟩ := h
    obtain ⟨z14, h⟩ := h
    refine j_putF (ty := .object "LiftGroup$Building") hX eX6_init_12 ff_LiftGroup_12 rfl t13 (by decide) z14 hM rfl pp_6_0 rfl rfl ?_
    refine j_nmM (fun M15 eM15 => ?_)
    replace h := h M15 eM15
    have t16 : hp_T M15 (a0) = 7 := by rw [eM15]; exact t13
    refine j_aload_n hX eX6_init_15 0 rfl ?_
    obtain ⟨b21, b22, h⟩ := h
    refine j_new (q := (RX0, TX0, 10)) hX eX6_init_16 rfl (by decide) tw_43 tw_44 tw_2 dv_0 b21 b22 (fun p17 o19 z20 => ?_)
    replace h := h p17 o19 z20
    refine j_nmM (fun M23 eM23 => ?_)
    replace h := h M23 eM23
    have t24 : hp_T M23 (a0) = 7 := by rw [eM23]; exact (hp_To o19 t16 (by decide)).trans rfl
    have t25 : hp_T M23 (p17) = 1 := by rw [eM23]; exact hp_Tn
    refine j_dup hX eX6_init_19 rfl ?_
    obtain ⟨b28, b29, h⟩ := h
    refine j_callI (a := p17) (r' := rX0_init) (As := []) (rest := [.ref p17, .ref a0]) (d1 := d) hX eX6_init_20 mm_LiftGroup_11 rfl h rfl (Nat.le_refl _) b28 b29 (Nat.le_of_ble_eq_true rfl) (fun vz9 Mz9 qz9 => ?_) (fun Ez9 Mz9 qz9 => ?_)
    · obtain ⟨M26, eMz9⟩ : ∃ M26, M26 = Mz9 := ⟨_, rfl⟩; subst eMz9
      obtain ⟨hxz9, h⟩ := qz9
      cases hxz9
      obtain ⟨t30, h⟩ := h
      obtain ⟨z31, h⟩ := h
      refine j_putF (ty := .object "LiftGroup$Building") hX eX6_init_23 ff_LiftGroup_16 rfl t30 (by decide) z31 hM rfl pp_6_1 rfl rfl ?_
      refine j_nmM (fun M32 eM32 => ?_)
      replace h := h M32 eM32
      have t33 : hp_T M32 (a0) = 7 := by rw [eM32]; exact t30
      refine j_aload_n hX eX6_init_26 0 rfl ?_
      obtain ⟨b38, b39, h⟩ := h
      refine j_new (q := (RX0, TX0, 10)) hX eX6_init_27 rfl (by decide) tw_43 tw_44 tw_2 dv_0 b38 b39 (fun p34 o36 z37 => ?_)
      replace h := h p34 o36 z37
      refine j_nmM (fun M40 eM40 => ?_)
      replace h := h M40 eM40
      have t41 : hp_T M40 (a0) = 7 := by rw [eM40]; exact (hp_To o36 t33 (by decide)).trans rfl
      have t42 : hp_T M40 (p34) = 1 := by rw [eM40]; exact hp_Tn
      refine j_dup hX eX6_init_30 rfl ?_
      obtain ⟨b45, b46, h⟩ := h
      refine j_callI (a := p34) (r' := rX0_init) (As := []) (rest := [.ref p34, .ref a0]) (d1 := d) hX eX6_init_31 mm_LiftGroup_11 rfl h rfl (Nat.le_refl _) b45 b46 (Nat.le_of_ble_eq_true rfl) (fun vz9 Mz9 qz9 => ?_) (fun Ez9 Mz9 qz9 => ?_)
      · obtain ⟨M43, eMz9⟩ : ∃ M43, M43 = Mz9 := ⟨_, rfl⟩; subst eMz9
        obtain ⟨hxz9, h⟩ := qz9
        cases hxz9
        obtain ⟨t47, h⟩ := h
        obtain ⟨z48, h⟩ := h
        refine j_putF (ty := .object "LiftGroup$Building") hX eX6_init_34 ff_LiftGroup_19 rfl t47 (by decide) z48 hM rfl pp_6_2 rfl rfl ?_
        refine j_nmM (fun M49 eM49 => ?_)
        replace h := h M49 eM49
        have t50 : hp_T M49 (a0) = 7 := by rw [eM49]; exact t47
        refine j_aload_n hX eX6_init_37 0 rfl ?_
        obtain ⟨b55, b56, h⟩ := h
        refine j_new (q := (RX2, TX2, 3)) hX eX6_init_38 rfl (by decide) tw_208 tw_209 tw_6 dv_2 b55 b56 (fun p51 o53 z54 => ?_)
        replace h := h p51 o53 z54
        refine j_nmM (fun M57 eM57 => ?_)
        replace h := h M57 eM57
        have t58 : hp_T M57 (a0) = 7 := by rw [eM57]; exact (hp_To o53 t50 (by decide)).trans rfl
        have t59 : hp_T M57 (p51) = 3 := by rw [eM57]; exact hp_Tn
        refine j_dup hX eX6_init_41 rfl ?_
        obtain ⟨b62, b63, h⟩ := h
        refine j_callI (a := p51) (r' := rX2_init) (As := []) (rest := [.ref p51, .ref a0]) (d1 := d) hX eX6_init_42 mm_LiftGroup_24 rfl h rfl (Nat.le_refl _) b62 b63 (Nat.le_of_ble_eq_true rfl) (fun vz9 Mz9 qz9 => ?_) (fun Ez9 Mz9 qz9 => ?_)
        · obtain ⟨M60, eMz9⟩ : ∃ M60, M60 = Mz9 := ⟨_, rfl⟩; subst eMz9
          obtain ⟨hxz9, h⟩ := qz9
          cases hxz9
          obtain ⟨t64, h⟩ := h
          obtain ⟨z65, h⟩ := h
          refine j_putF (ty := .object "LiftGroup$History") hX eX6_init_45 ff_LiftGroup_25 rfl t64 (by decide) z65 hM rfl pp_6_3 rfl rfl ?_
          refine j_nmM (fun M66 eM66 => ?_)
          replace h := h M66 eM66
          have t67 : hp_T M66 (a0) = 7 := by rw [eM66]; exact t64
          refine j_aload_n hX eX6_init_48 0 rfl ?_
          obtain ⟨b72, b73, h⟩ := h
          refine j_new (q := (RX4, TX4, 5)) hX eX6_init_49 rfl (by decide) tw_228 tw_229 tw_7 dv_4 b72 b73 (fun p68 o70 z71 => ?_)
          replace h := h p68 o70 z71
          refine j_nmM (fun M74 eM74 => ?_)
          replace h := h M74 eM74
          have t75 : hp_T M74 (a0) = 7 := by rw [eM74]; exact (hp_To o70 t67 (by decide)).trans rfl
          have t76 : hp_T M74 (p68) = 5 := by rw [eM74]; exact hp_Tn
          refine j_dup hX eX6_init_52 rfl ?_
          obtain ⟨b79, b80, h⟩ := h
          refine j_callIN (a := p68) (r' := rX4_init) (As := []) (rest := [.ref p68, .ref a0]) (d1 := d) hX eX6_init_53 mm_LiftGroup_31 rfl h rfl (Nat.le_refl _) b79 b80 (Nat.le_of_ble_eq_true rfl) (fun vz9 Mz9 qz9 => ?_) (fun Ez9 Mz9 qz9 => ?_)
          · obtain ⟨M77, eMz9⟩ : ∃ M77, M77 = Mz9 := ⟨_, rfl⟩; subst eMz9
            obtain ⟨hxz9, h⟩ := qz9
            cases hxz9
            obtain ⟨t81, h⟩ := h
            obtain ⟨z82, h⟩ := h
            refine j_putF (ty := .object "LiftGroup$Script") hX eX6_init_56 ff_LiftGroup_32 rfl t81 (by decide) z82 hM rfl pp_6_4 rfl rfl ?_
            refine j_nmM (fun M83 eM83 => ?_)
            replace h := h M83 eM83
            have t84 : hp_T M83 (a0) = 7 := by rw [eM83]; exact t81
            refine j_aload_n hX eX6_init_59 0 rfl ?_
            obtain ⟨b89, b90, h⟩ := h
            refine j_new (q := (RJ4, TJ4, 4)) hX eX6_init_60 rfl (by decide) tw_289 tw_235 tw_9 dv_8 b89 b90 (fun p85 o87 z88 => ?_)
            replace h := h p85 o87 z88
            refine j_nmM (fun M91 eM91 => ?_)
            replace h := h M91 eM91
            have t92 : hp_T M91 (a0) = 7 := by rw [eM91]; exact (hp_To o87 t84 (by decide)).trans rfl
            have t93 : hp_T M91 (p85) = 9 := by rw [eM91]; exact hp_Tn
            refine j_dup hX eX6_init_63 rfl ?_
            obtain ⟨b96, b97, h⟩ := h
            refine j_callI (a := p85) (r' := rJ4_init_da8c8) (As := []) (rest := [.ref p85, .ref a0]) (d1 := d) hX eX6_init_64 mm_LiftGroup_38 rfl h rfl (Nat.le_refl _) b96 b97 (Nat.le_of_ble_eq_true rfl) (fun vz9 Mz9 qz9 => ?_) (fun Ez9 Mz9 qz9 => ?_)
            · obtain ⟨M94, eMz9⟩ : ∃ M94, M94 = Mz9 := ⟨_, rfl⟩; subst eMz9
              obtain ⟨hxz9, h⟩ := qz9
              cases hxz9
              obtain ⟨t98, h⟩ := h
              obtain ⟨z99, h⟩ := h
              refine j_putF (ty := .object "java/lang/StringBuilder") hX eX6_init_67 ff_LiftGroup_39 rfl t98 (by decide) z99 hM rfl pp_6_5 rfl rfl ?_
              refine j_nmM (fun M100 eM100 => ?_)
              replace h := h M100 eM100
              have t101 : hp_T M100 (a0) = 7 := by rw [eM100]; exact t98
              refine j_aload_n hX eX6_init_70 0 rfl ?_
              refine j_iconst (v := (0 : Int32)) hX eX6_init_71 (by decide) ?_
              obtain ⟨b102, h⟩ := h
              refine j_putI (ty := .boolean) hX eX6_init_72 ff_LiftGroup_43 rfl t101 (by decide) pp_6_6 (am_bo_n b102) (am_bo_f b102) ?_
              refine j_nmM (fun M103 eM103 => ?_)
              replace h := h M103 eM103
              have t104 : hp_T M103 (a0) = 7 := by rw [eM103]; exact t101
              refine j_aload_n hX eX6_init_75 0 rfl ?_
              refine j_iconst (v := (-1 : Int32)) hX eX6_init_76 (by decide) ?_
              refine j_putI (ty := .int) hX eX6_init_77 ff_LiftGroup_47 rfl t104 (by decide) pp_6_7 rfl rfl ?_
              refine j_nmM (fun M105 eM105 => ?_)
              replace h := h M105 eM105
              have t106 : hp_T M105 (a0) = 7 := by rw [eM105]; exact t104
              refine j_aload_n hX eX6_init_80 0 rfl ?_
              refine j_iconst (v := (-1 : Int32)) hX eX6_init_81 (by decide) ?_
              refine j_putI (ty := .int) hX eX6_init_82 ff_LiftGroup_51 rfl t106 (by decide) pp_6_8 rfl rfl ?_
              refine j_nmM (fun M107 eM107 => ?_)
              replace h := h M107 eM107
              have t108 : hp_T M107 (a0) = 7 := by rw [eM107]; exact t106
              exact j_vret hX hM eX6_init_85 rfl h
            · obtain ⟨hxz9, h⟩ := qz9
              cases hxz9
          · obtain ⟨hxz9, h⟩ := qz9
            cases hxz9
        · obtain ⟨hxz9, h⟩ := qz9
          cases hxz9
      · obtain ⟨hxz9, h⟩ := qz9
        cases hxz9
    · obtain ⟨hxz9, h⟩ := qz9
      cases hxz9
  · obtain ⟨hxz9, h⟩ := qz9
    cases hxz9

set_option maxHeartbeats 4000000 in
set_option maxRecDepth 20000 in
theorem vX6_addPassenger_0 {X : am_Cx} {G : am_Gx} {d : Nat} {Q : am_Q} (hX : am_ok X rX6_addPassenger G (d + 1)) (hM : am_me X rX6_addPassenger Q) {bc bs : Nat}  {a0 : Nat} {a1 : Int32} {a2 : Int32} {a3 : Int32} {M : am_Hp} (h : hp_T M (a0) = 7 ∧ (hp_R M 120 a0 ≠ 0 ∧ (∀ p3 : Nat, p3 = hp_R M 120 a0 → (hp_T M (p3) = 1 ∧ (am_CT G d rX0_refusalToAdd [.ref p3, .int a1, .int a2, .int a3] M 0 0 (fun oz9 M4 => ∃ v5 : Int32, oz9 = .inl (some (.int v5)) ∧ (1 ≤ bc ∧ (6 ≤ bs ∧ (am_CT G d rX6_throwIfRefused [.int v5] M4 1 6 (fun oz9 M7 => (oz9 = .inl none ∧ (hp_T M7 (a0) = 7 ∧ (hp_R M7 123 a0 ≠ 0 ∧ (∀ p13 : Nat, p13 = hp_R M7 123 a0 → (hp_R M7 120 a0 ≠ 0 ∧ (∀ p15 : Nat, p15 = hp_R M7 120 a0 → (hp_T M7 (p13) = 3 ∧ (am_CT G d rX2_remember [.ref p13, .ref p15] M7 0 0 (fun oz9 M16 => oz9 = .inl none ∧ (hp_T M16 (a0) = 7 ∧ (hp_R M16 120 a0 ≠ 0 ∧ (∀ p21 : Nat, p21 = hp_R M16 120 a0 → (hp_T M16 (p21) = 1 ∧ (am_CT G d rX0_add [.ref p21, .int a1, .int a2, .int a3] M16 0 0 (fun oz9 M22 => ∃ v23 : Int32, oz9 = .inl (some (.int v23)) ∧ (Q (.inl (some (.int v23))) M22)))))))))))))))) ∨ ((oz9 = .inr "java/lang/IllegalArgumentException" ∧ Q (.inr "java/lang/IllegalArgumentException") M7)) ∨ ((oz9 = .inr "java/lang/IllegalStateException" ∧ Q (.inr "java/lang/IllegalStateException") M7)) ∨ ((oz9 = .inr "java/lang/IndexOutOfBoundsException" ∧ Q (.inr "java/lang/IndexOutOfBoundsException") M7)) ∨ ((oz9 = .inr "java/lang/UnsupportedOperationException" ∧ Q (.inr "java/lang/UnsupportedOperationException") M7)))))))))))) : am_J X 0 [(0, .ref a0), (1, .int a1), (2, .int a2), (3, .int a3)] [] M bc bs := by
  refine j_aload_n hX eX6_addPassenger_0 0 rfl ?_
  obtain ⟨t1, h⟩ := h
  obtain ⟨z2, h⟩ := h
  refine j_getR hX eX6_addPassenger_1 ff_LiftGroup_12 rfl t1 (by decide) z2 ?_
  refine j_nmR (fun p3 ep3 => ?_)
  replace h := h p3 ep3
  refine j_iload_n hX eX6_addPassenger_4 1 rfl ?_
  refine j_iload_n hX eX6_addPassenger_5 2 rfl ?_
  refine j_iload_n hX eX6_addPassenger_6 3 rfl ?_
  obtain ⟨t6, h⟩ := h
  refine j_callV (a := p3) (q := (RX0, TX0, 10)) (r' := rX0_refusalToAdd) (As := [.int a1, .int a2, .int a3]) (rest := []) (d1 := d) hX eX6_addPassenger_7 mm_LiftGroup_54 rfl t6 (by decide) rfl h rfl (Nat.le_refl _) (Nat.zero_le _) (Nat.zero_le _) (Nat.le_of_ble_eq_true rfl) (fun vz9 Mz9 qz9 => ?_) (fun Ez9 Mz9 qz9 => ?_)
  · obtain ⟨M4, eMz9⟩ : ∃ M4, M4 = Mz9 := ⟨_, rfl⟩; subst eMz9
    obtain ⟨v5, hxz9, h⟩ := qz9
    cases hxz9
    obtain ⟨b9, b10, h⟩ := h
    refine j_callS (r' := rX6_throwIfRefused) (As := [.int v5]) (rest := []) (d1 := d) hX eX6_addPassenger_10 mm_LiftGroup_58 rfl rfl h rfl (Nat.le_refl _) b9 b10 (Nat.le_of_ble_eq_true rfl) (fun vz9 Mz9 qz9 => ?_) (fun Ez9 Mz9 qz9 => ?_)
    · obtain ⟨M7, eMz9⟩ : ∃ M7, M7 = Mz9 := ⟨_, rfl⟩; subst eMz9
      rcases qz9 with ⟨hxz9, h⟩ | ⟨hxz9, h⟩ | ⟨hxz9, h⟩ | ⟨hxz9, h⟩ | ⟨hxz9, h⟩ <;> cases hxz9
      refine j_aload_n hX eX6_addPassenger_13 0 rfl ?_
      obtain ⟨t11, h⟩ := h
      obtain ⟨z12, h⟩ := h
      refine j_getR hX eX6_addPassenger_14 ff_LiftGroup_25 rfl t11 (by decide) z12 ?_
      refine j_nmR (fun p13 ep13 => ?_)
      replace h := h p13 ep13
      refine j_aload_n hX eX6_addPassenger_17 0 rfl ?_
      obtain ⟨z14, h⟩ := h
      refine j_getR hX eX6_addPassenger_18 ff_LiftGroup_12 rfl t11 (by decide) z14 ?_
      refine j_nmR (fun p15 ep15 => ?_)
      replace h := h p15 ep15
      obtain ⟨t18, h⟩ := h
      refine j_callV (a := p13) (q := (RX2, TX2, 3)) (r' := rX2_remember) (As := [.ref p15]) (rest := []) (d1 := d) hX eX6_addPassenger_21 mm_LiftGroup_62 rfl t18 (by decide) rfl h rfl (Nat.le_refl _) (Nat.zero_le _) (Nat.zero_le _) (Nat.le_of_ble_eq_true rfl) (fun vz9 Mz9 qz9 => ?_) (fun Ez9 Mz9 qz9 => ?_)
      · obtain ⟨M16, eMz9⟩ : ∃ M16, M16 = Mz9 := ⟨_, rfl⟩; subst eMz9
        obtain ⟨hxz9, h⟩ := qz9
        cases hxz9
        refine j_aload_n hX eX6_addPassenger_24 0 rfl ?_
        obtain ⟨t19, h⟩ := h
        obtain ⟨z20, h⟩ := h
        refine j_getR hX eX6_addPassenger_25 ff_LiftGroup_12 rfl t19 (by decide) z20 ?_
        refine j_nmR (fun p21 ep21 => ?_)
        replace h := h p21 ep21
        refine j_iload_n hX eX6_addPassenger_28 1 rfl ?_
        refine j_iload_n hX eX6_addPassenger_29 2 rfl ?_
        refine j_iload_n hX eX6_addPassenger_30 3 rfl ?_
        obtain ⟨t24, h⟩ := h
        refine j_callV (a := p21) (q := (RX0, TX0, 10)) (r' := rX0_add) (As := [.int a1, .int a2, .int a3]) (rest := []) (d1 := d) hX eX6_addPassenger_31 mm_LiftGroup_66 rfl t24 (by decide) rfl h rfl (Nat.le_refl _) (Nat.zero_le _) (Nat.zero_le _) (Nat.le_of_ble_eq_true rfl) (fun vz9 Mz9 qz9 => ?_) (fun Ez9 Mz9 qz9 => ?_)
        · obtain ⟨M22, eMz9⟩ : ∃ M22, M22 = Mz9 := ⟨_, rfl⟩; subst eMz9
          obtain ⟨v23, hxz9, h⟩ := qz9
          cases hxz9
          exact j_iret hX hM eX6_addPassenger_34 rfl h
        · obtain ⟨v23, hxz9, h⟩ := qz9
          cases hxz9
      · obtain ⟨hxz9, h⟩ := qz9
        cases hxz9
    · obtain ⟨M7, eMz9⟩ : ∃ M7, M7 = Mz9 := ⟨_, rfl⟩; subst eMz9
      rcases qz9 with ⟨hxz9, h⟩ | ⟨hxz9, h⟩ | ⟨hxz9, h⟩ | ⟨hxz9, h⟩ | ⟨hxz9, h⟩ <;> cases hxz9
      · exact am_thOut hX hM rfl h
      · exact am_thOut hX hM rfl h
      · exact am_thOut hX hM rfl h
      · exact am_thOut hX hM rfl h
  · obtain ⟨v5, hxz9, h⟩ := qz9
    cases hxz9

set_option maxHeartbeats 4000000 in
set_option maxRecDepth 20000 in
theorem vX6_removePassenger_0 {X : am_Cx} {G : am_Gx} {d : Nat} {Q : am_Q} (hX : am_ok X rX6_removePassenger G (d + 1)) (hM : am_me X rX6_removePassenger Q) {bc bs : Nat}  {a0 : Nat} {a1 : Int32} {M : am_Hp} (h : hp_T M (a0) = 7 ∧ (hp_R M 120 a0 ≠ 0 ∧ (∀ p3 : Nat, p3 = hp_R M 120 a0 → (hp_T M (p3) = 1 ∧ (am_CT G d rX0_refusalToRemove [.ref p3, .int a1] M 0 0 (fun oz9 M4 => ∃ v5 : Int32, oz9 = .inl (some (.int v5)) ∧ (1 ≤ bc ∧ (6 ≤ bs ∧ (am_CT G d rX6_throwIfRefused [.int v5] M4 1 6 (fun oz9 M7 => (oz9 = .inl none ∧ (hp_T M7 (a0) = 7 ∧ (hp_R M7 123 a0 ≠ 0 ∧ (∀ p13 : Nat, p13 = hp_R M7 123 a0 → (hp_R M7 120 a0 ≠ 0 ∧ (∀ p15 : Nat, p15 = hp_R M7 120 a0 → (hp_T M7 (p13) = 3 ∧ (am_CT G d rX2_remember [.ref p13, .ref p15] M7 0 0 (fun oz9 M16 => oz9 = .inl none ∧ (hp_T M16 (a0) = 7 ∧ (hp_R M16 120 a0 ≠ 0 ∧ (∀ p21 : Nat, p21 = hp_R M16 120 a0 → (hp_T M16 (p21) = 1 ∧ (am_CT G d rX0_remove [.ref p21, .int a1] M16 0 0 (fun oz9 M22 => ∃ v23 : Int32, oz9 = .inl (some (.int v23)) ∧ (Q (.inl (some (.int v23))) M22)))))))))))))))) ∨ ((oz9 = .inr "java/lang/IllegalArgumentException" ∧ Q (.inr "java/lang/IllegalArgumentException") M7)) ∨ ((oz9 = .inr "java/lang/IllegalStateException" ∧ Q (.inr "java/lang/IllegalStateException") M7)) ∨ ((oz9 = .inr "java/lang/IndexOutOfBoundsException" ∧ Q (.inr "java/lang/IndexOutOfBoundsException") M7)) ∨ ((oz9 = .inr "java/lang/UnsupportedOperationException" ∧ Q (.inr "java/lang/UnsupportedOperationException") M7)))))))))))) : am_J X 0 [(0, .ref a0), (1, .int a1)] [] M bc bs := by
  refine j_aload_n hX eX6_removePassenger_0 0 rfl ?_
  obtain ⟨t1, h⟩ := h
  obtain ⟨z2, h⟩ := h
  refine j_getR hX eX6_removePassenger_1 ff_LiftGroup_12 rfl t1 (by decide) z2 ?_
  refine j_nmR (fun p3 ep3 => ?_)
  replace h := h p3 ep3
  refine j_iload_n hX eX6_removePassenger_4 1 rfl ?_
  obtain ⟨t6, h⟩ := h
  refine j_callV (a := p3) (q := (RX0, TX0, 10)) (r' := rX0_refusalToRemove) (As := [.int a1]) (rest := []) (d1 := d) hX eX6_removePassenger_5 mm_LiftGroup_69 rfl t6 (by decide) rfl h rfl (Nat.le_refl _) (Nat.zero_le _) (Nat.zero_le _) (Nat.le_of_ble_eq_true rfl) (fun vz9 Mz9 qz9 => ?_) (fun Ez9 Mz9 qz9 => ?_)
  · obtain ⟨M4, eMz9⟩ : ∃ M4, M4 = Mz9 := ⟨_, rfl⟩; subst eMz9
    obtain ⟨v5, hxz9, h⟩ := qz9
    cases hxz9
    obtain ⟨b9, b10, h⟩ := h
    refine j_callS (r' := rX6_throwIfRefused) (As := [.int v5]) (rest := []) (d1 := d) hX eX6_removePassenger_8 mm_LiftGroup_58 rfl rfl h rfl (Nat.le_refl _) b9 b10 (Nat.le_of_ble_eq_true rfl) (fun vz9 Mz9 qz9 => ?_) (fun Ez9 Mz9 qz9 => ?_)
    · obtain ⟨M7, eMz9⟩ : ∃ M7, M7 = Mz9 := ⟨_, rfl⟩; subst eMz9
      rcases qz9 with ⟨hxz9, h⟩ | ⟨hxz9, h⟩ | ⟨hxz9, h⟩ | ⟨hxz9, h⟩ | ⟨hxz9, h⟩ <;> cases hxz9
      refine j_aload_n hX eX6_removePassenger_11 0 rfl ?_
      obtain ⟨t11, h⟩ := h
      obtain ⟨z12, h⟩ := h
      refine j_getR hX eX6_removePassenger_12 ff_LiftGroup_25 rfl t11 (by decide) z12 ?_
      refine j_nmR (fun p13 ep13 => ?_)
      replace h := h p13 ep13
      refine j_aload_n hX eX6_removePassenger_15 0 rfl ?_
      obtain ⟨z14, h⟩ := h
      refine j_getR hX eX6_removePassenger_16 ff_LiftGroup_12 rfl t11 (by decide) z14 ?_
      refine j_nmR (fun p15 ep15 => ?_)
      replace h := h p15 ep15
      obtain ⟨t18, h⟩ := h
      refine j_callV (a := p13) (q := (RX2, TX2, 3)) (r' := rX2_remember) (As := [.ref p15]) (rest := []) (d1 := d) hX eX6_removePassenger_19 mm_LiftGroup_62 rfl t18 (by decide) rfl h rfl (Nat.le_refl _) (Nat.zero_le _) (Nat.zero_le _) (Nat.le_of_ble_eq_true rfl) (fun vz9 Mz9 qz9 => ?_) (fun Ez9 Mz9 qz9 => ?_)
      · obtain ⟨M16, eMz9⟩ : ∃ M16, M16 = Mz9 := ⟨_, rfl⟩; subst eMz9
        obtain ⟨hxz9, h⟩ := qz9
        cases hxz9
        refine j_aload_n hX eX6_removePassenger_22 0 rfl ?_
        obtain ⟨t19, h⟩ := h
        obtain ⟨z20, h⟩ := h
        refine j_getR hX eX6_removePassenger_23 ff_LiftGroup_12 rfl t19 (by decide) z20 ?_
        refine j_nmR (fun p21 ep21 => ?_)
        replace h := h p21 ep21
        refine j_iload_n hX eX6_removePassenger_26 1 rfl ?_
        obtain ⟨t24, h⟩ := h
        refine j_callV (a := p21) (q := (RX0, TX0, 10)) (r' := rX0_remove) (As := [.int a1]) (rest := []) (d1 := d) hX eX6_removePassenger_27 mm_LiftGroup_73 rfl t24 (by decide) rfl h rfl (Nat.le_refl _) (Nat.zero_le _) (Nat.zero_le _) (Nat.le_of_ble_eq_true rfl) (fun vz9 Mz9 qz9 => ?_) (fun Ez9 Mz9 qz9 => ?_)
        · obtain ⟨M22, eMz9⟩ : ∃ M22, M22 = Mz9 := ⟨_, rfl⟩; subst eMz9
          obtain ⟨v23, hxz9, h⟩ := qz9
          cases hxz9
          exact j_iret hX hM eX6_removePassenger_30 rfl h
        · obtain ⟨v23, hxz9, h⟩ := qz9
          cases hxz9
      · obtain ⟨hxz9, h⟩ := qz9
        cases hxz9
    · obtain ⟨M7, eMz9⟩ : ∃ M7, M7 = Mz9 := ⟨_, rfl⟩; subst eMz9
      rcases qz9 with ⟨hxz9, h⟩ | ⟨hxz9, h⟩ | ⟨hxz9, h⟩ | ⟨hxz9, h⟩ | ⟨hxz9, h⟩ <;> cases hxz9
      · exact am_thOut hX hM rfl h
      · exact am_thOut hX hM rfl h
      · exact am_thOut hX hM rfl h
      · exact am_thOut hX hM rfl h
  · obtain ⟨v5, hxz9, h⟩ := qz9
    cases hxz9

set_option maxHeartbeats 4000000 in
set_option maxRecDepth 20000 in
theorem vX6_holdDoors_0 {X : am_Cx} {G : am_Gx} {d : Nat} {Q : am_Q} (hX : am_ok X rX6_holdDoors G (d + 1)) (hM : am_me X rX6_holdDoors Q) {bc bs : Nat}  {a0 : Nat} {a1 : Int32} {a2 : Int32} {M : am_Hp} (h : hp_T M (a0) = 7 ∧ (hp_R M 120 a0 ≠ 0 ∧ (∀ p3 : Nat, p3 = hp_R M 120 a0 → (hp_T M (p3) = 1 ∧ (am_CT G d rX0_refusalToHold [.ref p3, .int a1, .int a2] M 0 0 (fun oz9 M4 => ∃ v5 : Int32, oz9 = .inl (some (.int v5)) ∧ (1 ≤ bc ∧ (6 ≤ bs ∧ (am_CT G d rX6_throwIfRefused [.int v5] M4 1 6 (fun oz9 M7 => (oz9 = .inl none ∧ (hp_T M7 (a0) = 7 ∧ (hp_R M7 123 a0 ≠ 0 ∧ (∀ p13 : Nat, p13 = hp_R M7 123 a0 → (hp_R M7 120 a0 ≠ 0 ∧ (∀ p15 : Nat, p15 = hp_R M7 120 a0 → (hp_T M7 (p13) = 3 ∧ (am_CT G d rX2_remember [.ref p13, .ref p15] M7 0 0 (fun oz9 M16 => oz9 = .inl none ∧ (hp_T M16 (a0) = 7 ∧ (hp_R M16 120 a0 ≠ 0 ∧ (∀ p21 : Nat, p21 = hp_R M16 120 a0 → (hp_T M16 (p21) = 1 ∧ (am_CT G d rX0_hold [.ref p21, .int a1, .int a2] M16 0 0 (fun oz9 M22 => ∃ v23 : Int32, oz9 = .inl (some (.int v23)) ∧ (Q (.inl (some (.int v23))) M22)))))))))))))))) ∨ ((oz9 = .inr "java/lang/IllegalArgumentException" ∧ Q (.inr "java/lang/IllegalArgumentException") M7)) ∨ ((oz9 = .inr "java/lang/IllegalStateException" ∧ Q (.inr "java/lang/IllegalStateException") M7)) ∨ ((oz9 = .inr "java/lang/IndexOutOfBoundsException" ∧ Q (.inr "java/lang/IndexOutOfBoundsException") M7)) ∨ ((oz9 = .inr "java/lang/UnsupportedOperationException" ∧ Q (.inr "java/lang/UnsupportedOperationException") M7)))))))))))) : am_J X 0 [(0, .ref a0), (1, .int a1), (2, .int a2)] [] M bc bs := by
  refine j_aload_n hX eX6_holdDoors_0 0 rfl ?_
  obtain ⟨t1, h⟩ := h
  obtain ⟨z2, h⟩ := h
  refine j_getR hX eX6_holdDoors_1 ff_LiftGroup_12 rfl t1 (by decide) z2 ?_
  refine j_nmR (fun p3 ep3 => ?_)
  replace h := h p3 ep3
  refine j_iload_n hX eX6_holdDoors_4 1 rfl ?_
  refine j_iload_n hX eX6_holdDoors_5 2 rfl ?_
  obtain ⟨t6, h⟩ := h
  refine j_callV (a := p3) (q := (RX0, TX0, 10)) (r' := rX0_refusalToHold) (As := [.int a1, .int a2]) (rest := []) (d1 := d) hX eX6_holdDoors_6 mm_LiftGroup_76 rfl t6 (by decide) rfl h rfl (Nat.le_refl _) (Nat.zero_le _) (Nat.zero_le _) (Nat.le_of_ble_eq_true rfl) (fun vz9 Mz9 qz9 => ?_) (fun Ez9 Mz9 qz9 => ?_)
  · obtain ⟨M4, eMz9⟩ : ∃ M4, M4 = Mz9 := ⟨_, rfl⟩; subst eMz9
    obtain ⟨v5, hxz9, h⟩ := qz9
    cases hxz9
    obtain ⟨b9, b10, h⟩ := h
    refine j_callS (r' := rX6_throwIfRefused) (As := [.int v5]) (rest := []) (d1 := d) hX eX6_holdDoors_9 mm_LiftGroup_58 rfl rfl h rfl (Nat.le_refl _) b9 b10 (Nat.le_of_ble_eq_true rfl) (fun vz9 Mz9 qz9 => ?_) (fun Ez9 Mz9 qz9 => ?_)
    · obtain ⟨M7, eMz9⟩ : ∃ M7, M7 = Mz9 := ⟨_, rfl⟩; subst eMz9
      rcases qz9 with ⟨hxz9, h⟩ | ⟨hxz9, h⟩ | ⟨hxz9, h⟩ | ⟨hxz9, h⟩ | ⟨hxz9, h⟩ <;> cases hxz9
      refine j_aload_n hX eX6_holdDoors_12 0 rfl ?_
      obtain ⟨t11, h⟩ := h
      obtain ⟨z12, h⟩ := h
      refine j_getR hX eX6_holdDoors_13 ff_LiftGroup_25 rfl t11 (by decide) z12 ?_
      refine j_nmR (fun p13 ep13 => ?_)
      replace h := h p13 ep13
      refine j_aload_n hX eX6_holdDoors_16 0 rfl ?_
      obtain ⟨z14, h⟩ := h
      refine j_getR hX eX6_holdDoors_17 ff_LiftGroup_12 rfl t11 (by decide) z14 ?_
      refine j_nmR (fun p15 ep15 => ?_)
      replace h := h p15 ep15
      obtain ⟨t18, h⟩ := h
      refine j_callV (a := p13) (q := (RX2, TX2, 3)) (r' := rX2_remember) (As := [.ref p15]) (rest := []) (d1 := d) hX eX6_holdDoors_20 mm_LiftGroup_62 rfl t18 (by decide) rfl h rfl (Nat.le_refl _) (Nat.zero_le _) (Nat.zero_le _) (Nat.le_of_ble_eq_true rfl) (fun vz9 Mz9 qz9 => ?_) (fun Ez9 Mz9 qz9 => ?_)
      · obtain ⟨M16, eMz9⟩ : ∃ M16, M16 = Mz9 := ⟨_, rfl⟩; subst eMz9
        obtain ⟨hxz9, h⟩ := qz9
        cases hxz9
        refine j_aload_n hX eX6_holdDoors_23 0 rfl ?_
        obtain ⟨t19, h⟩ := h
        obtain ⟨z20, h⟩ := h
        refine j_getR hX eX6_holdDoors_24 ff_LiftGroup_12 rfl t19 (by decide) z20 ?_
        refine j_nmR (fun p21 ep21 => ?_)
        replace h := h p21 ep21
        refine j_iload_n hX eX6_holdDoors_27 1 rfl ?_
        refine j_iload_n hX eX6_holdDoors_28 2 rfl ?_
        obtain ⟨t24, h⟩ := h
        refine j_callV (a := p21) (q := (RX0, TX0, 10)) (r' := rX0_hold) (As := [.int a1, .int a2]) (rest := []) (d1 := d) hX eX6_holdDoors_29 mm_LiftGroup_80 rfl t24 (by decide) rfl h rfl (Nat.le_refl _) (Nat.zero_le _) (Nat.zero_le _) (Nat.le_of_ble_eq_true rfl) (fun vz9 Mz9 qz9 => ?_) (fun Ez9 Mz9 qz9 => ?_)
        · obtain ⟨M22, eMz9⟩ : ∃ M22, M22 = Mz9 := ⟨_, rfl⟩; subst eMz9
          obtain ⟨v23, hxz9, h⟩ := qz9
          cases hxz9
          exact j_iret hX hM eX6_holdDoors_32 rfl h
        · obtain ⟨v23, hxz9, h⟩ := qz9
          cases hxz9
      · obtain ⟨hxz9, h⟩ := qz9
        cases hxz9
    · obtain ⟨M7, eMz9⟩ : ∃ M7, M7 = Mz9 := ⟨_, rfl⟩; subst eMz9
      rcases qz9 with ⟨hxz9, h⟩ | ⟨hxz9, h⟩ | ⟨hxz9, h⟩ | ⟨hxz9, h⟩ | ⟨hxz9, h⟩ <;> cases hxz9
      · exact am_thOut hX hM rfl h
      · exact am_thOut hX hM rfl h
      · exact am_thOut hX hM rfl h
      · exact am_thOut hX hM rfl h
  · obtain ⟨v5, hxz9, h⟩ := qz9
    cases hxz9

set_option maxHeartbeats 4000000 in
set_option maxRecDepth 20000 in
theorem vX6_stopCar_0 {X : am_Cx} {G : am_Gx} {d : Nat} {Q : am_Q} (hX : am_ok X rX6_stopCar G (d + 1)) (hM : am_me X rX6_stopCar Q) {bc bs : Nat}  {a0 : Nat} {a1 : Int32} {M : am_Hp} (h : hp_T M (a0) = 7 ∧ (hp_R M 120 a0 ≠ 0 ∧ (∀ p3 : Nat, p3 = hp_R M 120 a0 → (hp_T M (p3) = 1 ∧ (am_CT G d rX0_refusalToStop [.ref p3, .int a1] M 0 0 (fun oz9 M4 => ∃ v5 : Int32, oz9 = .inl (some (.int v5)) ∧ (1 ≤ bc ∧ (6 ≤ bs ∧ (am_CT G d rX6_throwIfRefused [.int v5] M4 1 6 (fun oz9 M7 => (oz9 = .inl none ∧ (hp_T M7 (a0) = 7 ∧ (hp_R M7 123 a0 ≠ 0 ∧ (∀ p13 : Nat, p13 = hp_R M7 123 a0 → (hp_R M7 120 a0 ≠ 0 ∧ (∀ p15 : Nat, p15 = hp_R M7 120 a0 → (hp_T M7 (p13) = 3 ∧ (am_CT G d rX2_remember [.ref p13, .ref p15] M7 0 0 (fun oz9 M16 => oz9 = .inl none ∧ (hp_T M16 (a0) = 7 ∧ (hp_R M16 120 a0 ≠ 0 ∧ (∀ p21 : Nat, p21 = hp_R M16 120 a0 → (hp_T M16 (p21) = 1 ∧ (am_CT G d rX0_takeOutOfService [.ref p21, .int a1] M16 0 0 (fun oz9 M22 => ∃ v23 : Int32, oz9 = .inl (some (.int v23)) ∧ (Q (.inl (some (.int v23))) M22)))))))))))))))) ∨ ((oz9 = .inr "java/lang/IllegalArgumentException" ∧ Q (.inr "java/lang/IllegalArgumentException") M7)) ∨ ((oz9 = .inr "java/lang/IllegalStateException" ∧ Q (.inr "java/lang/IllegalStateException") M7)) ∨ ((oz9 = .inr "java/lang/IndexOutOfBoundsException" ∧ Q (.inr "java/lang/IndexOutOfBoundsException") M7)) ∨ ((oz9 = .inr "java/lang/UnsupportedOperationException" ∧ Q (.inr "java/lang/UnsupportedOperationException") M7)))))))))))) : am_J X 0 [(0, .ref a0), (1, .int a1)] [] M bc bs := by
  refine j_aload_n hX eX6_stopCar_0 0 rfl ?_
  obtain ⟨t1, h⟩ := h
  obtain ⟨z2, h⟩ := h
  refine j_getR hX eX6_stopCar_1 ff_LiftGroup_12 rfl t1 (by decide) z2 ?_
  refine j_nmR (fun p3 ep3 => ?_)
  replace h := h p3 ep3
  refine j_iload_n hX eX6_stopCar_4 1 rfl ?_
  obtain ⟨t6, h⟩ := h
  refine j_callV (a := p3) (q := (RX0, TX0, 10)) (r' := rX0_refusalToStop) (As := [.int a1]) (rest := []) (d1 := d) hX eX6_stopCar_5 mm_LiftGroup_83 rfl t6 (by decide) rfl h rfl (Nat.le_refl _) (Nat.zero_le _) (Nat.zero_le _) (Nat.le_of_ble_eq_true rfl) (fun vz9 Mz9 qz9 => ?_) (fun Ez9 Mz9 qz9 => ?_)
  · obtain ⟨M4, eMz9⟩ : ∃ M4, M4 = Mz9 := ⟨_, rfl⟩; subst eMz9
    obtain ⟨v5, hxz9, h⟩ := qz9
    cases hxz9
    obtain ⟨b9, b10, h⟩ := h
    refine j_callS (r' := rX6_throwIfRefused) (As := [.int v5]) (rest := []) (d1 := d) hX eX6_stopCar_8 mm_LiftGroup_58 rfl rfl h rfl (Nat.le_refl _) b9 b10 (Nat.le_of_ble_eq_true rfl) (fun vz9 Mz9 qz9 => ?_) (fun Ez9 Mz9 qz9 => ?_)
    · obtain ⟨M7, eMz9⟩ : ∃ M7, M7 = Mz9 := ⟨_, rfl⟩; subst eMz9
      rcases qz9 with ⟨hxz9, h⟩ | ⟨hxz9, h⟩ | ⟨hxz9, h⟩ | ⟨hxz9, h⟩ | ⟨hxz9, h⟩ <;> cases hxz9
      refine j_aload_n hX eX6_stopCar_11 0 rfl ?_
      obtain ⟨t11, h⟩ := h
      obtain ⟨z12, h⟩ := h
      refine j_getR hX eX6_stopCar_12 ff_LiftGroup_25 rfl t11 (by decide) z12 ?_
      refine j_nmR (fun p13 ep13 => ?_)
      replace h := h p13 ep13
      refine j_aload_n hX eX6_stopCar_15 0 rfl ?_
      obtain ⟨z14, h⟩ := h
      refine j_getR hX eX6_stopCar_16 ff_LiftGroup_12 rfl t11 (by decide) z14 ?_
      refine j_nmR (fun p15 ep15 => ?_)
      replace h := h p15 ep15
      obtain ⟨t18, h⟩ := h
      refine j_callV (a := p13) (q := (RX2, TX2, 3)) (r' := rX2_remember) (As := [.ref p15]) (rest := []) (d1 := d) hX eX6_stopCar_19 mm_LiftGroup_62 rfl t18 (by decide) rfl h rfl (Nat.le_refl _) (Nat.zero_le _) (Nat.zero_le _) (Nat.le_of_ble_eq_true rfl) (fun vz9 Mz9 qz9 => ?_) (fun Ez9 Mz9 qz9 => ?_)
      · obtain ⟨M16, eMz9⟩ : ∃ M16, M16 = Mz9 := ⟨_, rfl⟩; subst eMz9
        obtain ⟨hxz9, h⟩ := qz9
        cases hxz9
        refine j_aload_n hX eX6_stopCar_22 0 rfl ?_
        obtain ⟨t19, h⟩ := h
        obtain ⟨z20, h⟩ := h
        refine j_getR hX eX6_stopCar_23 ff_LiftGroup_12 rfl t19 (by decide) z20 ?_
        refine j_nmR (fun p21 ep21 => ?_)
        replace h := h p21 ep21
        refine j_iload_n hX eX6_stopCar_26 1 rfl ?_
        obtain ⟨t24, h⟩ := h
        refine j_callV (a := p21) (q := (RX0, TX0, 10)) (r' := rX0_takeOutOfService) (As := [.int a1]) (rest := []) (d1 := d) hX eX6_stopCar_27 mm_LiftGroup_86 rfl t24 (by decide) rfl h rfl (Nat.le_refl _) (Nat.zero_le _) (Nat.zero_le _) (Nat.le_of_ble_eq_true rfl) (fun vz9 Mz9 qz9 => ?_) (fun Ez9 Mz9 qz9 => ?_)
        · obtain ⟨M22, eMz9⟩ : ∃ M22, M22 = Mz9 := ⟨_, rfl⟩; subst eMz9
          obtain ⟨v23, hxz9, h⟩ := qz9
          cases hxz9
          exact j_iret hX hM eX6_stopCar_30 rfl h
        · obtain ⟨v23, hxz9, h⟩ := qz9
          cases hxz9
      · obtain ⟨hxz9, h⟩ := qz9
        cases hxz9
    · obtain ⟨M7, eMz9⟩ : ∃ M7, M7 = Mz9 := ⟨_, rfl⟩; subst eMz9
      rcases qz9 with ⟨hxz9, h⟩ | ⟨hxz9, h⟩ | ⟨hxz9, h⟩ | ⟨hxz9, h⟩ | ⟨hxz9, h⟩ <;> cases hxz9
      · exact am_thOut hX hM rfl h
      · exact am_thOut hX hM rfl h
      · exact am_thOut hX hM rfl h
      · exact am_thOut hX hM rfl h
  · obtain ⟨v5, hxz9, h⟩ := qz9
    cases hxz9

set_option maxHeartbeats 4000000 in
set_option maxRecDepth 20000 in
theorem vX6_startCar_0 {X : am_Cx} {G : am_Gx} {d : Nat} {Q : am_Q} (hX : am_ok X rX6_startCar G (d + 1)) (hM : am_me X rX6_startCar Q) {bc bs : Nat}  {a0 : Nat} {a1 : Int32} {M : am_Hp} (h : hp_T M (a0) = 7 ∧ (hp_R M 120 a0 ≠ 0 ∧ (∀ p3 : Nat, p3 = hp_R M 120 a0 → (hp_T M (p3) = 1 ∧ (am_CT G d rX0_refusalToStart [.ref p3, .int a1] M 0 0 (fun oz9 M4 => ∃ v5 : Int32, oz9 = .inl (some (.int v5)) ∧ (1 ≤ bc ∧ (6 ≤ bs ∧ (am_CT G d rX6_throwIfRefused [.int v5] M4 1 6 (fun oz9 M7 => (oz9 = .inl none ∧ (hp_T M7 (a0) = 7 ∧ (hp_R M7 123 a0 ≠ 0 ∧ (∀ p13 : Nat, p13 = hp_R M7 123 a0 → (hp_R M7 120 a0 ≠ 0 ∧ (∀ p15 : Nat, p15 = hp_R M7 120 a0 → (hp_T M7 (p13) = 3 ∧ (am_CT G d rX2_remember [.ref p13, .ref p15] M7 0 0 (fun oz9 M16 => oz9 = .inl none ∧ (hp_T M16 (a0) = 7 ∧ (hp_R M16 120 a0 ≠ 0 ∧ (∀ p21 : Nat, p21 = hp_R M16 120 a0 → (hp_T M16 (p21) = 1 ∧ (am_CT G d rX0_putInService [.ref p21, .int a1] M16 0 0 (fun oz9 M22 => ∃ v23 : Int32, oz9 = .inl (some (.int v23)) ∧ (Q (.inl (some (.int v23))) M22)))))))))))))))) ∨ ((oz9 = .inr "java/lang/IllegalArgumentException" ∧ Q (.inr "java/lang/IllegalArgumentException") M7)) ∨ ((oz9 = .inr "java/lang/IllegalStateException" ∧ Q (.inr "java/lang/IllegalStateException") M7)) ∨ ((oz9 = .inr "java/lang/IndexOutOfBoundsException" ∧ Q (.inr "java/lang/IndexOutOfBoundsException") M7)) ∨ ((oz9 = .inr "java/lang/UnsupportedOperationException" ∧ Q (.inr "java/lang/UnsupportedOperationException") M7)))))))))))) : am_J X 0 [(0, .ref a0), (1, .int a1)] [] M bc bs := by
  refine j_aload_n hX eX6_startCar_0 0 rfl ?_
  obtain ⟨t1, h⟩ := h
  obtain ⟨z2, h⟩ := h
  refine j_getR hX eX6_startCar_1 ff_LiftGroup_12 rfl t1 (by decide) z2 ?_
  refine j_nmR (fun p3 ep3 => ?_)
  replace h := h p3 ep3
  refine j_iload_n hX eX6_startCar_4 1 rfl ?_
  obtain ⟨t6, h⟩ := h
  refine j_callV (a := p3) (q := (RX0, TX0, 10)) (r' := rX0_refusalToStart) (As := [.int a1]) (rest := []) (d1 := d) hX eX6_startCar_5 mm_LiftGroup_89 rfl t6 (by decide) rfl h rfl (Nat.le_refl _) (Nat.zero_le _) (Nat.zero_le _) (Nat.le_of_ble_eq_true rfl) (fun vz9 Mz9 qz9 => ?_) (fun Ez9 Mz9 qz9 => ?_)
  · obtain ⟨M4, eMz9⟩ : ∃ M4, M4 = Mz9 := ⟨_, rfl⟩; subst eMz9
    obtain ⟨v5, hxz9, h⟩ := qz9
    cases hxz9
    obtain ⟨b9, b10, h⟩ := h
    refine j_callS (r' := rX6_throwIfRefused) (As := [.int v5]) (rest := []) (d1 := d) hX eX6_startCar_8 mm_LiftGroup_58 rfl rfl h rfl (Nat.le_refl _) b9 b10 (Nat.le_of_ble_eq_true rfl) (fun vz9 Mz9 qz9 => ?_) (fun Ez9 Mz9 qz9 => ?_)
    · obtain ⟨M7, eMz9⟩ : ∃ M7, M7 = Mz9 := ⟨_, rfl⟩; subst eMz9
      rcases qz9 with ⟨hxz9, h⟩ | ⟨hxz9, h⟩ | ⟨hxz9, h⟩ | ⟨hxz9, h⟩ | ⟨hxz9, h⟩ <;> cases hxz9
      refine j_aload_n hX eX6_startCar_11 0 rfl ?_
      obtain ⟨t11, h⟩ := h
      obtain ⟨z12, h⟩ := h
      refine j_getR hX eX6_startCar_12 ff_LiftGroup_25 rfl t11 (by decide) z12 ?_
      refine j_nmR (fun p13 ep13 => ?_)
      replace h := h p13 ep13
      refine j_aload_n hX eX6_startCar_15 0 rfl ?_
      obtain ⟨z14, h⟩ := h
      refine j_getR hX eX6_startCar_16 ff_LiftGroup_12 rfl t11 (by decide) z14 ?_
      refine j_nmR (fun p15 ep15 => ?_)
      replace h := h p15 ep15
      obtain ⟨t18, h⟩ := h
      refine j_callV (a := p13) (q := (RX2, TX2, 3)) (r' := rX2_remember) (As := [.ref p15]) (rest := []) (d1 := d) hX eX6_startCar_19 mm_LiftGroup_62 rfl t18 (by decide) rfl h rfl (Nat.le_refl _) (Nat.zero_le _) (Nat.zero_le _) (Nat.le_of_ble_eq_true rfl) (fun vz9 Mz9 qz9 => ?_) (fun Ez9 Mz9 qz9 => ?_)
      · obtain ⟨M16, eMz9⟩ : ∃ M16, M16 = Mz9 := ⟨_, rfl⟩; subst eMz9
        obtain ⟨hxz9, h⟩ := qz9
        cases hxz9
        refine j_aload_n hX eX6_startCar_22 0 rfl ?_
        obtain ⟨t19, h⟩ := h
        obtain ⟨z20, h⟩ := h
        refine j_getR hX eX6_startCar_23 ff_LiftGroup_12 rfl t19 (by decide) z20 ?_
        refine j_nmR (fun p21 ep21 => ?_)
        replace h := h p21 ep21
        refine j_iload_n hX eX6_startCar_26 1 rfl ?_
        obtain ⟨t24, h⟩ := h
        refine j_callV (a := p21) (q := (RX0, TX0, 10)) (r' := rX0_putInService) (As := [.int a1]) (rest := []) (d1 := d) hX eX6_startCar_27 mm_LiftGroup_92 rfl t24 (by decide) rfl h rfl (Nat.le_refl _) (Nat.zero_le _) (Nat.zero_le _) (Nat.le_of_ble_eq_true rfl) (fun vz9 Mz9 qz9 => ?_) (fun Ez9 Mz9 qz9 => ?_)
        · obtain ⟨M22, eMz9⟩ : ∃ M22, M22 = Mz9 := ⟨_, rfl⟩; subst eMz9
          obtain ⟨v23, hxz9, h⟩ := qz9
          cases hxz9
          exact j_iret hX hM eX6_startCar_30 rfl h
        · obtain ⟨v23, hxz9, h⟩ := qz9
          cases hxz9
      · obtain ⟨hxz9, h⟩ := qz9
        cases hxz9
    · obtain ⟨M7, eMz9⟩ : ∃ M7, M7 = Mz9 := ⟨_, rfl⟩; subst eMz9
      rcases qz9 with ⟨hxz9, h⟩ | ⟨hxz9, h⟩ | ⟨hxz9, h⟩ | ⟨hxz9, h⟩ | ⟨hxz9, h⟩ <;> cases hxz9
      · exact am_thOut hX hM rfl h
      · exact am_thOut hX hM rfl h
      · exact am_thOut hX hM rfl h
      · exact am_thOut hX hM rfl h
  · obtain ⟨v5, hxz9, h⟩ := qz9
    cases hxz9

set_option maxHeartbeats 4000000 in
set_option maxRecDepth 20000 in
theorem vX6_setCapacity_0 {X : am_Cx} {G : am_Gx} {d : Nat} {Q : am_Q} (hX : am_ok X rX6_setCapacity G (d + 1)) (hM : am_me X rX6_setCapacity Q) {bc bs : Nat}  {a0 : Nat} {a1 : Int32} {a2 : Int32} {M : am_Hp} (h : hp_T M (a0) = 7 ∧ (hp_R M 120 a0 ≠ 0 ∧ (∀ p3 : Nat, p3 = hp_R M 120 a0 → (hp_T M (p3) = 1 ∧ (am_CT G d rX0_refusalToLimit [.ref p3, .int a1, .int a2] M 0 0 (fun oz9 M4 => ∃ v5 : Int32, oz9 = .inl (some (.int v5)) ∧ (1 ≤ bc ∧ (6 ≤ bs ∧ (am_CT G d rX6_throwIfRefused [.int v5] M4 1 6 (fun oz9 M7 => (oz9 = .inl none ∧ (hp_T M7 (a0) = 7 ∧ (hp_R M7 123 a0 ≠ 0 ∧ (∀ p13 : Nat, p13 = hp_R M7 123 a0 → (hp_R M7 120 a0 ≠ 0 ∧ (∀ p15 : Nat, p15 = hp_R M7 120 a0 → (hp_T M7 (p13) = 3 ∧ (am_CT G d rX2_remember [.ref p13, .ref p15] M7 0 0 (fun oz9 M16 => oz9 = .inl none ∧ (hp_T M16 (a0) = 7 ∧ (hp_R M16 120 a0 ≠ 0 ∧ (∀ p21 : Nat, p21 = hp_R M16 120 a0 → (hp_T M16 (p21) = 1 ∧ (am_CT G d rX0_limit [.ref p21, .int a1, .int a2] M16 0 0 (fun oz9 M22 => ∃ v23 : Int32, oz9 = .inl (some (.int v23)) ∧ (Q (.inl (some (.int v23))) M22)))))))))))))))) ∨ ((oz9 = .inr "java/lang/IllegalArgumentException" ∧ Q (.inr "java/lang/IllegalArgumentException") M7)) ∨ ((oz9 = .inr "java/lang/IllegalStateException" ∧ Q (.inr "java/lang/IllegalStateException") M7)) ∨ ((oz9 = .inr "java/lang/IndexOutOfBoundsException" ∧ Q (.inr "java/lang/IndexOutOfBoundsException") M7)) ∨ ((oz9 = .inr "java/lang/UnsupportedOperationException" ∧ Q (.inr "java/lang/UnsupportedOperationException") M7)))))))))))) : am_J X 0 [(0, .ref a0), (1, .int a1), (2, .int a2)] [] M bc bs := by
  refine j_aload_n hX eX6_setCapacity_0 0 rfl ?_
  obtain ⟨t1, h⟩ := h
  obtain ⟨z2, h⟩ := h
  refine j_getR hX eX6_setCapacity_1 ff_LiftGroup_12 rfl t1 (by decide) z2 ?_
  refine j_nmR (fun p3 ep3 => ?_)
  replace h := h p3 ep3
  refine j_iload_n hX eX6_setCapacity_4 1 rfl ?_
  refine j_iload_n hX eX6_setCapacity_5 2 rfl ?_
  obtain ⟨t6, h⟩ := h
  refine j_callV (a := p3) (q := (RX0, TX0, 10)) (r' := rX0_refusalToLimit) (As := [.int a1, .int a2]) (rest := []) (d1 := d) hX eX6_setCapacity_6 mm_LiftGroup_95 rfl t6 (by decide) rfl h rfl (Nat.le_refl _) (Nat.zero_le _) (Nat.zero_le _) (Nat.le_of_ble_eq_true rfl) (fun vz9 Mz9 qz9 => ?_) (fun Ez9 Mz9 qz9 => ?_)
  · obtain ⟨M4, eMz9⟩ : ∃ M4, M4 = Mz9 := ⟨_, rfl⟩; subst eMz9
    obtain ⟨v5, hxz9, h⟩ := qz9
    cases hxz9
    obtain ⟨b9, b10, h⟩ := h
    refine j_callS (r' := rX6_throwIfRefused) (As := [.int v5]) (rest := []) (d1 := d) hX eX6_setCapacity_9 mm_LiftGroup_58 rfl rfl h rfl (Nat.le_refl _) b9 b10 (Nat.le_of_ble_eq_true rfl) (fun vz9 Mz9 qz9 => ?_) (fun Ez9 Mz9 qz9 => ?_)
    · obtain ⟨M7, eMz9⟩ : ∃ M7, M7 = Mz9 := ⟨_, rfl⟩; subst eMz9
      rcases qz9 with ⟨hxz9, h⟩ | ⟨hxz9, h⟩ | ⟨hxz9, h⟩ | ⟨hxz9, h⟩ | ⟨hxz9, h⟩ <;> cases hxz9
      refine j_aload_n hX eX6_setCapacity_12 0 rfl ?_
      obtain ⟨t11, h⟩ := h
      obtain ⟨z12, h⟩ := h
      refine j_getR hX eX6_setCapacity_13 ff_LiftGroup_25 rfl t11 (by decide) z12 ?_
      refine j_nmR (fun p13 ep13 => ?_)
      replace h := h p13 ep13
      refine j_aload_n hX eX6_setCapacity_16 0 rfl ?_
      obtain ⟨z14, h⟩ := h
      refine j_getR hX eX6_setCapacity_17 ff_LiftGroup_12 rfl t11 (by decide) z14 ?_
      refine j_nmR (fun p15 ep15 => ?_)
      replace h := h p15 ep15
      obtain ⟨t18, h⟩ := h
      refine j_callV (a := p13) (q := (RX2, TX2, 3)) (r' := rX2_remember) (As := [.ref p15]) (rest := []) (d1 := d) hX eX6_setCapacity_20 mm_LiftGroup_62 rfl t18 (by decide) rfl h rfl (Nat.le_refl _) (Nat.zero_le _) (Nat.zero_le _) (Nat.le_of_ble_eq_true rfl) (fun vz9 Mz9 qz9 => ?_) (fun Ez9 Mz9 qz9 => ?_)
      · obtain ⟨M16, eMz9⟩ : ∃ M16, M16 = Mz9 := ⟨_, rfl⟩; subst eMz9
        obtain ⟨hxz9, h⟩ := qz9
        cases hxz9
        refine j_aload_n hX eX6_setCapacity_23 0 rfl ?_
        obtain ⟨t19, h⟩ := h
        obtain ⟨z20, h⟩ := h
        refine j_getR hX eX6_setCapacity_24 ff_LiftGroup_12 rfl t19 (by decide) z20 ?_
        refine j_nmR (fun p21 ep21 => ?_)
        replace h := h p21 ep21
        refine j_iload_n hX eX6_setCapacity_27 1 rfl ?_
        refine j_iload_n hX eX6_setCapacity_28 2 rfl ?_
        obtain ⟨t24, h⟩ := h
        refine j_callV (a := p21) (q := (RX0, TX0, 10)) (r' := rX0_limit) (As := [.int a1, .int a2]) (rest := []) (d1 := d) hX eX6_setCapacity_29 mm_LiftGroup_98 rfl t24 (by decide) rfl h rfl (Nat.le_refl _) (Nat.zero_le _) (Nat.zero_le _) (Nat.le_of_ble_eq_true rfl) (fun vz9 Mz9 qz9 => ?_) (fun Ez9 Mz9 qz9 => ?_)
        · obtain ⟨M22, eMz9⟩ : ∃ M22, M22 = Mz9 := ⟨_, rfl⟩; subst eMz9
          obtain ⟨v23, hxz9, h⟩ := qz9
          cases hxz9
          exact j_iret hX hM eX6_setCapacity_32 rfl h
        · obtain ⟨v23, hxz9, h⟩ := qz9
          cases hxz9
      · obtain ⟨hxz9, h⟩ := qz9
        cases hxz9
    · obtain ⟨M7, eMz9⟩ : ∃ M7, M7 = Mz9 := ⟨_, rfl⟩; subst eMz9
      rcases qz9 with ⟨hxz9, h⟩ | ⟨hxz9, h⟩ | ⟨hxz9, h⟩ | ⟨hxz9, h⟩ | ⟨hxz9, h⟩ <;> cases hxz9
      · exact am_thOut hX hM rfl h
      · exact am_thOut hX hM rfl h
      · exact am_thOut hX hM rfl h
      · exact am_thOut hX hM rfl h
  · obtain ⟨v5, hxz9, h⟩ := qz9
    cases hxz9

set_option maxHeartbeats 4000000 in
set_option maxRecDepth 20000 in
theorem vX6_advance_0 {X : am_Cx} {G : am_Gx} {d : Nat} {Q : am_Q} (hX : am_ok X rX6_advance G (d + 1)) (hM : am_me X rX6_advance Q) {bc bs : Nat}  {a0 : Nat} {a1 : Int32} {M : am_Hp} (h : hp_T M (a0) = 7 ∧ (hp_R M 120 a0 ≠ 0 ∧ (∀ p3 : Nat, p3 = hp_R M 120 a0 → (hp_T M (p3) = 1 ∧ (am_CT G d rX0_refusalToPass [.ref p3, .int a1] M 0 0 (fun oz9 M4 => ∃ v5 : Int32, oz9 = .inl (some (.int v5)) ∧ (1 ≤ bc ∧ (6 ≤ bs ∧ (am_CT G d rX6_throwIfRefused [.int v5] M4 1 6 (fun oz9 M7 => (oz9 = .inl none ∧ (hp_T M7 (a0) = 7 ∧ (hp_R M7 123 a0 ≠ 0 ∧ (∀ p13 : Nat, p13 = hp_R M7 123 a0 → (hp_R M7 120 a0 ≠ 0 ∧ (∀ p15 : Nat, p15 = hp_R M7 120 a0 → (hp_T M7 (p13) = 3 ∧ (am_CT G d rX2_remember [.ref p13, .ref p15] M7 0 0 (fun oz9 M16 => oz9 = .inl none ∧ (hp_T M16 (a0) = 7 ∧ (hp_R M16 120 a0 ≠ 0 ∧ (∀ p21 : Nat, p21 = hp_R M16 120 a0 → (hp_T M16 (p21) = 1 ∧ (am_CT G d rX0_letPass [.ref p21, .int a1] M16 0 0 (fun oz9 M22 => ∃ v23 : Int32, oz9 = .inl (some (.int v23)) ∧ (Q (.inl (some (.int v23))) M22)))))))))))))))) ∨ ((oz9 = .inr "java/lang/IllegalArgumentException" ∧ Q (.inr "java/lang/IllegalArgumentException") M7)) ∨ ((oz9 = .inr "java/lang/IllegalStateException" ∧ Q (.inr "java/lang/IllegalStateException") M7)) ∨ ((oz9 = .inr "java/lang/IndexOutOfBoundsException" ∧ Q (.inr "java/lang/IndexOutOfBoundsException") M7)) ∨ ((oz9 = .inr "java/lang/UnsupportedOperationException" ∧ Q (.inr "java/lang/UnsupportedOperationException") M7)))))))))))) : am_J X 0 [(0, .ref a0), (1, .int a1)] [] M bc bs := by
  refine j_aload_n hX eX6_advance_0 0 rfl ?_
  obtain ⟨t1, h⟩ := h
  obtain ⟨z2, h⟩ := h
  refine j_getR hX eX6_advance_1 ff_LiftGroup_12 rfl t1 (by decide) z2 ?_
  refine j_nmR (fun p3 ep3 => ?_)
  replace h := h p3 ep3
  refine j_iload_n hX eX6_advance_4 1 rfl ?_
  obtain ⟨t6, h⟩ := h
  refine j_callV (a := p3) (q := (RX0, TX0, 10)) (r' := rX0_refusalToPass) (As := [.int a1]) (rest := []) (d1 := d) hX eX6_advance_5 mm_LiftGroup_101 rfl t6 (by decide) rfl h rfl (Nat.le_refl _) (Nat.zero_le _) (Nat.zero_le _) (Nat.le_of_ble_eq_true rfl) (fun vz9 Mz9 qz9 => ?_) (fun Ez9 Mz9 qz9 => ?_)
  · obtain ⟨M4, eMz9⟩ : ∃ M4, M4 = Mz9 := ⟨_, rfl⟩; subst eMz9
    obtain ⟨v5, hxz9, h⟩ := qz9
    cases hxz9
    obtain ⟨b9, b10, h⟩ := h
    refine j_callS (r' := rX6_throwIfRefused) (As := [.int v5]) (rest := []) (d1 := d) hX eX6_advance_8 mm_LiftGroup_58 rfl rfl h rfl (Nat.le_refl _) b9 b10 (Nat.le_of_ble_eq_true rfl) (fun vz9 Mz9 qz9 => ?_) (fun Ez9 Mz9 qz9 => ?_)
    · obtain ⟨M7, eMz9⟩ : ∃ M7, M7 = Mz9 := ⟨_, rfl⟩; subst eMz9
      rcases qz9 with ⟨hxz9, h⟩ | ⟨hxz9, h⟩ | ⟨hxz9, h⟩ | ⟨hxz9, h⟩ | ⟨hxz9, h⟩ <;> cases hxz9
      refine j_aload_n hX eX6_advance_11 0 rfl ?_
      obtain ⟨t11, h⟩ := h
      obtain ⟨z12, h⟩ := h
      refine j_getR hX eX6_advance_12 ff_LiftGroup_25 rfl t11 (by decide) z12 ?_
      refine j_nmR (fun p13 ep13 => ?_)
      replace h := h p13 ep13
      refine j_aload_n hX eX6_advance_15 0 rfl ?_
      obtain ⟨z14, h⟩ := h
      refine j_getR hX eX6_advance_16 ff_LiftGroup_12 rfl t11 (by decide) z14 ?_
      refine j_nmR (fun p15 ep15 => ?_)
      replace h := h p15 ep15
      obtain ⟨t18, h⟩ := h
      refine j_callV (a := p13) (q := (RX2, TX2, 3)) (r' := rX2_remember) (As := [.ref p15]) (rest := []) (d1 := d) hX eX6_advance_19 mm_LiftGroup_62 rfl t18 (by decide) rfl h rfl (Nat.le_refl _) (Nat.zero_le _) (Nat.zero_le _) (Nat.le_of_ble_eq_true rfl) (fun vz9 Mz9 qz9 => ?_) (fun Ez9 Mz9 qz9 => ?_)
      · obtain ⟨M16, eMz9⟩ : ∃ M16, M16 = Mz9 := ⟨_, rfl⟩; subst eMz9
        obtain ⟨hxz9, h⟩ := qz9
        cases hxz9
        refine j_aload_n hX eX6_advance_22 0 rfl ?_
        obtain ⟨t19, h⟩ := h
        obtain ⟨z20, h⟩ := h
        refine j_getR hX eX6_advance_23 ff_LiftGroup_12 rfl t19 (by decide) z20 ?_
        refine j_nmR (fun p21 ep21 => ?_)
        replace h := h p21 ep21
        refine j_iload_n hX eX6_advance_26 1 rfl ?_
        obtain ⟨t24, h⟩ := h
        refine j_callV (a := p21) (q := (RX0, TX0, 10)) (r' := rX0_letPass) (As := [.int a1]) (rest := []) (d1 := d) hX eX6_advance_27 mm_LiftGroup_104 rfl t24 (by decide) rfl h rfl (Nat.le_refl _) (Nat.zero_le _) (Nat.zero_le _) (Nat.le_of_ble_eq_true rfl) (fun vz9 Mz9 qz9 => ?_) (fun Ez9 Mz9 qz9 => ?_)
        · obtain ⟨M22, eMz9⟩ : ∃ M22, M22 = Mz9 := ⟨_, rfl⟩; subst eMz9
          obtain ⟨v23, hxz9, h⟩ := qz9
          cases hxz9
          exact j_iret hX hM eX6_advance_30 rfl h
        · obtain ⟨v23, hxz9, h⟩ := qz9
          cases hxz9
      · obtain ⟨hxz9, h⟩ := qz9
        cases hxz9
    · obtain ⟨M7, eMz9⟩ : ∃ M7, M7 = Mz9 := ⟨_, rfl⟩; subst eMz9
      rcases qz9 with ⟨hxz9, h⟩ | ⟨hxz9, h⟩ | ⟨hxz9, h⟩ | ⟨hxz9, h⟩ | ⟨hxz9, h⟩ <;> cases hxz9
      · exact am_thOut hX hM rfl h
      · exact am_thOut hX hM rfl h
      · exact am_thOut hX hM rfl h
      · exact am_thOut hX hM rfl h
  · obtain ⟨v5, hxz9, h⟩ := qz9
    cases hxz9

set_option maxHeartbeats 4000000 in
set_option maxRecDepth 20000 in
theorem vX6_time_0 {X : am_Cx} {G : am_Gx} {d : Nat} {Q : am_Q} (hX : am_ok X rX6_time G (d + 1)) (hM : am_me X rX6_time Q) {bc bs : Nat}  {a0 : Nat} {M : am_Hp} (h : hp_T M (a0) = 7 ∧ (hp_R M 120 a0 ≠ 0 ∧ (∀ p3 : Nat, p3 = hp_R M 120 a0 → (hp_T M (p3) = 1 ∧ (Q (.inl (some (.int (hp_I M 5 p3)))) M))))) : am_J X 0 [(0, .ref a0)] [] M bc bs := by
  refine j_aload_n hX eX6_time_0 0 rfl ?_
  obtain ⟨t1, h⟩ := h
  obtain ⟨z2, h⟩ := h
  refine j_getR hX eX6_time_1 ff_LiftGroup_12 rfl t1 (by decide) z2 ?_
  refine j_nmR (fun p3 ep3 => ?_)
  replace h := h p3 ep3
  obtain ⟨t4, h⟩ := h
  refine j_getI hX eX6_time_4 ff_LiftGroup_107 rfl t4 (by decide) ?_
  exact j_iret hX hM eX6_time_7 rfl h

set_option maxHeartbeats 4000000 in
set_option maxRecDepth 20000 in
theorem vX6_floor_0 {X : am_Cx} {G : am_Gx} {d : Nat} {Q : am_Q} (hX : am_ok X rX6_floor G (d + 1)) (hM : am_me X rX6_floor Q) {bc bs : Nat}  {a0 : Nat} {a1 : Int32} {M : am_Hp} (h : 1 ≤ bc ∧ (6 ≤ bs ∧ (am_CT G d rX6_checkCar [.int a1] M 1 6 (fun oz9 M1 => (oz9 = .inl none ∧ (hp_T M1 (a0) = 7 ∧ (hp_R M1 120 a0 ≠ 0 ∧ (∀ p7 : Nat, p7 = hp_R M1 120 a0 → (hp_T M1 (p7) = 1 ∧ (hp_R M1 0 p7 ≠ 0 ∧ (∀ p10 : Nat, p10 = hp_R M1 0 p7 → (hp_T M1 (p10) = 26 ∧ (vp_in a1 (hp_N M1 p10) ∧ (hp_Q M1 p10 (a1).toNatClampNeg ≠ 0 ∧ (∀ p14 : Nat, p14 = hp_Q M1 p10 (a1).toNatClampNeg → (hp_T M1 (p14) = 2 ∧ (Q (.inl (some (.int (hp_I M1 20 p14)))) M1))))))))))))) ∨ ((oz9 = .inr "java/lang/IndexOutOfBoundsException" ∧ Q (.inr "java/lang/IndexOutOfBoundsException") M1)))))) : am_J X 0 [(0, .ref a0), (1, .int a1)] [] M bc bs := by
  refine j_iload_n hX eX6_floor_0 1 rfl ?_
  obtain ⟨b3, b4, h⟩ := h
  refine j_callS (r' := rX6_checkCar) (As := [.int a1]) (rest := []) (d1 := d) hX eX6_floor_1 mm_LiftGroup_110 rfl rfl h rfl (Nat.le_refl _) b3 b4 (Nat.le_of_ble_eq_true rfl) (fun vz9 Mz9 qz9 => ?_) (fun Ez9 Mz9 qz9 => ?_)
  · obtain ⟨M1, eMz9⟩ : ∃ M1, M1 = Mz9 := ⟨_, rfl⟩; subst eMz9
    rcases qz9 with ⟨hxz9, h⟩ | ⟨hxz9, h⟩ <;> cases hxz9
    refine j_aload_n hX eX6_floor_4 0 rfl ?_
    obtain ⟨t5, h⟩ := h
    obtain ⟨z6, h⟩ := h
    refine j_getR hX eX6_floor_5 ff_LiftGroup_12 rfl t5 (by decide) z6 ?_
    refine j_nmR (fun p7 ep7 => ?_)
    replace h := h p7 ep7
    obtain ⟨t8, h⟩ := h
    obtain ⟨z9, h⟩ := h
    refine j_getR hX eX6_floor_8 ff_LiftGroup_113 rfl t8 (by decide) z9 ?_
    refine j_nmR (fun p10 ep10 => ?_)
    replace h := h p10 ep10
    refine j_iload_n hX eX6_floor_11 1 rfl ?_
    obtain ⟨t11, h⟩ := h
    obtain ⟨i12, h⟩ := h
    obtain ⟨z13, h⟩ := h
    refine j_aald26 hX eX6_floor_12 t11 i12 z13 ?_
    refine j_nmR (fun p14 ep14 => ?_)
    replace h := h p14 ep14
    obtain ⟨t15, h⟩ := h
    refine j_getI hX eX6_floor_13 ff_LiftGroup_117 rfl t15 (by decide) ?_
    exact j_iret hX hM eX6_floor_16 rfl h
  · obtain ⟨M1, eMz9⟩ : ∃ M1, M1 = Mz9 := ⟨_, rfl⟩; subst eMz9
    rcases qz9 with ⟨hxz9, h⟩ | ⟨hxz9, h⟩ <;> cases hxz9
    exact am_thOut hX hM rfl h

set_option maxHeartbeats 4000000 in
set_option maxRecDepth 20000 in
theorem vX6_direction_0 {X : am_Cx} {G : am_Gx} {d : Nat} {Q : am_Q} (hX : am_ok X rX6_direction G (d + 1)) (hM : am_me X rX6_direction Q) {bc bs : Nat}  {a0 : Nat} {a1 : Int32} {M : am_Hp} (h : 1 ≤ bc ∧ (6 ≤ bs ∧ (am_CT G d rX6_checkCar [.int a1] M 1 6 (fun oz9 M1 => (oz9 = .inl none ∧ (hp_T M1 (a0) = 7 ∧ (hp_R M1 120 a0 ≠ 0 ∧ (∀ p7 : Nat, p7 = hp_R M1 120 a0 → (hp_T M1 (p7) = 1 ∧ (hp_R M1 0 p7 ≠ 0 ∧ (∀ p10 : Nat, p10 = hp_R M1 0 p7 → (hp_T M1 (p10) = 26 ∧ (vp_in a1 (hp_N M1 p10) ∧ (hp_Q M1 p10 (a1).toNatClampNeg ≠ 0 ∧ (∀ p14 : Nat, p14 = hp_Q M1 p10 (a1).toNatClampNeg → (hp_T M1 (p14) = 2 ∧ (Q (.inl (some (.int (hp_I M1 21 p14)))) M1))))))))))))) ∨ ((oz9 = .inr "java/lang/IndexOutOfBoundsException" ∧ Q (.inr "java/lang/IndexOutOfBoundsException") M1)))))) : am_J X 0 [(0, .ref a0), (1, .int a1)] [] M bc bs := by
  refine j_iload_n hX eX6_direction_0 1 rfl ?_
  obtain ⟨b3, b4, h⟩ := h
  refine j_callS (r' := rX6_checkCar) (As := [.int a1]) (rest := []) (d1 := d) hX eX6_direction_1 mm_LiftGroup_110 rfl rfl h rfl (Nat.le_refl _) b3 b4 (Nat.le_of_ble_eq_true rfl) (fun vz9 Mz9 qz9 => ?_) (fun Ez9 Mz9 qz9 => ?_)
  · obtain ⟨M1, eMz9⟩ : ∃ M1, M1 = Mz9 := ⟨_, rfl⟩; subst eMz9
    rcases qz9 with ⟨hxz9, h⟩ | ⟨hxz9, h⟩ <;> cases hxz9
    refine j_aload_n hX eX6_direction_4 0 rfl ?_
    obtain ⟨t5, h⟩ := h
    obtain ⟨z6, h⟩ := h
    refine j_getR hX eX6_direction_5 ff_LiftGroup_12 rfl t5 (by decide) z6 ?_
    refine j_nmR (fun p7 ep7 => ?_)
    replace h := h p7 ep7
    obtain ⟨t8, h⟩ := h
    obtain ⟨z9, h⟩ := h
    refine j_getR hX eX6_direction_8 ff_LiftGroup_113 rfl t8 (by decide) z9 ?_
    refine j_nmR (fun p10 ep10 => ?_)
    replace h := h p10 ep10
    refine j_iload_n hX eX6_direction_11 1 rfl ?_
    obtain ⟨t11, h⟩ := h
    obtain ⟨i12, h⟩ := h
    obtain ⟨z13, h⟩ := h
    refine j_aald26 hX eX6_direction_12 t11 i12 z13 ?_
    refine j_nmR (fun p14 ep14 => ?_)
    replace h := h p14 ep14
    obtain ⟨t15, h⟩ := h
    refine j_getI hX eX6_direction_13 ff_LiftGroup_122 rfl t15 (by decide) ?_
    exact j_iret hX hM eX6_direction_16 rfl h
  · obtain ⟨M1, eMz9⟩ : ∃ M1, M1 = Mz9 := ⟨_, rfl⟩; subst eMz9
    rcases qz9 with ⟨hxz9, h⟩ | ⟨hxz9, h⟩ <;> cases hxz9
    exact am_thOut hX hM rfl h

set_option maxHeartbeats 4000000 in
set_option maxRecDepth 20000 in
theorem vX6_capacity_0 {X : am_Cx} {G : am_Gx} {d : Nat} {Q : am_Q} (hX : am_ok X rX6_capacity G (d + 1)) (hM : am_me X rX6_capacity Q) {bc bs : Nat}  {a0 : Nat} {a1 : Int32} {M : am_Hp} (h : 1 ≤ bc ∧ (6 ≤ bs ∧ (am_CT G d rX6_checkCar [.int a1] M 1 6 (fun oz9 M1 => (oz9 = .inl none ∧ (hp_T M1 (a0) = 7 ∧ (hp_R M1 120 a0 ≠ 0 ∧ (∀ p7 : Nat, p7 = hp_R M1 120 a0 → (hp_T M1 (p7) = 1 ∧ (hp_R M1 0 p7 ≠ 0 ∧ (∀ p10 : Nat, p10 = hp_R M1 0 p7 → (hp_T M1 (p10) = 26 ∧ (vp_in a1 (hp_N M1 p10) ∧ (hp_Q M1 p10 (a1).toNatClampNeg ≠ 0 ∧ (∀ p14 : Nat, p14 = hp_Q M1 p10 (a1).toNatClampNeg → (hp_T M1 (p14) = 2 ∧ (Q (.inl (some (.int (hp_I M1 22 p14)))) M1))))))))))))) ∨ ((oz9 = .inr "java/lang/IndexOutOfBoundsException" ∧ Q (.inr "java/lang/IndexOutOfBoundsException") M1)))))) : am_J X 0 [(0, .ref a0), (1, .int a1)] [] M bc bs := by
  refine j_iload_n hX eX6_capacity_0 1 rfl ?_
  obtain ⟨b3, b4, h⟩ := h
  refine j_callS (r' := rX6_checkCar) (As := [.int a1]) (rest := []) (d1 := d) hX eX6_capacity_1 mm_LiftGroup_110 rfl rfl h rfl (Nat.le_refl _) b3 b4 (Nat.le_of_ble_eq_true rfl) (fun vz9 Mz9 qz9 => ?_) (fun Ez9 Mz9 qz9 => ?_)
  · obtain ⟨M1, eMz9⟩ : ∃ M1, M1 = Mz9 := ⟨_, rfl⟩; subst eMz9
    rcases qz9 with ⟨hxz9, h⟩ | ⟨hxz9, h⟩ <;> cases hxz9
    refine j_aload_n hX eX6_capacity_4 0 rfl ?_
    obtain ⟨t5, h⟩ := h
    obtain ⟨z6, h⟩ := h
    refine j_getR hX eX6_capacity_5 ff_LiftGroup_12 rfl t5 (by decide) z6 ?_
    refine j_nmR (fun p7 ep7 => ?_)
    replace h := h p7 ep7
    obtain ⟨t8, h⟩ := h
    obtain ⟨z9, h⟩ := h
    refine j_getR hX eX6_capacity_8 ff_LiftGroup_113 rfl t8 (by decide) z9 ?_
    refine j_nmR (fun p10 ep10 => ?_)
    replace h := h p10 ep10
    refine j_iload_n hX eX6_capacity_11 1 rfl ?_
    obtain ⟨t11, h⟩ := h
    obtain ⟨i12, h⟩ := h
    obtain ⟨z13, h⟩ := h
    refine j_aald26 hX eX6_capacity_12 t11 i12 z13 ?_
    refine j_nmR (fun p14 ep14 => ?_)
    replace h := h p14 ep14
    obtain ⟨t15, h⟩ := h
    refine j_getI hX eX6_capacity_13 ff_LiftGroup_125 rfl t15 (by decide) ?_
    exact j_iret hX hM eX6_capacity_16 rfl h
  · obtain ⟨M1, eMz9⟩ : ∃ M1, M1 = Mz9 := ⟨_, rfl⟩; subst eMz9
    rcases qz9 with ⟨hxz9, h⟩ | ⟨hxz9, h⟩ <;> cases hxz9
    exact am_thOut hX hM rfl h

set_option maxHeartbeats 4000000 in
set_option maxRecDepth 20000 in
theorem vX6_load_0 {X : am_Cx} {G : am_Gx} {d : Nat} {Q : am_Q} (hX : am_ok X rX6_load G (d + 1)) (hM : am_me X rX6_load Q) {bc bs : Nat}  {a0 : Nat} {a1 : Int32} {M : am_Hp} (h : 1 ≤ bc ∧ (6 ≤ bs ∧ (am_CT G d rX6_checkCar [.int a1] M 1 6 (fun oz9 M1 => (oz9 = .inl none ∧ (hp_T M1 (a0) = 7 ∧ (hp_R M1 120 a0 ≠ 0 ∧ (∀ p7 : Nat, p7 = hp_R M1 120 a0 → (hp_T M1 (p7) = 1 ∧ (hp_R M1 0 p7 ≠ 0 ∧ (∀ p10 : Nat, p10 = hp_R M1 0 p7 → (hp_T M1 (p10) = 26 ∧ (vp_in a1 (hp_N M1 p10) ∧ (hp_Q M1 p10 (a1).toNatClampNeg ≠ 0 ∧ (∀ p14 : Nat, p14 = hp_Q M1 p10 (a1).toNatClampNeg → (hp_T M1 (p14) = 2 ∧ (Q (.inl (some (.int (hp_I M1 23 p14)))) M1))))))))))))) ∨ ((oz9 = .inr "java/lang/IndexOutOfBoundsException" ∧ Q (.inr "java/lang/IndexOutOfBoundsException") M1)))))) : am_J X 0 [(0, .ref a0), (1, .int a1)] [] M bc bs := by
  refine j_iload_n hX eX6_load_0 1 rfl ?_
  obtain ⟨b3, b4, h⟩ := h
  refine j_callS (r' := rX6_checkCar) (As := [.int a1]) (rest := []) (d1 := d) hX eX6_load_1 mm_LiftGroup_110 rfl rfl h rfl (Nat.le_refl _) b3 b4 (Nat.le_of_ble_eq_true rfl) (fun vz9 Mz9 qz9 => ?_) (fun Ez9 Mz9 qz9 => ?_)
  · obtain ⟨M1, eMz9⟩ : ∃ M1, M1 = Mz9 := ⟨_, rfl⟩; subst eMz9
    rcases qz9 with ⟨hxz9, h⟩ | ⟨hxz9, h⟩ <;> cases hxz9
    refine j_aload_n hX eX6_load_4 0 rfl ?_
    obtain ⟨t5, h⟩ := h
    obtain ⟨z6, h⟩ := h
    refine j_getR hX eX6_load_5 ff_LiftGroup_12 rfl t5 (by decide) z6 ?_
    refine j_nmR (fun p7 ep7 => ?_)
    replace h := h p7 ep7
    obtain ⟨t8, h⟩ := h
    obtain ⟨z9, h⟩ := h
    refine j_getR hX eX6_load_8 ff_LiftGroup_113 rfl t8 (by decide) z9 ?_
    refine j_nmR (fun p10 ep10 => ?_)
    replace h := h p10 ep10
    refine j_iload_n hX eX6_load_11 1 rfl ?_
    obtain ⟨t11, h⟩ := h
    obtain ⟨i12, h⟩ := h
    obtain ⟨z13, h⟩ := h
    refine j_aald26 hX eX6_load_12 t11 i12 z13 ?_
    refine j_nmR (fun p14 ep14 => ?_)
    replace h := h p14 ep14
    obtain ⟨t15, h⟩ := h
    refine j_getI hX eX6_load_13 ff_LiftGroup_128 rfl t15 (by decide) ?_
    exact j_iret hX hM eX6_load_16 rfl h
  · obtain ⟨M1, eMz9⟩ : ∃ M1, M1 = Mz9 := ⟨_, rfl⟩; subst eMz9
    rcases qz9 with ⟨hxz9, h⟩ | ⟨hxz9, h⟩ <;> cases hxz9
    exact am_thOut hX hM rfl h

set_option maxHeartbeats 4000000 in
set_option maxRecDepth 20000 in
theorem vX6_passengersIn_0 {X : am_Cx} {G : am_Gx} {d : Nat} {Q : am_Q} (hX : am_ok X rX6_passengersIn G (d + 1)) (hM : am_me X rX6_passengersIn Q) {bc bs : Nat}  {a0 : Nat} {a1 : Int32} {M : am_Hp} (h : 1 ≤ bc ∧ (6 ≤ bs ∧ (am_CT G d rX6_checkCar [.int a1] M 1 6 (fun oz9 M1 => (oz9 = .inl none ∧ (hp_T M1 (a0) = 7 ∧ (hp_R M1 120 a0 ≠ 0 ∧ (∀ p7 : Nat, p7 = hp_R M1 120 a0 → (hp_T M1 (p7) = 1 ∧ (hp_R M1 0 p7 ≠ 0 ∧ (∀ p10 : Nat, p10 = hp_R M1 0 p7 → (hp_T M1 (p10) = 26 ∧ (vp_in a1 (hp_N M1 p10) ∧ (hp_Q M1 p10 (a1).toNatClampNeg ≠ 0 ∧ (∀ p14 : Nat, p14 = hp_Q M1 p10 (a1).toNatClampNeg → (hp_T M1 (p14) = 2 ∧ (Q (.inl (some (.int (hp_I M1 24 p14)))) M1))))))))))))) ∨ ((oz9 = .inr "java/lang/IndexOutOfBoundsException" ∧ Q (.inr "java/lang/IndexOutOfBoundsException") M1)))))) : am_J X 0 [(0, .ref a0), (1, .int a1)] [] M bc bs := by
  refine j_iload_n hX eX6_passengersIn_0 1 rfl ?_
  obtain ⟨b3, b4, h⟩ := h
  refine j_callS (r' := rX6_checkCar) (As := [.int a1]) (rest := []) (d1 := d) hX eX6_passengersIn_1 mm_LiftGroup_110 rfl rfl h rfl (Nat.le_refl _) b3 b4 (Nat.le_of_ble_eq_true rfl) (fun vz9 Mz9 qz9 => ?_) (fun Ez9 Mz9 qz9 => ?_)
  · obtain ⟨M1, eMz9⟩ : ∃ M1, M1 = Mz9 := ⟨_, rfl⟩; subst eMz9
    rcases qz9 with ⟨hxz9, h⟩ | ⟨hxz9, h⟩ <;> cases hxz9
    refine j_aload_n hX eX6_passengersIn_4 0 rfl ?_
    obtain ⟨t5, h⟩ := h
    obtain ⟨z6, h⟩ := h
    refine j_getR hX eX6_passengersIn_5 ff_LiftGroup_12 rfl t5 (by decide) z6 ?_
    refine j_nmR (fun p7 ep7 => ?_)
    replace h := h p7 ep7
    obtain ⟨t8, h⟩ := h
    obtain ⟨z9, h⟩ := h
    refine j_getR hX eX6_passengersIn_8 ff_LiftGroup_113 rfl t8 (by decide) z9 ?_
    refine j_nmR (fun p10 ep10 => ?_)
    replace h := h p10 ep10
    refine j_iload_n hX eX6_passengersIn_11 1 rfl ?_
    obtain ⟨t11, h⟩ := h
    obtain ⟨i12, h⟩ := h
    obtain ⟨z13, h⟩ := h
    refine j_aald26 hX eX6_passengersIn_12 t11 i12 z13 ?_
    refine j_nmR (fun p14 ep14 => ?_)
    replace h := h p14 ep14
    obtain ⟨t15, h⟩ := h
    refine j_getI hX eX6_passengersIn_13 ff_LiftGroup_131 rfl t15 (by decide) ?_
    exact j_iret hX hM eX6_passengersIn_16 rfl h
  · obtain ⟨M1, eMz9⟩ : ∃ M1, M1 = Mz9 := ⟨_, rfl⟩; subst eMz9
    rcases qz9 with ⟨hxz9, h⟩ | ⟨hxz9, h⟩ <;> cases hxz9
    exact am_thOut hX hM rfl h

set_option maxHeartbeats 4000000 in
set_option maxRecDepth 20000 in
theorem vX6_doorSteps_0 {X : am_Cx} {G : am_Gx} {d : Nat} {Q : am_Q} (hX : am_ok X rX6_doorSteps G (d + 1)) (hM : am_me X rX6_doorSteps Q) {bc bs : Nat}  {a0 : Nat} {a1 : Int32} {M : am_Hp} (h : 1 ≤ bc ∧ (6 ≤ bs ∧ (am_CT G d rX6_checkCar [.int a1] M 1 6 (fun oz9 M1 => (oz9 = .inl none ∧ (hp_T M1 (a0) = 7 ∧ (hp_R M1 120 a0 ≠ 0 ∧ (∀ p7 : Nat, p7 = hp_R M1 120 a0 → (hp_T M1 (p7) = 1 ∧ (hp_R M1 0 p7 ≠ 0 ∧ (∀ p10 : Nat, p10 = hp_R M1 0 p7 → (hp_T M1 (p10) = 26 ∧ (vp_in a1 (hp_N M1 p10) ∧ (hp_Q M1 p10 (a1).toNatClampNeg ≠ 0 ∧ (∀ p14 : Nat, p14 = hp_Q M1 p10 (a1).toNatClampNeg → (hp_T M1 (p14) = 2 ∧ (Q (.inl (some (.int (hp_I M1 25 p14)))) M1))))))))))))) ∨ ((oz9 = .inr "java/lang/IndexOutOfBoundsException" ∧ Q (.inr "java/lang/IndexOutOfBoundsException") M1)))))) : am_J X 0 [(0, .ref a0), (1, .int a1)] [] M bc bs := by
  refine j_iload_n hX eX6_doorSteps_0 1 rfl ?_
  obtain ⟨b3, b4, h⟩ := h
  refine j_callS (r' := rX6_checkCar) (As := [.int a1]) (rest := []) (d1 := d) hX eX6_doorSteps_1 mm_LiftGroup_110 rfl rfl h rfl (Nat.le_refl _) b3 b4 (Nat.le_of_ble_eq_true rfl) (fun vz9 Mz9 qz9 => ?_) (fun Ez9 Mz9 qz9 => ?_)
  · obtain ⟨M1, eMz9⟩ : ∃ M1, M1 = Mz9 := ⟨_, rfl⟩; subst eMz9
    rcases qz9 with ⟨hxz9, h⟩ | ⟨hxz9, h⟩ <;> cases hxz9
    refine j_aload_n hX eX6_doorSteps_4 0 rfl ?_
    obtain ⟨t5, h⟩ := h
    obtain ⟨z6, h⟩ := h
    refine j_getR hX eX6_doorSteps_5 ff_LiftGroup_12 rfl t5 (by decide) z6 ?_
    refine j_nmR (fun p7 ep7 => ?_)
    replace h := h p7 ep7
    obtain ⟨t8, h⟩ := h
    obtain ⟨z9, h⟩ := h
    refine j_getR hX eX6_doorSteps_8 ff_LiftGroup_113 rfl t8 (by decide) z9 ?_
    refine j_nmR (fun p10 ep10 => ?_)
    replace h := h p10 ep10
    refine j_iload_n hX eX6_doorSteps_11 1 rfl ?_
    obtain ⟨t11, h⟩ := h
    obtain ⟨i12, h⟩ := h
    obtain ⟨z13, h⟩ := h
    refine j_aald26 hX eX6_doorSteps_12 t11 i12 z13 ?_
    refine j_nmR (fun p14 ep14 => ?_)
    replace h := h p14 ep14
    obtain ⟨t15, h⟩ := h
    refine j_getI hX eX6_doorSteps_13 ff_LiftGroup_137 rfl t15 (by decide) ?_
    exact j_iret hX hM eX6_doorSteps_16 rfl h
  · obtain ⟨M1, eMz9⟩ : ∃ M1, M1 = Mz9 := ⟨_, rfl⟩; subst eMz9
    rcases qz9 with ⟨hxz9, h⟩ | ⟨hxz9, h⟩ <;> cases hxz9
    exact am_thOut hX hM rfl h

set_option maxHeartbeats 4000000 in
set_option maxRecDepth 20000 in
theorem vX6_isInService_0 {X : am_Cx} {G : am_Gx} {d : Nat} {Q : am_Q} (hX : am_ok X rX6_isInService G (d + 1)) (hM : am_me X rX6_isInService Q) {bc bs : Nat}  {a0 : Nat} {a1 : Int32} {M : am_Hp} (h : 1 ≤ bc ∧ (6 ≤ bs ∧ (am_CT G d rX6_checkCar [.int a1] M 1 6 (fun oz9 M1 => (oz9 = .inl none ∧ (hp_T M1 (a0) = 7 ∧ (hp_R M1 120 a0 ≠ 0 ∧ (∀ p7 : Nat, p7 = hp_R M1 120 a0 → (hp_T M1 (p7) = 1 ∧ (hp_R M1 0 p7 ≠ 0 ∧ (∀ p10 : Nat, p10 = hp_R M1 0 p7 → (hp_T M1 (p10) = 26 ∧ (vp_in a1 (hp_N M1 p10) ∧ (hp_Q M1 p10 (a1).toNatClampNeg ≠ 0 ∧ (∀ p14 : Nat, p14 = hp_Q M1 p10 (a1).toNatClampNeg → (hp_T M1 (p14) = 2 ∧ (am_bo (hp_I M1 27 p14) ∧ (Q (.inl (some (.int (hp_I M1 27 p14)))) M1)))))))))))))) ∨ ((oz9 = .inr "java/lang/IndexOutOfBoundsException" ∧ Q (.inr "java/lang/IndexOutOfBoundsException") M1)))))) : am_J X 0 [(0, .ref a0), (1, .int a1)] [] M bc bs := by
  refine j_iload_n hX eX6_isInService_0 1 rfl ?_
  obtain ⟨b3, b4, h⟩ := h
  refine j_callS (r' := rX6_checkCar) (As := [.int a1]) (rest := []) (d1 := d) hX eX6_isInService_1 mm_LiftGroup_110 rfl rfl h rfl (Nat.le_refl _) b3 b4 (Nat.le_of_ble_eq_true rfl) (fun vz9 Mz9 qz9 => ?_) (fun Ez9 Mz9 qz9 => ?_)
  · obtain ⟨M1, eMz9⟩ : ∃ M1, M1 = Mz9 := ⟨_, rfl⟩; subst eMz9
    rcases qz9 with ⟨hxz9, h⟩ | ⟨hxz9, h⟩ <;> cases hxz9
    refine j_aload_n hX eX6_isInService_4 0 rfl ?_
    obtain ⟨t5, h⟩ := h
    obtain ⟨z6, h⟩ := h
    refine j_getR hX eX6_isInService_5 ff_LiftGroup_12 rfl t5 (by decide) z6 ?_
    refine j_nmR (fun p7 ep7 => ?_)
    replace h := h p7 ep7
    obtain ⟨t8, h⟩ := h
    obtain ⟨z9, h⟩ := h
    refine j_getR hX eX6_isInService_8 ff_LiftGroup_113 rfl t8 (by decide) z9 ?_
    refine j_nmR (fun p10 ep10 => ?_)
    replace h := h p10 ep10
    refine j_iload_n hX eX6_isInService_11 1 rfl ?_
    obtain ⟨t11, h⟩ := h
    obtain ⟨i12, h⟩ := h
    obtain ⟨z13, h⟩ := h
    refine j_aald26 hX eX6_isInService_12 t11 i12 z13 ?_
    refine j_nmR (fun p14 ep14 => ?_)
    replace h := h p14 ep14
    obtain ⟨t15, h⟩ := h
    refine j_getI hX eX6_isInService_13 ff_LiftGroup_140 rfl t15 (by decide) ?_
    obtain ⟨b16, h⟩ := h
    exact j_zret hX hM eX6_isInService_16 rfl (am_bo_n b16) h
  · obtain ⟨M1, eMz9⟩ : ∃ M1, M1 = Mz9 := ⟨_, rfl⟩; subst eMz9
    rcases qz9 with ⟨hxz9, h⟩ | ⟨hxz9, h⟩ <;> cases hxz9
    exact am_thOut hX hM rfl h

set_option maxHeartbeats 4000000 in
set_option maxRecDepth 20000 in
theorem vX6_energy_0 {X : am_Cx} {G : am_Gx} {d : Nat} {Q : am_Q} (hX : am_ok X rX6_energy G (d + 1)) (hM : am_me X rX6_energy Q) {bc bs : Nat}  {a0 : Nat} {a1 : Int32} {M : am_Hp} (h : 1 ≤ bc ∧ (6 ≤ bs ∧ (am_CT G d rX6_checkCar [.int a1] M 1 6 (fun oz9 M1 => (oz9 = .inl none ∧ (hp_T M1 (a0) = 7 ∧ (hp_R M1 120 a0 ≠ 0 ∧ (∀ p7 : Nat, p7 = hp_R M1 120 a0 → (hp_T M1 (p7) = 1 ∧ (hp_R M1 0 p7 ≠ 0 ∧ (∀ p10 : Nat, p10 = hp_R M1 0 p7 → (hp_T M1 (p10) = 26 ∧ (vp_in a1 (hp_N M1 p10) ∧ (hp_Q M1 p10 (a1).toNatClampNeg ≠ 0 ∧ (∀ p14 : Nat, p14 = hp_Q M1 p10 (a1).toNatClampNeg → (hp_T M1 (p14) = 2 ∧ (Q (.inl (some (.int (hp_I M1 26 p14)))) M1))))))))))))) ∨ ((oz9 = .inr "java/lang/IndexOutOfBoundsException" ∧ Q (.inr "java/lang/IndexOutOfBoundsException") M1)))))) : am_J X 0 [(0, .ref a0), (1, .int a1)] [] M bc bs := by
  refine j_iload_n hX eX6_energy_0 1 rfl ?_
  obtain ⟨b3, b4, h⟩ := h
  refine j_callS (r' := rX6_checkCar) (As := [.int a1]) (rest := []) (d1 := d) hX eX6_energy_1 mm_LiftGroup_110 rfl rfl h rfl (Nat.le_refl _) b3 b4 (Nat.le_of_ble_eq_true rfl) (fun vz9 Mz9 qz9 => ?_) (fun Ez9 Mz9 qz9 => ?_)
  · obtain ⟨M1, eMz9⟩ : ∃ M1, M1 = Mz9 := ⟨_, rfl⟩; subst eMz9
    rcases qz9 with ⟨hxz9, h⟩ | ⟨hxz9, h⟩ <;> cases hxz9
    refine j_aload_n hX eX6_energy_4 0 rfl ?_
    obtain ⟨t5, h⟩ := h
    obtain ⟨z6, h⟩ := h
    refine j_getR hX eX6_energy_5 ff_LiftGroup_12 rfl t5 (by decide) z6 ?_
    refine j_nmR (fun p7 ep7 => ?_)
    replace h := h p7 ep7
    obtain ⟨t8, h⟩ := h
    obtain ⟨z9, h⟩ := h
    refine j_getR hX eX6_energy_8 ff_LiftGroup_113 rfl t8 (by decide) z9 ?_
    refine j_nmR (fun p10 ep10 => ?_)
    replace h := h p10 ep10
    refine j_iload_n hX eX6_energy_11 1 rfl ?_
    obtain ⟨t11, h⟩ := h
    obtain ⟨i12, h⟩ := h
    obtain ⟨z13, h⟩ := h
    refine j_aald26 hX eX6_energy_12 t11 i12 z13 ?_
    refine j_nmR (fun p14 ep14 => ?_)
    replace h := h p14 ep14
    obtain ⟨t15, h⟩ := h
    refine j_getI hX eX6_energy_13 ff_LiftGroup_143 rfl t15 (by decide) ?_
    exact j_iret hX hM eX6_energy_16 rfl h
  · obtain ⟨M1, eMz9⟩ : ∃ M1, M1 = Mz9 := ⟨_, rfl⟩; subst eMz9
    rcases qz9 with ⟨hxz9, h⟩ | ⟨hxz9, h⟩ <;> cases hxz9
    exact am_thOut hX hM rfl h

set_option maxHeartbeats 4000000 in
set_option maxRecDepth 20000 in
theorem vX6_nextStop_0 {X : am_Cx} {G : am_Gx} {d : Nat} {Q : am_Q} (hX : am_ok X rX6_nextStop G (d + 1)) (hM : am_me X rX6_nextStop Q) {bc bs : Nat}  {a0 : Nat} {a1 : Int32} {M : am_Hp} (h : 1 ≤ bc ∧ (6 ≤ bs ∧ (am_CT G d rX6_checkCar [.int a1] M 1 6 (fun oz9 M1 => (oz9 = .inl none ∧ (hp_T M1 (a0) = 7 ∧ (hp_R M1 120 a0 ≠ 0 ∧ (∀ p7 : Nat, p7 = hp_R M1 120 a0 → (hp_T M1 (p7) = 1 ∧ (hp_R M1 0 p7 ≠ 0 ∧ (∀ p10 : Nat, p10 = hp_R M1 0 p7 → (hp_T M1 (p10) = 26 ∧ (vp_in a1 (hp_N M1 p10) ∧ (hp_Q M1 p10 (a1).toNatClampNeg ≠ 0 ∧ (∀ p14 : Nat, p14 = hp_Q M1 p10 (a1).toNatClampNeg → (hp_R M1 120 a0 ≠ 0 ∧ (∀ p16 : Nat, p16 = hp_R M1 120 a0 → (hp_T M1 (p16) = 1 ∧ (am_CT G d rX0_stopsOf [.ref p16, .int a1] M1 0 0 (fun oz9 M17 => ∃ v18 : Int32, oz9 = .inl (some (.int v18)) ∧ (((v18 = 0) → (1 ≤ (bc - 1) ∧ 6 ≤ (bs - 6) ∧ Q (.inr "java/util/NoSuchElementException") M17)) ∧ (¬ (v18 = 0) → (hp_T M17 (p14) = 2 ∧ (am_CT G d rX6_holds [.int v18, .int (hp_I M17 20 p14)] M17 0 0 (fun oz9 M22 => ∃ v23 : Int32, oz9 = .inl (some (.int v23)) ∧ (((v23 = 0) → (am_CT G d rX6_directionToChoose [.ref p14, .int v18] M22 0 0 (fun oz9 M25 => ∃ v26 : Int32, oz9 = .inl (some (.int v26)) ∧ (hp_T M25 (p14) = 2 ∧ (am_CT G d rX6_distanceToFirst [.int v18, .int (hp_I M25 20 p14), .int v26] M25 0 0 (fun oz9 M28 => ∃ v29 : Int32, oz9 = .inl (some (.int v29)) ∧ (Q (.inl (some (.int ((hp_I M25 20 p14) + (v26 * v29))))) M28))))))) ∧ (¬ (v23 = 0) → (hp_T M22 (p14) = 2 ∧ (Q (.inl (some (.int (hp_I M22 20 p14)))) M22))))))))))))))))))))))))) ∨ ((oz9 = .inr "java/lang/IndexOutOfBoundsException" ∧ Q (.inr "java/lang/IndexOutOfBoundsException") M1)))))) : am_J X 0 [(0, .ref a0), (1, .int a1)] [] M bc bs := by
  refine j_iload_n hX eX6_nextStop_0 1 rfl ?_
  obtain ⟨b3, b4, h⟩ := h
  refine j_callS (r' := rX6_checkCar) (As := [.int a1]) (rest := []) (d1 := d) hX eX6_nextStop_1 mm_LiftGroup_110 rfl rfl h rfl (Nat.le_refl _) b3 b4 (Nat.le_of_ble_eq_true rfl) (fun vz9 Mz9 qz9 => ?_) (fun Ez9 Mz9 qz9 => ?_)
  · obtain ⟨M1, eMz9⟩ : ∃ M1, M1 = Mz9 := ⟨_, rfl⟩; subst eMz9
    rcases qz9 with ⟨hxz9, h⟩ | ⟨hxz9, h⟩ <;> cases hxz9
    refine j_aload_n hX eX6_nextStop_4 0 rfl ?_
    obtain ⟨t5, h⟩ := h
    obtain ⟨z6, h⟩ := h
    refine j_getR hX eX6_nextStop_5 ff_LiftGroup_12 rfl t5 (by decide) z6 ?_
    refine j_nmR (fun p7 ep7 => ?_)
    replace h := h p7 ep7
    obtain ⟨t8, h⟩ := h
    obtain ⟨z9, h⟩ := h
    refine j_getR hX eX6_nextStop_8 ff_LiftGroup_113 rfl t8 (by decide) z9 ?_
    refine j_nmR (fun p10 ep10 => ?_)
    replace h := h p10 ep10
    refine j_iload_n hX eX6_nextStop_11 1 rfl ?_
    obtain ⟨t11, h⟩ := h
    obtain ⟨i12, h⟩ := h
    obtain ⟨z13, h⟩ := h
    refine j_aald26 hX eX6_nextStop_12 t11 i12 z13 ?_
    refine j_nmR (fun p14 ep14 => ?_)
    replace h := h p14 ep14
    refine j_astore_n (lv' := [(2, .ref p14), (0, .ref a0), (1, .int a1)]) hX eX6_nextStop_13 rfl (by decide) rfl ?_
    refine j_aload_n hX eX6_nextStop_14 1 rfl ?_
    obtain ⟨z15, h⟩ := h
    refine j_getR hX eX6_nextStop_15 ff_LiftGroup_12 rfl t5 (by decide) z15 ?_
    refine j_nmR (fun p16 ep16 => ?_)
    replace h := h p16 ep16
    refine j_iload_n hX eX6_nextStop_18 2 rfl ?_
    obtain ⟨t19, h⟩ := h
    refine j_callV (a := p16) (q := (RX0, TX0, 10)) (r' := rX0_stopsOf) (As := [.int a1]) (rest := []) (d1 := d) hX eX6_nextStop_19 mm_LiftGroup_149 rfl t19 (by decide) rfl h rfl (Nat.le_refl _) (Nat.zero_le _) (Nat.zero_le _) (Nat.le_of_ble_eq_true rfl) (fun vz9 Mz9 qz9 => ?_) (fun Ez9 Mz9 qz9 => ?_)
    · obtain ⟨M17, eMz9⟩ : ∃ M17, M17 = Mz9 := ⟨_, rfl⟩; subst eMz9
      obtain ⟨v18, hxz9, h⟩ := qz9
      cases hxz9
      refine j_istore_n (lv' := [(3, .int v18), (2, .ref p14), (0, .ref a0), (1, .int a1)]) hX eX6_nextStop_22 rfl (by decide) rfl ?_
      refine j_iload_n hX eX6_nextStop_23 0 rfl ?_
      refine j_if_ne hX 37 eX6_nextStop_24 (by decide) (fun c20 => ?_) (fun c20 => ?_)
      · replace h := h.2 c20
        refine j_iload_n hX eX6_nextStop_37 0 rfl ?_
        refine j_aload_n hX eX6_nextStop_38 1 rfl ?_
        obtain ⟨t21, h⟩ := h
        refine j_getI hX eX6_nextStop_39 ff_LiftGroup_117 rfl t21 (by decide) ?_
        refine j_callS (r' := rX6_holds) (As := [.int v18, .int (hp_I M17 20 p14)]) (rest := []) (d1 := d) hX eX6_nextStop_42 mm_LiftGroup_152 rfl rfl h rfl (Nat.le_refl _) (Nat.zero_le _) (Nat.zero_le _) (Nat.le_of_ble_eq_true rfl) (fun vz9 Mz9 qz9 => ?_) (fun Ez9 Mz9 qz9 => ?_)
        · obtain ⟨M22, eMz9⟩ : ∃ M22, M22 = Mz9 := ⟨_, rfl⟩; subst eMz9
          obtain ⟨v23, hxz9, h⟩ := qz9
          cases hxz9
          refine j_if_eq hX 53 eX6_nextStop_45 (by decide) (fun c24 => ?_) (fun c24 => ?_)
          · replace h := h.1 c24
            refine j_aload_n hX eX6_nextStop_53 1 rfl ?_
            refine j_iload_n hX eX6_nextStop_54 0 rfl ?_
            refine j_callS (r' := rX6_directionToChoose) (As := [.ref p14, .int v18]) (rest := []) (d1 := d) hX eX6_nextStop_55 mm_LiftGroup_168 rfl rfl h rfl (Nat.le_refl _) (Nat.zero_le _) (Nat.zero_le _) (Nat.le_of_ble_eq_true rfl) (fun vz9 Mz9 qz9 => ?_) (fun Ez9 Mz9 qz9 => ?_)
            · obtain ⟨M25, eMz9⟩ : ∃ M25, M25 = Mz9 := ⟨_, rfl⟩; subst eMz9
              obtain ⟨v26, hxz9, h⟩ := qz9
              cases hxz9
              refine j_istore (lv' := [(4, .int v26), (3, .int v18), (2, .ref p14), (0, .ref a0), (1, .int a1)]) hX eX6_nextStop_58 (by decide) rfl ?_
              refine j_aload_n hX eX6_nextStop_60 2 rfl ?_
              obtain ⟨t27, h⟩ := h
              refine j_getI hX eX6_nextStop_61 ff_LiftGroup_117 rfl t27 (by decide) ?_
              refine j_iload hX eX6_nextStop_64 0 rfl ?_
              refine j_iload_n hX eX6_nextStop_66 1 rfl ?_
              refine j_aload_n hX eX6_nextStop_67 2 rfl ?_
              refine j_getI hX eX6_nextStop_68 ff_LiftGroup_117 rfl t27 (by decide) ?_
              refine j_iload hX eX6_nextStop_71 0 rfl ?_
              refine j_callS (r' := rX6_distanceToFirst) (As := [.int v18, .int (hp_I M25 20 p14), .int v26]) (rest := [.int v26, .int (hp_I M25 20 p14)]) (d1 := d) hX eX6_nextStop_73 mm_LiftGroup_172 rfl rfl h rfl (Nat.le_refl _) (Nat.zero_le _) (Nat.zero_le _) (Nat.le_of_ble_eq_true rfl) (fun vz9 Mz9 qz9 => ?_) (fun Ez9 Mz9 qz9 => ?_)
              · obtain ⟨M28, eMz9⟩ : ∃ M28, M28 = Mz9 := ⟨_, rfl⟩; subst eMz9
                obtain ⟨v29, hxz9, h⟩ := qz9
                cases hxz9
                refine j_imul hX eX6_nextStop_76 ?_
                refine j_iadd hX eX6_nextStop_77 ?_
                exact j_iret hX hM eX6_nextStop_78 rfl h
              · obtain ⟨v29, hxz9, h⟩ := qz9
                cases hxz9
            · obtain ⟨v26, hxz9, h⟩ := qz9
              cases hxz9
          · replace h := h.2 c24
            refine j_aload_n hX eX6_nextStop_48 1 rfl ?_
            obtain ⟨t30, h⟩ := h
            refine j_getI hX eX6_nextStop_49 ff_LiftGroup_117 rfl t30 (by decide) ?_
            exact j_iret hX hM eX6_nextStop_52 rfl h
        · obtain ⟨v23, hxz9, h⟩ := qz9
          cases hxz9
      · replace h := h.1 c20
        obtain ⟨hb1, hb2, h⟩ := h
        exact j_throwX hX hM eX6_nextStop_27 eX6_nextStop_30 eX6_nextStop_31 eX6_nextStop_33 eX6_nextStop_36 rfl tx_NoSuchElementException tf_NoSuchElementException tw_635 tw_25 ts_LiftGroup_163 ta_LiftGroup_165_161.1 ta_LiftGroup_165_161.2 (by decide) hb1 hb2 h
    · obtain ⟨v18, hxz9, h⟩ := qz9
      cases hxz9
  · obtain ⟨M1, eMz9⟩ : ∃ M1, M1 = Mz9 := ⟨_, rfl⟩; subst eMz9
    rcases qz9 with ⟨hxz9, h⟩ | ⟨hxz9, h⟩ <;> cases hxz9
    exact am_thOut hX hM rfl h

set_option maxHeartbeats 4000000 in
set_option maxRecDepth 20000 in
theorem vX6_passengerCount_0 {X : am_Cx} {G : am_Gx} {d : Nat} {Q : am_Q} (hX : am_ok X rX6_passengerCount G (d + 1)) (hM : am_me X rX6_passengerCount Q) {bc bs : Nat}  {a0 : Nat} {M : am_Hp} (h : hp_T M (a0) = 7 ∧ (hp_R M 120 a0 ≠ 0 ∧ (∀ p3 : Nat, p3 = hp_R M 120 a0 → (hp_T M (p3) = 1 ∧ (Q (.inl (some (.int (hp_I M 3 p3)))) M))))) : am_J X 0 [(0, .ref a0)] [] M bc bs := by
  refine j_aload_n hX eX6_passengerCount_0 0 rfl ?_
  obtain ⟨t1, h⟩ := h
  obtain ⟨z2, h⟩ := h
  refine j_getR hX eX6_passengerCount_1 ff_LiftGroup_12 rfl t1 (by decide) z2 ?_
  refine j_nmR (fun p3 ep3 => ?_)
  replace h := h p3 ep3
  obtain ⟨t4, h⟩ := h
  refine j_getI hX eX6_passengerCount_4 ff_LiftGroup_175 rfl t4 (by decide) ?_
  exact j_iret hX hM eX6_passengerCount_7 rfl h

set_option maxHeartbeats 4000000 in
set_option maxRecDepth 20000 in
theorem vX6_number_0 {X : am_Cx} {G : am_Gx} {d : Nat} {Q : am_Q} (hX : am_ok X rX6_number G (d + 1)) (hM : am_me X rX6_number Q) {bc bs : Nat}  {a0 : Nat} {a1 : Int32} {M : am_Hp} (h : hp_T M (a0) = 7 ∧ (1 ≤ bc ∧ (6 ≤ bs ∧ (am_CT G d rX6_checkPassenger [.ref a0, .int a1] M 1 6 (fun oz9 M1 => (oz9 = .inl none ∧ (hp_T M1 (a0) = 7 ∧ (hp_R M1 120 a0 ≠ 0 ∧ (∀ p8 : Nat, p8 = hp_R M1 120 a0 → (hp_T M1 (p8) = 1 ∧ (hp_R M1 1 p8 ≠ 0 ∧ (∀ p11 : Nat, p11 = hp_R M1 1 p8 → (hp_T M1 (p11) = 27 ∧ (vp_in a1 (hp_N M1 p11) ∧ (hp_Q M1 p11 (a1).toNatClampNeg ≠ 0 ∧ (∀ p15 : Nat, p15 = hp_Q M1 p11 (a1).toNatClampNeg → (hp_T M1 (p15) = 4 ∧ (Q (.inl (some (.int (hp_I M1 60 p15)))) M1))))))))))))) ∨ ((oz9 = .inr "java/lang/IndexOutOfBoundsException" ∧ Q (.inr "java/lang/IndexOutOfBoundsException") M1))))))) : am_J X 0 [(0, .ref a0), (1, .int a1)] [] M bc bs := by
  refine j_aload_n hX eX6_number_0 0 rfl ?_
  refine j_iload_n hX eX6_number_1 1 rfl ?_
  obtain ⟨t3, h⟩ := h
  obtain ⟨b4, b5, h⟩ := h
  refine j_callV (a := a0) (q := (RX6, TX6, 9)) (r' := rX6_checkPassenger) (As := [.int a1]) (rest := []) (d1 := d) hX eX6_number_2 mm_LiftGroup_178 rfl t3 (by decide) rfl h rfl (Nat.le_refl _) b4 b5 (Nat.le_of_ble_eq_true rfl) (fun vz9 Mz9 qz9 => ?_) (fun Ez9 Mz9 qz9 => ?_)
  · obtain ⟨M1, eMz9⟩ : ∃ M1, M1 = Mz9 := ⟨_, rfl⟩; subst eMz9
    rcases qz9 with ⟨hxz9, h⟩ | ⟨hxz9, h⟩ <;> cases hxz9
    refine j_aload_n hX eX6_number_5 0 rfl ?_
    obtain ⟨t6, h⟩ := h
    obtain ⟨z7, h⟩ := h
    refine j_getR hX eX6_number_6 ff_LiftGroup_12 rfl t6 (by decide) z7 ?_
    refine j_nmR (fun p8 ep8 => ?_)
    replace h := h p8 ep8
    obtain ⟨t9, h⟩ := h
    obtain ⟨z10, h⟩ := h
    refine j_getR hX eX6_number_9 ff_LiftGroup_181 rfl t9 (by decide) z10 ?_
    refine j_nmR (fun p11 ep11 => ?_)
    replace h := h p11 ep11
    refine j_iload_n hX eX6_number_12 1 rfl ?_
    obtain ⟨t12, h⟩ := h
    obtain ⟨i13, h⟩ := h
    obtain ⟨z14, h⟩ := h
    refine j_aald27 hX eX6_number_13 t12 i13 z14 ?_
    refine j_nmR (fun p15 ep15 => ?_)
    replace h := h p15 ep15
    obtain ⟨t16, h⟩ := h
    refine j_getI hX eX6_number_14 ff_LiftGroup_185 rfl t16 (by decide) ?_
    exact j_iret hX hM eX6_number_17 rfl h
  · obtain ⟨M1, eMz9⟩ : ∃ M1, M1 = Mz9 := ⟨_, rfl⟩; subst eMz9
    rcases qz9 with ⟨hxz9, h⟩ | ⟨hxz9, h⟩ <;> cases hxz9
    exact am_thOut hX hM rfl h

set_option maxHeartbeats 4000000 in
set_option maxRecDepth 20000 in
theorem vX6_start_0 {X : am_Cx} {G : am_Gx} {d : Nat} {Q : am_Q} (hX : am_ok X rX6_start G (d + 1)) (hM : am_me X rX6_start Q) {bc bs : Nat}  {a0 : Nat} {a1 : Int32} {M : am_Hp} (h : hp_T M (a0) = 7 ∧ (1 ≤ bc ∧ (6 ≤ bs ∧ (am_CT G d rX6_checkPassenger [.ref a0, .int a1] M 1 6 (fun oz9 M1 => (oz9 = .inl none ∧ (hp_T M1 (a0) = 7 ∧ (hp_R M1 120 a0 ≠ 0 ∧ (∀ p8 : Nat, p8 = hp_R M1 120 a0 → (hp_T M1 (p8) = 1 ∧ (hp_R M1 1 p8 ≠ 0 ∧ (∀ p11 : Nat, p11 = hp_R M1 1 p8 → (hp_T M1 (p11) = 27 ∧ (vp_in a1 (hp_N M1 p11) ∧ (hp_Q M1 p11 (a1).toNatClampNeg ≠ 0 ∧ (∀ p15 : Nat, p15 = hp_Q M1 p11 (a1).toNatClampNeg → (hp_T M1 (p15) = 4 ∧ (Q (.inl (some (.int (hp_I M1 61 p15)))) M1))))))))))))) ∨ ((oz9 = .inr "java/lang/IndexOutOfBoundsException" ∧ Q (.inr "java/lang/IndexOutOfBoundsException") M1))))))) : am_J X 0 [(0, .ref a0), (1, .int a1)] [] M bc bs := by
  refine j_aload_n hX eX6_start_0 0 rfl ?_
  refine j_iload_n hX eX6_start_1 1 rfl ?_
  obtain ⟨t3, h⟩ := h
  obtain ⟨b4, b5, h⟩ := h
  refine j_callV (a := a0) (q := (RX6, TX6, 9)) (r' := rX6_checkPassenger) (As := [.int a1]) (rest := []) (d1 := d) hX eX6_start_2 mm_LiftGroup_178 rfl t3 (by decide) rfl h rfl (Nat.le_refl _) b4 b5 (Nat.le_of_ble_eq_true rfl) (fun vz9 Mz9 qz9 => ?_) (fun Ez9 Mz9 qz9 => ?_)
  · obtain ⟨M1, eMz9⟩ : ∃ M1, M1 = Mz9 := ⟨_, rfl⟩; subst eMz9
    rcases qz9 with ⟨hxz9, h⟩ | ⟨hxz9, h⟩ <;> cases hxz9
    refine j_aload_n hX eX6_start_5 0 rfl ?_
    obtain ⟨t6, h⟩ := h
    obtain ⟨z7, h⟩ := h
    refine j_getR hX eX6_start_6 ff_LiftGroup_12 rfl t6 (by decide) z7 ?_
    refine j_nmR (fun p8 ep8 => ?_)
    replace h := h p8 ep8
    obtain ⟨t9, h⟩ := h
    obtain ⟨z10, h⟩ := h
    refine j_getR hX eX6_start_9 ff_LiftGroup_181 rfl t9 (by decide) z10 ?_
    refine j_nmR (fun p11 ep11 => ?_)
    replace h := h p11 ep11
    refine j_iload_n hX eX6_start_12 1 rfl ?_
    obtain ⟨t12, h⟩ := h
    obtain ⟨i13, h⟩ := h
    obtain ⟨z14, h⟩ := h
    refine j_aald27 hX eX6_start_13 t12 i13 z14 ?_
    refine j_nmR (fun p15 ep15 => ?_)
    replace h := h p15 ep15
    obtain ⟨t16, h⟩ := h
    refine j_getI hX eX6_start_14 ff_LiftGroup_190 rfl t16 (by decide) ?_
    exact j_iret hX hM eX6_start_17 rfl h
  · obtain ⟨M1, eMz9⟩ : ∃ M1, M1 = Mz9 := ⟨_, rfl⟩; subst eMz9
    rcases qz9 with ⟨hxz9, h⟩ | ⟨hxz9, h⟩ <;> cases hxz9
    exact am_thOut hX hM rfl h

set_option maxHeartbeats 4000000 in
set_option maxRecDepth 20000 in
theorem vX6_destination_0 {X : am_Cx} {G : am_Gx} {d : Nat} {Q : am_Q} (hX : am_ok X rX6_destination G (d + 1)) (hM : am_me X rX6_destination Q) {bc bs : Nat}  {a0 : Nat} {a1 : Int32} {M : am_Hp} (h : hp_T M (a0) = 7 ∧ (1 ≤ bc ∧ (6 ≤ bs ∧ (am_CT G d rX6_checkPassenger [.ref a0, .int a1] M 1 6 (fun oz9 M1 => (oz9 = .inl none ∧ (hp_T M1 (a0) = 7 ∧ (hp_R M1 120 a0 ≠ 0 ∧ (∀ p8 : Nat, p8 = hp_R M1 120 a0 → (hp_T M1 (p8) = 1 ∧ (hp_R M1 1 p8 ≠ 0 ∧ (∀ p11 : Nat, p11 = hp_R M1 1 p8 → (hp_T M1 (p11) = 27 ∧ (vp_in a1 (hp_N M1 p11) ∧ (hp_Q M1 p11 (a1).toNatClampNeg ≠ 0 ∧ (∀ p15 : Nat, p15 = hp_Q M1 p11 (a1).toNatClampNeg → (hp_T M1 (p15) = 4 ∧ (Q (.inl (some (.int (hp_I M1 62 p15)))) M1))))))))))))) ∨ ((oz9 = .inr "java/lang/IndexOutOfBoundsException" ∧ Q (.inr "java/lang/IndexOutOfBoundsException") M1))))))) : am_J X 0 [(0, .ref a0), (1, .int a1)] [] M bc bs := by
  refine j_aload_n hX eX6_destination_0 0 rfl ?_
  refine j_iload_n hX eX6_destination_1 1 rfl ?_
  obtain ⟨t3, h⟩ := h
  obtain ⟨b4, b5, h⟩ := h
  refine j_callV (a := a0) (q := (RX6, TX6, 9)) (r' := rX6_checkPassenger) (As := [.int a1]) (rest := []) (d1 := d) hX eX6_destination_2 mm_LiftGroup_178 rfl t3 (by decide) rfl h rfl (Nat.le_refl _) b4 b5 (Nat.le_of_ble_eq_true rfl) (fun vz9 Mz9 qz9 => ?_) (fun Ez9 Mz9 qz9 => ?_)
  · obtain ⟨M1, eMz9⟩ : ∃ M1, M1 = Mz9 := ⟨_, rfl⟩; subst eMz9
    rcases qz9 with ⟨hxz9, h⟩ | ⟨hxz9, h⟩ <;> cases hxz9
    refine j_aload_n hX eX6_destination_5 0 rfl ?_
    obtain ⟨t6, h⟩ := h
    obtain ⟨z7, h⟩ := h
    refine j_getR hX eX6_destination_6 ff_LiftGroup_12 rfl t6 (by decide) z7 ?_
    refine j_nmR (fun p8 ep8 => ?_)
    replace h := h p8 ep8
    obtain ⟨t9, h⟩ := h
    obtain ⟨z10, h⟩ := h
    refine j_getR hX eX6_destination_9 ff_LiftGroup_181 rfl t9 (by decide) z10 ?_
    refine j_nmR (fun p11 ep11 => ?_)
    replace h := h p11 ep11
    refine j_iload_n hX eX6_destination_12 1 rfl ?_
    obtain ⟨t12, h⟩ := h
    obtain ⟨i13, h⟩ := h
    obtain ⟨z14, h⟩ := h
    refine j_aald27 hX eX6_destination_13 t12 i13 z14 ?_
    refine j_nmR (fun p15 ep15 => ?_)
    replace h := h p15 ep15
    obtain ⟨t16, h⟩ := h
    refine j_getI hX eX6_destination_14 ff_LiftGroup_193 rfl t16 (by decide) ?_
    exact j_iret hX hM eX6_destination_17 rfl h
  · obtain ⟨M1, eMz9⟩ : ∃ M1, M1 = Mz9 := ⟨_, rfl⟩; subst eMz9
    rcases qz9 with ⟨hxz9, h⟩ | ⟨hxz9, h⟩ <;> cases hxz9
    exact am_thOut hX hM rfl h

set_option maxHeartbeats 4000000 in
set_option maxRecDepth 20000 in
theorem vX6_weight_0 {X : am_Cx} {G : am_Gx} {d : Nat} {Q : am_Q} (hX : am_ok X rX6_weight G (d + 1)) (hM : am_me X rX6_weight Q) {bc bs : Nat}  {a0 : Nat} {a1 : Int32} {M : am_Hp} (h : hp_T M (a0) = 7 ∧ (1 ≤ bc ∧ (6 ≤ bs ∧ (am_CT G d rX6_checkPassenger [.ref a0, .int a1] M 1 6 (fun oz9 M1 => (oz9 = .inl none ∧ (hp_T M1 (a0) = 7 ∧ (hp_R M1 120 a0 ≠ 0 ∧ (∀ p8 : Nat, p8 = hp_R M1 120 a0 → (hp_T M1 (p8) = 1 ∧ (hp_R M1 1 p8 ≠ 0 ∧ (∀ p11 : Nat, p11 = hp_R M1 1 p8 → (hp_T M1 (p11) = 27 ∧ (vp_in a1 (hp_N M1 p11) ∧ (hp_Q M1 p11 (a1).toNatClampNeg ≠ 0 ∧ (∀ p15 : Nat, p15 = hp_Q M1 p11 (a1).toNatClampNeg → (hp_T M1 (p15) = 4 ∧ (Q (.inl (some (.int (hp_I M1 63 p15)))) M1))))))))))))) ∨ ((oz9 = .inr "java/lang/IndexOutOfBoundsException" ∧ Q (.inr "java/lang/IndexOutOfBoundsException") M1))))))) : am_J X 0 [(0, .ref a0), (1, .int a1)] [] M bc bs := by
  refine j_aload_n hX eX6_weight_0 0 rfl ?_
  refine j_iload_n hX eX6_weight_1 1 rfl ?_
  obtain ⟨t3, h⟩ := h
  obtain ⟨b4, b5, h⟩ := h
  refine j_callV (a := a0) (q := (RX6, TX6, 9)) (r' := rX6_checkPassenger) (As := [.int a1]) (rest := []) (d1 := d) hX eX6_weight_2 mm_LiftGroup_178 rfl t3 (by decide) rfl h rfl (Nat.le_refl _) b4 b5 (Nat.le_of_ble_eq_true rfl) (fun vz9 Mz9 qz9 => ?_) (fun Ez9 Mz9 qz9 => ?_)
  · obtain ⟨M1, eMz9⟩ : ∃ M1, M1 = Mz9 := ⟨_, rfl⟩; subst eMz9
    rcases qz9 with ⟨hxz9, h⟩ | ⟨hxz9, h⟩ <;> cases hxz9
    refine j_aload_n hX eX6_weight_5 0 rfl ?_
    obtain ⟨t6, h⟩ := h
    obtain ⟨z7, h⟩ := h
    refine j_getR hX eX6_weight_6 ff_LiftGroup_12 rfl t6 (by decide) z7 ?_
    refine j_nmR (fun p8 ep8 => ?_)
    replace h := h p8 ep8
    obtain ⟨t9, h⟩ := h
    obtain ⟨z10, h⟩ := h
    refine j_getR hX eX6_weight_9 ff_LiftGroup_181 rfl t9 (by decide) z10 ?_
    refine j_nmR (fun p11 ep11 => ?_)
    replace h := h p11 ep11
    refine j_iload_n hX eX6_weight_12 1 rfl ?_
    obtain ⟨t12, h⟩ := h
    obtain ⟨i13, h⟩ := h
    obtain ⟨z14, h⟩ := h
    refine j_aald27 hX eX6_weight_13 t12 i13 z14 ?_
    refine j_nmR (fun p15 ep15 => ?_)
    replace h := h p15 ep15
    obtain ⟨t16, h⟩ := h
    refine j_getI hX eX6_weight_14 ff_LiftGroup_196 rfl t16 (by decide) ?_
    exact j_iret hX hM eX6_weight_17 rfl h
  · obtain ⟨M1, eMz9⟩ : ∃ M1, M1 = Mz9 := ⟨_, rfl⟩; subst eMz9
    rcases qz9 with ⟨hxz9, h⟩ | ⟨hxz9, h⟩ <;> cases hxz9
    exact am_thOut hX hM rfl h

set_option maxHeartbeats 4000000 in
set_option maxRecDepth 20000 in
theorem vX6_waitingTime_0 {X : am_Cx} {G : am_Gx} {d : Nat} {Q : am_Q} (hX : am_ok X rX6_waitingTime G (d + 1)) (hM : am_me X rX6_waitingTime Q) {bc bs : Nat}  {a0 : Nat} {a1 : Int32} {M : am_Hp} (h : hp_T M (a0) = 7 ∧ (1 ≤ bc ∧ (6 ≤ bs ∧ (am_CT G d rX6_checkPassenger [.ref a0, .int a1] M 1 6 (fun oz9 M1 => (oz9 = .inl none ∧ (hp_T M1 (a0) = 7 ∧ (hp_R M1 120 a0 ≠ 0 ∧ (∀ p8 : Nat, p8 = hp_R M1 120 a0 → (hp_T M1 (p8) = 1 ∧ (hp_R M1 1 p8 ≠ 0 ∧ (∀ p11 : Nat, p11 = hp_R M1 1 p8 → (hp_T M1 (p11) = 27 ∧ (vp_in a1 (hp_N M1 p11) ∧ (hp_Q M1 p11 (a1).toNatClampNeg ≠ 0 ∧ (∀ p15 : Nat, p15 = hp_Q M1 p11 (a1).toNatClampNeg → (hp_T M1 (p15) = 4 ∧ (Q (.inl (some (.int (hp_I M1 64 p15)))) M1))))))))))))) ∨ ((oz9 = .inr "java/lang/IndexOutOfBoundsException" ∧ Q (.inr "java/lang/IndexOutOfBoundsException") M1))))))) : am_J X 0 [(0, .ref a0), (1, .int a1)] [] M bc bs := by
  refine j_aload_n hX eX6_waitingTime_0 0 rfl ?_
  refine j_iload_n hX eX6_waitingTime_1 1 rfl ?_
  obtain ⟨t3, h⟩ := h
  obtain ⟨b4, b5, h⟩ := h
  refine j_callV (a := a0) (q := (RX6, TX6, 9)) (r' := rX6_checkPassenger) (As := [.int a1]) (rest := []) (d1 := d) hX eX6_waitingTime_2 mm_LiftGroup_178 rfl t3 (by decide) rfl h rfl (Nat.le_refl _) b4 b5 (Nat.le_of_ble_eq_true rfl) (fun vz9 Mz9 qz9 => ?_) (fun Ez9 Mz9 qz9 => ?_)
  · obtain ⟨M1, eMz9⟩ : ∃ M1, M1 = Mz9 := ⟨_, rfl⟩; subst eMz9
    rcases qz9 with ⟨hxz9, h⟩ | ⟨hxz9, h⟩ <;> cases hxz9
    refine j_aload_n hX eX6_waitingTime_5 0 rfl ?_
    obtain ⟨t6, h⟩ := h
    obtain ⟨z7, h⟩ := h
    refine j_getR hX eX6_waitingTime_6 ff_LiftGroup_12 rfl t6 (by decide) z7 ?_
    refine j_nmR (fun p8 ep8 => ?_)
    replace h := h p8 ep8
    obtain ⟨t9, h⟩ := h
    obtain ⟨z10, h⟩ := h
    refine j_getR hX eX6_waitingTime_9 ff_LiftGroup_181 rfl t9 (by decide) z10 ?_
    refine j_nmR (fun p11 ep11 => ?_)
    replace h := h p11 ep11
    refine j_iload_n hX eX6_waitingTime_12 1 rfl ?_
    obtain ⟨t12, h⟩ := h
    obtain ⟨i13, h⟩ := h
    obtain ⟨z14, h⟩ := h
    refine j_aald27 hX eX6_waitingTime_13 t12 i13 z14 ?_
    refine j_nmR (fun p15 ep15 => ?_)
    replace h := h p15 ep15
    obtain ⟨t16, h⟩ := h
    refine j_getI hX eX6_waitingTime_14 ff_LiftGroup_199 rfl t16 (by decide) ?_
    exact j_iret hX hM eX6_waitingTime_17 rfl h
  · obtain ⟨M1, eMz9⟩ : ∃ M1, M1 = Mz9 := ⟨_, rfl⟩; subst eMz9
    rcases qz9 with ⟨hxz9, h⟩ | ⟨hxz9, h⟩ <;> cases hxz9
    exact am_thOut hX hM rfl h

set_option maxHeartbeats 4000000 in
set_option maxRecDepth 20000 in
theorem vX6_isInCar_0 {X : am_Cx} {G : am_Gx} {d : Nat} {Q : am_Q} (hX : am_ok X rX6_isInCar G (d + 1)) (hM : am_me X rX6_isInCar Q) {bc bs : Nat}  {a0 : Nat} {a1 : Int32} {M : am_Hp} (h : hp_T M (a0) = 7 ∧ (1 ≤ bc ∧ (6 ≤ bs ∧ (am_CT G d rX6_checkPassenger [.ref a0, .int a1] M 1 6 (fun oz9 M1 => (oz9 = .inl none ∧ (hp_T M1 (a0) = 7 ∧ (hp_R M1 120 a0 ≠ 0 ∧ (∀ p8 : Nat, p8 = hp_R M1 120 a0 → (hp_T M1 (p8) = 1 ∧ (hp_R M1 1 p8 ≠ 0 ∧ (∀ p11 : Nat, p11 = hp_R M1 1 p8 → (hp_T M1 (p11) = 27 ∧ (vp_in a1 (hp_N M1 p11) ∧ (hp_Q M1 p11 (a1).toNatClampNeg ≠ 0 ∧ (∀ p15 : Nat, p15 = hp_Q M1 p11 (a1).toNatClampNeg → (hp_T M1 (p15) = 4 ∧ (am_bo (hp_I M1 66 p15) ∧ (Q (.inl (some (.int (hp_I M1 66 p15)))) M1)))))))))))))) ∨ ((oz9 = .inr "java/lang/IndexOutOfBoundsException" ∧ Q (.inr "java/lang/IndexOutOfBoundsException") M1))))))) : am_J X 0 [(0, .ref a0), (1, .int a1)] [] M bc bs := by
  refine j_aload_n hX eX6_isInCar_0 0 rfl ?_
  refine j_iload_n hX eX6_isInCar_1 1 rfl ?_
  obtain ⟨t3, h⟩ := h
  obtain ⟨b4, b5, h⟩ := h
  refine j_callV (a := a0) (q := (RX6, TX6, 9)) (r' := rX6_checkPassenger) (As := [.int a1]) (rest := []) (d1 := d) hX eX6_isInCar_2 mm_LiftGroup_178 rfl t3 (by decide) rfl h rfl (Nat.le_refl _) b4 b5 (Nat.le_of_ble_eq_true rfl) (fun vz9 Mz9 qz9 => ?_) (fun Ez9 Mz9 qz9 => ?_)
  · obtain ⟨M1, eMz9⟩ : ∃ M1, M1 = Mz9 := ⟨_, rfl⟩; subst eMz9
    rcases qz9 with ⟨hxz9, h⟩ | ⟨hxz9, h⟩ <;> cases hxz9
    refine j_aload_n hX eX6_isInCar_5 0 rfl ?_
    obtain ⟨t6, h⟩ := h
    obtain ⟨z7, h⟩ := h
    refine j_getR hX eX6_isInCar_6 ff_LiftGroup_12 rfl t6 (by decide) z7 ?_
    refine j_nmR (fun p8 ep8 => ?_)
    replace h := h p8 ep8
    obtain ⟨t9, h⟩ := h
    obtain ⟨z10, h⟩ := h
    refine j_getR hX eX6_isInCar_9 ff_LiftGroup_181 rfl t9 (by decide) z10 ?_
    refine j_nmR (fun p11 ep11 => ?_)
    replace h := h p11 ep11
    refine j_iload_n hX eX6_isInCar_12 1 rfl ?_
    obtain ⟨t12, h⟩ := h
    obtain ⟨i13, h⟩ := h
    obtain ⟨z14, h⟩ := h
    refine j_aald27 hX eX6_isInCar_13 t12 i13 z14 ?_
    refine j_nmR (fun p15 ep15 => ?_)
    replace h := h p15 ep15
    obtain ⟨t16, h⟩ := h
    refine j_getI hX eX6_isInCar_14 ff_LiftGroup_202 rfl t16 (by decide) ?_
    obtain ⟨b17, h⟩ := h
    exact j_zret hX hM eX6_isInCar_17 rfl (am_bo_n b17) h
  · obtain ⟨M1, eMz9⟩ : ∃ M1, M1 = Mz9 := ⟨_, rfl⟩; subst eMz9
    rcases qz9 with ⟨hxz9, h⟩ | ⟨hxz9, h⟩ <;> cases hxz9
    exact am_thOut hX hM rfl h

set_option maxHeartbeats 4000000 in
set_option maxRecDepth 20000 in
theorem vX6_carOf_0 {X : am_Cx} {G : am_Gx} {d : Nat} {Q : am_Q} (hX : am_ok X rX6_carOf G (d + 1)) (hM : am_me X rX6_carOf Q) {bc bs : Nat}  {a0 : Nat} {a1 : Int32} {M : am_Hp} (h : hp_T M (a0) = 7 ∧ (1 ≤ bc ∧ (6 ≤ bs ∧ (am_CT G d rX6_checkPassenger [.ref a0, .int a1] M 1 6 (fun oz9 M1 => (oz9 = .inl none ∧ (hp_T M1 (a0) = 7 ∧ (hp_R M1 120 a0 ≠ 0 ∧ (∀ p8 : Nat, p8 = hp_R M1 120 a0 → (hp_T M1 (p8) = 1 ∧ (hp_R M1 1 p8 ≠ 0 ∧ (∀ p11 : Nat, p11 = hp_R M1 1 p8 → (hp_T M1 (p11) = 27 ∧ (vp_in a1 (hp_N M1 p11) ∧ (hp_Q M1 p11 (a1).toNatClampNeg ≠ 0 ∧ (∀ p15 : Nat, p15 = hp_Q M1 p11 (a1).toNatClampNeg → (hp_T M1 (p15) = 4 ∧ (∀ v17 : Int32, v17 = (hp_I M1 65 p15) → (((v17 = (-1 : Int32)) → (1 ≤ (bc - 1) ∧ 6 ≤ (bs - 6) ∧ Q (.inr "java/util/NoSuchElementException") M1)) ∧ (¬ (v17 = (-1 : Int32)) → (Q (.inl (some (.int v17))) M1)))))))))))))))) ∨ ((oz9 = .inr "java/lang/IndexOutOfBoundsException" ∧ Q (.inr "java/lang/IndexOutOfBoundsException") M1))))))) : am_J X 0 [(0, .ref a0), (1, .int a1)] [] M bc bs := by
  refine j_aload_n hX eX6_carOf_0 0 rfl ?_
  refine j_iload_n hX eX6_carOf_1 1 rfl ?_
  obtain ⟨t3, h⟩ := h
  obtain ⟨b4, b5, h⟩ := h
  refine j_callV (a := a0) (q := (RX6, TX6, 9)) (r' := rX6_checkPassenger) (As := [.int a1]) (rest := []) (d1 := d) hX eX6_carOf_2 mm_LiftGroup_178 rfl t3 (by decide) rfl h rfl (Nat.le_refl _) b4 b5 (Nat.le_of_ble_eq_true rfl) (fun vz9 Mz9 qz9 => ?_) (fun Ez9 Mz9 qz9 => ?_)
  · obtain ⟨M1, eMz9⟩ : ∃ M1, M1 = Mz9 := ⟨_, rfl⟩; subst eMz9
    rcases qz9 with ⟨hxz9, h⟩ | ⟨hxz9, h⟩ <;> cases hxz9
    refine j_aload_n hX eX6_carOf_5 0 rfl ?_
    obtain ⟨t6, h⟩ := h
    obtain ⟨z7, h⟩ := h
    refine j_getR hX eX6_carOf_6 ff_LiftGroup_12 rfl t6 (by decide) z7 ?_
    refine j_nmR (fun p8 ep8 => ?_)
    replace h := h p8 ep8
    obtain ⟨t9, h⟩ := h
    obtain ⟨z10, h⟩ := h
    refine j_getR hX eX6_carOf_9 ff_LiftGroup_181 rfl t9 (by decide) z10 ?_
    refine j_nmR (fun p11 ep11 => ?_)
    replace h := h p11 ep11
    refine j_iload_n hX eX6_carOf_12 1 rfl ?_
    obtain ⟨t12, h⟩ := h
    obtain ⟨i13, h⟩ := h
    obtain ⟨z14, h⟩ := h
    refine j_aald27 hX eX6_carOf_13 t12 i13 z14 ?_
    refine j_nmR (fun p15 ep15 => ?_)
    replace h := h p15 ep15
    obtain ⟨t16, h⟩ := h
    refine j_getI hX eX6_carOf_14 ff_LiftGroup_205 rfl t16 (by decide) ?_
    refine j_nmI (fun v17 ev17 => ?_)
    replace h := h v17 ev17
    refine j_istore_n (lv' := [(2, .int v17), (0, .ref a0), (1, .int a1)]) hX eX6_carOf_17 rfl (by decide) rfl ?_
    refine j_iload_n hX eX6_carOf_18 0 rfl ?_
    refine j_iconst (v := (-1 : Int32)) hX eX6_carOf_19 (by decide) ?_
    refine j_icmp_ne hX 33 eX6_carOf_20 (by decide) (fun c18 => ?_) (fun c18 => ?_)
    · replace h := h.2 c18
      refine j_iload_n hX eX6_carOf_33 0 rfl ?_
      exact j_iret hX hM eX6_carOf_34 rfl h
    · replace h := h.1 c18
      obtain ⟨hb1, hb2, h⟩ := h
      exact j_throwX hX hM eX6_carOf_23 eX6_carOf_26 eX6_carOf_27 eX6_carOf_29 eX6_carOf_32 rfl tx_NoSuchElementException tf_NoSuchElementException tw_635 tw_25 ts_LiftGroup_208 ta_LiftGroup_165_161.1 ta_LiftGroup_165_161.2 (by decide) hb1 hb2 h
  · obtain ⟨M1, eMz9⟩ : ∃ M1, M1 = Mz9 := ⟨_, rfl⟩; subst eMz9
    rcases qz9 with ⟨hxz9, h⟩ | ⟨hxz9, h⟩ <;> cases hxz9
    exact am_thOut hX hM rfl h

set_option maxHeartbeats 4000000 in
set_option maxRecDepth 20000 in
theorem vX6_estimate_0 {X : am_Cx} {G : am_Gx} {d : Nat} {Q : am_Q} (hX : am_ok X rX6_estimate G (d + 1)) (hM : am_me X rX6_estimate Q) {bc bs : Nat}  {a0 : Nat} {a1 : Int32} {a2 : Int32} {M : am_Hp} (h : 1 ≤ bc ∧ (6 ≤ bs ∧ (am_CT G d rX6_checkCar [.int a1] M 1 6 (fun oz9 M1 => (oz9 = .inl none ∧ (1 ≤ (bc - 1) ∧ (6 ≤ (bs - 6) ∧ (am_CT G d rX6_checkFloor [.int a2] M1 1 6 (fun oz9 M5 => (oz9 = .inl none ∧ (hp_T M5 (a0) = 7 ∧ (hp_R M5 120 a0 ≠ 0 ∧ (∀ p11 : Nat, p11 = hp_R M5 120 a0 → (hp_T M5 (p11) = 1 ∧ (am_CT G d rX0_estimateByFormula [.ref p11, .int a1, .int a2] M5 0 0 (fun oz9 M12 => ∃ v13 : Int32, oz9 = .inl (some (.int v13)) ∧ (Q (.inl (some (.int v13))) M12)))))))) ∨ ((oz9 = .inr "java/lang/IllegalArgumentException" ∧ Q (.inr "java/lang/IllegalArgumentException") M5))))))) ∨ ((oz9 = .inr "java/lang/IndexOutOfBoundsException" ∧ Q (.inr "java/lang/IndexOutOfBoundsException") M1)))))) : am_J X 0 [(0, .ref a0), (1, .int a1), (2, .int a2)] [] M bc bs := by
  refine j_iload_n hX eX6_estimate_0 1 rfl ?_
  obtain ⟨b3, b4, h⟩ := h
  refine j_callS (r' := rX6_checkCar) (As := [.int a1]) (rest := []) (d1 := d) hX eX6_estimate_1 mm_LiftGroup_110 rfl rfl h rfl (Nat.le_refl _) b3 b4 (Nat.le_of_ble_eq_true rfl) (fun vz9 Mz9 qz9 => ?_) (fun Ez9 Mz9 qz9 => ?_)
  · obtain ⟨M1, eMz9⟩ : ∃ M1, M1 = Mz9 := ⟨_, rfl⟩; subst eMz9
    rcases qz9 with ⟨hxz9, h⟩ | ⟨hxz9, h⟩ <;> cases hxz9
    refine j_iload_n hX eX6_estimate_4 2 rfl ?_
    obtain ⟨b7, b8, h⟩ := h
    refine j_callS (r' := rX6_checkFloor) (As := [.int a2]) (rest := []) (d1 := d) hX eX6_estimate_5 mm_LiftGroup_146 rfl rfl h rfl (Nat.le_refl _) b7 b8 (Nat.le_of_ble_eq_true rfl) (fun vz9 Mz9 qz9 => ?_) (fun Ez9 Mz9 qz9 => ?_)
    · obtain ⟨M5, eMz9⟩ : ∃ M5, M5 = Mz9 := ⟨_, rfl⟩; subst eMz9
      rcases qz9 with ⟨hxz9, h⟩ | ⟨hxz9, h⟩ <;> cases hxz9
      refine j_aload_n hX eX6_estimate_8 0 rfl ?_
      obtain ⟨t9, h⟩ := h
      obtain ⟨z10, h⟩ := h
      refine j_getR hX eX6_estimate_9 ff_LiftGroup_12 rfl t9 (by decide) z10 ?_
      refine j_nmR (fun p11 ep11 => ?_)
      replace h := h p11 ep11
      refine j_iload_n hX eX6_estimate_12 1 rfl ?_
      refine j_iload_n hX eX6_estimate_13 2 rfl ?_
      obtain ⟨t14, h⟩ := h
      refine j_callV (a := p11) (q := (RX0, TX0, 10)) (r' := rX0_estimateByFormula) (As := [.int a1, .int a2]) (rest := []) (d1 := d) hX eX6_estimate_14 mm_LiftGroup_213 rfl t14 (by decide) rfl h rfl (Nat.le_refl _) (Nat.zero_le _) (Nat.zero_le _) (Nat.le_of_ble_eq_true rfl) (fun vz9 Mz9 qz9 => ?_) (fun Ez9 Mz9 qz9 => ?_)
      · obtain ⟨M12, eMz9⟩ : ∃ M12, M12 = Mz9 := ⟨_, rfl⟩; subst eMz9
        obtain ⟨v13, hxz9, h⟩ := qz9
        cases hxz9
        exact j_iret hX hM eX6_estimate_17 rfl h
      · obtain ⟨v13, hxz9, h⟩ := qz9
        cases hxz9
    · obtain ⟨M5, eMz9⟩ : ∃ M5, M5 = Mz9 := ⟨_, rfl⟩; subst eMz9
      rcases qz9 with ⟨hxz9, h⟩ | ⟨hxz9, h⟩ <;> cases hxz9
      exact am_thOut hX hM rfl h
  · obtain ⟨M1, eMz9⟩ : ∃ M1, M1 = Mz9 := ⟨_, rfl⟩; subst eMz9
    rcases qz9 with ⟨hxz9, h⟩ | ⟨hxz9, h⟩ <;> cases hxz9
    exact am_thOut hX hM rfl h

set_option maxHeartbeats 4000000 in
set_option maxRecDepth 20000 in
theorem vX6_estimateByWalk_0 {X : am_Cx} {G : am_Gx} {d : Nat} {Q : am_Q} (hX : am_ok X rX6_estimateByWalk G (d + 1)) (hM : am_me X rX6_estimateByWalk Q) {bc bs : Nat}  {a0 : Nat} {a1 : Int32} {a2 : Int32} {M : am_Hp} (h : 1 ≤ bc ∧ (6 ≤ bs ∧ (am_CT G d rX6_checkCar [.int a1] M 1 6 (fun oz9 M1 => (oz9 = .inl none ∧ (1 ≤ (bc - 1) ∧ (6 ≤ (bs - 6) ∧ (am_CT G d rX6_checkFloor [.int a2] M1 1 6 (fun oz9 M5 => (oz9 = .inl none ∧ (hp_T M5 (a0) = 7 ∧ (hp_R M5 120 a0 ≠ 0 ∧ (∀ p11 : Nat, p11 = hp_R M5 120 a0 → (hp_T M5 (p11) = 1 ∧ (am_CT G d rX0_estimateByMoving [.ref p11, .int a1, .int a2] M5 0 0 (fun oz9 M12 => ∃ v13 : Int32, oz9 = .inl (some (.int v13)) ∧ (Q (.inl (some (.int v13))) M12)))))))) ∨ ((oz9 = .inr "java/lang/IllegalArgumentException" ∧ Q (.inr "java/lang/IllegalArgumentException") M5))))))) ∨ ((oz9 = .inr "java/lang/IndexOutOfBoundsException" ∧ Q (.inr "java/lang/IndexOutOfBoundsException") M1)))))) : am_J X 0 [(0, .ref a0), (1, .int a1), (2, .int a2)] [] M bc bs := by
  refine j_iload_n hX eX6_estimateByWalk_0 1 rfl ?_
  obtain ⟨b3, b4, h⟩ := h
  refine j_callS (r' := rX6_checkCar) (As := [.int a1]) (rest := []) (d1 := d) hX eX6_estimateByWalk_1 mm_LiftGroup_110 rfl rfl h rfl (Nat.le_refl _) b3 b4 (Nat.le_of_ble_eq_true rfl) (fun vz9 Mz9 qz9 => ?_) (fun Ez9 Mz9 qz9 => ?_)
  · obtain ⟨M1, eMz9⟩ : ∃ M1, M1 = Mz9 := ⟨_, rfl⟩; subst eMz9
    rcases qz9 with ⟨hxz9, h⟩ | ⟨hxz9, h⟩ <;> cases hxz9
    refine j_iload_n hX eX6_estimateByWalk_4 2 rfl ?_
    obtain ⟨b7, b8, h⟩ := h
    refine j_callS (r' := rX6_checkFloor) (As := [.int a2]) (rest := []) (d1 := d) hX eX6_estimateByWalk_5 mm_LiftGroup_146 rfl rfl h rfl (Nat.le_refl _) b7 b8 (Nat.le_of_ble_eq_true rfl) (fun vz9 Mz9 qz9 => ?_) (fun Ez9 Mz9 qz9 => ?_)
    · obtain ⟨M5, eMz9⟩ : ∃ M5, M5 = Mz9 := ⟨_, rfl⟩; subst eMz9
      rcases qz9 with ⟨hxz9, h⟩ | ⟨hxz9, h⟩ <;> cases hxz9
      refine j_aload_n hX eX6_estimateByWalk_8 0 rfl ?_
      obtain ⟨t9, h⟩ := h
      obtain ⟨z10, h⟩ := h
      refine j_getR hX eX6_estimateByWalk_9 ff_LiftGroup_12 rfl t9 (by decide) z10 ?_
      refine j_nmR (fun p11 ep11 => ?_)
      replace h := h p11 ep11
      refine j_iload_n hX eX6_estimateByWalk_12 1 rfl ?_
      refine j_iload_n hX eX6_estimateByWalk_13 2 rfl ?_
      obtain ⟨t14, h⟩ := h
      refine j_callV (a := p11) (q := (RX0, TX0, 10)) (r' := rX0_estimateByMoving) (As := [.int a1, .int a2]) (rest := []) (d1 := d) hX eX6_estimateByWalk_14 mm_LiftGroup_216 rfl t14 (by decide) rfl h rfl (Nat.le_refl _) (Nat.zero_le _) (Nat.zero_le _) (Nat.le_of_ble_eq_true rfl) (fun vz9 Mz9 qz9 => ?_) (fun Ez9 Mz9 qz9 => ?_)
      · obtain ⟨M12, eMz9⟩ : ∃ M12, M12 = Mz9 := ⟨_, rfl⟩; subst eMz9
        obtain ⟨v13, hxz9, h⟩ := qz9
        cases hxz9
        exact j_iret hX hM eX6_estimateByWalk_17 rfl h
      · obtain ⟨v13, hxz9, h⟩ := qz9
        cases hxz9
    · obtain ⟨M5, eMz9⟩ : ∃ M5, M5 = Mz9 := ⟨_, rfl⟩; subst eMz9
      rcases qz9 with ⟨hxz9, h⟩ | ⟨hxz9, h⟩ <;> cases hxz9
      exact am_thOut hX hM rfl h
  · obtain ⟨M1, eMz9⟩ : ∃ M1, M1 = Mz9 := ⟨_, rfl⟩; subst eMz9
    rcases qz9 with ⟨hxz9, h⟩ | ⟨hxz9, h⟩ <;> cases hxz9
    exact am_thOut hX hM rfl h

set_option maxHeartbeats 4000000 in
set_option maxRecDepth 20000 in
theorem vX6_bestCar_0 {X : am_Cx} {G : am_Gx} {d : Nat} {Q : am_Q} (hX : am_ok X rX6_bestCar G (d + 1)) (hM : am_me X rX6_bestCar Q) {bc bs : Nat}  {a0 : Nat} {a1 : Int32} {a2 : Int32} {M : am_Hp} (h : 1 ≤ bc ∧ (6 ≤ bs ∧ (am_CT G d rX6_checkFloor [.int a1] M 1 6 (fun oz9 M1 => (oz9 = .inl none ∧ (am_CT G d rX6_isWeight [.int a2] M1 0 0 (fun oz9 M5 => ∃ v6 : Int32, oz9 = .inl (some (.int v6)) ∧ (((v6 = 0) → (1 ≤ (bc - 1) ∧ 6 ≤ (bs - 6) ∧ Q (.inr "java/lang/IllegalArgumentException") M5)) ∧ (¬ (v6 = 0) → (hp_T M5 (a0) = 7 ∧ (hp_R M5 120 a0 ≠ 0 ∧ (∀ p10 : Nat, p10 = hp_R M5 120 a0 → (hp_T M5 (p10) = 1 ∧ (am_CT G d rX0_chooseCar [.ref p10, .int a1, .int a2] M5 0 0 (fun oz9 M11 => ∃ v12 : Int32, oz9 = .inl (some (.int v12)) ∧ (((v12 = (-1 : Int32)) → (1 ≤ (bc - 1) ∧ 6 ≤ (bs - 6) ∧ Q (.inr "java/util/NoSuchElementException") M11)) ∧ (¬ (v12 = (-1 : Int32)) → (Q (.inl (some (.int v12))) M11)))))))))))))) ∨ ((oz9 = .inr "java/lang/IllegalArgumentException" ∧ Q (.inr "java/lang/IllegalArgumentException") M1)))))) : am_J X 0 [(0, .ref a0), (1, .int a1), (2, .int a2)] [] M bc bs := by
  refine j_iload_n hX eX6_bestCar_0 1 rfl ?_
  obtain ⟨b3, b4, h⟩ := h
  refine j_callS (r' := rX6_checkFloor) (As := [.int a1]) (rest := []) (d1 := d) hX eX6_bestCar_1 mm_LiftGroup_146 rfl rfl h rfl (Nat.le_refl _) b3 b4 (Nat.le_of_ble_eq_true rfl) (fun vz9 Mz9 qz9 => ?_) (fun Ez9 Mz9 qz9 => ?_)
  · obtain ⟨M1, eMz9⟩ : ∃ M1, M1 = Mz9 := ⟨_, rfl⟩; subst eMz9
    rcases qz9 with ⟨hxz9, h⟩ | ⟨hxz9, h⟩ <;> cases hxz9
    refine j_iload_n hX eX6_bestCar_4 2 rfl ?_
    refine j_callS (r' := rX6_isWeight) (As := [.int a2]) (rest := []) (d1 := d) hX eX6_bestCar_5 mm_LiftGroup_219 rfl rfl h rfl (Nat.le_refl _) (Nat.zero_le _) (Nat.zero_le _) (Nat.le_of_ble_eq_true rfl) (fun vz9 Mz9 qz9 => ?_) (fun Ez9 Mz9 qz9 => ?_)
    · obtain ⟨M5, eMz9⟩ : ∃ M5, M5 = Mz9 := ⟨_, rfl⟩; subst eMz9
      obtain ⟨v6, hxz9, h⟩ := qz9
      cases hxz9
      refine j_if_ne hX 21 eX6_bestCar_8 (by decide) (fun c7 => ?_) (fun c7 => ?_)
      · replace h := h.2 c7
        refine j_aload_n hX eX6_bestCar_21 0 rfl ?_
        obtain ⟨t8, h⟩ := h
        obtain ⟨z9, h⟩ := h
        refine j_getR hX eX6_bestCar_22 ff_LiftGroup_12 rfl t8 (by decide) z9 ?_
        refine j_nmR (fun p10 ep10 => ?_)
        replace h := h p10 ep10
        refine j_iload_n hX eX6_bestCar_25 1 rfl ?_
        refine j_iload_n hX eX6_bestCar_26 2 rfl ?_
        obtain ⟨t13, h⟩ := h
        refine j_callV (a := p10) (q := (RX0, TX0, 10)) (r' := rX0_chooseCar) (As := [.int a1, .int a2]) (rest := []) (d1 := d) hX eX6_bestCar_27 mm_LiftGroup_228 rfl t13 (by decide) rfl h rfl (Nat.le_refl _) (Nat.zero_le _) (Nat.zero_le _) (Nat.le_of_ble_eq_true rfl) (fun vz9 Mz9 qz9 => ?_) (fun Ez9 Mz9 qz9 => ?_)
        · obtain ⟨M11, eMz9⟩ : ∃ M11, M11 = Mz9 := ⟨_, rfl⟩; subst eMz9
          obtain ⟨v12, hxz9, h⟩ := qz9
          cases hxz9
          refine j_istore_n (lv' := [(3, .int v12), (0, .ref a0), (1, .int a1), (2, .int a2)]) hX eX6_bestCar_30 rfl (by decide) rfl ?_
          refine j_iload_n hX eX6_bestCar_31 0 rfl ?_
          refine j_iconst (v := (-1 : Int32)) hX eX6_bestCar_32 (by decide) ?_
          refine j_icmp_ne hX 46 eX6_bestCar_33 (by decide) (fun c14 => ?_) (fun c14 => ?_)
          · replace h := h.2 c14
            refine j_iload_n hX eX6_bestCar_46 0 rfl ?_
            exact j_iret hX hM eX6_bestCar_47 rfl h
          · replace h := h.1 c14
            obtain ⟨hb1, hb2, h⟩ := h
            exact j_throwX hX hM eX6_bestCar_36 eX6_bestCar_39 eX6_bestCar_40 eX6_bestCar_42 eX6_bestCar_45 rfl tx_NoSuchElementException tf_NoSuchElementException tw_635 tw_25 ts_LiftGroup_231 ta_LiftGroup_165_161.1 ta_LiftGroup_165_161.2 (by decide) hb1 hb2 h
        · obtain ⟨v12, hxz9, h⟩ := qz9
          cases hxz9
      · replace h := h.1 c7
        obtain ⟨hb1, hb2, h⟩ := h
        exact j_throwX hX hM eX6_bestCar_11 eX6_bestCar_14 eX6_bestCar_15 eX6_bestCar_17 eX6_bestCar_20 rfl tx_IllegalArgumentException tf_IllegalArgumentException tw_408 tw_17 ts_LiftGroup_225 ta_LiftGroup_227_223.1 ta_LiftGroup_227_223.2 (by decide) hb1 hb2 h
    · obtain ⟨v6, hxz9, h⟩ := qz9
      cases hxz9
  · obtain ⟨M1, eMz9⟩ : ∃ M1, M1 = Mz9 := ⟨_, rfl⟩; subst eMz9
    rcases qz9 with ⟨hxz9, h⟩ | ⟨hxz9, h⟩ <;> cases hxz9
    exact am_thOut hX hM rfl h

set_option maxHeartbeats 4000000 in
set_option maxRecDepth 20000 in
theorem vX6_stepsUntilBoarding_0 {X : am_Cx} {G : am_Gx} {d : Nat} {Q : am_Q} (hX : am_ok X rX6_stepsUntilBoarding G (d + 1)) (hM : am_me X rX6_stepsUntilBoarding Q) {bc bs : Nat} (R48 : Nat → Int32 → Int32 → am_Hp → Nat → Nat → Prop) (k48 : ∀ (x0 : Nat) (x2 : Int32) (x3 : Int32) (M : am_Hp) (bc bs : Nat), R48 x0 x2 x3 M bc bs → am_J X 48 [(0, .ref x0), (2, .int x2), (3, .int x3)] [] M bc bs) {a0 : Nat} {a1 : Int32} {M : am_Hp} (h : hp_T M (a0) = 7 ∧ (1 ≤ bc ∧ (6 ≤ bs ∧ (am_CT G d rX6_checkPassenger [.ref a0, .int a1] M 1 6 (fun oz9 M1 => (oz9 = .inl none ∧ (hp_T M1 (a0) = 7 ∧ (hp_R M1 120 a0 ≠ 0 ∧ (∀ p8 : Nat, p8 = hp_R M1 120 a0 → (hp_T M1 (p8) = 1 ∧ (hp_R M1 1 p8 ≠ 0 ∧ (∀ p11 : Nat, p11 = hp_R M1 1 p8 → (hp_T M1 (p11) = 27 ∧ (vp_in a1 (hp_N M1 p11) ∧ (hp_Q M1 p11 (a1).toNatClampNeg ≠ 0 ∧ (∀ p15 : Nat, p15 = hp_Q M1 p11 (a1).toNatClampNeg → (hp_T M1 (p15) = 4 ∧ ((((hp_I M1 66 p15) = 0) → (hp_R M1 120 a0 ≠ 0 ∧ (∀ p19 : Nat, p19 = hp_R M1 120 a0 → (hp_T M1 (p19) = 1 ∧ (hp_R M1 1 p19 ≠ 0 ∧ (∀ p22 : Nat, p22 = hp_R M1 1 p19 → (hp_T M1 (p22) = 27 ∧ (vp_in a1 (hp_N M1 p22) ∧ (hp_Q M1 p22 (a1).toNatClampNeg ≠ 0 ∧ (∀ p26 : Nat, p26 = hp_Q M1 p22 (a1).toNatClampNeg → (hp_T M1 (p26) = 4 ∧ (∀ v28 : Int32, v28 = (hp_I M1 60 p26) → (hp_R M1 121 a0 ≠ 0 ∧ (∀ p30 : Nat, p30 = hp_R M1 121 a0 → (hp_R M1 120 a0 ≠ 0 ∧ (∀ p32 : Nat, p32 = hp_R M1 120 a0 → (hp_T M1 (p30) = 1 ∧ (am_CT G d rX0_copyFrom [.ref p30, .ref p32] M1 0 0 (fun oz9 M33 => oz9 = .inl none ∧ (R48 a0 v28 (1 : Int32) M33 (bc - 1) (bs - 6))))))))))))))))))))) ∧ (¬ ((hp_I M1 66 p15) = 0) → (Q (.inl (some (.int (0 : Int32)))) M1))))))))))))))) ∨ ((oz9 = .inr "java/lang/IndexOutOfBoundsException" ∧ Q (.inr "java/lang/IndexOutOfBoundsException") M1))))))) : am_J X 0 [(0, .ref a0), (1, .int a1)] [] M bc bs := by
  refine j_aload_n hX eX6_stepsUntilBoarding_0 0 rfl ?_
  refine j_iload_n hX eX6_stepsUntilBoarding_1 1 rfl ?_
  obtain ⟨t3, h⟩ := h
  obtain ⟨b4, b5, h⟩ := h
  refine j_callV (a := a0) (q := (RX6, TX6, 9)) (r' := rX6_checkPassenger) (As := [.int a1]) (rest := []) (d1 := d) hX eX6_stepsUntilBoarding_2 mm_LiftGroup_178 rfl t3 (by decide) rfl h rfl (Nat.le_refl _) b4 b5 (Nat.le_of_ble_eq_true rfl) (fun vz9 Mz9 qz9 => ?_) (fun Ez9 Mz9 qz9 => ?_)
  · obtain ⟨M1, eMz9⟩ : ∃ M1, M1 = Mz9 := ⟨_, rfl⟩; subst eMz9
    rcases qz9 with ⟨hxz9, h⟩ | ⟨hxz9, h⟩ <;> cases hxz9
    refine j_aload_n hX eX6_stepsUntilBoarding_5 0 rfl ?_
    obtain ⟨t6, h⟩ := h
    obtain ⟨z7, h⟩ := h
    refine j_getR hX eX6_stepsUntilBoarding_6 ff_LiftGroup_12 rfl t6 (by decide) z7 ?_
    refine j_nmR (fun p8 ep8 => ?_)
    replace h := h p8 ep8
    obtain ⟨t9, h⟩ := h
    obtain ⟨z10, h⟩ := h
    refine j_getR hX eX6_stepsUntilBoarding_9 ff_LiftGroup_181 rfl t9 (by decide) z10 ?_
    refine j_nmR (fun p11 ep11 => ?_)
    replace h := h p11 ep11
    refine j_iload_n hX eX6_stepsUntilBoarding_12 1 rfl ?_
    obtain ⟨t12, h⟩ := h
    obtain ⟨i13, h⟩ := h
    obtain ⟨z14, h⟩ := h
    refine j_aald27 hX eX6_stepsUntilBoarding_13 t12 i13 z14 ?_
    refine j_nmR (fun p15 ep15 => ?_)
    replace h := h p15 ep15
    obtain ⟨t16, h⟩ := h
    refine j_getI hX eX6_stepsUntilBoarding_14 ff_LiftGroup_202 rfl t16 (by decide) ?_
    refine j_if_eq hX 22 eX6_stepsUntilBoarding_17 (by decide) (fun c17 => ?_) (fun c17 => ?_)
    · replace h := h.1 c17
      refine j_aload_n hX eX6_stepsUntilBoarding_22 0 rfl ?_
      obtain ⟨z18, h⟩ := h
      refine j_getR hX eX6_stepsUntilBoarding_23 ff_LiftGroup_12 rfl t6 (by decide) z18 ?_
      refine j_nmR (fun p19 ep19 => ?_)
      replace h := h p19 ep19
      obtain ⟨t20, h⟩ := h
      obtain ⟨z21, h⟩ := h
      refine j_getR hX eX6_stepsUntilBoarding_26 ff_LiftGroup_181 rfl t20 (by decide) z21 ?_
      refine j_nmR (fun p22 ep22 => ?_)
      replace h := h p22 ep22
      refine j_iload_n hX eX6_stepsUntilBoarding_29 1 rfl ?_
      obtain ⟨t23, h⟩ := h
      obtain ⟨i24, h⟩ := h
      obtain ⟨z25, h⟩ := h
      refine j_aald27 hX eX6_stepsUntilBoarding_30 t23 i24 z25 ?_
      refine j_nmR (fun p26 ep26 => ?_)
      replace h := h p26 ep26
      obtain ⟨t27, h⟩ := h
      refine j_getI hX eX6_stepsUntilBoarding_31 ff_LiftGroup_185 rfl t27 (by decide) ?_
      refine j_nmI (fun v28 ev28 => ?_)
      replace h := h v28 ev28
      refine j_istore_n (lv' := [(2, .int v28), (0, .ref a0), (1, .int a1)]) hX eX6_stepsUntilBoarding_34 rfl (by decide) rfl ?_
      refine j_aload_n hX eX6_stepsUntilBoarding_35 1 rfl ?_
      obtain ⟨z29, h⟩ := h
      refine j_getR hX eX6_stepsUntilBoarding_36 ff_LiftGroup_16 rfl t6 (by decide) z29 ?_
      refine j_nmR (fun p30 ep30 => ?_)
      replace h := h p30 ep30
      refine j_aload_n hX eX6_stepsUntilBoarding_39 1 rfl ?_
      obtain ⟨z31, h⟩ := h
      refine j_getR hX eX6_stepsUntilBoarding_40 ff_LiftGroup_12 rfl t6 (by decide) z31 ?_
      refine j_nmR (fun p32 ep32 => ?_)
      replace h := h p32 ep32
      obtain ⟨t35, h⟩ := h
      refine j_callV (a := p30) (q := (RX0, TX0, 10)) (r' := rX0_copyFrom) (As := [.ref p32]) (rest := []) (d1 := d) hX eX6_stepsUntilBoarding_43 mm_LiftGroup_233 rfl t35 (by decide) rfl h rfl (Nat.le_refl _) (Nat.zero_le _) (Nat.zero_le _) (Nat.le_of_ble_eq_true rfl) (fun vz9 Mz9 qz9 => ?_) (fun Ez9 Mz9 qz9 => ?_)
      · obtain ⟨M33, eMz9⟩ : ∃ M33, M33 = Mz9 := ⟨_, rfl⟩; subst eMz9
        obtain ⟨hxz9, h⟩ := qz9
        cases hxz9
        refine j_iconst (v := (1 : Int32)) hX eX6_stepsUntilBoarding_46 (by decide) ?_
        refine j_istore_n (lv' := [(3, .int (1 : Int32)), (2, .int v28), (0, .ref a0), (1, .int a1)]) hX eX6_stepsUntilBoarding_47 rfl (by decide) rfl ?_
        exact j_sub [2, 1, 0] rfl (k48 _ _ _ _ _ _ h)
      · obtain ⟨hxz9, h⟩ := qz9
        cases hxz9
    · replace h := h.2 c17
      refine j_iconst (v := (0 : Int32)) hX eX6_stepsUntilBoarding_20 (by decide) ?_
      exact j_iret hX hM eX6_stepsUntilBoarding_21 rfl h
  · obtain ⟨M1, eMz9⟩ : ∃ M1, M1 = Mz9 := ⟨_, rfl⟩; subst eMz9
    rcases qz9 with ⟨hxz9, h⟩ | ⟨hxz9, h⟩ <;> cases hxz9
    exact am_thOut hX hM rfl h
set_option maxHeartbeats 4000000 in
set_option maxRecDepth 20000 in
theorem vX6_stepsUntilBoarding_48 {X : am_Cx} {G : am_Gx} {d : Nat} {Q : am_Q} (hX : am_ok X rX6_stepsUntilBoarding G (d + 1)) (hM : am_me X rX6_stepsUntilBoarding Q) {bc bs : Nat} (R48 : Nat → Int32 → Int32 → am_Hp → Nat → Nat → Prop) (k48 : ∀ (x0 : Nat) (x2 : Int32) (x3 : Int32) (M : am_Hp) (bc bs : Nat), R48 x0 x2 x3 M bc bs → am_J X 48 [(0, .ref x0), (2, .int x2), (3, .int x3)] [] M bc bs) {a0 : Nat} {a2 : Int32} {a3 : Int32} {M : am_Hp} (h : (((90 : Int32) < a3) → (1 ≤ bc ∧ 6 ≤ bs ∧ Q (.inr "java/util/NoSuchElementException") M)) ∧ (¬ ((90 : Int32) < a3) → (hp_T M (a0) = 7 ∧ (hp_R M 121 a0 ≠ 0 ∧ (∀ p4 : Nat, p4 = hp_R M 121 a0 → (hp_T M (p4) = 1 ∧ (am_CT G d rX0_step [.ref p4] M 0 0 (fun oz9 M5 => oz9 = .inl none ∧ (hp_T M5 (a0) = 7 ∧ (hp_R M5 121 a0 ≠ 0 ∧ (∀ p10 : Nat, p10 = hp_R M5 121 a0 → (hp_T M5 (p10) = 1 ∧ (am_CT G d rX0_isRiding [.ref p10, .int a2] M5 0 0 (fun oz9 M11 => ∃ v12 : Int32, oz9 = .inl (some (.int v12)) ∧ (((v12 = 0) → (∀ v15 : Int32, v15 = a3 + (1 : Int32) → (R48 a0 a2 v15 M11 bc bs))) ∧ (¬ (v12 = 0) → (Q (.inl (some (.int a3))) M11))))))))))))))))) : am_J X 48 [(0, .ref a0), (2, .int a2), (3, .int a3)] [] M bc bs := by
  refine j_iload_n hX eX6_stepsUntilBoarding_48 2 rfl ?_
  refine j_bipush (v := (90 : Int32)) hX eX6_stepsUntilBoarding_49 (by decide) ?_
  refine j_icmp_gt hX 80 eX6_stepsUntilBoarding_51 (by decide) (fun c1 => ?_) (fun c1 => ?_)
  · replace h := h.1 c1
    obtain ⟨hb1, hb2, h⟩ := h
    exact j_throwX hX hM eX6_stepsUntilBoarding_80 eX6_stepsUntilBoarding_83 eX6_stepsUntilBoarding_84 eX6_stepsUntilBoarding_86 eX6_stepsUntilBoarding_89 rfl tx_NoSuchElementException tf_NoSuchElementException tw_635 tw_25 ts_LiftGroup_242 ta_LiftGroup_165_161.1 ta_LiftGroup_165_161.2 (by decide) hb1 hb2 h
  · replace h := h.2 c1
    refine j_aload_n hX eX6_stepsUntilBoarding_54 0 rfl ?_
    obtain ⟨t2, h⟩ := h
    obtain ⟨z3, h⟩ := h
    refine j_getR hX eX6_stepsUntilBoarding_55 ff_LiftGroup_16 rfl t2 (by decide) z3 ?_
    refine j_nmR (fun p4 ep4 => ?_)
    replace h := h p4 ep4
    obtain ⟨t7, h⟩ := h
    refine j_callV (a := p4) (q := (RX0, TX0, 10)) (r' := rX0_step) (As := []) (rest := []) (d1 := d) hX eX6_stepsUntilBoarding_58 mm_LiftGroup_236 rfl t7 (by decide) rfl h rfl (Nat.le_refl _) (Nat.zero_le _) (Nat.zero_le _) (Nat.le_of_ble_eq_true rfl) (fun vz9 Mz9 qz9 => ?_) (fun Ez9 Mz9 qz9 => ?_)
    · obtain ⟨M5, eMz9⟩ : ∃ M5, M5 = Mz9 := ⟨_, rfl⟩; subst eMz9
      obtain ⟨hxz9, h⟩ := qz9
      cases hxz9
      refine j_aload_n hX eX6_stepsUntilBoarding_61 0 rfl ?_
      obtain ⟨t8, h⟩ := h
      obtain ⟨z9, h⟩ := h
      refine j_getR hX eX6_stepsUntilBoarding_62 ff_LiftGroup_16 rfl t8 (by decide) z9 ?_
      refine j_nmR (fun p10 ep10 => ?_)
      replace h := h p10 ep10
      refine j_iload_n hX eX6_stepsUntilBoarding_65 1 rfl ?_
      obtain ⟨t13, h⟩ := h
      refine j_callV (a := p10) (q := (RX0, TX0, 10)) (r' := rX0_isRiding) (As := [.int a2]) (rest := []) (d1 := d) hX eX6_stepsUntilBoarding_66 mm_LiftGroup_239 rfl t13 (by decide) rfl h rfl (Nat.le_refl _) (Nat.zero_le _) (Nat.zero_le _) (Nat.le_of_ble_eq_true rfl) (fun vz9 Mz9 qz9 => ?_) (fun Ez9 Mz9 qz9 => ?_)
      · obtain ⟨M11, eMz9⟩ : ∃ M11, M11 = Mz9 := ⟨_, rfl⟩; subst eMz9
        obtain ⟨v12, hxz9, h⟩ := qz9
        cases hxz9
        refine j_if_eq hX 74 eX6_stepsUntilBoarding_69 (by decide) (fun c14 => ?_) (fun c14 => ?_)
        · replace h := h.1 c14
          obtain ⟨v15, ev15⟩ : ∃ v15 : Int32, v15 = a3 + (1 : Int32) := ⟨_, rfl⟩
          replace h := h v15 ev15
          refine j_iinc (v := v15) (lv' := [(3, .int v15), (0, .ref a0), (2, .int a2)]) hX eX6_stepsUntilBoarding_74 2 rfl (by rw [ev15]; rfl) (by decide) rfl ?_
          refine j_goto hX 48 eX6_stepsUntilBoarding_77 (by decide) ?_
          exact j_sub [1, 2, 0] rfl (k48 _ _ _ _ _ _ h)
        · replace h := h.2 c14
          refine j_iload_n hX eX6_stepsUntilBoarding_72 2 rfl ?_
          exact j_iret hX hM eX6_stepsUntilBoarding_73 rfl h
      · obtain ⟨v12, hxz9, h⟩ := qz9
        cases hxz9
    · obtain ⟨hxz9, h⟩ := qz9
      cases hxz9

set_option maxHeartbeats 4000000 in
set_option maxRecDepth 20000 in
theorem vX6_stepsUntilArrival_0 {X : am_Cx} {G : am_Gx} {d : Nat} {Q : am_Q} (hX : am_ok X rX6_stepsUntilArrival G (d + 1)) (hM : am_me X rX6_stepsUntilArrival Q) {bc bs : Nat} (R31 : Nat → Int32 → Int32 → am_Hp → Nat → Nat → Prop) (k31 : ∀ (x0 : Nat) (x2 : Int32) (x3 : Int32) (M : am_Hp) (bc bs : Nat), R31 x0 x2 x3 M bc bs → am_J X 31 [(0, .ref x0), (2, .int x2), (3, .int x3)] [] M bc bs) {a0 : Nat} {a1 : Int32} {M : am_Hp} (h : hp_T M (a0) = 7 ∧ (1 ≤ bc ∧ (6 ≤ bs ∧ (am_CT G d rX6_checkPassenger [.ref a0, .int a1] M 1 6 (fun oz9 M1 => (oz9 = .inl none ∧ (hp_T M1 (a0) = 7 ∧ (hp_R M1 120 a0 ≠ 0 ∧ (∀ p8 : Nat, p8 = hp_R M1 120 a0 → (hp_T M1 (p8) = 1 ∧ (hp_R M1 1 p8 ≠ 0 ∧ (∀ p11 : Nat, p11 = hp_R M1 1 p8 → (hp_T M1 (p11) = 27 ∧ (vp_in a1 (hp_N M1 p11) ∧ (hp_Q M1 p11 (a1).toNatClampNeg ≠ 0 ∧ (∀ p15 : Nat, p15 = hp_Q M1 p11 (a1).toNatClampNeg → (hp_T M1 (p15) = 4 ∧ (∀ v17 : Int32, v17 = (hp_I M1 60 p15) → (hp_R M1 121 a0 ≠ 0 ∧ (∀ p19 : Nat, p19 = hp_R M1 121 a0 → (hp_R M1 120 a0 ≠ 0 ∧ (∀ p21 : Nat, p21 = hp_R M1 120 a0 → (hp_T M1 (p19) = 1 ∧ (am_CT G d rX0_copyFrom [.ref p19, .ref p21] M1 0 0 (fun oz9 M22 => oz9 = .inl none ∧ (R31 a0 v17 (1 : Int32) M22 (bc - 1) (bs - 6)))))))))))))))))))))) ∨ ((oz9 = .inr "java/lang/IndexOutOfBoundsException" ∧ Q (.inr "java/lang/IndexOutOfBoundsException") M1))))))) : am_J X 0 [(0, .ref a0), (1, .int a1)] [] M bc bs := by
  refine j_aload_n hX eX6_stepsUntilArrival_0 0 rfl ?_
  refine j_iload_n hX eX6_stepsUntilArrival_1 1 rfl ?_
  obtain ⟨t3, h⟩ := h
  obtain ⟨b4, b5, h⟩ := h
  refine j_callV (a := a0) (q := (RX6, TX6, 9)) (r' := rX6_checkPassenger) (As := [.int a1]) (rest := []) (d1 := d) hX eX6_stepsUntilArrival_2 mm_LiftGroup_178 rfl t3 (by decide) rfl h rfl (Nat.le_refl _) b4 b5 (Nat.le_of_ble_eq_true rfl) (fun vz9 Mz9 qz9 => ?_) (fun Ez9 Mz9 qz9 => ?_)
  · obtain ⟨M1, eMz9⟩ : ∃ M1, M1 = Mz9 := ⟨_, rfl⟩; subst eMz9
    rcases qz9 with ⟨hxz9, h⟩ | ⟨hxz9, h⟩ <;> cases hxz9
    refine j_aload_n hX eX6_stepsUntilArrival_5 0 rfl ?_
    obtain ⟨t6, h⟩ := h
    obtain ⟨z7, h⟩ := h
    refine j_getR hX eX6_stepsUntilArrival_6 ff_LiftGroup_12 rfl t6 (by decide) z7 ?_
    refine j_nmR (fun p8 ep8 => ?_)
    replace h := h p8 ep8
    obtain ⟨t9, h⟩ := h
    obtain ⟨z10, h⟩ := h
    refine j_getR hX eX6_stepsUntilArrival_9 ff_LiftGroup_181 rfl t9 (by decide) z10 ?_
    refine j_nmR (fun p11 ep11 => ?_)
    replace h := h p11 ep11
    refine j_iload_n hX eX6_stepsUntilArrival_12 1 rfl ?_
    obtain ⟨t12, h⟩ := h
    obtain ⟨i13, h⟩ := h
    obtain ⟨z14, h⟩ := h
    refine j_aald27 hX eX6_stepsUntilArrival_13 t12 i13 z14 ?_
    refine j_nmR (fun p15 ep15 => ?_)
    replace h := h p15 ep15
    obtain ⟨t16, h⟩ := h
    refine j_getI hX eX6_stepsUntilArrival_14 ff_LiftGroup_185 rfl t16 (by decide) ?_
    refine j_nmI (fun v17 ev17 => ?_)
    replace h := h v17 ev17
    refine j_istore_n (lv' := [(2, .int v17), (0, .ref a0), (1, .int a1)]) hX eX6_stepsUntilArrival_17 rfl (by decide) rfl ?_
    refine j_aload_n hX eX6_stepsUntilArrival_18 1 rfl ?_
    obtain ⟨z18, h⟩ := h
    refine j_getR hX eX6_stepsUntilArrival_19 ff_LiftGroup_16 rfl t6 (by decide) z18 ?_
    refine j_nmR (fun p19 ep19 => ?_)
    replace h := h p19 ep19
    refine j_aload_n hX eX6_stepsUntilArrival_22 1 rfl ?_
    obtain ⟨z20, h⟩ := h
    refine j_getR hX eX6_stepsUntilArrival_23 ff_LiftGroup_12 rfl t6 (by decide) z20 ?_
    refine j_nmR (fun p21 ep21 => ?_)
    replace h := h p21 ep21
    obtain ⟨t24, h⟩ := h
    refine j_callV (a := p19) (q := (RX0, TX0, 10)) (r' := rX0_copyFrom) (As := [.ref p21]) (rest := []) (d1 := d) hX eX6_stepsUntilArrival_26 mm_LiftGroup_233 rfl t24 (by decide) rfl h rfl (Nat.le_refl _) (Nat.zero_le _) (Nat.zero_le _) (Nat.le_of_ble_eq_true rfl) (fun vz9 Mz9 qz9 => ?_) (fun Ez9 Mz9 qz9 => ?_)
    · obtain ⟨M22, eMz9⟩ : ∃ M22, M22 = Mz9 := ⟨_, rfl⟩; subst eMz9
      obtain ⟨hxz9, h⟩ := qz9
      cases hxz9
      refine j_iconst (v := (1 : Int32)) hX eX6_stepsUntilArrival_29 (by decide) ?_
      refine j_istore_n (lv' := [(3, .int (1 : Int32)), (2, .int v17), (0, .ref a0), (1, .int a1)]) hX eX6_stepsUntilArrival_30 rfl (by decide) rfl ?_
      exact j_sub [2, 1, 0] rfl (k31 _ _ _ _ _ _ h)
    · obtain ⟨hxz9, h⟩ := qz9
      cases hxz9
  · obtain ⟨M1, eMz9⟩ : ∃ M1, M1 = Mz9 := ⟨_, rfl⟩; subst eMz9
    rcases qz9 with ⟨hxz9, h⟩ | ⟨hxz9, h⟩ <;> cases hxz9
    exact am_thOut hX hM rfl h
set_option maxHeartbeats 4000000 in
set_option maxRecDepth 20000 in
theorem vX6_stepsUntilArrival_31 {X : am_Cx} {G : am_Gx} {d : Nat} {Q : am_Q} (hX : am_ok X rX6_stepsUntilArrival G (d + 1)) (hM : am_me X rX6_stepsUntilArrival Q) {bc bs : Nat} (R31 : Nat → Int32 → Int32 → am_Hp → Nat → Nat → Prop) (k31 : ∀ (x0 : Nat) (x2 : Int32) (x3 : Int32) (M : am_Hp) (bc bs : Nat), R31 x0 x2 x3 M bc bs → am_J X 31 [(0, .ref x0), (2, .int x2), (3, .int x3)] [] M bc bs) {a0 : Nat} {a2 : Int32} {a3 : Int32} {M : am_Hp} (h : (((90 : Int32) < a3) → (1 ≤ bc ∧ 6 ≤ bs ∧ Q (.inr "java/util/NoSuchElementException") M)) ∧ (¬ ((90 : Int32) < a3) → (hp_T M (a0) = 7 ∧ (hp_R M 121 a0 ≠ 0 ∧ (∀ p4 : Nat, p4 = hp_R M 121 a0 → (hp_T M (p4) = 1 ∧ (am_CT G d rX0_step [.ref p4] M 0 0 (fun oz9 M5 => oz9 = .inl none ∧ (hp_T M5 (a0) = 7 ∧ (hp_R M5 121 a0 ≠ 0 ∧ (∀ p10 : Nat, p10 = hp_R M5 121 a0 → (hp_T M5 (p10) = 1 ∧ (am_CT G d rX0_indexOf [.ref p10, .int a2] M5 0 0 (fun oz9 M11 => ∃ v12 : Int32, oz9 = .inl (some (.int v12)) ∧ (((v12 = (-1 : Int32)) → (Q (.inl (some (.int a3))) M11)) ∧ (¬ (v12 = (-1 : Int32)) → (∀ v15 : Int32, v15 = a3 + (1 : Int32) → (R31 a0 a2 v15 M11 bc bs)))))))))))))))))) : am_J X 31 [(0, .ref a0), (2, .int a2), (3, .int a3)] [] M bc bs := by
  refine j_iload_n hX eX6_stepsUntilArrival_31 2 rfl ?_
  refine j_bipush (v := (90 : Int32)) hX eX6_stepsUntilArrival_32 (by decide) ?_
  refine j_icmp_gt hX 64 eX6_stepsUntilArrival_34 (by decide) (fun c1 => ?_) (fun c1 => ?_)
  · replace h := h.1 c1
    obtain ⟨hb1, hb2, h⟩ := h
    exact j_throwX hX hM eX6_stepsUntilArrival_64 eX6_stepsUntilArrival_67 eX6_stepsUntilArrival_68 eX6_stepsUntilArrival_70 eX6_stepsUntilArrival_73 rfl tx_NoSuchElementException tf_NoSuchElementException tw_635 tw_25 ts_LiftGroup_247 ta_LiftGroup_165_161.1 ta_LiftGroup_165_161.2 (by decide) hb1 hb2 h
  · replace h := h.2 c1
    refine j_aload_n hX eX6_stepsUntilArrival_37 0 rfl ?_
    obtain ⟨t2, h⟩ := h
    obtain ⟨z3, h⟩ := h
    refine j_getR hX eX6_stepsUntilArrival_38 ff_LiftGroup_16 rfl t2 (by decide) z3 ?_
    refine j_nmR (fun p4 ep4 => ?_)
    replace h := h p4 ep4
    obtain ⟨t7, h⟩ := h
    refine j_callV (a := p4) (q := (RX0, TX0, 10)) (r' := rX0_step) (As := []) (rest := []) (d1 := d) hX eX6_stepsUntilArrival_41 mm_LiftGroup_236 rfl t7 (by decide) rfl h rfl (Nat.le_refl _) (Nat.zero_le _) (Nat.zero_le _) (Nat.le_of_ble_eq_true rfl) (fun vz9 Mz9 qz9 => ?_) (fun Ez9 Mz9 qz9 => ?_)
    · obtain ⟨M5, eMz9⟩ : ∃ M5, M5 = Mz9 := ⟨_, rfl⟩; subst eMz9
      obtain ⟨hxz9, h⟩ := qz9
      cases hxz9
      refine j_aload_n hX eX6_stepsUntilArrival_44 0 rfl ?_
      obtain ⟨t8, h⟩ := h
      obtain ⟨z9, h⟩ := h
      refine j_getR hX eX6_stepsUntilArrival_45 ff_LiftGroup_16 rfl t8 (by decide) z9 ?_
      refine j_nmR (fun p10 ep10 => ?_)
      replace h := h p10 ep10
      refine j_iload_n hX eX6_stepsUntilArrival_48 1 rfl ?_
      obtain ⟨t13, h⟩ := h
      refine j_callV (a := p10) (q := (RX0, TX0, 10)) (r' := rX0_indexOf) (As := [.int a2]) (rest := []) (d1 := d) hX eX6_stepsUntilArrival_49 mm_LiftGroup_244 rfl t13 (by decide) rfl h rfl (Nat.le_refl _) (Nat.zero_le _) (Nat.zero_le _) (Nat.le_of_ble_eq_true rfl) (fun vz9 Mz9 qz9 => ?_) (fun Ez9 Mz9 qz9 => ?_)
      · obtain ⟨M11, eMz9⟩ : ∃ M11, M11 = Mz9 := ⟨_, rfl⟩; subst eMz9
        obtain ⟨v12, hxz9, h⟩ := qz9
        cases hxz9
        refine j_iconst (v := (-1 : Int32)) hX eX6_stepsUntilArrival_52 (by decide) ?_
        refine j_icmp_ne hX 58 eX6_stepsUntilArrival_53 (by decide) (fun c14 => ?_) (fun c14 => ?_)
        · replace h := h.2 c14
          obtain ⟨v15, ev15⟩ : ∃ v15 : Int32, v15 = a3 + (1 : Int32) := ⟨_, rfl⟩
          replace h := h v15 ev15
          refine j_iinc (v := v15) (lv' := [(3, .int v15), (0, .ref a0), (2, .int a2)]) hX eX6_stepsUntilArrival_58 2 rfl (by rw [ev15]; rfl) (by decide) rfl ?_
          refine j_goto hX 31 eX6_stepsUntilArrival_61 (by decide) ?_
          exact j_sub [1, 2, 0] rfl (k31 _ _ _ _ _ _ h)
        · replace h := h.1 c14
          refine j_iload_n hX eX6_stepsUntilArrival_56 2 rfl ?_
          exact j_iret hX hM eX6_stepsUntilArrival_57 rfl h
      · obtain ⟨v12, hxz9, h⟩ := qz9
        cases hxz9
    · obtain ⟨hxz9, h⟩ := qz9
      cases hxz9

set_option maxHeartbeats 4000000 in
set_option maxRecDepth 20000 in
theorem vX6_tripsWithin_0 {X : am_Cx} {G : am_Gx} {d : Nat} {Q : am_Q} (hX : am_ok X rX6_tripsWithin G (d + 1)) (hM : am_me X rX6_tripsWithin Q) {bc bs : Nat}  {a0 : Nat} {a1 : Int32} {M : am_Hp} (h : ((a1 < 0) → (1 ≤ bc ∧ 6 ≤ bs ∧ Q (.inr "java/lang/IllegalArgumentException") M)) ∧ (¬ (a1 < 0) → (((a1 ≤ (90 : Int32)) → (hp_T M (a0) = 7 ∧ (hp_R M 121 a0 ≠ 0 ∧ (∀ p5 : Nat, p5 = hp_R M 121 a0 → (hp_R M 120 a0 ≠ 0 ∧ (∀ p7 : Nat, p7 = hp_R M 120 a0 → (hp_T M (p5) = 1 ∧ (am_CT G d rX0_copyFrom [.ref p5, .ref p7] M 0 0 (fun oz9 M8 => oz9 = .inl none ∧ (hp_T M8 (a0) = 7 ∧ (hp_R M8 121 a0 ≠ 0 ∧ (∀ p13 : Nat, p13 = hp_R M8 121 a0 → (hp_T M8 (p13) = 1 ∧ (am_CT G d rX0_letPass [.ref p13, .int a1] M8 0 0 (fun oz9 M14 => ∃ v15 : Int32, oz9 = .inl (some (.int v15)) ∧ (Q (.inl (some (.int v15))) M14)))))))))))))))) ∧ (¬ (a1 ≤ (90 : Int32)) → (1 ≤ bc ∧ 6 ≤ bs ∧ Q (.inr "java/lang/IllegalArgumentException") M))))) : am_J X 0 [(0, .ref a0), (1, .int a1)] [] M bc bs := by
  refine j_iload_n hX eX6_tripsWithin_0 1 rfl ?_
  refine j_if_lt hX 10 eX6_tripsWithin_1 (by decide) (fun c1 => ?_) (fun c1 => ?_)
  · replace h := h.1 c1
    obtain ⟨hb1, hb2, h⟩ := h
    exact j_throwX hX hM eX6_tripsWithin_10 eX6_tripsWithin_13 eX6_tripsWithin_14 eX6_tripsWithin_16 eX6_tripsWithin_19 rfl tx_IllegalArgumentException tf_IllegalArgumentException tw_408 tw_17 ts_LiftGroup_249 ta_LiftGroup_227_223.1 ta_LiftGroup_227_223.2 (by decide) hb1 hb2 h
  · replace h := h.2 c1
    refine j_iload_n hX eX6_tripsWithin_4 1 rfl ?_
    refine j_bipush (v := (90 : Int32)) hX eX6_tripsWithin_5 (by decide) ?_
    refine j_icmp_le hX 20 eX6_tripsWithin_7 (by decide) (fun c2 => ?_) (fun c2 => ?_)
    · replace h := h.1 c2
      refine j_aload_n hX eX6_tripsWithin_20 0 rfl ?_
      obtain ⟨t3, h⟩ := h
      obtain ⟨z4, h⟩ := h
      refine j_getR hX eX6_tripsWithin_21 ff_LiftGroup_16 rfl t3 (by decide) z4 ?_
      refine j_nmR (fun p5 ep5 => ?_)
      replace h := h p5 ep5
      refine j_aload_n hX eX6_tripsWithin_24 0 rfl ?_
      obtain ⟨z6, h⟩ := h
      refine j_getR hX eX6_tripsWithin_25 ff_LiftGroup_12 rfl t3 (by decide) z6 ?_
      refine j_nmR (fun p7 ep7 => ?_)
      replace h := h p7 ep7
      obtain ⟨t10, h⟩ := h
      refine j_callV (a := p5) (q := (RX0, TX0, 10)) (r' := rX0_copyFrom) (As := [.ref p7]) (rest := []) (d1 := d) hX eX6_tripsWithin_28 mm_LiftGroup_233 rfl t10 (by decide) rfl h rfl (Nat.le_refl _) (Nat.zero_le _) (Nat.zero_le _) (Nat.le_of_ble_eq_true rfl) (fun vz9 Mz9 qz9 => ?_) (fun Ez9 Mz9 qz9 => ?_)
      · obtain ⟨M8, eMz9⟩ : ∃ M8, M8 = Mz9 := ⟨_, rfl⟩; subst eMz9
        obtain ⟨hxz9, h⟩ := qz9
        cases hxz9
        refine j_aload_n hX eX6_tripsWithin_31 0 rfl ?_
        obtain ⟨t11, h⟩ := h
        obtain ⟨z12, h⟩ := h
        refine j_getR hX eX6_tripsWithin_32 ff_LiftGroup_16 rfl t11 (by decide) z12 ?_
        refine j_nmR (fun p13 ep13 => ?_)
        replace h := h p13 ep13
        refine j_iload_n hX eX6_tripsWithin_35 1 rfl ?_
        obtain ⟨t16, h⟩ := h
        refine j_callV (a := p13) (q := (RX0, TX0, 10)) (r' := rX0_letPass) (As := [.int a1]) (rest := []) (d1 := d) hX eX6_tripsWithin_36 mm_LiftGroup_104 rfl t16 (by decide) rfl h rfl (Nat.le_refl _) (Nat.zero_le _) (Nat.zero_le _) (Nat.le_of_ble_eq_true rfl) (fun vz9 Mz9 qz9 => ?_) (fun Ez9 Mz9 qz9 => ?_)
        · obtain ⟨M14, eMz9⟩ : ∃ M14, M14 = Mz9 := ⟨_, rfl⟩; subst eMz9
          obtain ⟨v15, hxz9, h⟩ := qz9
          cases hxz9
          exact j_iret hX hM eX6_tripsWithin_39 rfl h
        · obtain ⟨v15, hxz9, h⟩ := qz9
          cases hxz9
      · obtain ⟨hxz9, h⟩ := qz9
        cases hxz9
    · replace h := h.2 c2
      obtain ⟨hb1, hb2, h⟩ := h
      exact j_throwX hX hM eX6_tripsWithin_10 eX6_tripsWithin_13 eX6_tripsWithin_14 eX6_tripsWithin_16 eX6_tripsWithin_19 rfl tx_IllegalArgumentException tf_IllegalArgumentException tw_408 tw_17 ts_LiftGroup_249 ta_LiftGroup_227_223.1 ta_LiftGroup_227_223.2 (by decide) hb1 hb2 h

set_option maxHeartbeats 4000000 in
set_option maxRecDepth 20000 in
theorem vX6_carByEnergy_0 {X : am_Cx} {G : am_Gx} {d : Nat} {Q : am_Q} (hX : am_ok X rX6_carByEnergy G (d + 1)) (hM : am_me X rX6_carByEnergy Q) {bc bs : Nat} (R2 : Nat → Int32 → Int32 → am_Hp → Nat → Nat → Prop) (k2 : ∀ (x0 : Nat) (x1 : Int32) (x2 : Int32) (M : am_Hp) (bc bs : Nat), R2 x0 x1 x2 M bc bs → am_J X 2 [(0, .ref x0), (1, .int x1), (2, .int x2)] [] M bc bs) {a0 : Nat} {a1 : Int32} {M : am_Hp} (h : R2 a0 a1 (0 : Int32) M bc bs) : am_J X 0 [(0, .ref a0), (1, .int a1)] [] M bc bs := by
  refine j_iconst (v := (0 : Int32)) hX eX6_carByEnergy_0 (by decide) ?_
  refine j_istore_n (lv' := [(2, .int (0 : Int32)), (0, .ref a0), (1, .int a1)]) hX eX6_carByEnergy_1 rfl (by decide) rfl ?_
  exact j_sub [1, 2, 0] rfl (k2 _ _ _ _ _ _ h)
set_option maxHeartbeats 4000000 in
set_option maxRecDepth 20000 in
theorem vX6_carByEnergy_2 {X : am_Cx} {G : am_Gx} {d : Nat} {Q : am_Q} (hX : am_ok X rX6_carByEnergy G (d + 1)) (hM : am_me X rX6_carByEnergy Q) {bc bs : Nat} (R2 : Nat → Int32 → Int32 → am_Hp → Nat → Nat → Prop) (k2 : ∀ (x0 : Nat) (x1 : Int32) (x2 : Int32) (M : am_Hp) (bc bs : Nat), R2 x0 x1 x2 M bc bs → am_J X 2 [(0, .ref x0), (1, .int x1), (2, .int x2)] [] M bc bs) {a0 : Nat} {a1 : Int32} {a2 : Int32} {M : am_Hp} (h : (((3 : Int32) ≤ a2) → (1 ≤ bc ∧ 6 ≤ bs ∧ Q (.inr "java/util/NoSuchElementException") M)) ∧ (¬ ((3 : Int32) ≤ a2) → (hp_T M (a0) = 7 ∧ (hp_R M 120 a0 ≠ 0 ∧ (∀ p4 : Nat, p4 = hp_R M 120 a0 → (hp_T M (p4) = 1 ∧ (am_CT G d rX0_countMoreEnergetic [.ref p4, .int a2] M 0 0 (fun oz9 M5 => ∃ v6 : Int32, oz9 = .inl (some (.int v6)) ∧ (((v6 = a1) → (Q (.inl (some (.int a2))) M5)) ∧ (¬ (v6 = a1) → (∀ v9 : Int32, v9 = a2 + (1 : Int32) → (R2 a0 a1 v9 M5 bc bs)))))))))))) : am_J X 2 [(0, .ref a0), (1, .int a1), (2, .int a2)] [] M bc bs := by
  refine j_iload_n hX eX6_carByEnergy_2 2 rfl ?_
  refine j_iconst (v := (3 : Int32)) hX eX6_carByEnergy_3 (by decide) ?_
  refine j_icmp_ge hX 27 eX6_carByEnergy_4 (by decide) (fun c1 => ?_) (fun c1 => ?_)
  · replace h := h.1 c1
    obtain ⟨hb1, hb2, h⟩ := h
    exact j_throwX hX hM eX6_carByEnergy_27 eX6_carByEnergy_30 eX6_carByEnergy_31 eX6_carByEnergy_33 eX6_carByEnergy_36 rfl tx_NoSuchElementException tf_NoSuchElementException tw_635 tw_25 ts_LiftGroup_254 ta_LiftGroup_165_161.1 ta_LiftGroup_165_161.2 (by decide) hb1 hb2 h
  · replace h := h.2 c1
    refine j_aload_n hX eX6_carByEnergy_7 0 rfl ?_
    obtain ⟨t2, h⟩ := h
    obtain ⟨z3, h⟩ := h
    refine j_getR hX eX6_carByEnergy_8 ff_LiftGroup_12 rfl t2 (by decide) z3 ?_
    refine j_nmR (fun p4 ep4 => ?_)
    replace h := h p4 ep4
    refine j_iload_n hX eX6_carByEnergy_11 2 rfl ?_
    obtain ⟨t7, h⟩ := h
    refine j_callV (a := p4) (q := (RX0, TX0, 10)) (r' := rX0_countMoreEnergetic) (As := [.int a2]) (rest := []) (d1 := d) hX eX6_carByEnergy_12 mm_LiftGroup_256 rfl t7 (by decide) rfl h rfl (Nat.le_refl _) (Nat.zero_le _) (Nat.zero_le _) (Nat.le_of_ble_eq_true rfl) (fun vz9 Mz9 qz9 => ?_) (fun Ez9 Mz9 qz9 => ?_)
    · obtain ⟨M5, eMz9⟩ : ∃ M5, M5 = Mz9 := ⟨_, rfl⟩; subst eMz9
      obtain ⟨v6, hxz9, h⟩ := qz9
      cases hxz9
      refine j_iload_n hX eX6_carByEnergy_15 1 rfl ?_
      refine j_icmp_ne hX 21 eX6_carByEnergy_16 (by decide) (fun c8 => ?_) (fun c8 => ?_)
      · replace h := h.2 c8
        obtain ⟨v9, ev9⟩ : ∃ v9 : Int32, v9 = a2 + (1 : Int32) := ⟨_, rfl⟩
        replace h := h v9 ev9
        refine j_iinc (v := v9) (lv' := [(2, .int v9), (0, .ref a0), (1, .int a1)]) hX eX6_carByEnergy_21 2 rfl (by rw [ev9]; rfl) (by decide) rfl ?_
        refine j_goto hX 2 eX6_carByEnergy_24 (by decide) ?_
        exact j_sub [1, 2, 0] rfl (k2 _ _ _ _ _ _ h)
      · replace h := h.1 c8
        refine j_iload_n hX eX6_carByEnergy_19 2 rfl ?_
        exact j_iret hX hM eX6_carByEnergy_20 rfl h
    · obtain ⟨v6, hxz9, h⟩ := qz9
      cases hxz9

set_option maxHeartbeats 4000000 in
set_option maxRecDepth 20000 in
theorem vX6_tripNumber_0 {X : am_Cx} {G : am_Gx} {d : Nat} {Q : am_Q} (hX : am_ok X rX6_tripNumber G (d + 1)) (hM : am_me X rX6_tripNumber Q) {bc bs : Nat}  {a0 : Nat} {a1 : Int32} {M : am_Hp} (h : hp_T M (a0) = 7 ∧ (1 ≤ bc ∧ (6 ≤ bs ∧ (am_CT G d rX6_checkTrip [.ref a0, .int a1] M 1 6 (fun oz9 M1 => (oz9 = .inl none ∧ (hp_T M1 (a0) = 7 ∧ (hp_R M1 120 a0 ≠ 0 ∧ (∀ p8 : Nat, p8 = hp_R M1 120 a0 → (hp_T M1 (p8) = 1 ∧ (hp_R M1 2 p8 ≠ 0 ∧ (∀ p11 : Nat, p11 = hp_R M1 2 p8 → (hp_T M1 (p11) = 6 ∧ (hp_R M1 100 p11 ≠ 0 ∧ (∀ p14 : Nat, p14 = hp_R M1 100 p11 → (hp_R M1 120 a0 ≠ 0 ∧ (∀ p16 : Nat, p16 = hp_R M1 120 a0 → (hp_T M1 (p16) = 1 ∧ (hp_R M1 2 p16 ≠ 0 ∧ (∀ p19 : Nat, p19 = hp_R M1 2 p16 → (hp_T M1 (p19) = 6 ∧ (am_CT G d rX5_placeOf [.ref p19, .int a1] M1 0 0 (fun oz9 M20 => ∃ v21 : Int32, oz9 = .inl (some (.int v21)) ∧ (hp_T M20 (p14) = 22 ∧ (vp_in v21 (hp_N M20 p14) ∧ (Q (.inl (some (.int (hp_E M20 p14 (v21).toNatClampNeg)))) M20))))))))))))))))))))) ∨ ((oz9 = .inr "java/util/NoSuchElementException" ∧ Q (.inr "java/util/NoSuchElementException") M1))))))) : am_J X 0 [(0, .ref a0), (1, .int a1)] [] M bc bs := by
  refine j_aload_n hX eX6_tripNumber_0 0 rfl ?_
  refine j_iload_n hX eX6_tripNumber_1 1 rfl ?_
  obtain ⟨t3, h⟩ := h
  obtain ⟨b4, b5, h⟩ := h
  refine j_callV (a := a0) (q := (RX6, TX6, 9)) (r' := rX6_checkTrip) (As := [.int a1]) (rest := []) (d1 := d) hX eX6_tripNumber_2 mm_LiftGroup_259 rfl t3 (by decide) rfl h rfl (Nat.le_refl _) b4 b5 (Nat.le_of_ble_eq_true rfl) (fun vz9 Mz9 qz9 => ?_) (fun Ez9 Mz9 qz9 => ?_)
  · obtain ⟨M1, eMz9⟩ : ∃ M1, M1 = Mz9 := ⟨_, rfl⟩; subst eMz9
    rcases qz9 with ⟨hxz9, h⟩ | ⟨hxz9, h⟩ <;> cases hxz9
    refine j_aload_n hX eX6_tripNumber_5 0 rfl ?_
    obtain ⟨t6, h⟩ := h
    obtain ⟨z7, h⟩ := h
    refine j_getR hX eX6_tripNumber_6 ff_LiftGroup_12 rfl t6 (by decide) z7 ?_
    refine j_nmR (fun p8 ep8 => ?_)
    replace h := h p8 ep8
    obtain ⟨t9, h⟩ := h
    obtain ⟨z10, h⟩ := h
    refine j_getR hX eX6_tripNumber_9 ff_LiftGroup_262 rfl t9 (by decide) z10 ?_
    refine j_nmR (fun p11 ep11 => ?_)
    replace h := h p11 ep11
    obtain ⟨t12, h⟩ := h
    obtain ⟨z13, h⟩ := h
    refine j_getR hX eX6_tripNumber_12 ff_LiftGroup_266 rfl t12 (by decide) z13 ?_
    refine j_nmR (fun p14 ep14 => ?_)
    replace h := h p14 ep14
    refine j_aload_n hX eX6_tripNumber_15 0 rfl ?_
    obtain ⟨z15, h⟩ := h
    refine j_getR hX eX6_tripNumber_16 ff_LiftGroup_12 rfl t6 (by decide) z15 ?_
    refine j_nmR (fun p16 ep16 => ?_)
    replace h := h p16 ep16
    obtain ⟨t17, h⟩ := h
    obtain ⟨z18, h⟩ := h
    refine j_getR hX eX6_tripNumber_19 ff_LiftGroup_262 rfl t17 (by decide) z18 ?_
    refine j_nmR (fun p19 ep19 => ?_)
    replace h := h p19 ep19
    refine j_iload_n hX eX6_tripNumber_22 1 rfl ?_
    obtain ⟨t22, h⟩ := h
    refine j_callV (a := p19) (q := (RX5, TX5, 5)) (r' := rX5_placeOf) (As := [.int a1]) (rest := [.ref p14]) (d1 := d) hX eX6_tripNumber_23 mm_LiftGroup_272 rfl t22 (by decide) rfl h rfl (Nat.le_refl _) (Nat.zero_le _) (Nat.zero_le _) (Nat.le_of_ble_eq_true rfl) (fun vz9 Mz9 qz9 => ?_) (fun Ez9 Mz9 qz9 => ?_)
    · obtain ⟨M20, eMz9⟩ : ∃ M20, M20 = Mz9 := ⟨_, rfl⟩; subst eMz9
      obtain ⟨v21, hxz9, h⟩ := qz9
      cases hxz9
      obtain ⟨t23, h⟩ := h
      obtain ⟨i24, h⟩ := h
      refine j_iald hX eX6_tripNumber_26 t23 i24 ?_
      exact j_iret hX hM eX6_tripNumber_27 rfl h
    · obtain ⟨v21, hxz9, h⟩ := qz9
      cases hxz9
  · obtain ⟨M1, eMz9⟩ : ∃ M1, M1 = Mz9 := ⟨_, rfl⟩; subst eMz9
    rcases qz9 with ⟨hxz9, h⟩ | ⟨hxz9, h⟩ <;> cases hxz9
    exact am_thOut hX hM rfl h

set_option maxHeartbeats 4000000 in
set_option maxRecDepth 20000 in
theorem vX6_tripCar_0 {X : am_Cx} {G : am_Gx} {d : Nat} {Q : am_Q} (hX : am_ok X rX6_tripCar G (d + 1)) (hM : am_me X rX6_tripCar Q) {bc bs : Nat}  {a0 : Nat} {a1 : Int32} {M : am_Hp} (h : hp_T M (a0) = 7 ∧ (1 ≤ bc ∧ (6 ≤ bs ∧ (am_CT G d rX6_checkTrip [.ref a0, .int a1] M 1 6 (fun oz9 M1 => (oz9 = .inl none ∧ (hp_T M1 (a0) = 7 ∧ (hp_R M1 120 a0 ≠ 0 ∧ (∀ p8 : Nat, p8 = hp_R M1 120 a0 → (hp_T M1 (p8) = 1 ∧ (hp_R M1 2 p8 ≠ 0 ∧ (∀ p11 : Nat, p11 = hp_R M1 2 p8 → (hp_T M1 (p11) = 6 ∧ (hp_R M1 101 p11 ≠ 0 ∧ (∀ p14 : Nat, p14 = hp_R M1 101 p11 → (hp_R M1 120 a0 ≠ 0 ∧ (∀ p16 : Nat, p16 = hp_R M1 120 a0 → (hp_T M1 (p16) = 1 ∧ (hp_R M1 2 p16 ≠ 0 ∧ (∀ p19 : Nat, p19 = hp_R M1 2 p16 → (hp_T M1 (p19) = 6 ∧ (am_CT G d rX5_placeOf [.ref p19, .int a1] M1 0 0 (fun oz9 M20 => ∃ v21 : Int32, oz9 = .inl (some (.int v21)) ∧ (hp_T M20 (p14) = 22 ∧ (vp_in v21 (hp_N M20 p14) ∧ (Q (.inl (some (.int (hp_E M20 p14 (v21).toNatClampNeg)))) M20))))))))))))))))))))) ∨ ((oz9 = .inr "java/util/NoSuchElementException" ∧ Q (.inr "java/util/NoSuchElementException") M1))))))) : am_J X 0 [(0, .ref a0), (1, .int a1)] [] M bc bs := by
  refine j_aload_n hX eX6_tripCar_0 0 rfl ?_
  refine j_iload_n hX eX6_tripCar_1 1 rfl ?_
  obtain ⟨t3, h⟩ := h
  obtain ⟨b4, b5, h⟩ := h
  refine j_callV (a := a0) (q := (RX6, TX6, 9)) (r' := rX6_checkTrip) (As := [.int a1]) (rest := []) (d1 := d) hX eX6_tripCar_2 mm_LiftGroup_259 rfl t3 (by decide) rfl h rfl (Nat.le_refl _) b4 b5 (Nat.le_of_ble_eq_true rfl) (fun vz9 Mz9 qz9 => ?_) (fun Ez9 Mz9 qz9 => ?_)
  · obtain ⟨M1, eMz9⟩ : ∃ M1, M1 = Mz9 := ⟨_, rfl⟩; subst eMz9
    rcases qz9 with ⟨hxz9, h⟩ | ⟨hxz9, h⟩ <;> cases hxz9
    refine j_aload_n hX eX6_tripCar_5 0 rfl ?_
    obtain ⟨t6, h⟩ := h
    obtain ⟨z7, h⟩ := h
    refine j_getR hX eX6_tripCar_6 ff_LiftGroup_12 rfl t6 (by decide) z7 ?_
    refine j_nmR (fun p8 ep8 => ?_)
    replace h := h p8 ep8
    obtain ⟨t9, h⟩ := h
    obtain ⟨z10, h⟩ := h
    refine j_getR hX eX6_tripCar_9 ff_LiftGroup_262 rfl t9 (by decide) z10 ?_
    refine j_nmR (fun p11 ep11 => ?_)
    replace h := h p11 ep11
    obtain ⟨t12, h⟩ := h
    obtain ⟨z13, h⟩ := h
    refine j_getR hX eX6_tripCar_12 ff_LiftGroup_275 rfl t12 (by decide) z13 ?_
    refine j_nmR (fun p14 ep14 => ?_)
    replace h := h p14 ep14
    refine j_aload_n hX eX6_tripCar_15 0 rfl ?_
    obtain ⟨z15, h⟩ := h
    refine j_getR hX eX6_tripCar_16 ff_LiftGroup_12 rfl t6 (by decide) z15 ?_
    refine j_nmR (fun p16 ep16 => ?_)
    replace h := h p16 ep16
    obtain ⟨t17, h⟩ := h
    obtain ⟨z18, h⟩ := h
    refine j_getR hX eX6_tripCar_19 ff_LiftGroup_262 rfl t17 (by decide) z18 ?_
    refine j_nmR (fun p19 ep19 => ?_)
    replace h := h p19 ep19
    refine j_iload_n hX eX6_tripCar_22 1 rfl ?_
    obtain ⟨t22, h⟩ := h
    refine j_callV (a := p19) (q := (RX5, TX5, 5)) (r' := rX5_placeOf) (As := [.int a1]) (rest := [.ref p14]) (d1 := d) hX eX6_tripCar_23 mm_LiftGroup_272 rfl t22 (by decide) rfl h rfl (Nat.le_refl _) (Nat.zero_le _) (Nat.zero_le _) (Nat.le_of_ble_eq_true rfl) (fun vz9 Mz9 qz9 => ?_) (fun Ez9 Mz9 qz9 => ?_)
    · obtain ⟨M20, eMz9⟩ : ∃ M20, M20 = Mz9 := ⟨_, rfl⟩; subst eMz9
      obtain ⟨v21, hxz9, h⟩ := qz9
      cases hxz9
      obtain ⟨t23, h⟩ := h
      obtain ⟨i24, h⟩ := h
      refine j_iald hX eX6_tripCar_26 t23 i24 ?_
      exact j_iret hX hM eX6_tripCar_27 rfl h
    · obtain ⟨v21, hxz9, h⟩ := qz9
      cases hxz9
  · obtain ⟨M1, eMz9⟩ : ∃ M1, M1 = Mz9 := ⟨_, rfl⟩; subst eMz9
    rcases qz9 with ⟨hxz9, h⟩ | ⟨hxz9, h⟩ <;> cases hxz9
    exact am_thOut hX hM rfl h

set_option maxHeartbeats 4000000 in
set_option maxRecDepth 20000 in
theorem vX6_tripWaiting_0 {X : am_Cx} {G : am_Gx} {d : Nat} {Q : am_Q} (hX : am_ok X rX6_tripWaiting G (d + 1)) (hM : am_me X rX6_tripWaiting Q) {bc bs : Nat}  {a0 : Nat} {a1 : Int32} {M : am_Hp} (h : hp_T M (a0) = 7 ∧ (1 ≤ bc ∧ (6 ≤ bs ∧ (am_CT G d rX6_checkTrip [.ref a0, .int a1] M 1 6 (fun oz9 M1 => (oz9 = .inl none ∧ (hp_T M1 (a0) = 7 ∧ (hp_R M1 120 a0 ≠ 0 ∧ (∀ p8 : Nat, p8 = hp_R M1 120 a0 → (hp_T M1 (p8) = 1 ∧ (hp_R M1 2 p8 ≠ 0 ∧ (∀ p11 : Nat, p11 = hp_R M1 2 p8 → (hp_T M1 (p11) = 6 ∧ (hp_R M1 102 p11 ≠ 0 ∧ (∀ p14 : Nat, p14 = hp_R M1 102 p11 → (hp_R M1 120 a0 ≠ 0 ∧ (∀ p16 : Nat, p16 = hp_R M1 120 a0 → (hp_T M1 (p16) = 1 ∧ (hp_R M1 2 p16 ≠ 0 ∧ (∀ p19 : Nat, p19 = hp_R M1 2 p16 → (hp_T M1 (p19) = 6 ∧ (am_CT G d rX5_placeOf [.ref p19, .int a1] M1 0 0 (fun oz9 M20 => ∃ v21 : Int32, oz9 = .inl (some (.int v21)) ∧ (hp_T M20 (p14) = 22 ∧ (vp_in v21 (hp_N M20 p14) ∧ (Q (.inl (some (.int (hp_E M20 p14 (v21).toNatClampNeg)))) M20))))))))))))))))))))) ∨ ((oz9 = .inr "java/util/NoSuchElementException" ∧ Q (.inr "java/util/NoSuchElementException") M1))))))) : am_J X 0 [(0, .ref a0), (1, .int a1)] [] M bc bs := by
  refine j_aload_n hX eX6_tripWaiting_0 0 rfl ?_
  refine j_iload_n hX eX6_tripWaiting_1 1 rfl ?_
  obtain ⟨t3, h⟩ := h
  obtain ⟨b4, b5, h⟩ := h
  refine j_callV (a := a0) (q := (RX6, TX6, 9)) (r' := rX6_checkTrip) (As := [.int a1]) (rest := []) (d1 := d) hX eX6_tripWaiting_2 mm_LiftGroup_259 rfl t3 (by decide) rfl h rfl (Nat.le_refl _) b4 b5 (Nat.le_of_ble_eq_true rfl) (fun vz9 Mz9 qz9 => ?_) (fun Ez9 Mz9 qz9 => ?_)
  · obtain ⟨M1, eMz9⟩ : ∃ M1, M1 = Mz9 := ⟨_, rfl⟩; subst eMz9
    rcases qz9 with ⟨hxz9, h⟩ | ⟨hxz9, h⟩ <;> cases hxz9
    refine j_aload_n hX eX6_tripWaiting_5 0 rfl ?_
    obtain ⟨t6, h⟩ := h
    obtain ⟨z7, h⟩ := h
    refine j_getR hX eX6_tripWaiting_6 ff_LiftGroup_12 rfl t6 (by decide) z7 ?_
    refine j_nmR (fun p8 ep8 => ?_)
    replace h := h p8 ep8
    obtain ⟨t9, h⟩ := h
    obtain ⟨z10, h⟩ := h
    refine j_getR hX eX6_tripWaiting_9 ff_LiftGroup_262 rfl t9 (by decide) z10 ?_
    refine j_nmR (fun p11 ep11 => ?_)
    replace h := h p11 ep11
    obtain ⟨t12, h⟩ := h
    obtain ⟨z13, h⟩ := h
    refine j_getR hX eX6_tripWaiting_12 ff_LiftGroup_277 rfl t12 (by decide) z13 ?_
    refine j_nmR (fun p14 ep14 => ?_)
    replace h := h p14 ep14
    refine j_aload_n hX eX6_tripWaiting_15 0 rfl ?_
    obtain ⟨z15, h⟩ := h
    refine j_getR hX eX6_tripWaiting_16 ff_LiftGroup_12 rfl t6 (by decide) z15 ?_
    refine j_nmR (fun p16 ep16 => ?_)
    replace h := h p16 ep16
    obtain ⟨t17, h⟩ := h
    obtain ⟨z18, h⟩ := h
    refine j_getR hX eX6_tripWaiting_19 ff_LiftGroup_262 rfl t17 (by decide) z18 ?_
    refine j_nmR (fun p19 ep19 => ?_)
    replace h := h p19 ep19
    refine j_iload_n hX eX6_tripWaiting_22 1 rfl ?_
    obtain ⟨t22, h⟩ := h
    refine j_callV (a := p19) (q := (RX5, TX5, 5)) (r' := rX5_placeOf) (As := [.int a1]) (rest := [.ref p14]) (d1 := d) hX eX6_tripWaiting_23 mm_LiftGroup_272 rfl t22 (by decide) rfl h rfl (Nat.le_refl _) (Nat.zero_le _) (Nat.zero_le _) (Nat.le_of_ble_eq_true rfl) (fun vz9 Mz9 qz9 => ?_) (fun Ez9 Mz9 qz9 => ?_)
    · obtain ⟨M20, eMz9⟩ : ∃ M20, M20 = Mz9 := ⟨_, rfl⟩; subst eMz9
      obtain ⟨v21, hxz9, h⟩ := qz9
      cases hxz9
      obtain ⟨t23, h⟩ := h
      obtain ⟨i24, h⟩ := h
      refine j_iald hX eX6_tripWaiting_26 t23 i24 ?_
      exact j_iret hX hM eX6_tripWaiting_27 rfl h
    · obtain ⟨v21, hxz9, h⟩ := qz9
      cases hxz9
  · obtain ⟨M1, eMz9⟩ : ∃ M1, M1 = Mz9 := ⟨_, rfl⟩; subst eMz9
    rcases qz9 with ⟨hxz9, h⟩ | ⟨hxz9, h⟩ <;> cases hxz9
    exact am_thOut hX hM rfl h

set_option maxHeartbeats 4000000 in
set_option maxRecDepth 20000 in
theorem vX6_tripCount_0 {X : am_Cx} {G : am_Gx} {d : Nat} {Q : am_Q} (hX : am_ok X rX6_tripCount G (d + 1)) (hM : am_me X rX6_tripCount Q) {bc bs : Nat}  {a0 : Nat} {M : am_Hp} (h : hp_T M (a0) = 7 ∧ (hp_R M 120 a0 ≠ 0 ∧ (∀ p3 : Nat, p3 = hp_R M 120 a0 → (hp_T M (p3) = 1 ∧ (hp_R M 2 p3 ≠ 0 ∧ (∀ p6 : Nat, p6 = hp_R M 2 p3 → (hp_T M (p6) = 6 ∧ (Q (.inl (some (.int (hp_I M 103 p6)))) M)))))))) : am_J X 0 [(0, .ref a0)] [] M bc bs := by
  refine j_aload_n hX eX6_tripCount_0 0 rfl ?_
  obtain ⟨t1, h⟩ := h
  obtain ⟨z2, h⟩ := h
  refine j_getR hX eX6_tripCount_1 ff_LiftGroup_12 rfl t1 (by decide) z2 ?_
  refine j_nmR (fun p3 ep3 => ?_)
  replace h := h p3 ep3
  obtain ⟨t4, h⟩ := h
  obtain ⟨z5, h⟩ := h
  refine j_getR hX eX6_tripCount_4 ff_LiftGroup_262 rfl t4 (by decide) z5 ?_
  refine j_nmR (fun p6 ep6 => ?_)
  replace h := h p6 ep6
  obtain ⟨t7, h⟩ := h
  refine j_getI hX eX6_tripCount_7 ff_LiftGroup_280 rfl t7 (by decide) ?_
  exact j_iret hX hM eX6_tripCount_10 rfl h

set_option maxHeartbeats 4000000 in
set_option maxRecDepth 20000 in
theorem vX6_totalEnergy_0 {X : am_Cx} {G : am_Gx} {d : Nat} {Q : am_Q} (hX : am_ok X rX6_totalEnergy G (d + 1)) (hM : am_me X rX6_totalEnergy Q) {bc bs : Nat}  {a0 : Nat} {M : am_Hp} (h : hp_T M (a0) = 7 ∧ (hp_R M 120 a0 ≠ 0 ∧ (∀ p3 : Nat, p3 = hp_R M 120 a0 → (hp_T M (p3) = 1 ∧ (am_CT G d rX0_sumOfAccounts [.ref p3] M 0 0 (fun oz9 M4 => ∃ l5 : Int64, oz9 = .inl (some (.long l5)) ∧ (Q (.inl (some (.long l5))) M4))))))) : am_J X 0 [(0, .ref a0)] [] M bc bs := by
  refine j_aload_n hX eX6_totalEnergy_0 0 rfl ?_
  obtain ⟨t1, h⟩ := h
  obtain ⟨z2, h⟩ := h
  refine j_getR hX eX6_totalEnergy_1 ff_LiftGroup_12 rfl t1 (by decide) z2 ?_
  refine j_nmR (fun p3 ep3 => ?_)
  replace h := h p3 ep3
  obtain ⟨t6, h⟩ := h
  refine j_callV (a := p3) (q := (RX0, TX0, 10)) (r' := rX0_sumOfAccounts) (As := []) (rest := []) (d1 := d) hX eX6_totalEnergy_4 mm_LiftGroup_283 rfl t6 (by decide) rfl h rfl (Nat.le_refl _) (Nat.zero_le _) (Nat.zero_le _) (Nat.le_of_ble_eq_true rfl) (fun vz9 Mz9 qz9 => ?_) (fun Ez9 Mz9 qz9 => ?_)
  · obtain ⟨M4, eMz9⟩ : ∃ M4, M4 = Mz9 := ⟨_, rfl⟩; subst eMz9
    obtain ⟨l5, hxz9, h⟩ := qz9
    cases hxz9
    exact j_lret hX hM eX6_totalEnergy_7 rfl h
  · obtain ⟨l5, hxz9, h⟩ := qz9
    cases hxz9

set_option maxHeartbeats 4000000 in
set_option maxRecDepth 20000 in
theorem vX6_totalEnergyByMoves_0 {X : am_Cx} {G : am_Gx} {d : Nat} {Q : am_Q} (hX : am_ok X rX6_totalEnergyByMoves G (d + 1)) (hM : am_me X rX6_totalEnergyByMoves Q) {bc bs : Nat}  {a0 : Nat} {M : am_Hp} (h : hp_T M (a0) = 7 ∧ (hp_R M 120 a0 ≠ 0 ∧ (∀ p3 : Nat, p3 = hp_R M 120 a0 → (hp_T M (p3) = 1 ∧ (am_CT G d rX0_energyOfMoves [.ref p3] M 0 0 (fun oz9 M4 => ∃ l5 : Int64, oz9 = .inl (some (.long l5)) ∧ (Q (.inl (some (.long l5))) M4))))))) : am_J X 0 [(0, .ref a0)] [] M bc bs := by
  refine j_aload_n hX eX6_totalEnergyByMoves_0 0 rfl ?_
  obtain ⟨t1, h⟩ := h
  obtain ⟨z2, h⟩ := h
  refine j_getR hX eX6_totalEnergyByMoves_1 ff_LiftGroup_12 rfl t1 (by decide) z2 ?_
  refine j_nmR (fun p3 ep3 => ?_)
  replace h := h p3 ep3
  obtain ⟨t6, h⟩ := h
  refine j_callV (a := p3) (q := (RX0, TX0, 10)) (r' := rX0_energyOfMoves) (As := []) (rest := []) (d1 := d) hX eX6_totalEnergyByMoves_4 mm_LiftGroup_287 rfl t6 (by decide) rfl h rfl (Nat.le_refl _) (Nat.zero_le _) (Nat.zero_le _) (Nat.le_of_ble_eq_true rfl) (fun vz9 Mz9 qz9 => ?_) (fun Ez9 Mz9 qz9 => ?_)
  · obtain ⟨M4, eMz9⟩ : ∃ M4, M4 = Mz9 := ⟨_, rfl⟩; subst eMz9
    obtain ⟨l5, hxz9, h⟩ := qz9
    cases hxz9
    exact j_lret hX hM eX6_totalEnergyByMoves_7 rfl h
  · obtain ⟨l5, hxz9, h⟩ := qz9
    cases hxz9

set_option maxHeartbeats 4000000 in
set_option maxRecDepth 20000 in
theorem vX6_floorsUp_0 {X : am_Cx} {G : am_Gx} {d : Nat} {Q : am_Q} (hX : am_ok X rX6_floorsUp G (d + 1)) (hM : am_me X rX6_floorsUp Q) {bc bs : Nat}  {a0 : Nat} {M : am_Hp} (h : hp_T M (a0) = 7 ∧ (hp_R M 120 a0 ≠ 0 ∧ (∀ p3 : Nat, p3 = hp_R M 120 a0 → (hp_T M (p3) = 1 ∧ (Q (.inl (some (.int (hp_I M 6 p3)))) M))))) : am_J X 0 [(0, .ref a0)] [] M bc bs := by
  refine j_aload_n hX eX6_floorsUp_0 0 rfl ?_
  obtain ⟨t1, h⟩ := h
  obtain ⟨z2, h⟩ := h
  refine j_getR hX eX6_floorsUp_1 ff_LiftGroup_12 rfl t1 (by decide) z2 ?_
  refine j_nmR (fun p3 ep3 => ?_)
  replace h := h p3 ep3
  obtain ⟨t4, h⟩ := h
  refine j_getI hX eX6_floorsUp_4 ff_LiftGroup_290 rfl t4 (by decide) ?_
  exact j_iret hX hM eX6_floorsUp_7 rfl h

set_option maxHeartbeats 4000000 in
set_option maxRecDepth 20000 in
theorem vX6_floorsDown_0 {X : am_Cx} {G : am_Gx} {d : Nat} {Q : am_Q} (hX : am_ok X rX6_floorsDown G (d + 1)) (hM : am_me X rX6_floorsDown Q) {bc bs : Nat}  {a0 : Nat} {M : am_Hp} (h : hp_T M (a0) = 7 ∧ (hp_R M 120 a0 ≠ 0 ∧ (∀ p3 : Nat, p3 = hp_R M 120 a0 → (hp_T M (p3) = 1 ∧ (Q (.inl (some (.int (hp_I M 7 p3)))) M))))) : am_J X 0 [(0, .ref a0)] [] M bc bs := by
  refine j_aload_n hX eX6_floorsDown_0 0 rfl ?_
  obtain ⟨t1, h⟩ := h
  obtain ⟨z2, h⟩ := h
  refine j_getR hX eX6_floorsDown_1 ff_LiftGroup_12 rfl t1 (by decide) z2 ?_
  refine j_nmR (fun p3 ep3 => ?_)
  replace h := h p3 ep3
  obtain ⟨t4, h⟩ := h
  refine j_getI hX eX6_floorsDown_4 ff_LiftGroup_293 rfl t4 (by decide) ?_
  exact j_iret hX hM eX6_floorsDown_7 rfl h

set_option maxHeartbeats 4000000 in
set_option maxRecDepth 20000 in
theorem vX6_doorOpenings_0 {X : am_Cx} {G : am_Gx} {d : Nat} {Q : am_Q} (hX : am_ok X rX6_doorOpenings G (d + 1)) (hM : am_me X rX6_doorOpenings Q) {bc bs : Nat}  {a0 : Nat} {M : am_Hp} (h : hp_T M (a0) = 7 ∧ (hp_R M 120 a0 ≠ 0 ∧ (∀ p3 : Nat, p3 = hp_R M 120 a0 → (hp_T M (p3) = 1 ∧ (Q (.inl (some (.int (hp_I M 9 p3)))) M))))) : am_J X 0 [(0, .ref a0)] [] M bc bs := by
  refine j_aload_n hX eX6_doorOpenings_0 0 rfl ?_
  obtain ⟨t1, h⟩ := h
  obtain ⟨z2, h⟩ := h
  refine j_getR hX eX6_doorOpenings_1 ff_LiftGroup_12 rfl t1 (by decide) z2 ?_
  refine j_nmR (fun p3 ep3 => ?_)
  replace h := h p3 ep3
  obtain ⟨t4, h⟩ := h
  refine j_getI hX eX6_doorOpenings_4 ff_LiftGroup_296 rfl t4 (by decide) ?_
  exact j_iret hX hM eX6_doorOpenings_7 rfl h

set_option maxHeartbeats 4000000 in
set_option maxRecDepth 20000 in
theorem vX6_meanWaiting_0 {X : am_Cx} {G : am_Gx} {d : Nat} {Q : am_Q} (hX : am_ok X rX6_meanWaiting G (d + 1)) (hM : am_me X rX6_meanWaiting Q) {bc bs : Nat}  {a0 : Nat} {M : am_Hp} (h : hp_T M (a0) = 7 ∧ (hp_R M 120 a0 ≠ 0 ∧ (∀ p3 : Nat, p3 = hp_R M 120 a0 → (hp_T M (p3) = 1 ∧ (hp_R M 2 p3 ≠ 0 ∧ (∀ p6 : Nat, p6 = hp_R M 2 p3 → (hp_T M (p6) = 6 ∧ ((((hp_I M 103 p6) = 0) → (1 ≤ bc ∧ 6 ≤ bs ∧ Q (.inr "java/lang/ArithmeticException") M)) ∧ (¬ ((hp_I M 103 p6) = 0) → (hp_R M 120 a0 ≠ 0 ∧ (∀ p10 : Nat, p10 = hp_R M 120 a0 → (hp_T M (p10) = 1 ∧ (hp_R M 2 p10 ≠ 0 ∧ (∀ p13 : Nat, p13 = hp_R M 2 p10 → (hp_T M (p13) = 6 ∧ (hp_R M 120 a0 ≠ 0 ∧ (∀ p16 : Nat, p16 = hp_R M 120 a0 → (hp_T M (p16) = 1 ∧ (hp_R M 2 p16 ≠ 0 ∧ (∀ p19 : Nat, p19 = hp_R M 2 p16 → (hp_T M (p19) = 6 ∧ (vf_n64 (FP.ddiv ((FP.i2d (hp_I M 104 p13))) ((FP.i2d (hp_I M 103 p19)))) ∧ (Q (.inl (some (.double (FP.ddiv ((FP.i2d (hp_I M 104 p13))) ((FP.i2d (hp_I M 103 p19))))))) M))))))))))))))))))))))) : am_J X 0 [(0, .ref a0)] [] M bc bs := by
  refine j_aload_n hX eX6_meanWaiting_0 0 rfl ?_
  obtain ⟨t1, h⟩ := h
  obtain ⟨z2, h⟩ := h
  refine j_getR hX eX6_meanWaiting_1 ff_LiftGroup_12 rfl t1 (by decide) z2 ?_
  refine j_nmR (fun p3 ep3 => ?_)
  replace h := h p3 ep3
  obtain ⟨t4, h⟩ := h
  obtain ⟨z5, h⟩ := h
  refine j_getR hX eX6_meanWaiting_4 ff_LiftGroup_262 rfl t4 (by decide) z5 ?_
  refine j_nmR (fun p6 ep6 => ?_)
  replace h := h p6 ep6
  obtain ⟨t7, h⟩ := h
  refine j_getI hX eX6_meanWaiting_7 ff_LiftGroup_280 rfl t7 (by decide) ?_
  refine j_if_ne hX 24 eX6_meanWaiting_10 (by decide) (fun c8 => ?_) (fun c8 => ?_)
  · replace h := h.2 c8
    refine j_aload_n hX eX6_meanWaiting_24 0 rfl ?_
    obtain ⟨z9, h⟩ := h
    refine j_getR hX eX6_meanWaiting_25 ff_LiftGroup_12 rfl t1 (by decide) z9 ?_
    refine j_nmR (fun p10 ep10 => ?_)
    replace h := h p10 ep10
    obtain ⟨t11, h⟩ := h
    obtain ⟨z12, h⟩ := h
    refine j_getR hX eX6_meanWaiting_28 ff_LiftGroup_262 rfl t11 (by decide) z12 ?_
    refine j_nmR (fun p13 ep13 => ?_)
    replace h := h p13 ep13
    obtain ⟨t14, h⟩ := h
    refine j_getI hX eX6_meanWaiting_31 ff_LiftGroup_304 rfl t14 (by decide) ?_
    refine j_i2d hX eX6_meanWaiting_34 ?_
    refine j_aload_n hX eX6_meanWaiting_35 0 rfl ?_
    obtain ⟨z15, h⟩ := h
    refine j_getR hX eX6_meanWaiting_36 ff_LiftGroup_12 rfl t1 (by decide) z15 ?_
    refine j_nmR (fun p16 ep16 => ?_)
    replace h := h p16 ep16
    obtain ⟨t17, h⟩ := h
    obtain ⟨z18, h⟩ := h
    refine j_getR hX eX6_meanWaiting_39 ff_LiftGroup_262 rfl t17 (by decide) z18 ?_
    refine j_nmR (fun p19 ep19 => ?_)
    replace h := h p19 ep19
    obtain ⟨t20, h⟩ := h
    refine j_getI hX eX6_meanWaiting_42 ff_LiftGroup_280 rfl t20 (by decide) ?_
    refine j_i2d hX eX6_meanWaiting_45 ?_
    obtain ⟨n21, h⟩ := h
    refine j_ddiv hX eX6_meanWaiting_46 n21 ?_
    exact j_dret hX hM eX6_meanWaiting_47 rfl h
  · replace h := h.1 c8
    obtain ⟨hb1, hb2, h⟩ := h
    exact j_throwWX hX hM eX6_meanWaiting_13 eX6_meanWaiting_16 eX6_meanWaiting_17 eX6_meanWaiting_20 eX6_meanWaiting_23 rfl tx_ArithmeticException tf_ArithmeticException tw_809 tw_34 ts_LiftGroup_301 ta_LiftGroup_303_299.1 ta_LiftGroup_303_299.2 (by decide) hb1 hb2 h

set_option maxHeartbeats 4000000 in
set_option maxRecDepth 20000 in
theorem vX6_isConsistent_0 {X : am_Cx} {G : am_Gx} {d : Nat} {Q : am_Q} (hX : am_ok X rX6_isConsistent G (d + 1)) (hM : am_me X rX6_isConsistent Q) {bc bs : Nat}  {a0 : Nat} {M : am_Hp} (h : hp_T M (a0) = 7 ∧ (hp_R M 120 a0 ≠ 0 ∧ (∀ p3 : Nat, p3 = hp_R M 120 a0 → (hp_T M (p3) = 1 ∧ (am_CT G d rX0_estimatesAgree [.ref p3] M 0 0 (fun oz9 M4 => ∃ v5 : Int32, oz9 = .inl (some (.int v5)) ∧ (((v5 = 0) → (Q (.inl (some (.int (0 : Int32)))) M4)) ∧ (¬ (v5 = 0) → (hp_T M4 (a0) = 7 ∧ (hp_R M4 120 a0 ≠ 0 ∧ (∀ p10 : Nat, p10 = hp_R M4 120 a0 → (hp_T M4 (p10) = 1 ∧ (am_CT G d rX0_sumOfAccounts [.ref p10] M4 0 0 (fun oz9 M11 => ∃ l12 : Int64, oz9 = .inl (some (.long l12)) ∧ (hp_T M11 (a0) = 7 ∧ (hp_R M11 120 a0 ≠ 0 ∧ (∀ p16 : Nat, p16 = hp_R M11 120 a0 → (hp_T M11 (p16) = 1 ∧ (am_CT G d rX0_energyOfMoves [.ref p16] M11 0 0 (fun oz9 M17 => ∃ l18 : Int64, oz9 = .inl (some (.long l18)) ∧ ((((lg_cmp l12 l18) = 0) → (hp_T M17 (a0) = 7 ∧ (hp_R M17 120 a0 ≠ 0 ∧ (∀ p23 : Nat, p23 = hp_R M17 120 a0 → (hp_T M17 (p23) = 1 ∧ (am_CT G d rX0_loadsFit [.ref p23] M17 0 0 (fun oz9 M24 => ∃ v25 : Int32, oz9 = .inl (some (.int v25)) ∧ (((v25 = 0) → (Q (.inl (some (.int (0 : Int32)))) M24)) ∧ (¬ (v25 = 0) → (hp_T M24 (a0) = 7 ∧ (hp_R M24 120 a0 ≠ 0 ∧ (∀ p30 : Nat, p30 = hp_R M24 120 a0 → (hp_T M24 (p30) = 1 ∧ (am_CT G d rX0_assignmentsServe [.ref p30] M24 0 0 (fun oz9 M31 => ∃ v32 : Int32, oz9 = .inl (some (.int v32)) ∧ (((v32 = 0) → (Q (.inl (some (.int (0 : Int32)))) M31)) ∧ (¬ (v32 = 0) → (Q (.inl (some (.int (1 : Int32)))) M31)))))))))))))))))) ∧ (¬ ((lg_cmp l12 l18) = 0) → (Q (.inl (some (.int (0 : Int32)))) M17))))))))))))))))))))))) : am_J X 0 [(0, .ref a0)] [] M bc bs := by
  refine j_aload_n hX eX6_isConsistent_0 0 rfl ?_
  obtain ⟨t1, h⟩ := h
  obtain ⟨z2, h⟩ := h
  refine j_getR hX eX6_isConsistent_1 ff_LiftGroup_12 rfl t1 (by decide) z2 ?_
  refine j_nmR (fun p3 ep3 => ?_)
  replace h := h p3 ep3
  obtain ⟨t6, h⟩ := h
  refine j_callV (a := p3) (q := (RX0, TX0, 10)) (r' := rX0_estimatesAgree) (As := []) (rest := []) (d1 := d) hX eX6_isConsistent_4 mm_LiftGroup_307 rfl t6 (by decide) rfl h rfl (Nat.le_refl _) (Nat.zero_le _) (Nat.zero_le _) (Nat.le_of_ble_eq_true rfl) (fun vz9 Mz9 qz9 => ?_) (fun Ez9 Mz9 qz9 => ?_)
  · obtain ⟨M4, eMz9⟩ : ∃ M4, M4 = Mz9 := ⟨_, rfl⟩; subst eMz9
    obtain ⟨v5, hxz9, h⟩ := qz9
    cases hxz9
    refine j_if_eq hX 52 eX6_isConsistent_7 (by decide) (fun c7 => ?_) (fun c7 => ?_)
    · replace h := h.1 c7
      refine j_iconst (v := (0 : Int32)) hX eX6_isConsistent_52 (by decide) ?_
      exact j_zret hX hM eX6_isConsistent_53 rfl (by decide) h
    · replace h := h.2 c7
      refine j_aload_n hX eX6_isConsistent_10 0 rfl ?_
      obtain ⟨t8, h⟩ := h
      obtain ⟨z9, h⟩ := h
      refine j_getR hX eX6_isConsistent_11 ff_LiftGroup_12 rfl t8 (by decide) z9 ?_
      refine j_nmR (fun p10 ep10 => ?_)
      replace h := h p10 ep10
      obtain ⟨t13, h⟩ := h
      refine j_callV (a := p10) (q := (RX0, TX0, 10)) (r' := rX0_sumOfAccounts) (As := []) (rest := []) (d1 := d) hX eX6_isConsistent_14 mm_LiftGroup_283 rfl t13 (by decide) rfl h rfl (Nat.le_refl _) (Nat.zero_le _) (Nat.zero_le _) (Nat.le_of_ble_eq_true rfl) (fun vz9 Mz9 qz9 => ?_) (fun Ez9 Mz9 qz9 => ?_)
      · obtain ⟨M11, eMz9⟩ : ∃ M11, M11 = Mz9 := ⟨_, rfl⟩; subst eMz9
        obtain ⟨l12, hxz9, h⟩ := qz9
        cases hxz9
        refine j_aload_n hX eX6_isConsistent_17 0 rfl ?_
        obtain ⟨t14, h⟩ := h
        obtain ⟨z15, h⟩ := h
        refine j_getR hX eX6_isConsistent_18 ff_LiftGroup_12 rfl t14 (by decide) z15 ?_
        refine j_nmR (fun p16 ep16 => ?_)
        replace h := h p16 ep16
        obtain ⟨t19, h⟩ := h
        refine j_callV (a := p16) (q := (RX0, TX0, 10)) (r' := rX0_energyOfMoves) (As := []) (rest := [.long l12]) (d1 := d) hX eX6_isConsistent_21 mm_LiftGroup_287 rfl t19 (by decide) rfl h rfl (Nat.le_refl _) (Nat.zero_le _) (Nat.zero_le _) (Nat.le_of_ble_eq_true rfl) (fun vz9 Mz9 qz9 => ?_) (fun Ez9 Mz9 qz9 => ?_)
        · obtain ⟨M17, eMz9⟩ : ∃ M17, M17 = Mz9 := ⟨_, rfl⟩; subst eMz9
          obtain ⟨l18, hxz9, h⟩ := qz9
          cases hxz9
          refine j_lcmp hX eX6_isConsistent_24 ?_
          refine j_if_ne hX 52 eX6_isConsistent_25 (by decide) (fun c20 => ?_) (fun c20 => ?_)
          · replace h := h.2 c20
            refine j_iconst (v := (0 : Int32)) hX eX6_isConsistent_52 (by decide) ?_
            exact j_zret hX hM eX6_isConsistent_53 rfl (by decide) h
          · replace h := h.1 c20
            refine j_aload_n hX eX6_isConsistent_28 0 rfl ?_
            obtain ⟨t21, h⟩ := h
            obtain ⟨z22, h⟩ := h
            refine j_getR hX eX6_isConsistent_29 ff_LiftGroup_12 rfl t21 (by decide) z22 ?_
            refine j_nmR (fun p23 ep23 => ?_)
            replace h := h p23 ep23
            obtain ⟨t26, h⟩ := h
            refine j_callV (a := p23) (q := (RX0, TX0, 10)) (r' := rX0_loadsFit) (As := []) (rest := []) (d1 := d) hX eX6_isConsistent_32 mm_LiftGroup_311 rfl t26 (by decide) rfl h rfl (Nat.le_refl _) (Nat.zero_le _) (Nat.zero_le _) (Nat.le_of_ble_eq_true rfl) (fun vz9 Mz9 qz9 => ?_) (fun Ez9 Mz9 qz9 => ?_)
            · obtain ⟨M24, eMz9⟩ : ∃ M24, M24 = Mz9 := ⟨_, rfl⟩; subst eMz9
              obtain ⟨v25, hxz9, h⟩ := qz9
              cases hxz9
              refine j_if_eq hX 52 eX6_isConsistent_35 (by decide) (fun c27 => ?_) (fun c27 => ?_)
              · replace h := h.1 c27
                refine j_iconst (v := (0 : Int32)) hX eX6_isConsistent_52 (by decide) ?_
                exact j_zret hX hM eX6_isConsistent_53 rfl (by decide) h
              · replace h := h.2 c27
                refine j_aload_n hX eX6_isConsistent_38 0 rfl ?_
                obtain ⟨t28, h⟩ := h
                obtain ⟨z29, h⟩ := h
                refine j_getR hX eX6_isConsistent_39 ff_LiftGroup_12 rfl t28 (by decide) z29 ?_
                refine j_nmR (fun p30 ep30 => ?_)
                replace h := h p30 ep30
                obtain ⟨t33, h⟩ := h
                refine j_callV (a := p30) (q := (RX0, TX0, 10)) (r' := rX0_assignmentsServe) (As := []) (rest := []) (d1 := d) hX eX6_isConsistent_42 mm_LiftGroup_314 rfl t33 (by decide) rfl h rfl (Nat.le_refl _) (Nat.zero_le _) (Nat.zero_le _) (Nat.le_of_ble_eq_true rfl) (fun vz9 Mz9 qz9 => ?_) (fun Ez9 Mz9 qz9 => ?_)
                · obtain ⟨M31, eMz9⟩ : ∃ M31, M31 = Mz9 := ⟨_, rfl⟩; subst eMz9
                  obtain ⟨v32, hxz9, h⟩ := qz9
                  cases hxz9
                  refine j_if_eq hX 52 eX6_isConsistent_45 (by decide) (fun c34 => ?_) (fun c34 => ?_)
                  · replace h := h.1 c34
                    refine j_iconst (v := (0 : Int32)) hX eX6_isConsistent_52 (by decide) ?_
                    exact j_zret hX hM eX6_isConsistent_53 rfl (by decide) h
                  · replace h := h.2 c34
                    refine j_iconst (v := (1 : Int32)) hX eX6_isConsistent_48 (by decide) ?_
                    refine j_goto hX 53 eX6_isConsistent_49 (by decide) ?_
                    exact j_zret hX hM eX6_isConsistent_53 rfl (by decide) h
                · obtain ⟨v32, hxz9, h⟩ := qz9
                  cases hxz9
            · obtain ⟨v25, hxz9, h⟩ := qz9
              cases hxz9
        · obtain ⟨l18, hxz9, h⟩ := qz9
          cases hxz9
      · obtain ⟨l12, hxz9, h⟩ := qz9
        cases hxz9
  · obtain ⟨v5, hxz9, h⟩ := qz9
    cases hxz9

set_option maxHeartbeats 4000000 in
set_option maxRecDepth 20000 in
theorem vX6_type_0 {X : am_Cx} {G : am_Gx} {d : Nat} {Q : am_Q} (hX : am_ok X rX6_type G (d + 1)) (hM : am_me X rX6_type Q) {bc bs : Nat}  {a0 : Nat} {a1 : Int32} {M : am_Hp} (h : ((a1 < (32 : Int32)) → (1 ≤ bc ∧ 6 ≤ bs ∧ Q (.inr "java/lang/IllegalArgumentException") M)) ∧ (¬ (a1 < (32 : Int32)) → (((a1 ≤ (126 : Int32)) → (hp_T M (a0) = 7 ∧ (hp_R M 124 a0 ≠ 0 ∧ (∀ p5 : Nat, p5 = hp_R M 124 a0 → (hp_T M (p5) = 5 ∧ (hp_R M 80 p5 ≠ 0 ∧ (∀ p8 : Nat, p8 = hp_R M 80 p5 → (hp_T M (p8) = 9 ∧ (am_CT G d rJ4_length_8abf5 [.ref p8] M 0 0 (fun oz9 M9 => ∃ v10 : Int32, oz9 = .inl (some (.int v10)) ∧ (((v10 < (60 : Int32)) → (hp_T M9 (a0) = 7 ∧ (hp_R M9 124 a0 ≠ 0 ∧ (∀ p15 : Nat, p15 = hp_R M9 124 a0 → (hp_T M9 (p15) = 5 ∧ (hp_R M9 80 p15 ≠ 0 ∧ (∀ p18 : Nat, p18 = hp_R M9 80 p15 → (hp_T M9 (p18) = 9 ∧ (1 ≤ bc ∧ (100 ≤ bs ∧ (am_CT G d rJ4_append_cf468 [.ref p18, .int a1] M9 1 100 (fun oz9 M19 => ∃ p20 : Nat, oz9 = .inl (some (.ref p20)) ∧ (hp_T M19 (a0) = 7 ∧ (hp_R M19 124 a0 ≠ 0 ∧ (∀ p26 : Nat, p26 = hp_R M19 124 a0 → (hp_T M19 (p26) = 5 ∧ (hp_R M19 80 p26 ≠ 0 ∧ (∀ p29 : Nat, p29 = hp_R M19 80 p26 → (hp_T M19 (p29) = 9 ∧ (am_CT G d rJ4_length_8abf5 [.ref p29] M19 0 0 (fun oz9 M30 => ∃ v31 : Int32, oz9 = .inl (some (.int v31)) ∧ (Q (.inl (some (.int v31))) M30)))))))))))))))))))))) ∧ (¬ (v10 < (60 : Int32)) → (1 ≤ bc ∧ 6 ≤ bs ∧ Q (.inr "java/lang/IllegalStateException") M9))))))))))))) ∧ (¬ (a1 ≤ (126 : Int32)) → (1 ≤ bc ∧ 6 ≤ bs ∧ Q (.inr "java/lang/IllegalArgumentException") M))))) : am_J X 0 [(0, .ref a0), (1, .int a1)] [] M bc bs := by
  refine j_iload_n hX eX6_type_0 1 rfl ?_
  refine j_bipush (v := (32 : Int32)) hX eX6_type_1 (by decide) ?_
  refine j_icmp_lt hX 12 eX6_type_3 (by decide) (fun c1 => ?_) (fun c1 => ?_)
  · replace h := h.1 c1
    obtain ⟨hb1, hb2, h⟩ := h
    exact j_throwWX hX hM eX6_type_12 eX6_type_15 eX6_type_16 eX6_type_19 eX6_type_22 rfl tx_IllegalArgumentException tf_IllegalArgumentException tw_408 tw_17 ts_LiftGroup_340 ta_LiftGroup_227_223.1 ta_LiftGroup_227_223.2 (by decide) hb1 hb2 h
  · replace h := h.2 c1
    refine j_iload_n hX eX6_type_6 1 rfl ?_
    refine j_bipush (v := (126 : Int32)) hX eX6_type_7 (by decide) ?_
    refine j_icmp_le hX 23 eX6_type_9 (by decide) (fun c2 => ?_) (fun c2 => ?_)
    · replace h := h.1 c2
      refine j_aload_n hX eX6_type_23 0 rfl ?_
      obtain ⟨t3, h⟩ := h
      obtain ⟨z4, h⟩ := h
      refine j_getR hX eX6_type_24 ff_LiftGroup_32 rfl t3 (by decide) z4 ?_
      refine j_nmR (fun p5 ep5 => ?_)
      replace h := h p5 ep5
      obtain ⟨t6, h⟩ := h
      obtain ⟨z7, h⟩ := h
      refine j_getR hX eX6_type_27 ff_LiftGroup_342 rfl t6 (by decide) z7 ?_
      refine j_nmR (fun p8 ep8 => ?_)
      replace h := h p8 ep8
      obtain ⟨t11, h⟩ := h
      refine j_callV (a := p8) (q := (RJ4, TJ4, 4)) (r' := rJ4_length_8abf5) (As := []) (rest := []) (d1 := d) hX eX6_type_30 mm_LiftGroup_327 rfl t11 (by decide) rfl h rfl (Nat.le_refl _) (Nat.zero_le _) (Nat.zero_le _) (Nat.le_of_ble_eq_true rfl) (fun vz9 Mz9 qz9 => ?_) (fun Ez9 Mz9 qz9 => ?_)
      · obtain ⟨M9, eMz9⟩ : ∃ M9, M9 = Mz9 := ⟨_, rfl⟩; subst eMz9
        obtain ⟨v10, hxz9, h⟩ := qz9
        cases hxz9
        refine j_bipush (v := (60 : Int32)) hX eX6_type_33 (by decide) ?_
        refine j_icmp_lt hX 49 eX6_type_35 (by decide) (fun c12 => ?_) (fun c12 => ?_)
        · replace h := h.1 c12
          refine j_aload_n hX eX6_type_49 0 rfl ?_
          obtain ⟨t13, h⟩ := h
          obtain ⟨z14, h⟩ := h
          refine j_getR hX eX6_type_50 ff_LiftGroup_32 rfl t13 (by decide) z14 ?_
          refine j_nmR (fun p15 ep15 => ?_)
          replace h := h p15 ep15
          obtain ⟨t16, h⟩ := h
          obtain ⟨z17, h⟩ := h
          refine j_getR hX eX6_type_53 ff_LiftGroup_342 rfl t16 (by decide) z17 ?_
          refine j_nmR (fun p18 ep18 => ?_)
          replace h := h p18 ep18
          refine j_iload_n hX eX6_type_56 1 rfl ?_
          obtain ⟨t21, h⟩ := h
          obtain ⟨b22, b23, h⟩ := h
          refine j_callV (a := p18) (q := (RJ4, TJ4, 4)) (r' := rJ4_append_cf468) (As := [.int a1]) (rest := []) (d1 := d) hX eX6_type_57 mm_LiftGroup_324 rfl t21 (by decide) rfl h rfl (Nat.le_refl _) b22 b23 (Nat.le_of_ble_eq_true rfl) (fun vz9 Mz9 qz9 => ?_) (fun Ez9 Mz9 qz9 => ?_)
          · obtain ⟨M19, eMz9⟩ : ∃ M19, M19 = Mz9 := ⟨_, rfl⟩; subst eMz9
            obtain ⟨p20, hxz9, h⟩ := qz9
            cases hxz9
            refine j_pop hX eX6_type_60 rfl ?_
            refine j_aload_n hX eX6_type_61 0 rfl ?_
            obtain ⟨t24, h⟩ := h
            obtain ⟨z25, h⟩ := h
            refine j_getR hX eX6_type_62 ff_LiftGroup_32 rfl t24 (by decide) z25 ?_
            refine j_nmR (fun p26 ep26 => ?_)
            replace h := h p26 ep26
            obtain ⟨t27, h⟩ := h
            obtain ⟨z28, h⟩ := h
            refine j_getR hX eX6_type_65 ff_LiftGroup_342 rfl t27 (by decide) z28 ?_
            refine j_nmR (fun p29 ep29 => ?_)
            replace h := h p29 ep29
            obtain ⟨t32, h⟩ := h
            refine j_callV (a := p29) (q := (RJ4, TJ4, 4)) (r' := rJ4_length_8abf5) (As := []) (rest := []) (d1 := d) hX eX6_type_68 mm_LiftGroup_327 rfl t32 (by decide) rfl h rfl (Nat.le_refl _) (Nat.zero_le _) (Nat.zero_le _) (Nat.le_of_ble_eq_true rfl) (fun vz9 Mz9 qz9 => ?_) (fun Ez9 Mz9 qz9 => ?_)
            · obtain ⟨M30, eMz9⟩ : ∃ M30, M30 = Mz9 := ⟨_, rfl⟩; subst eMz9
              obtain ⟨v31, hxz9, h⟩ := qz9
              cases hxz9
              exact j_iret hX hM eX6_type_71 rfl h
            · obtain ⟨v31, hxz9, h⟩ := qz9
              cases hxz9
          · obtain ⟨p20, hxz9, h⟩ := qz9
            cases hxz9
        · replace h := h.2 c12
          obtain ⟨hb1, hb2, h⟩ := h
          exact j_throwWX hX hM eX6_type_38 eX6_type_41 eX6_type_42 eX6_type_45 eX6_type_48 rfl tx_IllegalStateException tf_IllegalStateException tw_424 tw_18 ts_LiftGroup_347 ta_LiftGroup_349_345.1 ta_LiftGroup_349_345.2 (by decide) hb1 hb2 h
      · obtain ⟨v10, hxz9, h⟩ := qz9
        cases hxz9
    · replace h := h.2 c2
      obtain ⟨hb1, hb2, h⟩ := h
      exact j_throwWX hX hM eX6_type_12 eX6_type_15 eX6_type_16 eX6_type_19 eX6_type_22 rfl tx_IllegalArgumentException tf_IllegalArgumentException tw_408 tw_17 ts_LiftGroup_340 ta_LiftGroup_227_223.1 ta_LiftGroup_227_223.2 (by decide) hb1 hb2 h

set_option maxHeartbeats 4000000 in
set_option maxRecDepth 20000 in
theorem vX6_runScript_0 {X : am_Cx} {G : am_Gx} {d : Nat} {Q : am_Q} (hX : am_ok X rX6_runScript G (d + 1)) (hM : am_me X rX6_runScript Q) {bc bs : Nat} (R53 : Nat → Int32 → am_Hp → Nat → Nat → Prop) (k53 : ∀ (x0 : Nat) (x2 : Int32) (M : am_Hp) (bc bs : Nat), R53 x0 x2 M bc bs → am_J X 53 [(0, .ref x0), (2, .int x2)] [] M bc bs) {a0 : Nat} {M : am_Hp} (h : hp_T M (a0) = 7 ∧ (hp_R M 124 a0 ≠ 0 ∧ (∀ p3 : Nat, p3 = hp_R M 124 a0 → (hp_T M (p3) = 5 ∧ (am_CT G d rX4_read [.ref p3] M 0 0 (fun oz9 M4 => ∃ v5 : Int32, oz9 = .inl (some (.int v5)) ∧ (hp_T M4 (a0) = 7 ∧ (hp_R M4 124 a0 ≠ 0 ∧ (∀ p9 : Nat, p9 = hp_R M4 124 a0 → (hp_T M4 (p9) = 5 ∧ (hp_R M4 80 p9 ≠ 0 ∧ (∀ p12 : Nat, p12 = hp_R M4 80 p9 → (hp_T M4 (p12) = 9 ∧ (am_CT G d rJ4_setLength_d00df [.ref p12, .int (0 : Int32)] M4 0 0 (fun oz9 M13 => oz9 = .inl none ∧ (((v5 = (-1 : Int32)) → (hp_T M13 (a0) = 7 ∧ (hp_R M13 121 a0 ≠ 0 ∧ (∀ p19 : Nat, p19 = hp_R M13 121 a0 → (hp_R M13 120 a0 ≠ 0 ∧ (∀ p21 : Nat, p21 = hp_R M13 120 a0 → (hp_T M13 (p19) = 1 ∧ (am_CT G d rX0_copyFrom [.ref p19, .ref p21] M13 0 0 (fun oz9 M22 => oz9 = .inl none ∧ (R53 a0 (0 : Int32) M22 bc bs)))))))))) ∧ (¬ (v5 = (-1 : Int32)) → (hp_T M13 (a0) = 7 ∧ (∀ M26 : am_Hp, M26 = hp_sI M13 127 a0 v5 → (1 ≤ bc ∧ 6 ≤ bs ∧ Q (.inr "java/lang/IllegalArgumentException") M26)))))))))))))))))))) : am_J X 0 [(0, .ref a0)] [] M bc bs := by
  refine j_aload_n hX eX6_runScript_0 0 rfl ?_
  obtain ⟨t1, h⟩ := h
  obtain ⟨z2, h⟩ := h
  refine j_getR hX eX6_runScript_1 ff_LiftGroup_32 rfl t1 (by decide) z2 ?_
  refine j_nmR (fun p3 ep3 => ?_)
  replace h := h p3 ep3
  obtain ⟨t6, h⟩ := h
  refine j_callV (a := p3) (q := (RX4, TX4, 5)) (r' := rX4_read) (As := []) (rest := []) (d1 := d) hX eX6_runScript_4 mm_LiftGroup_350 rfl t6 (by decide) rfl h rfl (Nat.le_refl _) (Nat.zero_le _) (Nat.zero_le _) (Nat.le_of_ble_eq_true rfl) (fun vz9 Mz9 qz9 => ?_) (fun Ez9 Mz9 qz9 => ?_)
  · obtain ⟨M4, eMz9⟩ : ∃ M4, M4 = Mz9 := ⟨_, rfl⟩; subst eMz9
    obtain ⟨v5, hxz9, h⟩ := qz9
    cases hxz9
    refine j_istore_n (lv' := [(1, .int v5), (0, .ref a0)]) hX eX6_runScript_7 rfl (by decide) rfl ?_
    refine j_aload_n hX eX6_runScript_8 1 rfl ?_
    obtain ⟨t7, h⟩ := h
    obtain ⟨z8, h⟩ := h
    refine j_getR hX eX6_runScript_9 ff_LiftGroup_32 rfl t7 (by decide) z8 ?_
    refine j_nmR (fun p9 ep9 => ?_)
    replace h := h p9 ep9
    obtain ⟨t10, h⟩ := h
    obtain ⟨z11, h⟩ := h
    refine j_getR hX eX6_runScript_12 ff_LiftGroup_342 rfl t10 (by decide) z11 ?_
    refine j_nmR (fun p12 ep12 => ?_)
    replace h := h p12 ep12
    refine j_iconst (v := (0 : Int32)) hX eX6_runScript_15 (by decide) ?_
    obtain ⟨t15, h⟩ := h
    refine j_callV (a := p12) (q := (RJ4, TJ4, 4)) (r' := rJ4_setLength_d00df) (As := [.int (0 : Int32)]) (rest := []) (d1 := d) hX eX6_runScript_16 mm_LiftGroup_317 rfl t15 (by decide) rfl h rfl (Nat.le_refl _) (Nat.zero_le _) (Nat.zero_le _) (Nat.le_of_ble_eq_true rfl) (fun vz9 Mz9 qz9 => ?_) (fun Ez9 Mz9 qz9 => ?_)
    · obtain ⟨M13, eMz9⟩ : ∃ M13, M13 = Mz9 := ⟨_, rfl⟩; subst eMz9
      obtain ⟨hxz9, h⟩ := qz9
      cases hxz9
      refine j_iload_n hX eX6_runScript_19 0 rfl ?_
      refine j_iconst (v := (-1 : Int32)) hX eX6_runScript_20 (by decide) ?_
      refine j_icmp_eq hX 40 eX6_runScript_21 (by decide) (fun c16 => ?_) (fun c16 => ?_)
      · replace h := h.1 c16
        refine j_aload_n hX eX6_runScript_40 1 rfl ?_
        obtain ⟨t17, h⟩ := h
        obtain ⟨z18, h⟩ := h
        refine j_getR hX eX6_runScript_41 ff_LiftGroup_16 rfl t17 (by decide) z18 ?_
        refine j_nmR (fun p19 ep19 => ?_)
        replace h := h p19 ep19
        refine j_aload_n hX eX6_runScript_44 1 rfl ?_
        obtain ⟨z20, h⟩ := h
        refine j_getR hX eX6_runScript_45 ff_LiftGroup_12 rfl t17 (by decide) z20 ?_
        refine j_nmR (fun p21 ep21 => ?_)
        replace h := h p21 ep21
        obtain ⟨t24, h⟩ := h
        refine j_callV (a := p19) (q := (RX0, TX0, 10)) (r' := rX0_copyFrom) (As := [.ref p21]) (rest := []) (d1 := d) hX eX6_runScript_48 mm_LiftGroup_233 rfl t24 (by decide) rfl h rfl (Nat.le_refl _) (Nat.zero_le _) (Nat.zero_le _) (Nat.le_of_ble_eq_true rfl) (fun vz9 Mz9 qz9 => ?_) (fun Ez9 Mz9 qz9 => ?_)
        · obtain ⟨M22, eMz9⟩ : ∃ M22, M22 = Mz9 := ⟨_, rfl⟩; subst eMz9
          obtain ⟨hxz9, h⟩ := qz9
          cases hxz9
          refine j_iconst (v := (0 : Int32)) hX eX6_runScript_51 (by decide) ?_
          refine j_istore_n (lv' := [(2, .int (0 : Int32)), (1, .int v5), (0, .ref a0)]) hX eX6_runScript_52 rfl (by decide) rfl ?_
          exact j_sub [2, 0] rfl (k53 _ _ _ _ _ h)
        · obtain ⟨hxz9, h⟩ := qz9
          cases hxz9
      · replace h := h.2 c16
        refine j_aload_n hX eX6_runScript_24 1 rfl ?_
        refine j_iload_n hX eX6_runScript_25 0 rfl ?_
        obtain ⟨t25, h⟩ := h
        refine j_putI (ty := .int) hX eX6_runScript_26 ff_LiftGroup_47 rfl t25 (by decide) pp_6_7 rfl rfl ?_
        refine j_nmM (fun M26 eM26 => ?_)
        replace h := h M26 eM26
        have t27 : hp_T M26 (a0) = 7 := by rw [eM26]; exact t25
        obtain ⟨hb1, hb2, h⟩ := h
        exact j_throwWX hX hM eX6_runScript_29 eX6_runScript_32 eX6_runScript_33 eX6_runScript_36 eX6_runScript_39 rfl tx_IllegalArgumentException tf_IllegalArgumentException tw_408 tw_17 ts_LiftGroup_353 ta_LiftGroup_227_223.1 ta_LiftGroup_227_223.2 (by decide) hb1 hb2 h
    · obtain ⟨hxz9, h⟩ := qz9
      cases hxz9
  · obtain ⟨v5, hxz9, h⟩ := qz9
    cases hxz9
set_option maxHeartbeats 4000000 in
set_option maxRecDepth 20000 in
theorem vX6_runScript_53 {X : am_Cx} {G : am_Gx} {d : Nat} {Q : am_Q} (hX : am_ok X rX6_runScript G (d + 1)) (hM : am_me X rX6_runScript Q) {bc bs : Nat} (R53 : Nat → Int32 → am_Hp → Nat → Nat → Prop) (k53 : ∀ (x0 : Nat) (x2 : Int32) (M : am_Hp) (bc bs : Nat), R53 x0 x2 M bc bs → am_J X 53 [(0, .ref x0), (2, .int x2)] [] M bc bs) {a0 : Nat} {a2 : Int32} {M : am_Hp} (h : hp_T M (a0) = 7 ∧ (hp_R M 124 a0 ≠ 0 ∧ (∀ p3 : Nat, p3 = hp_R M 124 a0 → (hp_T M (p3) = 5 ∧ ((((hp_I M 83 p3) ≤ a2) → (hp_R M 123 a0 ≠ 0 ∧ (∀ p7 : Nat, p7 = hp_R M 123 a0 → (hp_R M 120 a0 ≠ 0 ∧ (∀ p9 : Nat, p9 = hp_R M 120 a0 → (hp_T M (p7) = 3 ∧ (am_CT G d rX2_remember [.ref p7, .ref p9] M 0 0 (fun oz9 M10 => oz9 = .inl none ∧ (hp_T M10 (a0) = 7 ∧ (hp_R M10 120 a0 ≠ 0 ∧ (∀ p15 : Nat, p15 = hp_R M10 120 a0 → (hp_R M10 121 a0 ≠ 0 ∧ (∀ p17 : Nat, p17 = hp_R M10 121 a0 → (hp_T M10 (p15) = 1 ∧ (am_CT G d rX0_copyFrom [.ref p15, .ref p17] M10 0 0 (fun oz9 M18 => oz9 = .inl none ∧ (hp_T M18 (a0) = 7 ∧ (hp_R M18 124 a0 ≠ 0 ∧ (∀ p23 : Nat, p23 = hp_R M18 124 a0 → (hp_T M18 (p23) = 5 ∧ (Q (.inl (some (.int (hp_I M18 83 p23)))) M18))))))))))))))))))))) ∧ (¬ ((hp_I M 83 p3) ≤ a2) → (hp_R M 121 a0 ≠ 0 ∧ (∀ p26 : Nat, p26 = hp_R M 121 a0 → (hp_R M 124 a0 ≠ 0 ∧ (∀ p28 : Nat, p28 = hp_R M 124 a0 → (hp_T M (p28) = 5 ∧ (hp_R M 81 p28 ≠ 0 ∧ (∀ p31 : Nat, p31 = hp_R M 81 p28 → (hp_T M (p31) = 22 ∧ (vp_in a2 (hp_N M p31) ∧ (hp_R M 124 a0 ≠ 0 ∧ (∀ p35 : Nat, p35 = hp_R M 124 a0 → (hp_T M (p35) = 5 ∧ (hp_R M 82 p35 ≠ 0 ∧ (∀ p38 : Nat, p38 = hp_R M 82 p35 → (hp_T M (p38) = 28 ∧ (vp_in a2 (hp_N M p38) ∧ (hp_Q M p38 (a2).toNatClampNeg ≠ 0 ∧ (∀ p42 : Nat, p42 = hp_Q M p38 (a2).toNatClampNeg → (hp_T M (p26) = 1 ∧ (am_CT G d rX0_refusalToPerform [.ref p26, .int (hp_E M p31 (a2).toNatClampNeg), .ref p42] M 0 0 (fun oz9 M43 => ∃ v44 : Int32, oz9 = .inl (some (.int v44)) ∧ (((v44 = 0) → (hp_T M43 (a0) = 7 ∧ (hp_R M43 121 a0 ≠ 0 ∧ (∀ p49 : Nat, p49 = hp_R M43 121 a0 → (hp_R M43 124 a0 ≠ 0 ∧ (∀ p51 : Nat, p51 = hp_R M43 124 a0 → (hp_T M43 (p51) = 5 ∧ (hp_R M43 81 p51 ≠ 0 ∧ (∀ p54 : Nat, p54 = hp_R M43 81 p51 → (hp_T M43 (p54) = 22 ∧ (vp_in a2 (hp_N M43 p54) ∧ (hp_R M43 124 a0 ≠ 0 ∧ (∀ p58 : Nat, p58 = hp_R M43 124 a0 → (hp_T M43 (p58) = 5 ∧ (hp_R M43 82 p58 ≠ 0 ∧ (∀ p61 : Nat, p61 = hp_R M43 82 p58 → (hp_T M43 (p61) = 28 ∧ (vp_in a2 (hp_N M43 p61) ∧ (hp_Q M43 p61 (a2).toNatClampNeg ≠ 0 ∧ (∀ p65 : Nat, p65 = hp_Q M43 p61 (a2).toNatClampNeg → (hp_T M43 (p49) = 1 ∧ (am_CT G d rX0_perform [.ref p49, .int (hp_E M43 p54 (a2).toNatClampNeg), .ref p65] M43 0 0 (fun oz9 M66 => ∃ v67 : Int32, oz9 = .inl (some (.int v67)) ∧ (∀ v69 : Int32, v69 = a2 + (1 : Int32) → (R53 a0 v69 M66 bc bs))))))))))))))))))))))))) ∧ (¬ (v44 = 0) → (hp_T M43 (a0) = 7 ∧ (∀ M71 : am_Hp, M71 = hp_sI M43 128 a0 a2 → (1 ≤ bc ∧ 6 ≤ bs ∧ Q (.inr "java/lang/IllegalStateException") M71)))))))))))))))))))))))))))))))) : am_J X 53 [(0, .ref a0), (2, .int a2)] [] M bc bs := by
  refine j_iload_n hX eX6_runScript_53 1 rfl ?_
  refine j_aload_n hX eX6_runScript_54 0 rfl ?_
  obtain ⟨t1, h⟩ := h
  obtain ⟨z2, h⟩ := h
  refine j_getR hX eX6_runScript_55 ff_LiftGroup_32 rfl t1 (by decide) z2 ?_
  refine j_nmR (fun p3 ep3 => ?_)
  replace h := h p3 ep3
  obtain ⟨t4, h⟩ := h
  refine j_getI hX eX6_runScript_58 ff_LiftGroup_355 rfl t4 (by decide) ?_
  refine j_icmp_ge hX 140 eX6_runScript_61 (by decide) (fun c5 => ?_) (fun c5 => ?_)
  · replace h := h.1 c5
    refine j_aload_n hX eX6_runScript_140 0 rfl ?_
    obtain ⟨z6, h⟩ := h
    refine j_getR hX eX6_runScript_141 ff_LiftGroup_25 rfl t1 (by decide) z6 ?_
    refine j_nmR (fun p7 ep7 => ?_)
    replace h := h p7 ep7
    refine j_aload_n hX eX6_runScript_144 0 rfl ?_
    obtain ⟨z8, h⟩ := h
    refine j_getR hX eX6_runScript_145 ff_LiftGroup_12 rfl t1 (by decide) z8 ?_
    refine j_nmR (fun p9 ep9 => ?_)
    replace h := h p9 ep9
    obtain ⟨t12, h⟩ := h
    refine j_callV (a := p7) (q := (RX2, TX2, 3)) (r' := rX2_remember) (As := [.ref p9]) (rest := []) (d1 := d) hX eX6_runScript_148 mm_LiftGroup_62 rfl t12 (by decide) rfl h rfl (Nat.le_refl _) (Nat.zero_le _) (Nat.zero_le _) (Nat.le_of_ble_eq_true rfl) (fun vz9 Mz9 qz9 => ?_) (fun Ez9 Mz9 qz9 => ?_)
    · obtain ⟨M10, eMz9⟩ : ∃ M10, M10 = Mz9 := ⟨_, rfl⟩; subst eMz9
      obtain ⟨hxz9, h⟩ := qz9
      cases hxz9
      refine j_aload_n hX eX6_runScript_151 0 rfl ?_
      obtain ⟨t13, h⟩ := h
      obtain ⟨z14, h⟩ := h
      refine j_getR hX eX6_runScript_152 ff_LiftGroup_12 rfl t13 (by decide) z14 ?_
      refine j_nmR (fun p15 ep15 => ?_)
      replace h := h p15 ep15
      refine j_aload_n hX eX6_runScript_155 0 rfl ?_
      obtain ⟨z16, h⟩ := h
      refine j_getR hX eX6_runScript_156 ff_LiftGroup_16 rfl t13 (by decide) z16 ?_
      refine j_nmR (fun p17 ep17 => ?_)
      replace h := h p17 ep17
      obtain ⟨t20, h⟩ := h
      refine j_callV (a := p15) (q := (RX0, TX0, 10)) (r' := rX0_copyFrom) (As := [.ref p17]) (rest := []) (d1 := d) hX eX6_runScript_159 mm_LiftGroup_233 rfl t20 (by decide) rfl h rfl (Nat.le_refl _) (Nat.zero_le _) (Nat.zero_le _) (Nat.le_of_ble_eq_true rfl) (fun vz9 Mz9 qz9 => ?_) (fun Ez9 Mz9 qz9 => ?_)
      · obtain ⟨M18, eMz9⟩ : ∃ M18, M18 = Mz9 := ⟨_, rfl⟩; subst eMz9
        obtain ⟨hxz9, h⟩ := qz9
        cases hxz9
        refine j_aload_n hX eX6_runScript_162 0 rfl ?_
        obtain ⟨t21, h⟩ := h
        obtain ⟨z22, h⟩ := h
        refine j_getR hX eX6_runScript_163 ff_LiftGroup_32 rfl t21 (by decide) z22 ?_
        refine j_nmR (fun p23 ep23 => ?_)
        replace h := h p23 ep23
        obtain ⟨t24, h⟩ := h
        refine j_getI hX eX6_runScript_166 ff_LiftGroup_355 rfl t24 (by decide) ?_
        exact j_iret hX hM eX6_runScript_169 rfl h
      · obtain ⟨hxz9, h⟩ := qz9
        cases hxz9
    · obtain ⟨hxz9, h⟩ := qz9
      cases hxz9
  · replace h := h.2 c5
    refine j_aload_n hX eX6_runScript_64 0 rfl ?_
    obtain ⟨z25, h⟩ := h
    refine j_getR hX eX6_runScript_65 ff_LiftGroup_16 rfl t1 (by decide) z25 ?_
    refine j_nmR (fun p26 ep26 => ?_)
    replace h := h p26 ep26
    refine j_aload_n hX eX6_runScript_68 0 rfl ?_
    obtain ⟨z27, h⟩ := h
    refine j_getR hX eX6_runScript_69 ff_LiftGroup_32 rfl t1 (by decide) z27 ?_
    refine j_nmR (fun p28 ep28 => ?_)
    replace h := h p28 ep28
    obtain ⟨t29, h⟩ := h
    obtain ⟨z30, h⟩ := h
    refine j_getR hX eX6_runScript_72 ff_LiftGroup_358 rfl t29 (by decide) z30 ?_
    refine j_nmR (fun p31 ep31 => ?_)
    replace h := h p31 ep31
    refine j_iload_n hX eX6_runScript_75 1 rfl ?_
    obtain ⟨t32, h⟩ := h
    obtain ⟨i33, h⟩ := h
    refine j_iald hX eX6_runScript_76 t32 i33 ?_
    refine j_aload_n hX eX6_runScript_77 0 rfl ?_
    obtain ⟨z34, h⟩ := h
    refine j_getR hX eX6_runScript_78 ff_LiftGroup_32 rfl t1 (by decide) z34 ?_
    refine j_nmR (fun p35 ep35 => ?_)
    replace h := h p35 ep35
    obtain ⟨t36, h⟩ := h
    obtain ⟨z37, h⟩ := h
    refine j_getR hX eX6_runScript_81 ff_LiftGroup_361 rfl t36 (by decide) z37 ?_
    refine j_nmR (fun p38 ep38 => ?_)
    replace h := h p38 ep38
    refine j_iload_n hX eX6_runScript_84 1 rfl ?_
    obtain ⟨t39, h⟩ := h
    obtain ⟨i40, h⟩ := h
    obtain ⟨z41, h⟩ := h
    refine j_aald28 hX eX6_runScript_85 t39 i40 z41 ?_
    refine j_nmR (fun p42 ep42 => ?_)
    replace h := h p42 ep42
    obtain ⟨t45, h⟩ := h
    refine j_callV (a := p26) (q := (RX0, TX0, 10)) (r' := rX0_refusalToPerform) (As := [.int (hp_E M p31 (a2).toNatClampNeg), .ref p42]) (rest := []) (d1 := d) hX eX6_runScript_86 mm_LiftGroup_365 rfl t45 (by decide) rfl h rfl (Nat.le_refl _) (Nat.zero_le _) (Nat.zero_le _) (Nat.le_of_ble_eq_true rfl) (fun vz9 Mz9 qz9 => ?_) (fun Ez9 Mz9 qz9 => ?_)
    · obtain ⟨M43, eMz9⟩ : ∃ M43, M43 = Mz9 := ⟨_, rfl⟩; subst eMz9
      obtain ⟨v44, hxz9, h⟩ := qz9
      cases hxz9
      refine j_if_eq hX 108 eX6_runScript_89 (by decide) (fun c46 => ?_) (fun c46 => ?_)
      · replace h := h.1 c46
        refine j_aload_n hX eX6_runScript_108 0 rfl ?_
        obtain ⟨t47, h⟩ := h
        obtain ⟨z48, h⟩ := h
        refine j_getR hX eX6_runScript_109 ff_LiftGroup_16 rfl t47 (by decide) z48 ?_
        refine j_nmR (fun p49 ep49 => ?_)
        replace h := h p49 ep49
        refine j_aload_n hX eX6_runScript_112 0 rfl ?_
        obtain ⟨z50, h⟩ := h
        refine j_getR hX eX6_runScript_113 ff_LiftGroup_32 rfl t47 (by decide) z50 ?_
        refine j_nmR (fun p51 ep51 => ?_)
        replace h := h p51 ep51
        obtain ⟨t52, h⟩ := h
        obtain ⟨z53, h⟩ := h
        refine j_getR hX eX6_runScript_116 ff_LiftGroup_358 rfl t52 (by decide) z53 ?_
        refine j_nmR (fun p54 ep54 => ?_)
        replace h := h p54 ep54
        refine j_iload_n hX eX6_runScript_119 1 rfl ?_
        obtain ⟨t55, h⟩ := h
        obtain ⟨i56, h⟩ := h
        refine j_iald hX eX6_runScript_120 t55 i56 ?_
        refine j_aload_n hX eX6_runScript_121 0 rfl ?_
        obtain ⟨z57, h⟩ := h
        refine j_getR hX eX6_runScript_122 ff_LiftGroup_32 rfl t47 (by decide) z57 ?_
        refine j_nmR (fun p58 ep58 => ?_)
        replace h := h p58 ep58
        obtain ⟨t59, h⟩ := h
        obtain ⟨z60, h⟩ := h
        refine j_getR hX eX6_runScript_125 ff_LiftGroup_361 rfl t59 (by decide) z60 ?_
        refine j_nmR (fun p61 ep61 => ?_)
        replace h := h p61 ep61
        refine j_iload_n hX eX6_runScript_128 1 rfl ?_
        obtain ⟨t62, h⟩ := h
        obtain ⟨i63, h⟩ := h
        obtain ⟨z64, h⟩ := h
        refine j_aald28 hX eX6_runScript_129 t62 i63 z64 ?_
        refine j_nmR (fun p65 ep65 => ?_)
        replace h := h p65 ep65
        obtain ⟨t68, h⟩ := h
        refine j_callV (a := p49) (q := (RX0, TX0, 10)) (r' := rX0_perform) (As := [.int (hp_E M43 p54 (a2).toNatClampNeg), .ref p65]) (rest := []) (d1 := d) hX eX6_runScript_130 mm_LiftGroup_371 rfl t68 (by decide) rfl h rfl (Nat.le_refl _) (Nat.zero_le _) (Nat.zero_le _) (Nat.le_of_ble_eq_true rfl) (fun vz9 Mz9 qz9 => ?_) (fun Ez9 Mz9 qz9 => ?_)
        · obtain ⟨M66, eMz9⟩ : ∃ M66, M66 = Mz9 := ⟨_, rfl⟩; subst eMz9
          obtain ⟨v67, hxz9, h⟩ := qz9
          cases hxz9
          refine j_pop hX eX6_runScript_133 rfl ?_
          obtain ⟨v69, ev69⟩ : ∃ v69 : Int32, v69 = a2 + (1 : Int32) := ⟨_, rfl⟩
          replace h := h v69 ev69
          refine j_iinc (v := v69) (lv' := [(2, .int v69), (0, .ref a0)]) hX eX6_runScript_134 1 rfl (by rw [ev69]; rfl) (by decide) rfl ?_
          refine j_goto hX 53 eX6_runScript_137 (by decide) ?_
          exact j_sub [1, 0] rfl (k53 _ _ _ _ _ h)
        · obtain ⟨v67, hxz9, h⟩ := qz9
          cases hxz9
      · replace h := h.2 c46
        refine j_aload_n hX eX6_runScript_92 0 rfl ?_
        refine j_iload_n hX eX6_runScript_93 1 rfl ?_
        obtain ⟨t70, h⟩ := h
        refine j_putI (ty := .int) hX eX6_runScript_94 ff_LiftGroup_51 rfl t70 (by decide) pp_6_8 rfl rfl ?_
        refine j_nmM (fun M71 eM71 => ?_)
        replace h := h M71 eM71
        have t72 : hp_T M71 (a0) = 7 := by rw [eM71]; exact t70
        obtain ⟨hb1, hb2, h⟩ := h
        exact j_throwWX hX hM eX6_runScript_97 eX6_runScript_100 eX6_runScript_101 eX6_runScript_104 eX6_runScript_107 rfl tx_IllegalStateException tf_IllegalStateException tw_424 tw_18 ts_LiftGroup_369 ta_LiftGroup_349_345.1 ta_LiftGroup_349_345.2 (by decide) hb1 hb2 h
    · obtain ⟨v44, hxz9, h⟩ := qz9
      cases hxz9

set_option maxHeartbeats 4000000 in
set_option maxRecDepth 20000 in
theorem vX6_errorPosition_0 {X : am_Cx} {G : am_Gx} {d : Nat} {Q : am_Q} (hX : am_ok X rX6_errorPosition G (d + 1)) (hM : am_me X rX6_errorPosition Q) {bc bs : Nat}  {a0 : Nat} {M : am_Hp} (h : hp_T M (a0) = 7 ∧ ((((hp_I M 127 a0) = (-1 : Int32)) → (1 ≤ bc ∧ 6 ≤ bs ∧ Q (.inr "java/util/NoSuchElementException") M)) ∧ (¬ ((hp_I M 127 a0) = (-1 : Int32)) → (Q (.inl (some (.int (hp_I M 127 a0)))) M)))) : am_J X 0 [(0, .ref a0)] [] M bc bs := by
  refine j_aload_n hX eX6_errorPosition_0 0 rfl ?_
  obtain ⟨t1, h⟩ := h
  refine j_getI hX eX6_errorPosition_1 ff_LiftGroup_47 rfl t1 (by decide) ?_
  refine j_iconst (v := (-1 : Int32)) hX eX6_errorPosition_4 (by decide) ?_
  refine j_icmp_ne hX 19 eX6_errorPosition_5 (by decide) (fun c2 => ?_) (fun c2 => ?_)
  · replace h := h.2 c2
    refine j_aload_n hX eX6_errorPosition_19 0 rfl ?_
    refine j_getI hX eX6_errorPosition_20 ff_LiftGroup_47 rfl t1 (by decide) ?_
    exact j_iret hX hM eX6_errorPosition_23 rfl h
  · replace h := h.1 c2
    obtain ⟨hb1, hb2, h⟩ := h
    exact j_throwWX hX hM eX6_errorPosition_8 eX6_errorPosition_11 eX6_errorPosition_12 eX6_errorPosition_15 eX6_errorPosition_18 rfl tx_NoSuchElementException tf_NoSuchElementException tw_635 tw_25 ts_LiftGroup_374 ta_LiftGroup_165_161.1 ta_LiftGroup_165_161.2 (by decide) hb1 hb2 h

set_option maxHeartbeats 4000000 in
set_option maxRecDepth 20000 in
theorem vX6_failedCommand_0 {X : am_Cx} {G : am_Gx} {d : Nat} {Q : am_Q} (hX : am_ok X rX6_failedCommand G (d + 1)) (hM : am_me X rX6_failedCommand Q) {bc bs : Nat}  {a0 : Nat} {M : am_Hp} (h : hp_T M (a0) = 7 ∧ ((((hp_I M 128 a0) = (-1 : Int32)) → (1 ≤ bc ∧ 6 ≤ bs ∧ Q (.inr "java/util/NoSuchElementException") M)) ∧ (¬ ((hp_I M 128 a0) = (-1 : Int32)) → (Q (.inl (some (.int (hp_I M 128 a0)))) M)))) : am_J X 0 [(0, .ref a0)] [] M bc bs := by
  refine j_aload_n hX eX6_failedCommand_0 0 rfl ?_
  obtain ⟨t1, h⟩ := h
  refine j_getI hX eX6_failedCommand_1 ff_LiftGroup_51 rfl t1 (by decide) ?_
  refine j_iconst (v := (-1 : Int32)) hX eX6_failedCommand_4 (by decide) ?_
  refine j_icmp_ne hX 19 eX6_failedCommand_5 (by decide) (fun c2 => ?_) (fun c2 => ?_)
  · replace h := h.2 c2
    refine j_aload_n hX eX6_failedCommand_19 0 rfl ?_
    refine j_getI hX eX6_failedCommand_20 ff_LiftGroup_51 rfl t1 (by decide) ?_
    exact j_iret hX hM eX6_failedCommand_23 rfl h
  · replace h := h.1 c2
    obtain ⟨hb1, hb2, h⟩ := h
    exact j_throwWX hX hM eX6_failedCommand_8 eX6_failedCommand_11 eX6_failedCommand_12 eX6_failedCommand_15 eX6_failedCommand_18 rfl tx_NoSuchElementException tf_NoSuchElementException tw_635 tw_25 ts_LiftGroup_376 ta_LiftGroup_165_161.1 ta_LiftGroup_165_161.2 (by decide) hb1 hb2 h

set_option maxHeartbeats 4000000 in
set_option maxRecDepth 20000 in
theorem vX6_undo_0 {X : am_Cx} {G : am_Gx} {d : Nat} {Q : am_Q} (hX : am_ok X rX6_undo G (d + 1)) (hM : am_me X rX6_undo Q) {bc bs : Nat}  {a0 : Nat} {M : am_Hp} (h : hp_T M (a0) = 7 ∧ (hp_R M 123 a0 ≠ 0 ∧ (∀ p3 : Nat, p3 = hp_R M 123 a0 → (hp_T M (p3) = 3 ∧ ((((hp_I M 41 p3) = 0) → (1 ≤ bc ∧ 6 ≤ bs ∧ Q (.inr "java/lang/IllegalStateException") M)) ∧ (¬ ((hp_I M 41 p3) = 0) → (hp_R M 123 a0 ≠ 0 ∧ (∀ p7 : Nat, p7 = hp_R M 123 a0 → (hp_R M 120 a0 ≠ 0 ∧ (∀ p9 : Nat, p9 = hp_R M 120 a0 → (hp_T M (p7) = 3 ∧ (am_CT G d rX2_takeBack [.ref p7, .ref p9] M 0 0 (fun oz9 M10 => oz9 = .inl none ∧ (hp_T M10 (a0) = 7 ∧ (hp_R M10 123 a0 ≠ 0 ∧ (∀ p15 : Nat, p15 = hp_R M10 123 a0 → (hp_T M10 (p15) = 3 ∧ (Q (.inl (some (.int (hp_I M10 41 p15)))) M10)))))))))))))))))) : am_J X 0 [(0, .ref a0)] [] M bc bs := by
  refine j_aload_n hX eX6_undo_0 0 rfl ?_
  obtain ⟨t1, h⟩ := h
  obtain ⟨z2, h⟩ := h
  refine j_getR hX eX6_undo_1 ff_LiftGroup_25 rfl t1 (by decide) z2 ?_
  refine j_nmR (fun p3 ep3 => ?_)
  replace h := h p3 ep3
  obtain ⟨t4, h⟩ := h
  refine j_getI hX eX6_undo_4 ff_LiftGroup_378 rfl t4 (by decide) ?_
  refine j_if_ne hX 21 eX6_undo_7 (by decide) (fun c5 => ?_) (fun c5 => ?_)
  · replace h := h.2 c5
    refine j_aload_n hX eX6_undo_21 0 rfl ?_
    obtain ⟨z6, h⟩ := h
    refine j_getR hX eX6_undo_22 ff_LiftGroup_25 rfl t1 (by decide) z6 ?_
    refine j_nmR (fun p7 ep7 => ?_)
    replace h := h p7 ep7
    refine j_aload_n hX eX6_undo_25 0 rfl ?_
    obtain ⟨z8, h⟩ := h
    refine j_getR hX eX6_undo_26 ff_LiftGroup_12 rfl t1 (by decide) z8 ?_
    refine j_nmR (fun p9 ep9 => ?_)
    replace h := h p9 ep9
    obtain ⟨t12, h⟩ := h
    refine j_callV (a := p7) (q := (RX2, TX2, 3)) (r' := rX2_takeBack) (As := [.ref p9]) (rest := []) (d1 := d) hX eX6_undo_29 mm_LiftGroup_381 rfl t12 (by decide) rfl h rfl (Nat.le_refl _) (Nat.zero_le _) (Nat.zero_le _) (Nat.le_of_ble_eq_true rfl) (fun vz9 Mz9 qz9 => ?_) (fun Ez9 Mz9 qz9 => ?_)
    · obtain ⟨M10, eMz9⟩ : ∃ M10, M10 = Mz9 := ⟨_, rfl⟩; subst eMz9
      obtain ⟨hxz9, h⟩ := qz9
      cases hxz9
      refine j_aload_n hX eX6_undo_32 0 rfl ?_
      obtain ⟨t13, h⟩ := h
      obtain ⟨z14, h⟩ := h
      refine j_getR hX eX6_undo_33 ff_LiftGroup_25 rfl t13 (by decide) z14 ?_
      refine j_nmR (fun p15 ep15 => ?_)
      replace h := h p15 ep15
      obtain ⟨t16, h⟩ := h
      refine j_getI hX eX6_undo_36 ff_LiftGroup_378 rfl t16 (by decide) ?_
      exact j_iret hX hM eX6_undo_39 rfl h
    · obtain ⟨hxz9, h⟩ := qz9
      cases hxz9
  · replace h := h.1 c5
    obtain ⟨hb1, hb2, h⟩ := h
    exact j_throwWX hX hM eX6_undo_10 eX6_undo_13 eX6_undo_14 eX6_undo_17 eX6_undo_20 rfl tx_IllegalStateException tf_IllegalStateException tw_424 tw_18 ts_LiftGroup_379 ta_LiftGroup_349_345.1 ta_LiftGroup_349_345.2 (by decide) hb1 hb2 h

set_option maxHeartbeats 4000000 in
set_option maxRecDepth 20000 in
theorem vX6_save_0 {X : am_Cx} {G : am_Gx} {d : Nat} {Q : am_Q} (hX : am_ok X rX6_save G (d + 1)) (hM : am_me X rX6_save Q) {bc bs : Nat}  {a0 : Nat} {M : am_Hp} (h : hp_T M (a0) = 7 ∧ (hp_R M 122 a0 ≠ 0 ∧ (∀ p3 : Nat, p3 = hp_R M 122 a0 → (hp_R M 120 a0 ≠ 0 ∧ (∀ p5 : Nat, p5 = hp_R M 120 a0 → (hp_T M (p3) = 1 ∧ (am_CT G d rX0_copyFrom [.ref p3, .ref p5] M 0 0 (fun oz9 M6 => oz9 = .inl none ∧ (hp_T M6 (a0) = 7 ∧ (am_bo (1 : Int32) ∧ (∀ M11 : am_Hp, M11 = hp_sI M6 126 a0 (1 : Int32) → (hp_R M11 120 a0 ≠ 0 ∧ (∀ p14 : Nat, p14 = hp_R M11 120 a0 → (hp_T M11 (p14) = 1 ∧ (Q (.inl (some (.int (hp_I M11 3 p14)))) M11))))))))))))))) : am_J X 0 [(0, .ref a0)] [] M bc bs := by
  refine j_aload_n hX eX6_save_0 0 rfl ?_
  obtain ⟨t1, h⟩ := h
  obtain ⟨z2, h⟩ := h
  refine j_getR hX eX6_save_1 ff_LiftGroup_19 rfl t1 (by decide) z2 ?_
  refine j_nmR (fun p3 ep3 => ?_)
  replace h := h p3 ep3
  refine j_aload_n hX eX6_save_4 0 rfl ?_
  obtain ⟨z4, h⟩ := h
  refine j_getR hX eX6_save_5 ff_LiftGroup_12 rfl t1 (by decide) z4 ?_
  refine j_nmR (fun p5 ep5 => ?_)
  replace h := h p5 ep5
  obtain ⟨t8, h⟩ := h
  refine j_callV (a := p3) (q := (RX0, TX0, 10)) (r' := rX0_copyFrom) (As := [.ref p5]) (rest := []) (d1 := d) hX eX6_save_8 mm_LiftGroup_233 rfl t8 (by decide) rfl h rfl (Nat.le_refl _) (Nat.zero_le _) (Nat.zero_le _) (Nat.le_of_ble_eq_true rfl) (fun vz9 Mz9 qz9 => ?_) (fun Ez9 Mz9 qz9 => ?_)
  · obtain ⟨M6, eMz9⟩ : ∃ M6, M6 = Mz9 := ⟨_, rfl⟩; subst eMz9
    obtain ⟨hxz9, h⟩ := qz9
    cases hxz9
    refine j_aload_n hX eX6_save_11 0 rfl ?_
    refine j_iconst (v := (1 : Int32)) hX eX6_save_12 (by decide) ?_
    obtain ⟨t9, h⟩ := h
    obtain ⟨b10, h⟩ := h
    refine j_putI (ty := .boolean) hX eX6_save_13 ff_LiftGroup_43 rfl t9 (by decide) pp_6_6 (am_bo_n b10) (am_bo_f b10) ?_
    refine j_nmM (fun M11 eM11 => ?_)
    replace h := h M11 eM11
    have t12 : hp_T M11 (a0) = 7 := by rw [eM11]; exact t9
    refine j_aload_n hX eX6_save_16 0 rfl ?_
    obtain ⟨z13, h⟩ := h
    refine j_getR hX eX6_save_17 ff_LiftGroup_12 rfl t12 (by decide) z13 ?_
    refine j_nmR (fun p14 ep14 => ?_)
    replace h := h p14 ep14
    obtain ⟨t15, h⟩ := h
    refine j_getI hX eX6_save_20 ff_LiftGroup_175 rfl t15 (by decide) ?_
    exact j_iret hX hM eX6_save_23 rfl h
  · obtain ⟨hxz9, h⟩ := qz9
    cases hxz9

set_option maxHeartbeats 4000000 in
set_option maxRecDepth 20000 in
theorem vX6_restore_0 {X : am_Cx} {G : am_Gx} {d : Nat} {Q : am_Q} (hX : am_ok X rX6_restore G (d + 1)) (hM : am_me X rX6_restore Q) {bc bs : Nat}  {a0 : Nat} {M : am_Hp} (h : hp_T M (a0) = 7 ∧ ((((hp_I M 126 a0) = 0) → (1 ≤ bc ∧ 6 ≤ bs ∧ Q (.inr "java/lang/IllegalStateException") M)) ∧ (¬ ((hp_I M 126 a0) = 0) → (hp_R M 120 a0 ≠ 0 ∧ (∀ p4 : Nat, p4 = hp_R M 120 a0 → (hp_R M 122 a0 ≠ 0 ∧ (∀ p6 : Nat, p6 = hp_R M 122 a0 → (hp_T M (p4) = 1 ∧ (am_CT G d rX0_copyFrom [.ref p4, .ref p6] M 0 0 (fun oz9 M7 => oz9 = .inl none ∧ (hp_T M7 (a0) = 7 ∧ (hp_R M7 123 a0 ≠ 0 ∧ (∀ p12 : Nat, p12 = hp_R M7 123 a0 → (hp_T M7 (p12) = 3 ∧ (∀ M14 : am_Hp, M14 = hp_sI M7 41 p12 (0 : Int32) → (hp_R M14 120 a0 ≠ 0 ∧ (∀ p18 : Nat, p18 = hp_R M14 120 a0 → (hp_T M14 (p18) = 1 ∧ (Q (.inl (some (.int (hp_I M14 3 p18)))) M14))))))))))))))))))) : am_J X 0 [(0, .ref a0)] [] M bc bs := by
  refine j_aload_n hX eX6_restore_0 0 rfl ?_
  obtain ⟨t1, h⟩ := h
  refine j_getI hX eX6_restore_1 ff_LiftGroup_43 rfl t1 (by decide) ?_
  refine j_if_ne hX 18 eX6_restore_4 (by decide) (fun c2 => ?_) (fun c2 => ?_)
  · replace h := h.2 c2
    refine j_aload_n hX eX6_restore_18 0 rfl ?_
    obtain ⟨z3, h⟩ := h
    refine j_getR hX eX6_restore_19 ff_LiftGroup_12 rfl t1 (by decide) z3 ?_
    refine j_nmR (fun p4 ep4 => ?_)
    replace h := h p4 ep4
    refine j_aload_n hX eX6_restore_22 0 rfl ?_
    obtain ⟨z5, h⟩ := h
    refine j_getR hX eX6_restore_23 ff_LiftGroup_19 rfl t1 (by decide) z5 ?_
    refine j_nmR (fun p6 ep6 => ?_)
    replace h := h p6 ep6
    obtain ⟨t9, h⟩ := h
    refine j_callV (a := p4) (q := (RX0, TX0, 10)) (r' := rX0_copyFrom) (As := [.ref p6]) (rest := []) (d1 := d) hX eX6_restore_26 mm_LiftGroup_233 rfl t9 (by decide) rfl h rfl (Nat.le_refl _) (Nat.zero_le _) (Nat.zero_le _) (Nat.le_of_ble_eq_true rfl) (fun vz9 Mz9 qz9 => ?_) (fun Ez9 Mz9 qz9 => ?_)
    · obtain ⟨M7, eMz9⟩ : ∃ M7, M7 = Mz9 := ⟨_, rfl⟩; subst eMz9
      obtain ⟨hxz9, h⟩ := qz9
      cases hxz9
      refine j_aload_n hX eX6_restore_29 0 rfl ?_
      obtain ⟨t10, h⟩ := h
      obtain ⟨z11, h⟩ := h
      refine j_getR hX eX6_restore_30 ff_LiftGroup_25 rfl t10 (by decide) z11 ?_
      refine j_nmR (fun p12 ep12 => ?_)
      replace h := h p12 ep12
      refine j_iconst (v := (0 : Int32)) hX eX6_restore_33 (by decide) ?_
      obtain ⟨t13, h⟩ := h
      refine j_putI (ty := .int) hX eX6_restore_34 ff_LiftGroup_378 rfl t13 (by decide) pp_2_1 rfl rfl ?_
      refine j_nmM (fun M14 eM14 => ?_)
      replace h := h M14 eM14
      have t15 : hp_T M14 (a0) = 7 := by rw [eM14]; exact t10
      have t16 : hp_T M14 (p12) = 3 := by rw [eM14]; exact t13
      refine j_aload_n hX eX6_restore_37 0 rfl ?_
      obtain ⟨z17, h⟩ := h
      refine j_getR hX eX6_restore_38 ff_LiftGroup_12 rfl t15 (by decide) z17 ?_
      refine j_nmR (fun p18 ep18 => ?_)
      replace h := h p18 ep18
      obtain ⟨t19, h⟩ := h
      refine j_getI hX eX6_restore_41 ff_LiftGroup_175 rfl t19 (by decide) ?_
      exact j_iret hX hM eX6_restore_44 rfl h
    · obtain ⟨hxz9, h⟩ := qz9
      cases hxz9
  · replace h := h.1 c2
    obtain ⟨hb1, hb2, h⟩ := h
    exact j_throwWX hX hM eX6_restore_7 eX6_restore_10 eX6_restore_11 eX6_restore_14 eX6_restore_17 rfl tx_IllegalStateException tf_IllegalStateException tw_424 tw_18 ts_LiftGroup_384 ta_LiftGroup_349_345.1 ta_LiftGroup_349_345.2 (by decide) hb1 hb2 h

set_option maxHeartbeats 4000000 in
set_option maxRecDepth 20000 in
theorem vX6_isCar_0 {X : am_Cx} {G : am_Gx} {d : Nat} {Q : am_Q} (hX : am_ok X rX6_isCar G (d + 1)) (hM : am_me X rX6_isCar Q) {bc bs : Nat}  {a0 : Int32} {M : am_Hp} (h : ((a0 < 0) → (Q (.inl (some (.int (0 : Int32)))) M)) ∧ (¬ (a0 < 0) → ((((3 : Int32) ≤ a0) → (Q (.inl (some (.int (0 : Int32)))) M)) ∧ (¬ ((3 : Int32) ≤ a0) → (Q (.inl (some (.int (1 : Int32)))) M))))) : am_J X 0 [(0, .int a0)] [] M bc bs := by
  refine j_iload_n hX eX6_isCar_0 0 rfl ?_
  refine j_if_lt hX 13 eX6_isCar_1 (by decide) (fun c1 => ?_) (fun c1 => ?_)
  · replace h := h.1 c1
    refine j_iconst (v := (0 : Int32)) hX eX6_isCar_13 (by decide) ?_
    exact j_zret hX hM eX6_isCar_14 rfl (by decide) h
  · replace h := h.2 c1
    refine j_iload_n hX eX6_isCar_4 0 rfl ?_
    refine j_iconst (v := (3 : Int32)) hX eX6_isCar_5 (by decide) ?_
    refine j_icmp_ge hX 13 eX6_isCar_6 (by decide) (fun c2 => ?_) (fun c2 => ?_)
    · replace h := h.1 c2
      refine j_iconst (v := (0 : Int32)) hX eX6_isCar_13 (by decide) ?_
      exact j_zret hX hM eX6_isCar_14 rfl (by decide) h
    · replace h := h.2 c2
      refine j_iconst (v := (1 : Int32)) hX eX6_isCar_9 (by decide) ?_
      refine j_goto hX 14 eX6_isCar_10 (by decide) ?_
      exact j_zret hX hM eX6_isCar_14 rfl (by decide) h

set_option maxHeartbeats 4000000 in
set_option maxRecDepth 20000 in
theorem vX6_isFloor_0 {X : am_Cx} {G : am_Gx} {d : Nat} {Q : am_Q} (hX : am_ok X rX6_isFloor G (d + 1)) (hM : am_me X rX6_isFloor Q) {bc bs : Nat}  {a0 : Int32} {M : am_Hp} (h : ((a0 < 0) → (Q (.inl (some (.int (0 : Int32)))) M)) ∧ (¬ (a0 < 0) → ((((10 : Int32) ≤ a0) → (Q (.inl (some (.int (0 : Int32)))) M)) ∧ (¬ ((10 : Int32) ≤ a0) → (Q (.inl (some (.int (1 : Int32)))) M))))) : am_J X 0 [(0, .int a0)] [] M bc bs := by
  refine j_iload_n hX eX6_isFloor_0 0 rfl ?_
  refine j_if_lt hX 14 eX6_isFloor_1 (by decide) (fun c1 => ?_) (fun c1 => ?_)
  · replace h := h.1 c1
    refine j_iconst (v := (0 : Int32)) hX eX6_isFloor_14 (by decide) ?_
    exact j_zret hX hM eX6_isFloor_15 rfl (by decide) h
  · replace h := h.2 c1
    refine j_iload_n hX eX6_isFloor_4 0 rfl ?_
    refine j_bipush (v := (10 : Int32)) hX eX6_isFloor_5 (by decide) ?_
    refine j_icmp_ge hX 14 eX6_isFloor_7 (by decide) (fun c2 => ?_) (fun c2 => ?_)
    · replace h := h.1 c2
      refine j_iconst (v := (0 : Int32)) hX eX6_isFloor_14 (by decide) ?_
      exact j_zret hX hM eX6_isFloor_15 rfl (by decide) h
    · replace h := h.2 c2
      refine j_iconst (v := (1 : Int32)) hX eX6_isFloor_10 (by decide) ?_
      refine j_goto hX 15 eX6_isFloor_11 (by decide) ?_
      exact j_zret hX hM eX6_isFloor_15 rfl (by decide) h

set_option maxHeartbeats 4000000 in
set_option maxRecDepth 20000 in
theorem vX6_isWeight_0 {X : am_Cx} {G : am_Gx} {d : Nat} {Q : am_Q} (hX : am_ok X rX6_isWeight G (d + 1)) (hM : am_me X rX6_isWeight Q) {bc bs : Nat}  {a0 : Int32} {M : am_Hp} (h : ((a0 < (10 : Int32)) → (Q (.inl (some (.int (0 : Int32)))) M)) ∧ (¬ (a0 < (10 : Int32)) → ((((150 : Int32) < a0) → (Q (.inl (some (.int (0 : Int32)))) M)) ∧ (¬ ((150 : Int32) < a0) → (Q (.inl (some (.int (1 : Int32)))) M))))) : am_J X 0 [(0, .int a0)] [] M bc bs := by
  refine j_iload_n hX eX6_isWeight_0 0 rfl ?_
  refine j_bipush (v := (10 : Int32)) hX eX6_isWeight_1 (by decide) ?_
  refine j_icmp_lt hX 17 eX6_isWeight_3 (by decide) (fun c1 => ?_) (fun c1 => ?_)
  · replace h := h.1 c1
    refine j_iconst (v := (0 : Int32)) hX eX6_isWeight_17 (by decide) ?_
    exact j_zret hX hM eX6_isWeight_18 rfl (by decide) h
  · replace h := h.2 c1
    refine j_iload_n hX eX6_isWeight_6 0 rfl ?_
    refine j_sipush (v := (150 : Int32)) hX eX6_isWeight_7 (by decide) ?_
    refine j_icmp_gt hX 17 eX6_isWeight_10 (by decide) (fun c2 => ?_) (fun c2 => ?_)
    · replace h := h.1 c2
      refine j_iconst (v := (0 : Int32)) hX eX6_isWeight_17 (by decide) ?_
      exact j_zret hX hM eX6_isWeight_18 rfl (by decide) h
    · replace h := h.2 c2
      refine j_iconst (v := (1 : Int32)) hX eX6_isWeight_13 (by decide) ?_
      refine j_goto hX 18 eX6_isWeight_14 (by decide) ?_
      exact j_zret hX hM eX6_isWeight_18 rfl (by decide) h

set_option maxHeartbeats 4000000 in
set_option maxRecDepth 20000 in
theorem vX6_checkCar_0 {X : am_Cx} {G : am_Gx} {d : Nat} {Q : am_Q} (hX : am_ok X rX6_checkCar G (d + 1)) (hM : am_me X rX6_checkCar Q) {bc bs : Nat}  {a0 : Int32} {M : am_Hp} (h : am_CT G d rX6_isCar [.int a0] M 0 0 (fun oz9 M1 => ∃ v2 : Int32, oz9 = .inl (some (.int v2)) ∧ (((v2 = 0) → (1 ≤ bc ∧ 6 ≤ bs ∧ Q (.inr "java/lang/IndexOutOfBoundsException") M1)) ∧ (¬ (v2 = 0) → (Q (.inl none) M1))))) : am_J X 0 [(0, .int a0)] [] M bc bs := by
  refine j_iload_n hX eX6_checkCar_0 0 rfl ?_
  refine j_callS (r' := rX6_isCar) (As := [.int a0]) (rest := []) (d1 := d) hX eX6_checkCar_1 mm_LiftGroup_386 rfl rfl h rfl (Nat.le_refl _) (Nat.zero_le _) (Nat.zero_le _) (Nat.le_of_ble_eq_true rfl) (fun vz9 Mz9 qz9 => ?_) (fun Ez9 Mz9 qz9 => ?_)
  · obtain ⟨M1, eMz9⟩ : ∃ M1, M1 = Mz9 := ⟨_, rfl⟩; subst eMz9
    obtain ⟨v2, hxz9, h⟩ := qz9
    cases hxz9
    refine j_if_ne hX 18 eX6_checkCar_4 (by decide) (fun c3 => ?_) (fun c3 => ?_)
    · replace h := h.2 c3
      exact j_vret hX hM eX6_checkCar_18 rfl h
    · replace h := h.1 c3
      obtain ⟨hb1, hb2, h⟩ := h
      exact j_throwWX hX hM eX6_checkCar_7 eX6_checkCar_10 eX6_checkCar_11 eX6_checkCar_14 eX6_checkCar_17 rfl tx_IndexOutOfBoundsException tf_IndexOutOfBoundsException tw_336 tw_15 ts_LiftGroup_389 ta_LiftGroup_335_331.1 ta_LiftGroup_335_331.2 (by decide) hb1 hb2 h
  · obtain ⟨v2, hxz9, h⟩ := qz9
    cases hxz9

set_option maxHeartbeats 4000000 in
set_option maxRecDepth 20000 in
theorem vX6_checkFloor_0 {X : am_Cx} {G : am_Gx} {d : Nat} {Q : am_Q} (hX : am_ok X rX6_checkFloor G (d + 1)) (hM : am_me X rX6_checkFloor Q) {bc bs : Nat}  {a0 : Int32} {M : am_Hp} (h : am_CT G d rX6_isFloor [.int a0] M 0 0 (fun oz9 M1 => ∃ v2 : Int32, oz9 = .inl (some (.int v2)) ∧ (((v2 = 0) → (1 ≤ bc ∧ 6 ≤ bs ∧ Q (.inr "java/lang/IllegalArgumentException") M1)) ∧ (¬ (v2 = 0) → (Q (.inl none) M1))))) : am_J X 0 [(0, .int a0)] [] M bc bs := by
  refine j_iload_n hX eX6_checkFloor_0 0 rfl ?_
  refine j_callS (r' := rX6_isFloor) (As := [.int a0]) (rest := []) (d1 := d) hX eX6_checkFloor_1 mm_LiftGroup_391 rfl rfl h rfl (Nat.le_refl _) (Nat.zero_le _) (Nat.zero_le _) (Nat.le_of_ble_eq_true rfl) (fun vz9 Mz9 qz9 => ?_) (fun Ez9 Mz9 qz9 => ?_)
  · obtain ⟨M1, eMz9⟩ : ∃ M1, M1 = Mz9 := ⟨_, rfl⟩; subst eMz9
    obtain ⟨v2, hxz9, h⟩ := qz9
    cases hxz9
    refine j_if_ne hX 18 eX6_checkFloor_4 (by decide) (fun c3 => ?_) (fun c3 => ?_)
    · replace h := h.2 c3
      exact j_vret hX hM eX6_checkFloor_18 rfl h
    · replace h := h.1 c3
      obtain ⟨hb1, hb2, h⟩ := h
      exact j_throwWX hX hM eX6_checkFloor_7 eX6_checkFloor_10 eX6_checkFloor_11 eX6_checkFloor_14 eX6_checkFloor_17 rfl tx_IllegalArgumentException tf_IllegalArgumentException tw_408 tw_17 ts_LiftGroup_394 ta_LiftGroup_227_223.1 ta_LiftGroup_227_223.2 (by decide) hb1 hb2 h
  · obtain ⟨v2, hxz9, h⟩ := qz9
    cases hxz9

set_option maxHeartbeats 4000000 in
set_option maxRecDepth 20000 in
theorem vX6_checkPassenger_0 {X : am_Cx} {G : am_Gx} {d : Nat} {Q : am_Q} (hX : am_ok X rX6_checkPassenger G (d + 1)) (hM : am_me X rX6_checkPassenger Q) {bc bs : Nat}  {a0 : Nat} {a1 : Int32} {M : am_Hp} (h : hp_T M (a0) = 7 ∧ (hp_R M 120 a0 ≠ 0 ∧ (∀ p3 : Nat, p3 = hp_R M 120 a0 → (hp_T M (p3) = 1 ∧ (am_CT G d rX0_isPassenger [.ref p3, .int a1] M 0 0 (fun oz9 M4 => ∃ v5 : Int32, oz9 = .inl (some (.int v5)) ∧ (((v5 = 0) → (1 ≤ bc ∧ 6 ≤ bs ∧ Q (.inr "java/lang/IndexOutOfBoundsException") M4)) ∧ (¬ (v5 = 0) → (Q (.inl none) M4))))))))) : am_J X 0 [(0, .ref a0), (1, .int a1)] [] M bc bs := by
  refine j_aload_n hX eX6_checkPassenger_0 0 rfl ?_
  obtain ⟨t1, h⟩ := h
  obtain ⟨z2, h⟩ := h
  refine j_getR hX eX6_checkPassenger_1 ff_LiftGroup_12 rfl t1 (by decide) z2 ?_
  refine j_nmR (fun p3 ep3 => ?_)
  replace h := h p3 ep3
  refine j_iload_n hX eX6_checkPassenger_4 1 rfl ?_
  obtain ⟨t6, h⟩ := h
  refine j_callV (a := p3) (q := (RX0, TX0, 10)) (r' := rX0_isPassenger) (As := [.int a1]) (rest := []) (d1 := d) hX eX6_checkPassenger_5 mm_LiftGroup_396 rfl t6 (by decide) rfl h rfl (Nat.le_refl _) (Nat.zero_le _) (Nat.zero_le _) (Nat.le_of_ble_eq_true rfl) (fun vz9 Mz9 qz9 => ?_) (fun Ez9 Mz9 qz9 => ?_)
  · obtain ⟨M4, eMz9⟩ : ∃ M4, M4 = Mz9 := ⟨_, rfl⟩; subst eMz9
    obtain ⟨v5, hxz9, h⟩ := qz9
    cases hxz9
    refine j_if_ne hX 22 eX6_checkPassenger_8 (by decide) (fun c7 => ?_) (fun c7 => ?_)
    · replace h := h.2 c7
      exact j_vret hX hM eX6_checkPassenger_22 rfl h
    · replace h := h.1 c7
      obtain ⟨hb1, hb2, h⟩ := h
      exact j_throwWX hX hM eX6_checkPassenger_11 eX6_checkPassenger_14 eX6_checkPassenger_15 eX6_checkPassenger_18 eX6_checkPassenger_21 rfl tx_IndexOutOfBoundsException tf_IndexOutOfBoundsException tw_336 tw_15 ts_LiftGroup_399 ta_LiftGroup_335_331.1 ta_LiftGroup_335_331.2 (by decide) hb1 hb2 h
  · obtain ⟨v5, hxz9, h⟩ := qz9
    cases hxz9

set_option maxHeartbeats 4000000 in
set_option maxRecDepth 20000 in
theorem vX6_checkTrip_0 {X : am_Cx} {G : am_Gx} {d : Nat} {Q : am_Q} (hX : am_ok X rX6_checkTrip G (d + 1)) (hM : am_me X rX6_checkTrip Q) {bc bs : Nat}  {a0 : Nat} {a1 : Int32} {M : am_Hp} (h : hp_T M (a0) = 7 ∧ (hp_R M 120 a0 ≠ 0 ∧ (∀ p3 : Nat, p3 = hp_R M 120 a0 → (hp_T M (p3) = 1 ∧ (hp_R M 2 p3 ≠ 0 ∧ (∀ p6 : Nat, p6 = hp_R M 2 p3 → (hp_T M (p6) = 6 ∧ (am_CT G d rX5_remembers [.ref p6, .int a1] M 0 0 (fun oz9 M7 => ∃ v8 : Int32, oz9 = .inl (some (.int v8)) ∧ (((v8 = 0) → (1 ≤ bc ∧ 6 ≤ bs ∧ Q (.inr "java/util/NoSuchElementException") M7)) ∧ (¬ (v8 = 0) → (Q (.inl none) M7)))))))))))) : am_J X 0 [(0, .ref a0), (1, .int a1)] [] M bc bs := by
  refine j_aload_n hX eX6_checkTrip_0 0 rfl ?_
  obtain ⟨t1, h⟩ := h
  obtain ⟨z2, h⟩ := h
  refine j_getR hX eX6_checkTrip_1 ff_LiftGroup_12 rfl t1 (by decide) z2 ?_
  refine j_nmR (fun p3 ep3 => ?_)
  replace h := h p3 ep3
  obtain ⟨t4, h⟩ := h
  obtain ⟨z5, h⟩ := h
  refine j_getR hX eX6_checkTrip_4 ff_LiftGroup_262 rfl t4 (by decide) z5 ?_
  refine j_nmR (fun p6 ep6 => ?_)
  replace h := h p6 ep6
  refine j_iload_n hX eX6_checkTrip_7 1 rfl ?_
  obtain ⟨t9, h⟩ := h
  refine j_callV (a := p6) (q := (RX5, TX5, 5)) (r' := rX5_remembers) (As := [.int a1]) (rest := []) (d1 := d) hX eX6_checkTrip_8 mm_LiftGroup_401 rfl t9 (by decide) rfl h rfl (Nat.le_refl _) (Nat.zero_le _) (Nat.zero_le _) (Nat.le_of_ble_eq_true rfl) (fun vz9 Mz9 qz9 => ?_) (fun Ez9 Mz9 qz9 => ?_)
  · obtain ⟨M7, eMz9⟩ : ∃ M7, M7 = Mz9 := ⟨_, rfl⟩; subst eMz9
    obtain ⟨v8, hxz9, h⟩ := qz9
    cases hxz9
    refine j_if_ne hX 25 eX6_checkTrip_11 (by decide) (fun c10 => ?_) (fun c10 => ?_)
    · replace h := h.2 c10
      exact j_vret hX hM eX6_checkTrip_25 rfl h
    · replace h := h.1 c10
      obtain ⟨hb1, hb2, h⟩ := h
      exact j_throwWX hX hM eX6_checkTrip_14 eX6_checkTrip_17 eX6_checkTrip_18 eX6_checkTrip_21 eX6_checkTrip_24 rfl tx_NoSuchElementException tf_NoSuchElementException tw_635 tw_25 ts_LiftGroup_404 ta_LiftGroup_165_161.1 ta_LiftGroup_165_161.2 (by decide) hb1 hb2 h
  · obtain ⟨v8, hxz9, h⟩ := qz9
    cases hxz9

set_option maxHeartbeats 4000000 in
set_option maxRecDepth 20000 in
theorem vX6_throwIfRefused_0 {X : am_Cx} {G : am_Gx} {d : Nat} {Q : am_Q} (hX : am_ok X rX6_throwIfRefused G (d + 1)) (hM : am_me X rX6_throwIfRefused Q) {bc bs : Nat}  {a0 : Int32} {M : am_Hp} (h : ((a0 = (1 : Int32)) → (1 ≤ bc ∧ 6 ≤ bs ∧ Q (.inr "java/lang/IndexOutOfBoundsException") M)) ∧ (¬ (a0 = (1 : Int32)) → (((a0 = (2 : Int32)) → (1 ≤ bc ∧ 6 ≤ bs ∧ Q (.inr "java/lang/IllegalArgumentException") M)) ∧ (¬ (a0 = (2 : Int32)) → (((a0 = (3 : Int32)) → (1 ≤ bc ∧ 6 ≤ bs ∧ Q (.inr "java/lang/IllegalStateException") M)) ∧ (¬ (a0 = (3 : Int32)) → (((a0 = (4 : Int32)) → (1 ≤ bc ∧ 6 ≤ bs ∧ Q (.inr "java/lang/UnsupportedOperationException") M)) ∧ (¬ (a0 = (4 : Int32)) → (Q (.inl none) M))))))))) : am_J X 0 [(0, .int a0)] [] M bc bs := by
  refine j_iload_n hX eX6_throwIfRefused_0 0 rfl ?_
  refine j_iconst (v := (1 : Int32)) hX eX6_throwIfRefused_1 (by decide) ?_
  refine j_icmp_ne hX 16 eX6_throwIfRefused_2 (by decide) (fun c1 => ?_) (fun c1 => ?_)
  · replace h := h.2 c1
    refine j_iload_n hX eX6_throwIfRefused_16 0 rfl ?_
    refine j_iconst (v := (2 : Int32)) hX eX6_throwIfRefused_17 (by decide) ?_
    refine j_icmp_ne hX 32 eX6_throwIfRefused_18 (by decide) (fun c2 => ?_) (fun c2 => ?_)
    · replace h := h.2 c2
      refine j_iload_n hX eX6_throwIfRefused_32 0 rfl ?_
      refine j_iconst (v := (3 : Int32)) hX eX6_throwIfRefused_33 (by decide) ?_
      refine j_icmp_ne hX 48 eX6_throwIfRefused_34 (by decide) (fun c3 => ?_) (fun c3 => ?_)
      · replace h := h.2 c3
        refine j_iload_n hX eX6_throwIfRefused_48 0 rfl ?_
        refine j_iconst (v := (4 : Int32)) hX eX6_throwIfRefused_49 (by decide) ?_
        refine j_icmp_ne hX 64 eX6_throwIfRefused_50 (by decide) (fun c4 => ?_) (fun c4 => ?_)
        · replace h := h.2 c4
          exact j_vret hX hM eX6_throwIfRefused_64 rfl h
        · replace h := h.1 c4
          obtain ⟨hb1, hb2, h⟩ := h
          exact j_throwWX hX hM eX6_throwIfRefused_53 eX6_throwIfRefused_56 eX6_throwIfRefused_57 eX6_throwIfRefused_60 eX6_throwIfRefused_63 rfl tx_UnsupportedOperationException tf_UnsupportedOperationException tw_440 tw_19 ts_LiftGroup_414 ta_LiftGroup_416_412.1 ta_LiftGroup_416_412.2 (by decide) hb1 hb2 h
      · replace h := h.1 c3
        obtain ⟨hb1, hb2, h⟩ := h
        exact j_throwWX hX hM eX6_throwIfRefused_37 eX6_throwIfRefused_40 eX6_throwIfRefused_41 eX6_throwIfRefused_44 eX6_throwIfRefused_47 rfl tx_IllegalStateException tf_IllegalStateException tw_424 tw_18 ts_LiftGroup_410 ta_LiftGroup_349_345.1 ta_LiftGroup_349_345.2 (by decide) hb1 hb2 h
    · replace h := h.1 c2
      obtain ⟨hb1, hb2, h⟩ := h
      exact j_throwWX hX hM eX6_throwIfRefused_21 eX6_throwIfRefused_24 eX6_throwIfRefused_25 eX6_throwIfRefused_28 eX6_throwIfRefused_31 rfl tx_IllegalArgumentException tf_IllegalArgumentException tw_408 tw_17 ts_LiftGroup_408 ta_LiftGroup_227_223.1 ta_LiftGroup_227_223.2 (by decide) hb1 hb2 h
  · replace h := h.1 c1
    obtain ⟨hb1, hb2, h⟩ := h
    exact j_throwWX hX hM eX6_throwIfRefused_5 eX6_throwIfRefused_8 eX6_throwIfRefused_9 eX6_throwIfRefused_12 eX6_throwIfRefused_15 rfl tx_IndexOutOfBoundsException tf_IndexOutOfBoundsException tw_336 tw_15 ts_LiftGroup_406 ta_LiftGroup_335_331.1 ta_LiftGroup_335_331.2 (by decide) hb1 hb2 h

set_option maxHeartbeats 4000000 in
set_option maxRecDepth 20000 in
theorem vX6_holds_0 {X : am_Cx} {G : am_Gx} {d : Nat} {Q : am_Q} (hX : am_ok X rX6_holds G (d + 1)) (hM : am_me X rX6_holds Q) {bc bs : Nat}  {a0 : Int32} {a1 : Int32} {M : am_Hp} (h : am_CT G d rX6_isFloor [.int a1] M 0 0 (fun oz9 M1 => ∃ v2 : Int32, oz9 = .inl (some (.int v2)) ∧ (((v2 = 0) → (Q (.inl (some (.int (0 : Int32)))) M1)) ∧ (¬ (v2 = 0) → (((((a0 >>> (a1 &&& 31)) &&& (1 : Int32)) = (1 : Int32)) → (Q (.inl (some (.int (1 : Int32)))) M1)) ∧ (¬ (((a0 >>> (a1 &&& 31)) &&& (1 : Int32)) = (1 : Int32)) → (Q (.inl (some (.int (0 : Int32)))) M1))))))) : am_J X 0 [(0, .int a0), (1, .int a1)] [] M bc bs := by
  refine j_iload_n hX eX6_holds_0 1 rfl ?_
  refine j_callS (r' := rX6_isFloor) (As := [.int a1]) (rest := []) (d1 := d) hX eX6_holds_1 mm_LiftGroup_391 rfl rfl h rfl (Nat.le_refl _) (Nat.zero_le _) (Nat.zero_le _) (Nat.le_of_ble_eq_true rfl) (fun vz9 Mz9 qz9 => ?_) (fun Ez9 Mz9 qz9 => ?_)
  · obtain ⟨M1, eMz9⟩ : ∃ M1, M1 = Mz9 := ⟨_, rfl⟩; subst eMz9
    obtain ⟨v2, hxz9, h⟩ := qz9
    cases hxz9
    refine j_if_eq hX 20 eX6_holds_4 (by decide) (fun c3 => ?_) (fun c3 => ?_)
    · replace h := h.1 c3
      refine j_iconst (v := (0 : Int32)) hX eX6_holds_20 (by decide) ?_
      exact j_zret hX hM eX6_holds_21 rfl (by decide) h
    · replace h := h.2 c3
      refine j_iload_n hX eX6_holds_7 0 rfl ?_
      refine j_iload_n hX eX6_holds_8 1 rfl ?_
      refine j_ishr hX eX6_holds_9 ?_
      refine j_iconst (v := (1 : Int32)) hX eX6_holds_10 (by decide) ?_
      refine j_iand hX eX6_holds_11 ?_
      refine j_iconst (v := (1 : Int32)) hX eX6_holds_12 (by decide) ?_
      refine j_icmp_ne hX 20 eX6_holds_13 (by decide) (fun c4 => ?_) (fun c4 => ?_)
      · replace h := h.2 c4
        refine j_iconst (v := (0 : Int32)) hX eX6_holds_20 (by decide) ?_
        exact j_zret hX hM eX6_holds_21 rfl (by decide) h
      · replace h := h.1 c4
        refine j_iconst (v := (1 : Int32)) hX eX6_holds_16 (by decide) ?_
        refine j_goto hX 21 eX6_holds_17 (by decide) ?_
        exact j_zret hX hM eX6_holds_21 rfl (by decide) h
  · obtain ⟨v2, hxz9, h⟩ := qz9
    cases hxz9

set_option maxHeartbeats 4000000 in
set_option maxRecDepth 20000 in
theorem vX6_distanceToFirst_0 {X : am_Cx} {G : am_Gx} {d : Nat} {Q : am_Q} (hX : am_ok X rX6_distanceToFirst G (d + 1)) (hM : am_me X rX6_distanceToFirst Q) {bc bs : Nat} (R2 : Int32 → Int32 → Int32 → Int32 → am_Hp → Prop) (k2 : ∀ (x0 : Int32) (x1 : Int32) (x2 : Int32) (x3 : Int32) (M : am_Hp), R2 x0 x1 x2 x3 M → am_J X 2 [(0, .int x0), (1, .int x1), (2, .int x2), (3, .int x3)] [] M bc bs) {a0 : Int32} {a1 : Int32} {a2 : Int32} {M : am_Hp} (h : R2 a0 a1 a2 (1 : Int32) M) : am_J X 0 [(0, .int a0), (1, .int a1), (2, .int a2)] [] M bc bs := by
  refine j_iconst (v := (1 : Int32)) hX eX6_distanceToFirst_0 (by decide) ?_
  refine j_istore_n (lv' := [(3, .int (1 : Int32)), (0, .int a0), (1, .int a1), (2, .int a2)]) hX eX6_distanceToFirst_1 rfl (by decide) rfl ?_
  exact j_sub [1, 2, 3, 0] rfl (k2 _ _ _ _ _ h)
set_option maxHeartbeats 4000000 in
set_option maxRecDepth 20000 in
theorem vX6_distanceToFirst_2 {X : am_Cx} {G : am_Gx} {d : Nat} {Q : am_Q} (hX : am_ok X rX6_distanceToFirst G (d + 1)) (hM : am_me X rX6_distanceToFirst Q) {bc bs : Nat} (R2 : Int32 → Int32 → Int32 → Int32 → am_Hp → Prop) (k2 : ∀ (x0 : Int32) (x1 : Int32) (x2 : Int32) (x3 : Int32) (M : am_Hp), R2 x0 x1 x2 x3 M → am_J X 2 [(0, .int x0), (1, .int x1), (2, .int x2), (3, .int x3)] [] M bc bs) {a0 : Int32} {a1 : Int32} {a2 : Int32} {a3 : Int32} {M : am_Hp} (h : (((10 : Int32) ≤ a3) → (Q (.inl (some (.int (0 : Int32)))) M)) ∧ (¬ ((10 : Int32) ≤ a3) → (∀ v2 : Int32, v2 = (a1 + (a3 * a2)) → (((v2 < 0) → (∀ v4 : Int32, v4 = a3 + (1 : Int32) → (R2 a0 a1 a2 v4 M))) ∧ (¬ (v2 < 0) → ((((10 : Int32) ≤ v2) → (∀ v6 : Int32, v6 = a3 + (1 : Int32) → (R2 a0 a1 a2 v6 M))) ∧ (¬ ((10 : Int32) ≤ v2) → (((((a0 >>> (v2 &&& 31)) &&& (1 : Int32)) = (1 : Int32)) → (Q (.inl (some (.int a3))) M)) ∧ (¬ (((a0 >>> (v2 &&& 31)) &&& (1 : Int32)) = (1 : Int32)) → (∀ v8 : Int32, v8 = a3 + (1 : Int32) → (R2 a0 a1 a2 v8 M))))))))))) : am_J X 2 [(0, .int a0), (1, .int a1), (2, .int a2), (3, .int a3)] [] M bc bs := by
  refine j_iload_n hX eX6_distanceToFirst_2 3 rfl ?_
  refine j_bipush (v := (10 : Int32)) hX eX6_distanceToFirst_3 (by decide) ?_
  refine j_icmp_ge hX 45 eX6_distanceToFirst_5 (by decide) (fun c1 => ?_) (fun c1 => ?_)
  · replace h := h.1 c1
    refine j_iconst (v := (0 : Int32)) hX eX6_distanceToFirst_45 (by decide) ?_
    exact j_iret hX hM eX6_distanceToFirst_46 rfl h
  · replace h := h.2 c1
    refine j_iload_n hX eX6_distanceToFirst_8 1 rfl ?_
    refine j_iload_n hX eX6_distanceToFirst_9 3 rfl ?_
    refine j_iload_n hX eX6_distanceToFirst_10 2 rfl ?_
    refine j_imul hX eX6_distanceToFirst_11 ?_
    refine j_iadd hX eX6_distanceToFirst_12 ?_
    refine j_nmI (fun v2 ev2 => ?_)
    replace h := h v2 ev2
    refine j_istore (lv' := [(4, .int v2), (0, .int a0), (1, .int a1), (2, .int a2), (3, .int a3)]) hX eX6_distanceToFirst_13 (by decide) rfl ?_
    refine j_iload hX eX6_distanceToFirst_15 0 rfl ?_
    refine j_if_lt hX 39 eX6_distanceToFirst_17 (by decide) (fun c3 => ?_) (fun c3 => ?_)
    · replace h := h.1 c3
      obtain ⟨v4, ev4⟩ : ∃ v4 : Int32, v4 = a3 + (1 : Int32) := ⟨_, rfl⟩
      replace h := h v4 ev4
      refine j_iinc (v := v4) (lv' := [(3, .int v4), (4, .int v2), (0, .int a0), (1, .int a1), (2, .int a2)]) hX eX6_distanceToFirst_39 4 rfl (by rw [ev4]; rfl) (by decide) rfl ?_
      refine j_goto hX 2 eX6_distanceToFirst_42 (by decide) ?_
      exact j_sub [2, 3, 4, 0] rfl (k2 _ _ _ _ _ h)
    · replace h := h.2 c3
      refine j_iload hX eX6_distanceToFirst_20 0 rfl ?_
      refine j_bipush (v := (10 : Int32)) hX eX6_distanceToFirst_22 (by decide) ?_
      refine j_icmp_ge hX 39 eX6_distanceToFirst_24 (by decide) (fun c5 => ?_) (fun c5 => ?_)
      · replace h := h.1 c5
        obtain ⟨v6, ev6⟩ : ∃ v6 : Int32, v6 = a3 + (1 : Int32) := ⟨_, rfl⟩
        replace h := h v6 ev6
        refine j_iinc (v := v6) (lv' := [(3, .int v6), (4, .int v2), (0, .int a0), (1, .int a1), (2, .int a2)]) hX eX6_distanceToFirst_39 4 rfl (by rw [ev6]; rfl) (by decide) rfl ?_
        refine j_goto hX 2 eX6_distanceToFirst_42 (by decide) ?_
        exact j_sub [2, 3, 4, 0] rfl (k2 _ _ _ _ _ h)
      · replace h := h.2 c5
        refine j_iload_n hX eX6_distanceToFirst_27 1 rfl ?_
        refine j_iload hX eX6_distanceToFirst_28 0 rfl ?_
        refine j_ishr hX eX6_distanceToFirst_30 ?_
        refine j_iconst (v := (1 : Int32)) hX eX6_distanceToFirst_31 (by decide) ?_
        refine j_iand hX eX6_distanceToFirst_32 ?_
        refine j_iconst (v := (1 : Int32)) hX eX6_distanceToFirst_33 (by decide) ?_
        refine j_icmp_ne hX 39 eX6_distanceToFirst_34 (by decide) (fun c7 => ?_) (fun c7 => ?_)
        · replace h := h.2 c7
          obtain ⟨v8, ev8⟩ : ∃ v8 : Int32, v8 = a3 + (1 : Int32) := ⟨_, rfl⟩
          replace h := h v8 ev8
          refine j_iinc (v := v8) (lv' := [(3, .int v8), (4, .int v2), (0, .int a0), (1, .int a1), (2, .int a2)]) hX eX6_distanceToFirst_39 4 rfl (by rw [ev8]; rfl) (by decide) rfl ?_
          refine j_goto hX 2 eX6_distanceToFirst_42 (by decide) ?_
          exact j_sub [2, 3, 4, 0] rfl (k2 _ _ _ _ _ h)
        · replace h := h.1 c7
          refine j_iload_n hX eX6_distanceToFirst_37 4 rfl ?_
          exact j_iret hX hM eX6_distanceToFirst_38 rfl h

set_option maxHeartbeats 4000000 in
set_option maxRecDepth 20000 in
theorem vX6_distanceToLast_0 {X : am_Cx} {G : am_Gx} {d : Nat} {Q : am_Q} (hX : am_ok X rX6_distanceToLast G (d + 1)) (hM : am_me X rX6_distanceToLast Q) {bc bs : Nat} (R3 : Int32 → Int32 → Int32 → Int32 → am_Hp → Prop) (k3 : ∀ (x0 : Int32) (x1 : Int32) (x2 : Int32) (x3 : Int32) (M : am_Hp), R3 x0 x1 x2 x3 M → am_J X 3 [(0, .int x0), (1, .int x1), (2, .int x2), (3, .int x3)] [] M bc bs) {a0 : Int32} {a1 : Int32} {a2 : Int32} {M : am_Hp} (h : R3 a0 a1 a2 (9 : Int32) M) : am_J X 0 [(0, .int a0), (1, .int a1), (2, .int a2)] [] M bc bs := by
  refine j_bipush (v := (9 : Int32)) hX eX6_distanceToLast_0 (by decide) ?_
  refine j_istore_n (lv' := [(3, .int (9 : Int32)), (0, .int a0), (1, .int a1), (2, .int a2)]) hX eX6_distanceToLast_2 rfl (by decide) rfl ?_
  exact j_sub [1, 2, 3, 0] rfl (k3 _ _ _ _ _ h)
set_option maxHeartbeats 4000000 in
set_option maxRecDepth 20000 in
theorem vX6_distanceToLast_3 {X : am_Cx} {G : am_Gx} {d : Nat} {Q : am_Q} (hX : am_ok X rX6_distanceToLast G (d + 1)) (hM : am_me X rX6_distanceToLast Q) {bc bs : Nat} (R3 : Int32 → Int32 → Int32 → Int32 → am_Hp → Prop) (k3 : ∀ (x0 : Int32) (x1 : Int32) (x2 : Int32) (x3 : Int32) (M : am_Hp), R3 x0 x1 x2 x3 M → am_J X 3 [(0, .int x0), (1, .int x1), (2, .int x2), (3, .int x3)] [] M bc bs) {a0 : Int32} {a1 : Int32} {a2 : Int32} {a3 : Int32} {M : am_Hp} (h : ((a3 ≤ 0) → (Q (.inl (some (.int (0 : Int32)))) M)) ∧ (¬ (a3 ≤ 0) → (∀ v2 : Int32, v2 = (a1 + (a3 * a2)) → (((v2 < 0) → (∀ v4 : Int32, v4 = a3 + (-1 : Int32) → (R3 a0 a1 a2 v4 M))) ∧ (¬ (v2 < 0) → ((((10 : Int32) ≤ v2) → (∀ v6 : Int32, v6 = a3 + (-1 : Int32) → (R3 a0 a1 a2 v6 M))) ∧ (¬ ((10 : Int32) ≤ v2) → (((((a0 >>> (v2 &&& 31)) &&& (1 : Int32)) = (1 : Int32)) → (Q (.inl (some (.int a3))) M)) ∧ (¬ (((a0 >>> (v2 &&& 31)) &&& (1 : Int32)) = (1 : Int32)) → (∀ v8 : Int32, v8 = a3 + (-1 : Int32) → (R3 a0 a1 a2 v8 M))))))))))) : am_J X 3 [(0, .int a0), (1, .int a1), (2, .int a2), (3, .int a3)] [] M bc bs := by
  refine j_iload_n hX eX6_distanceToLast_3 3 rfl ?_
  refine j_if_le hX 44 eX6_distanceToLast_4 (by decide) (fun c1 => ?_) (fun c1 => ?_)
  · replace h := h.1 c1
    refine j_iconst (v := (0 : Int32)) hX eX6_distanceToLast_44 (by decide) ?_
    exact j_iret hX hM eX6_distanceToLast_45 rfl h
  · replace h := h.2 c1
    refine j_iload_n hX eX6_distanceToLast_7 1 rfl ?_
    refine j_iload_n hX eX6_distanceToLast_8 3 rfl ?_
    refine j_iload_n hX eX6_distanceToLast_9 2 rfl ?_
    refine j_imul hX eX6_distanceToLast_10 ?_
    refine j_iadd hX eX6_distanceToLast_11 ?_
    refine j_nmI (fun v2 ev2 => ?_)
    replace h := h v2 ev2
    refine j_istore (lv' := [(4, .int v2), (0, .int a0), (1, .int a1), (2, .int a2), (3, .int a3)]) hX eX6_distanceToLast_12 (by decide) rfl ?_
    refine j_iload hX eX6_distanceToLast_14 0 rfl ?_
    refine j_if_lt hX 38 eX6_distanceToLast_16 (by decide) (fun c3 => ?_) (fun c3 => ?_)
    · replace h := h.1 c3
      obtain ⟨v4, ev4⟩ : ∃ v4 : Int32, v4 = a3 + (-1 : Int32) := ⟨_, rfl⟩
      replace h := h v4 ev4
      refine j_iinc (v := v4) (lv' := [(3, .int v4), (4, .int v2), (0, .int a0), (1, .int a1), (2, .int a2)]) hX eX6_distanceToLast_38 4 rfl (by rw [ev4]; rfl) (by decide) rfl ?_
      refine j_goto hX 3 eX6_distanceToLast_41 (by decide) ?_
      exact j_sub [2, 3, 4, 0] rfl (k3 _ _ _ _ _ h)
    · replace h := h.2 c3
      refine j_iload hX eX6_distanceToLast_19 0 rfl ?_
      refine j_bipush (v := (10 : Int32)) hX eX6_distanceToLast_21 (by decide) ?_
      refine j_icmp_ge hX 38 eX6_distanceToLast_23 (by decide) (fun c5 => ?_) (fun c5 => ?_)
      · replace h := h.1 c5
        obtain ⟨v6, ev6⟩ : ∃ v6 : Int32, v6 = a3 + (-1 : Int32) := ⟨_, rfl⟩
        replace h := h v6 ev6
        refine j_iinc (v := v6) (lv' := [(3, .int v6), (4, .int v2), (0, .int a0), (1, .int a1), (2, .int a2)]) hX eX6_distanceToLast_38 4 rfl (by rw [ev6]; rfl) (by decide) rfl ?_
        refine j_goto hX 3 eX6_distanceToLast_41 (by decide) ?_
        exact j_sub [2, 3, 4, 0] rfl (k3 _ _ _ _ _ h)
      · replace h := h.2 c5
        refine j_iload_n hX eX6_distanceToLast_26 1 rfl ?_
        refine j_iload hX eX6_distanceToLast_27 0 rfl ?_
        refine j_ishr hX eX6_distanceToLast_29 ?_
        refine j_iconst (v := (1 : Int32)) hX eX6_distanceToLast_30 (by decide) ?_
        refine j_iand hX eX6_distanceToLast_31 ?_
        refine j_iconst (v := (1 : Int32)) hX eX6_distanceToLast_32 (by decide) ?_
        refine j_icmp_ne hX 38 eX6_distanceToLast_33 (by decide) (fun c7 => ?_) (fun c7 => ?_)
        · replace h := h.2 c7
          obtain ⟨v8, ev8⟩ : ∃ v8 : Int32, v8 = a3 + (-1 : Int32) := ⟨_, rfl⟩
          replace h := h v8 ev8
          refine j_iinc (v := v8) (lv' := [(3, .int v8), (4, .int v2), (0, .int a0), (1, .int a1), (2, .int a2)]) hX eX6_distanceToLast_38 4 rfl (by rw [ev8]; rfl) (by decide) rfl ?_
          refine j_goto hX 3 eX6_distanceToLast_41 (by decide) ?_
          exact j_sub [2, 3, 4, 0] rfl (k3 _ _ _ _ _ h)
        · replace h := h.1 c7
          refine j_iload_n hX eX6_distanceToLast_36 4 rfl ?_
          exact j_iret hX hM eX6_distanceToLast_37 rfl h

set_option maxHeartbeats 4000000 in
set_option maxRecDepth 20000 in
theorem vX6_directionToChoose_0 {X : am_Cx} {G : am_Gx} {d : Nat} {Q : am_Q} (hX : am_ok X rX6_directionToChoose G (d + 1)) (hM : am_me X rX6_directionToChoose Q) {bc bs : Nat}  {a0 : Nat} {a1 : Int32} {M : am_Hp} (h : ((a1 = 0) → (Q (.inl (some (.int (0 : Int32)))) M)) ∧ (¬ (a1 = 0) → (hp_T M (a0) = 2 ∧ (am_CT G d rX6_distanceToFirst [.int a1, .int (hp_I M 20 a0), .int (1 : Int32)] M 0 0 (fun oz9 M3 => ∃ v4 : Int32, oz9 = .inl (some (.int v4)) ∧ (hp_T M3 (a0) = 2 ∧ (am_CT G d rX6_distanceToFirst [.int a1, .int (hp_I M3 20 a0), .int (-1 : Int32)] M3 0 0 (fun oz9 M6 => ∃ v7 : Int32, oz9 = .inl (some (.int v7)) ∧ (((v4 = 0) → (Q (.inl (some (.int (-1 : Int32)))) M6)) ∧ (¬ (v4 = 0) → (((v7 = 0) → (Q (.inl (some (.int (1 : Int32)))) M6)) ∧ (¬ (v7 = 0) → (hp_T M6 (a0) = 2 ∧ ((((hp_I M6 21 a0) = 0) → (((v7 < v4) → (Q (.inl (some (.int (-1 : Int32)))) M6)) ∧ (¬ (v7 < v4) → (Q (.inl (some (.int (1 : Int32)))) M6)))) ∧ (¬ ((hp_I M6 21 a0) = 0) → (Q (.inl (some (.int (hp_I M6 21 a0)))) M6)))))))))))))))) : am_J X 0 [(0, .ref a0), (1, .int a1)] [] M bc bs := by
  refine j_iload_n hX eX6_directionToChoose_0 1 rfl ?_
  refine j_if_ne hX 6 eX6_directionToChoose_1 (by decide) (fun c1 => ?_) (fun c1 => ?_)
  · replace h := h.2 c1
    refine j_iload_n hX eX6_directionToChoose_6 1 rfl ?_
    refine j_aload_n hX eX6_directionToChoose_7 0 rfl ?_
    obtain ⟨t2, h⟩ := h
    refine j_getI hX eX6_directionToChoose_8 ff_LiftGroup_117 rfl t2 (by decide) ?_
    refine j_iconst (v := (1 : Int32)) hX eX6_directionToChoose_11 (by decide) ?_
    refine j_callS (r' := rX6_distanceToFirst) (As := [.int a1, .int (hp_I M 20 a0), .int (1 : Int32)]) (rest := []) (d1 := d) hX eX6_directionToChoose_12 mm_LiftGroup_172 rfl rfl h rfl (Nat.le_refl _) (Nat.zero_le _) (Nat.zero_le _) (Nat.le_of_ble_eq_true rfl) (fun vz9 Mz9 qz9 => ?_) (fun Ez9 Mz9 qz9 => ?_)
    · obtain ⟨M3, eMz9⟩ : ∃ M3, M3 = Mz9 := ⟨_, rfl⟩; subst eMz9
      obtain ⟨v4, hxz9, h⟩ := qz9
      cases hxz9
      refine j_istore_n (lv' := [(2, .int v4), (0, .ref a0), (1, .int a1)]) hX eX6_directionToChoose_15 rfl (by decide) rfl ?_
      refine j_iload_n hX eX6_directionToChoose_16 2 rfl ?_
      refine j_aload_n hX eX6_directionToChoose_17 1 rfl ?_
      obtain ⟨t5, h⟩ := h
      refine j_getI hX eX6_directionToChoose_18 ff_LiftGroup_117 rfl t5 (by decide) ?_
      refine j_iconst (v := (-1 : Int32)) hX eX6_directionToChoose_21 (by decide) ?_
      refine j_callS (r' := rX6_distanceToFirst) (As := [.int a1, .int (hp_I M3 20 a0), .int (-1 : Int32)]) (rest := []) (d1 := d) hX eX6_directionToChoose_22 mm_LiftGroup_172 rfl rfl h rfl (Nat.le_refl _) (Nat.zero_le _) (Nat.zero_le _) (Nat.le_of_ble_eq_true rfl) (fun vz9 Mz9 qz9 => ?_) (fun Ez9 Mz9 qz9 => ?_)
      · obtain ⟨M6, eMz9⟩ : ∃ M6, M6 = Mz9 := ⟨_, rfl⟩; subst eMz9
        obtain ⟨v7, hxz9, h⟩ := qz9
        cases hxz9
        refine j_istore_n (lv' := [(3, .int v7), (2, .int v4), (0, .ref a0), (1, .int a1)]) hX eX6_directionToChoose_25 rfl (by decide) rfl ?_
        refine j_iload_n hX eX6_directionToChoose_26 1 rfl ?_
        refine j_if_ne hX 32 eX6_directionToChoose_27 (by decide) (fun c8 => ?_) (fun c8 => ?_)
        · replace h := h.2 c8
          refine j_iload_n hX eX6_directionToChoose_32 0 rfl ?_
          refine j_if_ne hX 38 eX6_directionToChoose_33 (by decide) (fun c9 => ?_) (fun c9 => ?_)
          · replace h := h.2 c9
            refine j_aload_n hX eX6_directionToChoose_38 2 rfl ?_
            obtain ⟨t10, h⟩ := h
            refine j_getI hX eX6_directionToChoose_39 ff_LiftGroup_122 rfl t10 (by decide) ?_
            refine j_if_eq hX 50 eX6_directionToChoose_42 (by decide) (fun c11 => ?_) (fun c11 => ?_)
            · replace h := h.1 c11
              refine j_iload_n hX eX6_directionToChoose_50 1 rfl ?_
              refine j_iload_n hX eX6_directionToChoose_51 0 rfl ?_
              refine j_icmp_gt hX 59 eX6_directionToChoose_52 (by decide) (fun c12 => ?_) (fun c12 => ?_)
              · replace h := h.1 c12
                refine j_iconst (v := (-1 : Int32)) hX eX6_directionToChoose_59 (by decide) ?_
                exact j_iret hX hM eX6_directionToChoose_60 rfl h
              · replace h := h.2 c12
                refine j_iconst (v := (1 : Int32)) hX eX6_directionToChoose_55 (by decide) ?_
                refine j_goto hX 60 eX6_directionToChoose_56 (by decide) ?_
                exact j_iret hX hM eX6_directionToChoose_60 rfl h
            · replace h := h.2 c11
              refine j_aload_n hX eX6_directionToChoose_45 2 rfl ?_
              refine j_getI hX eX6_directionToChoose_46 ff_LiftGroup_122 rfl t10 (by decide) ?_
              exact j_iret hX hM eX6_directionToChoose_49 rfl h
          · replace h := h.1 c9
            refine j_iconst (v := (1 : Int32)) hX eX6_directionToChoose_36 (by decide) ?_
            exact j_iret hX hM eX6_directionToChoose_37 rfl h
        · replace h := h.1 c8
          refine j_iconst (v := (-1 : Int32)) hX eX6_directionToChoose_30 (by decide) ?_
          exact j_iret hX hM eX6_directionToChoose_31 rfl h
      · obtain ⟨v7, hxz9, h⟩ := qz9
        cases hxz9
    · obtain ⟨v4, hxz9, h⟩ := qz9
      cases hxz9
  · replace h := h.1 c1
    refine j_iconst (v := (0 : Int32)) hX eX6_directionToChoose_4 (by decide) ?_
    exact j_iret hX hM eX6_directionToChoose_5 rfl h
