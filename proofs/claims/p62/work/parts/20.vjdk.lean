set_option maxHeartbeats 4000000 in
set_option maxRecDepth 20000 in
theorem vJ4_init_da8c8_0 {X : am_Cx} {G : am_Gx} {d : Nat} {Q : am_Q} (hX : am_ok X rJ4_init_da8c8 G (d + 1)) (hM : am_me X rJ4_init_da8c8 Q) {bc bs : Nat}  {a0 : Nat} {M : am_Hp} (h : 1 ≤ bc ∧ (16 ≤ bs ∧ (am_CT G d rJ5_init_d00df [.ref a0, .int (16 : Int32)] M 1 16 (fun oz9 M1 => oz9 = .inl none ∧ (Q (.inl none) M1))))) : am_J X 0 [(0, .ref a0)] [] M bc bs := by
  refine j_aload_n hX eJ4_init_da8c8_0 0 rfl ?_
  refine j_bipush (v := (16 : Int32)) hX eJ4_init_da8c8_1 (by decide) ?_
  obtain ⟨b3, b4, h⟩ := h
  refine j_callI (a := a0) (r' := rJ5_init_d00df) (As := [.int (16 : Int32)]) (rest := []) (d1 := d) hX eJ4_init_da8c8_3 mm_java_lang_StringBuilder_1 rfl h rfl (Nat.le_refl _) b3 b4 (Nat.le_of_ble_eq_true rfl) (fun vz9 Mz9 qz9 => ?_) (fun Ez9 Mz9 qz9 => ?_)
  · obtain ⟨M1, eMz9⟩ : ∃ M1, M1 = Mz9 := ⟨_, rfl⟩; subst eMz9
    obtain ⟨hxz9, h⟩ := qz9
    cases hxz9
    exact j_vret hX hM eJ4_init_da8c8_6 rfl h
  · obtain ⟨hxz9, h⟩ := qz9
    cases hxz9

set_option maxHeartbeats 4000000 in
set_option maxRecDepth 20000 in
theorem vJ5_init_d00df_0 {X : am_Cx} {G : am_Gx} {d : Nat} {Q : am_Q} (hX : am_ok X rJ5_init_d00df G (d + 1)) (hM : am_me X rJ5_init_d00df Q) {bc bs : Nat}  {a0 : Nat} {a1 : Int32} {M : am_Hp} (h : ("java/lang/String", "COMPACT_STRINGS", "Z", .int 1) ∈ gx_z G ∧ ((((1 : Int32) = 0) → (am_CT G d rJ2_newBytesFor_77867 [.int a1] M 0 0 (fun oz9 M3 => ∃ p4 : Nat, oz9 = .inl (some (.ref p4)) ∧ (hp_T M3 (a0) = 9 ∧ (p4 ≠ 0 ∧ (∀ M7 : am_Hp, M7 = hp_sR M3 160 a0 p4 → (∀ M9 : am_Hp, M9 = hp_sI M7 161 a0 (1 : Int32) → (Q (.inl none) M9)))))))) ∧ (¬ ((1 : Int32) = 0) → (¬ a1 < 0 ∧ ((a1).toNatClampNeg * componentBytes .byte ≤ 536870912 ∧ (1 ≤ bc ∧ ((a1).toNatClampNeg ≤ bs ∧ (∀ p15 : Nat, hp_T M p15 = 0 → p15 ≠ 0 → (∀ M18 : am_Hp, M18 = hp_a M p15 20 (a1).toNatClampNeg → (hp_T M18 (a0) = 9 ∧ (p15 ≠ 0 ∧ (∀ M22 : am_Hp, M22 = hp_sR M18 160 a0 p15 → (∀ M25 : am_Hp, M25 = hp_sI M22 161 a0 (0 : Int32) → (Q (.inl none) M25)))))))))))))) : am_J X 0 [(0, .ref a0), (1, .int a1)] [] M bc bs := by
  refine j_aload_n hX eJ5_init_d00df_0 0 rfl ?_
  refine j_objInit hX eJ5_init_d00df_1 tw_242 tw_41 tw_42 (Nat.le_of_ble_eq_true rfl) ?_
  obtain ⟨z1, h⟩ := h
  refine j_gets hX eJ5_init_d00df_4 z1 tw_243 ?_
  refine j_if_eq hX 25 eJ5_init_d00df_7 (by decide) (fun c2 => ?_) (fun c2 => ?_)
  · replace h := h.1 c2
    refine j_aload_n hX eJ5_init_d00df_25 0 rfl ?_
    refine j_iload_n hX eJ5_init_d00df_26 1 rfl ?_
    refine j_callS (r' := rJ2_newBytesFor_77867) (As := [.int a1]) (rest := [.ref a0]) (d1 := d) hX eJ5_init_d00df_27 mm_java_lang_AbstractStringBuilder_26 rfl rfl h rfl (Nat.le_refl _) (Nat.zero_le _) (Nat.zero_le _) (Nat.le_of_ble_eq_true rfl) (fun vz9 Mz9 qz9 => ?_) (fun Ez9 Mz9 qz9 => ?_)
    · obtain ⟨M3, eMz9⟩ : ∃ M3, M3 = Mz9 := ⟨_, rfl⟩; subst eMz9
      obtain ⟨p4, hxz9, h⟩ := qz9
      cases hxz9
      obtain ⟨t5, h⟩ := h
      obtain ⟨z6, h⟩ := h
      refine j_putR (ty := .array .byte) hX eJ5_init_d00df_30 ff_java_lang_AbstractStringBuilder_15 rfl t5 (by decide) z6 pp_8_0 rfl rfl ?_
      refine j_nmM (fun M7 eM7 => ?_)
      replace h := h M7 eM7
      have t8 : hp_T M7 (a0) = 9 := by rw [eM7]; exact t5
      refine j_aload_n hX eJ5_init_d00df_33 0 rfl ?_
      refine j_iconst (v := (1 : Int32)) hX eJ5_init_d00df_34 (by decide) ?_
      refine j_putI (ty := .byte) hX eJ5_init_d00df_35 ff_java_lang_AbstractStringBuilder_22 rfl t8 (by decide) pp_8_1 (by decide) (by decide) ?_
      refine j_nmM (fun M9 eM9 => ?_)
      replace h := h M9 eM9
      have t10 : hp_T M9 (a0) = 9 := by rw [eM9]; exact t8
      exact j_vret hX hM eJ5_init_d00df_38 rfl h
    · obtain ⟨p4, hxz9, h⟩ := qz9
      cases hxz9
  · replace h := h.2 c2
    refine j_aload_n hX eJ5_init_d00df_10 0 rfl ?_
    refine j_iload_n hX eJ5_init_d00df_11 1 rfl ?_
    obtain ⟨n11, n12, b13, b14, h⟩ := h
    refine j_newa_b hX eJ5_init_d00df_12 tw_266 n11 n12 b13 b14 (fun p15 o16 z17 => ?_)
    replace h := h p15 o16 z17
    refine j_nmM (fun M18 eM18 => ?_)
    replace h := h M18 eM18
    have t19 : hp_T M18 (p15) = 20 := by rw [eM18]; exact hp_Tna
    obtain ⟨t20, h⟩ := h
    obtain ⟨z21, h⟩ := h
    refine j_putR (ty := .array .byte) hX eJ5_init_d00df_14 ff_java_lang_AbstractStringBuilder_15 rfl t20 (by decide) z21 pp_8_0 rfl rfl ?_
    refine j_nmM (fun M22 eM22 => ?_)
    replace h := h M22 eM22
    have t23 : hp_T M22 (p15) = 20 := by rw [eM22]; exact t19
    have t24 : hp_T M22 (a0) = 9 := by rw [eM22]; exact t20
    refine j_aload_n hX eJ5_init_d00df_17 0 rfl ?_
    refine j_iconst (v := (0 : Int32)) hX eJ5_init_d00df_18 (by decide) ?_
    refine j_putI (ty := .byte) hX eJ5_init_d00df_19 ff_java_lang_AbstractStringBuilder_22 rfl t24 (by decide) pp_8_1 (by decide) (by decide) ?_
    refine j_nmM (fun M25 eM25 => ?_)
    replace h := h M25 eM25
    have t26 : hp_T M25 (p15) = 20 := by rw [eM25]; exact t23
    have t27 : hp_T M25 (a0) = 9 := by rw [eM25]; exact t24
    refine j_goto hX 38 eJ5_init_d00df_22 (by decide) ?_
    exact j_vret hX hM eJ5_init_d00df_38 rfl h

set_option maxHeartbeats 4000000 in
set_option maxRecDepth 20000 in
theorem vJ4_append_cf468_0 {X : am_Cx} {G : am_Gx} {d : Nat} {Q : am_Q} (hX : am_ok X rJ4_append_cf468 G (d + 1)) (hM : am_me X rJ4_append_cf468 Q) {bc bs : Nat}  {a0 : Nat} {a1 : Int32} {M : am_Hp} (h : hp_T M (a0) = 9 ∧ (1 ≤ bc ∧ (100 ≤ bs ∧ (am_CT G d rJ5_append_3fe6f [.ref a0, .int a1] M 1 100 (fun oz9 M1 => ∃ p2 : Nat, oz9 = .inl (some (.ref p2)) ∧ (Q (.inl (some (.ref a0))) M1)))))) : am_J X 0 [(0, .ref a0), (1, .int a1)] [] M bc bs := by
  refine j_aload_n hX eJ4_append_cf468_0 0 rfl ?_
  refine j_iload_n hX eJ4_append_cf468_1 1 rfl ?_
  obtain ⟨t3, h⟩ := h
  obtain ⟨b4, b5, h⟩ := h
  refine j_callSU (a := a0) (q := (RJ4, TJ4, 4)) (r' := rJ5_append_3fe6f) (As := [.int a1]) (rest := []) (d1 := d) hX eJ4_append_cf468_2 mm_java_lang_StringBuilder_50 rfl t3 (by decide) rfl h rfl (Nat.le_refl _) b4 b5 (Nat.le_of_ble_eq_true rfl) (fun vz9 Mz9 qz9 => ?_) (fun Ez9 Mz9 qz9 => ?_)
  · obtain ⟨M1, eMz9⟩ : ∃ M1, M1 = Mz9 := ⟨_, rfl⟩; subst eMz9
    obtain ⟨p2, hxz9, h⟩ := qz9
    cases hxz9
    refine j_pop hX eJ4_append_cf468_5 rfl ?_
    refine j_aload_n hX eJ4_append_cf468_6 0 rfl ?_
    exact j_aret hX hM eJ4_append_cf468_7 rfl (by first | exact Or.inl ⟨_, rfl⟩ | exact Or.inr ⟨_, rfl⟩) h
  · obtain ⟨p2, hxz9, h⟩ := qz9
    cases hxz9

set_option maxHeartbeats 4000000 in
set_option maxRecDepth 20000 in
theorem vJ5_append_3fe6f_0 {X : am_Cx} {G : am_Gx} {d : Nat} {Q : am_Q} (hX : am_ok X rJ5_append_3fe6f G (d + 1)) (hM : am_me X rJ5_append_3fe6f Q) {bc bs : Nat}  {a0 : Nat} {a1 : Int32} {M : am_Hp} (h : hp_T M (a0) = 9 ∧ (1 ≤ bc ∧ (100 ≤ bs ∧ (am_CT G d rJ5_ensureCapacityInternal_d00df [.ref a0, .int ((hp_I M 163 a0) + (1 : Int32))] M 1 100 (fun oz9 M2 => oz9 = .inl none ∧ (hp_T M2 (a0) = 9 ∧ (am_CT G d rJ5_isLatin1_aae02 [.ref a0] M2 0 0 (fun oz9 M6 => ∃ v7 : Int32, oz9 = .inl (some (.int v7)) ∧ (((v7 = 0) → (hp_T M6 (a0) = 9 ∧ (am_CT G d rJ5_isLatin1_aae02 [.ref a0] M6 0 0 (fun oz9 M10 => ∃ v11 : Int32, oz9 = .inl (some (.int v11)) ∧ (((v11 = 0) → (hp_T M10 (a0) = 9 ∧ (hp_R M10 160 a0 ≠ 0 ∧ (∀ p16 : Nat, p16 = hp_R M10 160 a0 → (∀ M17 : am_Hp, M17 = hp_sI M10 163 a0 ((hp_I M10 163 a0) + (1 : Int32)) → (am_CT G d rJ2_putCharSB_b72d1 [.ref p16, .int (hp_I M10 163 a0), .int a1] M17 0 0 (fun oz9 M19 => oz9 = .inl none ∧ (Q (.inl (some (.ref a0))) M19)))))))) ∧ (¬ (v11 = 0) → (hp_T M10 (a0) = 9 ∧ (am_CT G d rJ5_inflate_da8c8 [.ref a0] M10 0 0 (fun oz9 M21 => oz9 = .inl none ∧ (hp_T M21 (a0) = 9 ∧ (hp_R M21 160 a0 ≠ 0 ∧ (∀ p26 : Nat, p26 = hp_R M21 160 a0 → (∀ M27 : am_Hp, M27 = hp_sI M21 163 a0 ((hp_I M21 163 a0) + (1 : Int32)) → (am_CT G d rJ2_putCharSB_b72d1 [.ref p26, .int (hp_I M21 163 a0), .int a1] M27 0 0 (fun oz9 M29 => oz9 = .inl none ∧ (Q (.inl (some (.ref a0))) M29)))))))))))))))) ∧ (¬ (v7 = 0) → (am_CT G d rJ1_canEncode_fc78d [.int a1] M6 0 0 (fun oz9 M31 => ∃ v32 : Int32, oz9 = .inl (some (.int v32)) ∧ (((v32 = 0) → (hp_T M31 (a0) = 9 ∧ (am_CT G d rJ5_isLatin1_aae02 [.ref a0] M31 0 0 (fun oz9 M34 => ∃ v35 : Int32, oz9 = .inl (some (.int v35)) ∧ (((v35 = 0) → (hp_T M34 (a0) = 9 ∧ (hp_R M34 160 a0 ≠ 0 ∧ (∀ p40 : Nat, p40 = hp_R M34 160 a0 → (∀ M41 : am_Hp, M41 = hp_sI M34 163 a0 ((hp_I M34 163 a0) + (1 : Int32)) → (am_CT G d rJ2_putCharSB_b72d1 [.ref p40, .int (hp_I M34 163 a0), .int a1] M41 0 0 (fun oz9 M43 => oz9 = .inl none ∧ (Q (.inl (some (.ref a0))) M43)))))))) ∧ (¬ (v35 = 0) → (hp_T M34 (a0) = 9 ∧ (am_CT G d rJ5_inflate_da8c8 [.ref a0] M34 0 0 (fun oz9 M45 => oz9 = .inl none ∧ (hp_T M45 (a0) = 9 ∧ (hp_R M45 160 a0 ≠ 0 ∧ (∀ p50 : Nat, p50 = hp_R M45 160 a0 → (∀ M51 : am_Hp, M51 = hp_sI M45 163 a0 ((hp_I M45 163 a0) + (1 : Int32)) → (am_CT G d rJ2_putCharSB_b72d1 [.ref p50, .int (hp_I M45 163 a0), .int a1] M51 0 0 (fun oz9 M53 => oz9 = .inl none ∧ (Q (.inl (some (.ref a0))) M53)))))))))))))))) ∧ (¬ (v32 = 0) → (hp_T M31 (a0) = 9 ∧ (hp_R M31 160 a0 ≠ 0 ∧ (∀ p57 : Nat, p57 = hp_R M31 160 a0 → (∀ M58 : am_Hp, M58 = hp_sI M31 163 a0 ((hp_I M31 163 a0) + (1 : Int32)) → (hp_T M58 (p57) = 20 ∧ (vp_in (hp_I M31 163 a0) (hp_N M58 p57) ∧ (vp_nar .byte ((a1).toInt8.toInt32) = ((a1).toInt8.toInt32) ∧ (∀ M63 : am_Hp, M63 = hp_sE M58 p57 ((hp_I M31 163 a0)).toNatClampNeg ((a1).toInt8.toInt32) → (Q (.inl (some (.ref a0))) M63))))))))))))))))))))))) : am_J X 0 [(0, .ref a0), (1, .int a1)] [] M bc bs := by
  refine j_aload_n hX eJ5_append_3fe6f_0 0 rfl ?_
  refine j_aload_n hX eJ5_append_3fe6f_1 0 rfl ?_
  obtain ⟨t1, h⟩ := h
  refine j_getI hX eJ5_append_3fe6f_2 ff_java_lang_AbstractStringBuilder_79 rfl t1 (by decide) ?_
  refine j_iconst (v := (1 : Int32)) hX eJ5_append_3fe6f_5 (by decide) ?_
  refine j_iadd hX eJ5_append_3fe6f_6 ?_
  obtain ⟨b4, b5, h⟩ := h
  refine j_callU (a := a0) (q := (RJ4, TJ4, 4)) (r' := rJ5_ensureCapacityInternal_d00df) (As := [.int ((hp_I M 163 a0) + (1 : Int32))]) (rest := []) (d1 := d) hX eJ5_append_3fe6f_7 mm_java_lang_AbstractStringBuilder_100 rfl t1 (by decide) rfl h rfl (Nat.le_refl _) b4 b5 (Nat.le_of_ble_eq_true rfl) (fun vz9 Mz9 qz9 => ?_) (fun Ez9 Mz9 qz9 => ?_)
  · obtain ⟨M2, eMz9⟩ : ∃ M2, M2 = Mz9 := ⟨_, rfl⟩; subst eMz9
    obtain ⟨hxz9, h⟩ := qz9
    cases hxz9
    refine j_aload_n hX eJ5_append_3fe6f_10 0 rfl ?_
    obtain ⟨t8, h⟩ := h
    refine j_callU (a := a0) (q := (RJ4, TJ4, 4)) (r' := rJ5_isLatin1_aae02) (As := []) (rest := []) (d1 := d) hX eJ5_append_3fe6f_11 mm_java_lang_AbstractStringBuilder_83 rfl t8 (by decide) rfl h rfl (Nat.le_refl _) (Nat.zero_le _) (Nat.zero_le _) (Nat.le_of_ble_eq_true rfl) (fun vz9 Mz9 qz9 => ?_) (fun Ez9 Mz9 qz9 => ?_)
    · obtain ⟨M6, eMz9⟩ : ∃ M6, M6 = Mz9 := ⟨_, rfl⟩; subst eMz9
      obtain ⟨v7, hxz9, h⟩ := qz9
      cases hxz9
      refine j_if_eq hX 45 eJ5_append_3fe6f_14 (by decide) (fun c9 => ?_) (fun c9 => ?_)
      · replace h := h.1 c9
        refine j_aload_n hX eJ5_append_3fe6f_45 0 rfl ?_
        obtain ⟨t12, h⟩ := h
        refine j_callU (a := a0) (q := (RJ4, TJ4, 4)) (r' := rJ5_isLatin1_aae02) (As := []) (rest := []) (d1 := d) hX eJ5_append_3fe6f_46 mm_java_lang_AbstractStringBuilder_83 rfl t12 (by decide) rfl h rfl (Nat.le_refl _) (Nat.zero_le _) (Nat.zero_le _) (Nat.le_of_ble_eq_true rfl) (fun vz9 Mz9 qz9 => ?_) (fun Ez9 Mz9 qz9 => ?_)
        · obtain ⟨M10, eMz9⟩ : ∃ M10, M10 = Mz9 := ⟨_, rfl⟩; subst eMz9
          obtain ⟨v11, hxz9, h⟩ := qz9
          cases hxz9
          refine j_if_eq hX 56 eJ5_append_3fe6f_49 (by decide) (fun c13 => ?_) (fun c13 => ?_)
          · replace h := h.1 c13
            refine j_aload_n hX eJ5_append_3fe6f_56 0 rfl ?_
            obtain ⟨t14, h⟩ := h
            obtain ⟨z15, h⟩ := h
            refine j_getR hX eJ5_append_3fe6f_57 ff_java_lang_AbstractStringBuilder_15 rfl t14 (by decide) z15 ?_
            refine j_nmR (fun p16 ep16 => ?_)
            replace h := h p16 ep16
            refine j_aload_n hX eJ5_append_3fe6f_60 0 rfl ?_
            refine j_dup hX eJ5_append_3fe6f_61 rfl ?_
            refine j_getI hX eJ5_append_3fe6f_62 ff_java_lang_AbstractStringBuilder_79 rfl t14 (by decide) ?_
            refine j_dup_x1 hX eJ5_append_3fe6f_65 rfl rfl ?_
            refine j_iconst (v := (1 : Int32)) hX eJ5_append_3fe6f_66 (by decide) ?_
            refine j_iadd hX eJ5_append_3fe6f_67 ?_
            refine j_putI (ty := .int) hX eJ5_append_3fe6f_68 ff_java_lang_AbstractStringBuilder_79 rfl t14 (by decide) pp_8_3 rfl rfl ?_
            refine j_nmM (fun M17 eM17 => ?_)
            replace h := h M17 eM17
            have t18 : hp_T M17 (a0) = 9 := by rw [eM17]; exact t14
            refine j_iload_n hX eJ5_append_3fe6f_71 1 rfl ?_
            refine j_callS (r' := rJ2_putCharSB_b72d1) (As := [.ref p16, .int (hp_I M10 163 a0), .int a1]) (rest := []) (d1 := d) hX eJ5_append_3fe6f_72 mm_java_lang_AbstractStringBuilder_197 rfl rfl h rfl (Nat.le_refl _) (Nat.zero_le _) (Nat.zero_le _) (Nat.le_of_ble_eq_true rfl) (fun vz9 Mz9 qz9 => ?_) (fun Ez9 Mz9 qz9 => ?_)
            · obtain ⟨M19, eMz9⟩ : ∃ M19, M19 = Mz9 := ⟨_, rfl⟩; subst eMz9
              obtain ⟨hxz9, h⟩ := qz9
              cases hxz9
              refine j_aload_n hX eJ5_append_3fe6f_75 0 rfl ?_
              exact j_aret hX hM eJ5_append_3fe6f_76 rfl (by first | exact Or.inl ⟨_, rfl⟩ | exact Or.inr ⟨_, rfl⟩) h
            · obtain ⟨hxz9, h⟩ := qz9
              cases hxz9
          · replace h := h.2 c13
            refine j_aload_n hX eJ5_append_3fe6f_52 0 rfl ?_
            obtain ⟨t23, h⟩ := h
            refine j_callU (a := a0) (q := (RJ4, TJ4, 4)) (r' := rJ5_inflate_da8c8) (As := []) (rest := []) (d1 := d) hX eJ5_append_3fe6f_53 mm_java_lang_AbstractStringBuilder_195 rfl t23 (by decide) rfl h rfl (Nat.le_refl _) (Nat.zero_le _) (Nat.zero_le _) (Nat.le_of_ble_eq_true rfl) (fun vz9 Mz9 qz9 => ?_) (fun Ez9 Mz9 qz9 => ?_)
            · obtain ⟨M21, eMz9⟩ : ∃ M21, M21 = Mz9 := ⟨_, rfl⟩; subst eMz9
              obtain ⟨hxz9, h⟩ := qz9
              cases hxz9
              refine j_aload_n hX eJ5_append_3fe6f_56 0 rfl ?_
              obtain ⟨t24, h⟩ := h
              obtain ⟨z25, h⟩ := h
              refine j_getR hX eJ5_append_3fe6f_57 ff_java_lang_AbstractStringBuilder_15 rfl t24 (by decide) z25 ?_
              refine j_nmR (fun p26 ep26 => ?_)
              replace h := h p26 ep26
              refine j_aload_n hX eJ5_append_3fe6f_60 0 rfl ?_
              refine j_dup hX eJ5_append_3fe6f_61 rfl ?_
              refine j_getI hX eJ5_append_3fe6f_62 ff_java_lang_AbstractStringBuilder_79 rfl t24 (by decide) ?_
              refine j_dup_x1 hX eJ5_append_3fe6f_65 rfl rfl ?_
              refine j_iconst (v := (1 : Int32)) hX eJ5_append_3fe6f_66 (by decide) ?_
              refine j_iadd hX eJ5_append_3fe6f_67 ?_
              refine j_putI (ty := .int) hX eJ5_append_3fe6f_68 ff_java_lang_AbstractStringBuilder_79 rfl t24 (by decide) pp_8_3 rfl rfl ?_
              refine j_nmM (fun M27 eM27 => ?_)
              replace h := h M27 eM27
              have t28 : hp_T M27 (a0) = 9 := by rw [eM27]; exact t24
              refine j_iload_n hX eJ5_append_3fe6f_71 1 rfl ?_
              refine j_callS (r' := rJ2_putCharSB_b72d1) (As := [.ref p26, .int (hp_I M21 163 a0), .int a1]) (rest := []) (d1 := d) hX eJ5_append_3fe6f_72 mm_java_lang_AbstractStringBuilder_197 rfl rfl h rfl (Nat.le_refl _) (Nat.zero_le _) (Nat.zero_le _) (Nat.le_of_ble_eq_true rfl) (fun vz9 Mz9 qz9 => ?_) (fun Ez9 Mz9 qz9 => ?_)
              · obtain ⟨M29, eMz9⟩ : ∃ M29, M29 = Mz9 := ⟨_, rfl⟩; subst eMz9
                obtain ⟨hxz9, h⟩ := qz9
                cases hxz9
                refine j_aload_n hX eJ5_append_3fe6f_75 0 rfl ?_
                exact j_aret hX hM eJ5_append_3fe6f_76 rfl (by first | exact Or.inl ⟨_, rfl⟩ | exact Or.inr ⟨_, rfl⟩) h
              · obtain ⟨hxz9, h⟩ := qz9
                cases hxz9
            · obtain ⟨hxz9, h⟩ := qz9
              cases hxz9
        · obtain ⟨v11, hxz9, h⟩ := qz9
          cases hxz9
      · replace h := h.2 c9
        refine j_iload_n hX eJ5_append_3fe6f_17 1 rfl ?_
        refine j_callS (r' := rJ1_canEncode_fc78d) (As := [.int a1]) (rest := []) (d1 := d) hX eJ5_append_3fe6f_18 mm_java_lang_AbstractStringBuilder_191 rfl rfl h rfl (Nat.le_refl _) (Nat.zero_le _) (Nat.zero_le _) (Nat.le_of_ble_eq_true rfl) (fun vz9 Mz9 qz9 => ?_) (fun Ez9 Mz9 qz9 => ?_)
        · obtain ⟨M31, eMz9⟩ : ∃ M31, M31 = Mz9 := ⟨_, rfl⟩; subst eMz9
          obtain ⟨v32, hxz9, h⟩ := qz9
          cases hxz9
          refine j_if_eq hX 45 eJ5_append_3fe6f_21 (by decide) (fun c33 => ?_) (fun c33 => ?_)
          · replace h := h.1 c33
            refine j_aload_n hX eJ5_append_3fe6f_45 0 rfl ?_
            obtain ⟨t36, h⟩ := h
            refine j_callU (a := a0) (q := (RJ4, TJ4, 4)) (r' := rJ5_isLatin1_aae02) (As := []) (rest := []) (d1 := d) hX eJ5_append_3fe6f_46 mm_java_lang_AbstractStringBuilder_83 rfl t36 (by decide) rfl h rfl (Nat.le_refl _) (Nat.zero_le _) (Nat.zero_le _) (Nat.le_of_ble_eq_true rfl) (fun vz9 Mz9 qz9 => ?_) (fun Ez9 Mz9 qz9 => ?_)
            · obtain ⟨M34, eMz9⟩ : ∃ M34, M34 = Mz9 := ⟨_, rfl⟩; subst eMz9
              obtain ⟨v35, hxz9, h⟩ := qz9
              cases hxz9
              refine j_if_eq hX 56 eJ5_append_3fe6f_49 (by decide) (fun c37 => ?_) (fun c37 => ?_)
              · replace h := h.1 c37
                refine j_aload_n hX eJ5_append_3fe6f_56 0 rfl ?_
                obtain ⟨t38, h⟩ := h
                obtain ⟨z39, h⟩ := h
                refine j_getR hX eJ5_append_3fe6f_57 ff_java_lang_AbstractStringBuilder_15 rfl t38 (by decide) z39 ?_
                refine j_nmR (fun p40 ep40 => ?_)
                replace h := h p40 ep40
                refine j_aload_n hX eJ5_append_3fe6f_60 0 rfl ?_
                refine j_dup hX eJ5_append_3fe6f_61 rfl ?_
                refine j_getI hX eJ5_append_3fe6f_62 ff_java_lang_AbstractStringBuilder_79 rfl t38 (by decide) ?_
                refine j_dup_x1 hX eJ5_append_3fe6f_65 rfl rfl ?_
                refine j_iconst (v := (1 : Int32)) hX eJ5_append_3fe6f_66 (by decide) ?_
                refine j_iadd hX eJ5_append_3fe6f_67 ?_
                refine j_putI (ty := .int) hX eJ5_append_3fe6f_68 ff_java_lang_AbstractStringBuilder_79 rfl t38 (by decide) pp_8_3 rfl rfl ?_
                refine j_nmM (fun M41 eM41 => ?_)
                replace h := h M41 eM41
                have t42 : hp_T M41 (a0) = 9 := by rw [eM41]; exact t38
                refine j_iload_n hX eJ5_append_3fe6f_71 1 rfl ?_
                refine j_callS (r' := rJ2_putCharSB_b72d1) (As := [.ref p40, .int (hp_I M34 163 a0), .int a1]) (rest := []) (d1 := d) hX eJ5_append_3fe6f_72 mm_java_lang_AbstractStringBuilder_197 rfl rfl h rfl (Nat.le_refl _) (Nat.zero_le _) (Nat.zero_le _) (Nat.le_of_ble_eq_true rfl) (fun vz9 Mz9 qz9 => ?_) (fun Ez9 Mz9 qz9 => ?_)
                · obtain ⟨M43, eMz9⟩ : ∃ M43, M43 = Mz9 := ⟨_, rfl⟩; subst eMz9
                  obtain ⟨hxz9, h⟩ := qz9
                  cases hxz9
                  refine j_aload_n hX eJ5_append_3fe6f_75 0 rfl ?_
                  exact j_aret hX hM eJ5_append_3fe6f_76 rfl (by first | exact Or.inl ⟨_, rfl⟩ | exact Or.inr ⟨_, rfl⟩) h
                · obtain ⟨hxz9, h⟩ := qz9
                  cases hxz9
              · replace h := h.2 c37
                refine j_aload_n hX eJ5_append_3fe6f_52 0 rfl ?_
                obtain ⟨t47, h⟩ := h
                refine j_callU (a := a0) (q := (RJ4, TJ4, 4)) (r' := rJ5_inflate_da8c8) (As := []) (rest := []) (d1 := d) hX eJ5_append_3fe6f_53 mm_java_lang_AbstractStringBuilder_195 rfl t47 (by decide) rfl h rfl (Nat.le_refl _) (Nat.zero_le _) (Nat.zero_le _) (Nat.le_of_ble_eq_true rfl) (fun vz9 Mz9 qz9 => ?_) (fun Ez9 Mz9 qz9 => ?_)
                · obtain ⟨M45, eMz9⟩ : ∃ M45, M45 = Mz9 := ⟨_, rfl⟩; subst eMz9
                  obtain ⟨hxz9, h⟩ := qz9
                  cases hxz9
                  refine j_aload_n hX eJ5_append_3fe6f_56 0 rfl ?_
                  obtain ⟨t48, h⟩ := h
                  obtain ⟨z49, h⟩ := h
                  refine j_getR hX eJ5_append_3fe6f_57 ff_java_lang_AbstractStringBuilder_15 rfl t48 (by decide) z49 ?_
                  refine j_nmR (fun p50 ep50 => ?_)
                  replace h := h p50 ep50
                  refine j_aload_n hX eJ5_append_3fe6f_60 0 rfl ?_
                  refine j_dup hX eJ5_append_3fe6f_61 rfl ?_
                  refine j_getI hX eJ5_append_3fe6f_62 ff_java_lang_AbstractStringBuilder_79 rfl t48 (by decide) ?_
                  refine j_dup_x1 hX eJ5_append_3fe6f_65 rfl rfl ?_
                  refine j_iconst (v := (1 : Int32)) hX eJ5_append_3fe6f_66 (by decide) ?_
                  refine j_iadd hX eJ5_append_3fe6f_67 ?_
                  refine j_putI (ty := .int) hX eJ5_append_3fe6f_68 ff_java_lang_AbstractStringBuilder_79 rfl t48 (by decide) pp_8_3 rfl rfl ?_
                  refine j_nmM (fun M51 eM51 => ?_)
                  replace h := h M51 eM51
                  have t52 : hp_T M51 (a0) = 9 := by rw [eM51]; exact t48
                  refine j_iload_n hX eJ5_append_3fe6f_71 1 rfl ?_
                  refine j_callS (r' := rJ2_putCharSB_b72d1) (As := [.ref p50, .int (hp_I M45 163 a0), .int a1]) (rest := []) (d1 := d) hX eJ5_append_3fe6f_72 mm_java_lang_AbstractStringBuilder_197 rfl rfl h rfl (Nat.le_refl _) (Nat.zero_le _) (Nat.zero_le _) (Nat.le_of_ble_eq_true rfl) (fun vz9 Mz9 qz9 => ?_) (fun Ez9 Mz9 qz9 => ?_)
                  · obtain ⟨M53, eMz9⟩ : ∃ M53, M53 = Mz9 := ⟨_, rfl⟩; subst eMz9
                    obtain ⟨hxz9, h⟩ := qz9
                    cases hxz9
                    refine j_aload_n hX eJ5_append_3fe6f_75 0 rfl ?_
                    exact j_aret hX hM eJ5_append_3fe6f_76 rfl (by first | exact Or.inl ⟨_, rfl⟩ | exact Or.inr ⟨_, rfl⟩) h
                  · obtain ⟨hxz9, h⟩ := qz9
                    cases hxz9
                · obtain ⟨hxz9, h⟩ := qz9
                  cases hxz9
            · obtain ⟨v35, hxz9, h⟩ := qz9
              cases hxz9
          · replace h := h.2 c33
            refine j_aload_n hX eJ5_append_3fe6f_24 0 rfl ?_
            obtain ⟨t55, h⟩ := h
            obtain ⟨z56, h⟩ := h
            refine j_getR hX eJ5_append_3fe6f_25 ff_java_lang_AbstractStringBuilder_15 rfl t55 (by decide) z56 ?_
            refine j_nmR (fun p57 ep57 => ?_)
            replace h := h p57 ep57
            refine j_aload_n hX eJ5_append_3fe6f_28 0 rfl ?_
            refine j_dup hX eJ5_append_3fe6f_29 rfl ?_
            refine j_getI hX eJ5_append_3fe6f_30 ff_java_lang_AbstractStringBuilder_79 rfl t55 (by decide) ?_
            refine j_dup_x1 hX eJ5_append_3fe6f_33 rfl rfl ?_
            refine j_iconst (v := (1 : Int32)) hX eJ5_append_3fe6f_34 (by decide) ?_
            refine j_iadd hX eJ5_append_3fe6f_35 ?_
            refine j_putI (ty := .int) hX eJ5_append_3fe6f_36 ff_java_lang_AbstractStringBuilder_79 rfl t55 (by decide) pp_8_3 rfl rfl ?_
            refine j_nmM (fun M58 eM58 => ?_)
            replace h := h M58 eM58
            have t59 : hp_T M58 (a0) = 9 := by rw [eM58]; exact t55
            refine j_iload_n hX eJ5_append_3fe6f_39 1 rfl ?_
            refine j_i2b hX eJ5_append_3fe6f_40 ?_
            obtain ⟨t60, h⟩ := h
            obtain ⟨i61, h⟩ := h
            obtain ⟨n62, h⟩ := h
            refine j_bast hX eJ5_append_3fe6f_41 t60 i61 n62 ?_
            refine j_nmM (fun M63 eM63 => ?_)
            replace h := h M63 eM63
            have t64 : hp_T M63 (a0) = 9 := by rw [eM63]; exact t59
            have t65 : hp_T M63 (p57) = 20 := by rw [eM63]; exact t60
            refine j_goto hX 75 eJ5_append_3fe6f_42 (by decide) ?_
            refine j_aload_n hX eJ5_append_3fe6f_75 0 rfl ?_
            exact j_aret hX hM eJ5_append_3fe6f_76 rfl (by first | exact Or.inl ⟨_, rfl⟩ | exact Or.inr ⟨_, rfl⟩) h
        · obtain ⟨v32, hxz9, h⟩ := qz9
          cases hxz9
    · obtain ⟨v7, hxz9, h⟩ := qz9
      cases hxz9
  · obtain ⟨hxz9, h⟩ := qz9
    cases hxz9

set_option maxHeartbeats 4000000 in
set_option maxRecDepth 20000 in
theorem vJ5_ensureCapacityInternal_d00df_0 {X : am_Cx} {G : am_Gx} {d : Nat} {Q : am_Q} (hX : am_ok X rJ5_ensureCapacityInternal_d00df G (d + 1)) (hM : am_me X rJ5_ensureCapacityInternal_d00df Q) {bc bs : Nat}  {a0 : Nat} {a1 : Int32} {M : am_Hp} (h : hp_T M (a0) = 9 ∧ (hp_R M 160 a0 ≠ 0 ∧ (∀ p3 : Nat, p3 = hp_R M 160 a0 → (hp_T M (p3) = 20 ∧ (∀ v5 : Int32, v5 = ((Int32.ofNat (hp_N M p3)) >>> ((hp_I M 161 a0) &&& 31)) → ((((a1 - v5) ≤ 0) → (Q (.inl none) M)) ∧ (¬ ((a1 - v5) ≤ 0) → (hp_R M 160 a0 ≠ 0 ∧ (∀ p8 : Nat, p8 = hp_R M 160 a0 → (am_CT G d rJ5_newCapacity_0f7a4 [.ref a0, .int a1] M 0 0 (fun oz9 M9 => ∃ v10 : Int32, oz9 = .inl (some (.int v10)) ∧ (hp_T M9 (a0) = 9 ∧ (1 ≤ bc ∧ (100 ≤ bs ∧ (am_CT G d rJ7_copyOf_9075b [.ref p8, .int (v10 <<< ((hp_I M9 161 a0) &&& 31))] M9 1 100 (fun oz9 M12 => ∃ p13 : Nat, oz9 = .inl (some (.ref p13)) ∧ (hp_T M12 (a0) = 9 ∧ (p13 ≠ 0 ∧ (∀ M18 : am_Hp, M18 = hp_sR M12 160 a0 p13 → (Q (.inl none) M18)))))))))))))))))))) : am_J X 0 [(0, .ref a0), (1, .int a1)] [] M bc bs := by
  refine j_aload_n hX eJ5_ensureCapacityInternal_d00df_0 0 rfl ?_
  obtain ⟨t1, h⟩ := h
  obtain ⟨z2, h⟩ := h
  refine j_getR hX eJ5_ensureCapacityInternal_d00df_1 ff_java_lang_AbstractStringBuilder_15 rfl t1 (by decide) z2 ?_
  refine j_nmR (fun p3 ep3 => ?_)
  replace h := h p3 ep3
  obtain ⟨t4, h⟩ := h
  refine j_alen20 hX eJ5_ensureCapacityInternal_d00df_4 t4 ?_
  refine j_aload_n hX eJ5_ensureCapacityInternal_d00df_5 0 rfl ?_
  refine j_getI hX eJ5_ensureCapacityInternal_d00df_6 ff_java_lang_AbstractStringBuilder_22 rfl t1 (by decide) ?_
  refine j_ishr hX eJ5_ensureCapacityInternal_d00df_9 ?_
  refine j_nmI (fun v5 ev5 => ?_)
  replace h := h v5 ev5
  refine j_istore_n (lv' := [(2, .int v5), (0, .ref a0), (1, .int a1)]) hX eJ5_ensureCapacityInternal_d00df_10 rfl (by decide) rfl ?_
  refine j_iload_n hX eJ5_ensureCapacityInternal_d00df_11 2 rfl ?_
  refine j_iload_n hX eJ5_ensureCapacityInternal_d00df_12 0 rfl ?_
  refine j_isub hX eJ5_ensureCapacityInternal_d00df_13 ?_
  refine j_if_le hX 38 eJ5_ensureCapacityInternal_d00df_14 (by decide) (fun c6 => ?_) (fun c6 => ?_)
  · replace h := h.1 c6
    exact j_vret hX hM eJ5_ensureCapacityInternal_d00df_38 rfl h
  · replace h := h.2 c6
    refine j_aload_n hX eJ5_ensureCapacityInternal_d00df_17 1 rfl ?_
    refine j_aload_n hX eJ5_ensureCapacityInternal_d00df_18 1 rfl ?_
    obtain ⟨z7, h⟩ := h
    refine j_getR hX eJ5_ensureCapacityInternal_d00df_19 ff_java_lang_AbstractStringBuilder_15 rfl t1 (by decide) z7 ?_
    refine j_nmR (fun p8 ep8 => ?_)
    replace h := h p8 ep8
    refine j_aload_n hX eJ5_ensureCapacityInternal_d00df_22 1 rfl ?_
    refine j_iload_n hX eJ5_ensureCapacityInternal_d00df_23 2 rfl ?_
    refine j_callU (a := a0) (q := (RJ4, TJ4, 4)) (r' := rJ5_newCapacity_0f7a4) (As := [.int a1]) (rest := [.ref p8, .ref a0]) (d1 := d) hX eJ5_ensureCapacityInternal_d00df_24 mm_java_lang_AbstractStringBuilder_104 rfl t1 (by decide) rfl h rfl (Nat.le_refl _) (Nat.zero_le _) (Nat.zero_le _) (Nat.le_of_ble_eq_true rfl) (fun vz9 Mz9 qz9 => ?_) (fun Ez9 Mz9 qz9 => ?_)
    · obtain ⟨M9, eMz9⟩ : ∃ M9, M9 = Mz9 := ⟨_, rfl⟩; subst eMz9
      obtain ⟨v10, hxz9, h⟩ := qz9
      cases hxz9
      refine j_aload_n hX eJ5_ensureCapacityInternal_d00df_27 1 rfl ?_
      obtain ⟨t11, h⟩ := h
      refine j_getI hX eJ5_ensureCapacityInternal_d00df_28 ff_java_lang_AbstractStringBuilder_22 rfl t11 (by decide) ?_
      refine j_ishl hX eJ5_ensureCapacityInternal_d00df_31 ?_
      obtain ⟨b14, b15, h⟩ := h
      refine j_callS (r' := rJ7_copyOf_9075b) (As := [.ref p8, .int (v10 <<< ((hp_I M9 161 a0) &&& 31))]) (rest := [.ref a0]) (d1 := d) hX eJ5_ensureCapacityInternal_d00df_32 mm_java_lang_AbstractStringBuilder_108 rfl rfl h rfl (Nat.le_refl _) b14 b15 (Nat.le_of_ble_eq_true rfl) (fun vz9 Mz9 qz9 => ?_) (fun Ez9 Mz9 qz9 => ?_)
      · obtain ⟨M12, eMz9⟩ : ∃ M12, M12 = Mz9 := ⟨_, rfl⟩; subst eMz9
        obtain ⟨p13, hxz9, h⟩ := qz9
        cases hxz9
        obtain ⟨t16, h⟩ := h
        obtain ⟨z17, h⟩ := h
        refine j_putR (ty := .array .byte) hX eJ5_ensureCapacityInternal_d00df_35 ff_java_lang_AbstractStringBuilder_15 rfl t16 (by decide) z17 pp_8_0 rfl rfl ?_
        refine j_nmM (fun M18 eM18 => ?_)
        replace h := h M18 eM18
        have t19 : hp_T M18 (a0) = 9 := by rw [eM18]; exact t16
        exact j_vret hX hM eJ5_ensureCapacityInternal_d00df_38 rfl h
      · obtain ⟨p13, hxz9, h⟩ := qz9
        cases hxz9
    · obtain ⟨v10, hxz9, h⟩ := qz9
      cases hxz9

set_option maxHeartbeats 4000000 in
set_option maxRecDepth 20000 in
theorem vJ5_newCapacity_0f7a4_0 {X : am_Cx} {G : am_Gx} {d : Nat} {Q : am_Q} (hX : am_ok X rJ5_newCapacity_0f7a4 G (d + 1)) (hM : am_me X rJ5_newCapacity_0f7a4 Q) {bc bs : Nat}  {a0 : Nat} {a1 : Int32} {M : am_Hp} (h : hp_T M (a0) = 9 ∧ (hp_R M 160 a0 ≠ 0 ∧ (∀ p3 : Nat, p3 = hp_R M 160 a0 → (hp_T M (p3) = 20 ∧ (∀ v5 : Int32, v5 = (Int32.ofNat (hp_N M p3)) → (∀ v6 : Int32, v6 = (a1 <<< ((hp_I M 161 a0) &&& 31)) → (∀ v7 : Int32, v7 = (v6 - v5) → (am_CT G d rJ8_newLength_cabcc [.int v5, .int v7, .int (v5 + ((2 : Int32) <<< ((hp_I M 161 a0) &&& 31)))] M 0 0 (fun oz9 M8 => ∃ v9 : Int32, oz9 = .inl (some (.int v9)) ∧ (((v9 = (2147483647 : Int32)) → (False)) ∧ (¬ (v9 = (2147483647 : Int32)) → (hp_T M8 (a0) = 9 ∧ (Q (.inl (some (.int (v9 >>> ((hp_I M8 161 a0) &&& 31))))) M8))))))))))))) : am_J X 0 [(0, .ref a0), (1, .int a1)] [] M bc bs := by
  refine j_aload_n hX eJ5_newCapacity_0f7a4_0 0 rfl ?_
  obtain ⟨t1, h⟩ := h
  obtain ⟨z2, h⟩ := h
  refine j_getR hX eJ5_newCapacity_0f7a4_1 ff_java_lang_AbstractStringBuilder_15 rfl t1 (by decide) z2 ?_
  refine j_nmR (fun p3 ep3 => ?_)
  replace h := h p3 ep3
  obtain ⟨t4, h⟩ := h
  refine j_alen20 hX eJ5_newCapacity_0f7a4_4 t4 ?_
  refine j_nmI (fun v5 ev5 => ?_)
  replace h := h v5 ev5
  refine j_istore_n (lv' := [(2, .int v5), (0, .ref a0), (1, .int a1)]) hX eJ5_newCapacity_0f7a4_5 rfl (by decide) rfl ?_
  refine j_iload_n hX eJ5_newCapacity_0f7a4_6 2 rfl ?_
  refine j_aload_n hX eJ5_newCapacity_0f7a4_7 1 rfl ?_
  refine j_getI hX eJ5_newCapacity_0f7a4_8 ff_java_lang_AbstractStringBuilder_22 rfl t1 (by decide) ?_
  refine j_ishl hX eJ5_newCapacity_0f7a4_11 ?_
  refine j_nmI (fun v6 ev6 => ?_)
  replace h := h v6 ev6
  refine j_istore_n (lv' := [(3, .int v6), (2, .int v5), (0, .ref a0), (1, .int a1)]) hX eJ5_newCapacity_0f7a4_12 rfl (by decide) rfl ?_
  refine j_iload_n hX eJ5_newCapacity_0f7a4_13 0 rfl ?_
  refine j_iload_n hX eJ5_newCapacity_0f7a4_14 1 rfl ?_
  refine j_isub hX eJ5_newCapacity_0f7a4_15 ?_
  refine j_nmI (fun v7 ev7 => ?_)
  replace h := h v7 ev7
  refine j_istore (lv' := [(4, .int v7), (3, .int v6), (2, .int v5), (0, .ref a0), (1, .int a1)]) hX eJ5_newCapacity_0f7a4_16 (by decide) rfl ?_
  refine j_iload_n hX eJ5_newCapacity_0f7a4_18 2 rfl ?_
  refine j_iload hX eJ5_newCapacity_0f7a4_19 0 rfl ?_
  refine j_iload_n hX eJ5_newCapacity_0f7a4_21 2 rfl ?_
  refine j_iconst (v := (2 : Int32)) hX eJ5_newCapacity_0f7a4_22 (by decide) ?_
  refine j_aload_n hX eJ5_newCapacity_0f7a4_23 3 rfl ?_
  refine j_getI hX eJ5_newCapacity_0f7a4_24 ff_java_lang_AbstractStringBuilder_22 rfl t1 (by decide) ?_
  refine j_ishl hX eJ5_newCapacity_0f7a4_27 ?_
  refine j_iadd hX eJ5_newCapacity_0f7a4_28 ?_
  refine j_callS (r' := rJ8_newLength_cabcc) (As := [.int v5, .int v7, .int (v5 + ((2 : Int32) <<< ((hp_I M 161 a0) &&& 31)))]) (rest := []) (d1 := d) hX eJ5_newCapacity_0f7a4_29 mm_java_lang_AbstractStringBuilder_114 rfl rfl h rfl (Nat.le_refl _) (Nat.zero_le _) (Nat.zero_le _) (Nat.le_of_ble_eq_true rfl) (fun vz9 Mz9 qz9 => ?_) (fun Ez9 Mz9 qz9 => ?_)
  · obtain ⟨M8, eMz9⟩ : ∃ M8, M8 = Mz9 := ⟨_, rfl⟩; subst eMz9
    obtain ⟨v9, hxz9, h⟩ := qz9
    cases hxz9
    refine j_istore (lv' := [(5, .int v9), (4, .int v7), (3, .int v6), (2, .int v5), (0, .ref a0), (1, .int a1)]) hX eJ5_newCapacity_0f7a4_32 (by decide) rfl ?_
    refine j_iload hX eJ5_newCapacity_0f7a4_34 0 rfl ?_
    refine j_ldcI hX eJ5_newCapacity_0f7a4_36 tw_994 ?_
    refine j_icmp_ne hX 51 eJ5_newCapacity_0f7a4_38 (by decide) (fun c10 => ?_) (fun c10 => ?_)
    · replace h := h.2 c10
      refine j_iload hX eJ5_newCapacity_0f7a4_51 0 rfl ?_
      refine j_aload_n hX eJ5_newCapacity_0f7a4_53 4 rfl ?_
      obtain ⟨t11, h⟩ := h
      refine j_getI hX eJ5_newCapacity_0f7a4_54 ff_java_lang_AbstractStringBuilder_22 rfl t11 (by decide) ?_
      refine j_ishr hX eJ5_newCapacity_0f7a4_57 ?_
      exact j_iret hX hM eJ5_newCapacity_0f7a4_58 rfl h
    · replace h := h.1 c10
      exact h.elim
  · obtain ⟨v9, hxz9, h⟩ := qz9
    cases hxz9

set_option maxHeartbeats 4000000 in
set_option maxRecDepth 20000 in
theorem vJ8_newLength_cabcc_0 {X : am_Cx} {G : am_Gx} {d : Nat} {Q : am_Q} (hX : am_ok X rJ8_newLength_cabcc G (d + 1)) (hM : am_me X rJ8_newLength_cabcc Q) {bc bs : Nat}  {a0 : Int32} {a1 : Int32} {a2 : Int32} {M : am_Hp} (h : ∀ v1 : Int32, v1 = (if a1 < a2 then a2 else a1) → (∀ v2 : Int32, v2 = (a0 + v1) → (((v2 ≤ (0 : Int32)) → (am_CT G d rJ8_hugeLength_7cf53 [.int a0, .int a1] M 0 0 (fun oz9 M4 => ∃ v5 : Int32, oz9 = .inl (some (.int v5)) ∧ (Q (.inl (some (.int v5))) M4)))) ∧ (¬ (v2 ≤ (0 : Int32)) → ((((2147483639 : Int32) < v2) → (am_CT G d rJ8_hugeLength_7cf53 [.int a0, .int a1] M 0 0 (fun oz9 M7 => ∃ v8 : Int32, oz9 = .inl (some (.int v8)) ∧ (Q (.inl (some (.int v8))) M7)))) ∧ (¬ ((2147483639 : Int32) < v2) → (Q (.inl (some (.int v2))) M))))))) : am_J X 0 [(0, .int a0), (1, .int a1), (2, .int a2)] [] M bc bs := by
  refine j_iload_n hX eJ8_newLength_cabcc_0 0 rfl ?_
  refine j_iload_n hX eJ8_newLength_cabcc_1 1 rfl ?_
  refine j_iload_n hX eJ8_newLength_cabcc_2 2 rfl ?_
  refine j_mmax hX eJ8_newLength_cabcc_3 tw_989 tw_950 tw_21 (Nat.le_of_ble_eq_true rfl) ?_
  refine j_nmI (fun v1 ev1 => ?_)
  replace h := h v1 ev1
  refine j_iadd hX eJ8_newLength_cabcc_6 ?_
  refine j_nmI (fun v2 ev2 => ?_)
  replace h := h v2 ev2
  refine j_istore_n (lv' := [(3, .int v2), (0, .int a0), (1, .int a1), (2, .int a2)]) hX eJ8_newLength_cabcc_7 rfl (by decide) rfl ?_
  refine j_iconst (v := (0 : Int32)) hX eJ8_newLength_cabcc_8 (by decide) ?_
  refine j_iload_n hX eJ8_newLength_cabcc_9 0 rfl ?_
  refine j_icmp_ge hX 21 eJ8_newLength_cabcc_10 (by decide) (fun c3 => ?_) (fun c3 => ?_)
  · replace h := h.1 c3
    refine j_iload_n hX eJ8_newLength_cabcc_21 1 rfl ?_
    refine j_iload_n hX eJ8_newLength_cabcc_22 2 rfl ?_
    refine j_callS (r' := rJ8_hugeLength_7cf53) (As := [.int a0, .int a1]) (rest := []) (d1 := d) hX eJ8_newLength_cabcc_23 mm_jdk_internal_util_ArraysSupport_201 rfl rfl h rfl (Nat.le_refl _) (Nat.zero_le _) (Nat.zero_le _) (Nat.le_of_ble_eq_true rfl) (fun vz9 Mz9 qz9 => ?_) (fun Ez9 Mz9 qz9 => ?_)
    · obtain ⟨M4, eMz9⟩ : ∃ M4, M4 = Mz9 := ⟨_, rfl⟩; subst eMz9
      obtain ⟨v5, hxz9, h⟩ := qz9
      cases hxz9
      exact j_iret hX hM eJ8_newLength_cabcc_26 rfl h
    · obtain ⟨v5, hxz9, h⟩ := qz9
      cases hxz9
  · replace h := h.2 c3
    refine j_iload_n hX eJ8_newLength_cabcc_13 0 rfl ?_
    refine j_ldcI hX eJ8_newLength_cabcc_14 tw_990 ?_
    refine j_icmp_gt hX 21 eJ8_newLength_cabcc_16 (by decide) (fun c6 => ?_) (fun c6 => ?_)
    · replace h := h.1 c6
      refine j_iload_n hX eJ8_newLength_cabcc_21 1 rfl ?_
      refine j_iload_n hX eJ8_newLength_cabcc_22 2 rfl ?_
      refine j_callS (r' := rJ8_hugeLength_7cf53) (As := [.int a0, .int a1]) (rest := []) (d1 := d) hX eJ8_newLength_cabcc_23 mm_jdk_internal_util_ArraysSupport_201 rfl rfl h rfl (Nat.le_refl _) (Nat.zero_le _) (Nat.zero_le _) (Nat.le_of_ble_eq_true rfl) (fun vz9 Mz9 qz9 => ?_) (fun Ez9 Mz9 qz9 => ?_)
      · obtain ⟨M7, eMz9⟩ : ∃ M7, M7 = Mz9 := ⟨_, rfl⟩; subst eMz9
        obtain ⟨v8, hxz9, h⟩ := qz9
        cases hxz9
        exact j_iret hX hM eJ8_newLength_cabcc_26 rfl h
      · obtain ⟨v8, hxz9, h⟩ := qz9
        cases hxz9
    · replace h := h.2 c6
      refine j_iload_n hX eJ8_newLength_cabcc_19 0 rfl ?_
      exact j_iret hX hM eJ8_newLength_cabcc_20 rfl h

set_option maxHeartbeats 4000000 in
set_option maxRecDepth 20000 in
theorem vJ7_copyOf_9075b_0 {X : am_Cx} {G : am_Gx} {d : Nat} {Q : am_Q} (hX : am_ok X rJ7_copyOf_9075b G (d + 1)) (hM : am_me X rJ7_copyOf_9075b Q) {bc bs : Nat}  {a0 : Nat} {a1 : Int32} {M : am_Hp} (h : hp_T M (a0) = 20 ∧ (((a1 = (Int32.ofNat (hp_N M a0))) → (False)) ∧ (¬ (a1 = (Int32.ofNat (hp_N M a0))) → (¬ a1 < 0 ∧ ((a1).toNatClampNeg * componentBytes .byte ≤ 536870912 ∧ (1 ≤ bc ∧ ((a1).toNatClampNeg ≤ bs ∧ (∀ p7 : Nat, hp_T M p7 = 0 → p7 ≠ 0 → (∀ M10 : am_Hp, M10 = hp_a M p7 20 (a1).toNatClampNeg → (∀ v13 : Int32, v13 = (if a1 < (Int32.ofNat (hp_N M10 a0)) then a1 else (Int32.ofNat (hp_N M10 a0))) → (¬ (0 : Int32) < 0 ∧ (¬ (0 : Int32) < 0 ∧ (¬ v13 < 0 ∧ (((0 : Int32)).toNatClampNeg + (v13).toNatClampNeg ≤ hp_N M10 a0 ∧ (((0 : Int32)).toNatClampNeg + (v13).toNatClampNeg ≤ hp_N M10 p7 ∧ ((∀ i, i < (v13).toNatClampNeg → fits .byte (.int (hp_E M10 a0 (((0 : Int32)).toNatClampNeg + i))) = true) ∧ (∀ M20 : am_Hp, M20 = hp_sA M10 p7 (va_cpy (hp_E M10 a0) (hp_E M10 p7) ((0 : Int32)).toNatClampNeg ((0 : Int32)).toNatClampNeg (v13).toNatClampNeg) → (Q (.inl (some (.ref p7))) M20)))))))))))))))))) : am_J X 0 [(0, .ref a0), (1, .int a1)] [] M bc bs := by
  refine j_iload_n hX eJ7_copyOf_9075b_0 1 rfl ?_
  refine j_aload_n hX eJ7_copyOf_9075b_1 0 rfl ?_
  obtain ⟨t1, h⟩ := h
  refine j_alen20 hX eJ7_copyOf_9075b_2 t1 ?_
  refine j_icmp_ne hX 14 eJ7_copyOf_9075b_3 (by decide) (fun c2 => ?_) (fun c2 => ?_)
  · replace h := h.2 c2
    refine j_iload_n hX eJ7_copyOf_9075b_14 1 rfl ?_
    obtain ⟨n3, n4, b5, b6, h⟩ := h
    refine j_newa_b hX eJ7_copyOf_9075b_15 tw_266 n3 n4 b5 b6 (fun p7 o8 z9 => ?_)
    replace h := h p7 o8 z9
    refine j_nmM (fun M10 eM10 => ?_)
    replace h := h M10 eM10
    have t11 : hp_T M10 (a0) = 20 := by rw [eM10]; exact (hp_Ta o8 t1 (by decide)).trans rfl
    have t12 : hp_T M10 (p7) = 20 := by rw [eM10]; exact hp_Tna
    refine j_astore_n (lv' := [(2, .ref p7), (0, .ref a0), (1, .int a1)]) hX eJ7_copyOf_9075b_17 rfl (by decide) rfl ?_
    refine j_aload_n hX eJ7_copyOf_9075b_18 1 rfl ?_
    refine j_iconst (v := (0 : Int32)) hX eJ7_copyOf_9075b_19 (by decide) ?_
    refine j_aload_n hX eJ7_copyOf_9075b_20 0 rfl ?_
    refine j_iconst (v := (0 : Int32)) hX eJ7_copyOf_9075b_21 (by decide) ?_
    refine j_aload_n hX eJ7_copyOf_9075b_22 1 rfl ?_
    refine j_alen20 hX eJ7_copyOf_9075b_23 t11 ?_
    refine j_iload_n hX eJ7_copyOf_9075b_24 2 rfl ?_
    refine j_mmin hX eJ7_copyOf_9075b_25 tw_1005 tw_480 tw_21 (Nat.le_of_ble_eq_true rfl) ?_
    refine j_nmI (fun v13 ev13 => ?_)
    replace h := h v13 ev13
    obtain ⟨g14, g15, g16, g17, g18, h⟩ := h
    obtain ⟨g19, h⟩ := h
    refine j_copyb hX eJ7_copyOf_9075b_28 tw_1006 tw_478 tw_477 tw_20 t12 t11 g14 g15 g16 g17 g18 g19 (Nat.le_of_ble_eq_true rfl) ?_
    refine j_nmM (fun M20 eM20 => ?_)
    replace h := h M20 eM20
    have t21 : hp_T M20 (a0) = 20 := by rw [eM20]; exact t11
    have t22 : hp_T M20 (p7) = 20 := by rw [eM20]; exact t12
    refine j_aload_n hX eJ7_copyOf_9075b_31 0 rfl ?_
    exact j_aret hX hM eJ7_copyOf_9075b_32 rfl (by first | exact Or.inl ⟨_, rfl⟩ | exact Or.inr ⟨_, rfl⟩) h
  · replace h := h.1 c2
    refine j_aload_n hX eJ7_copyOf_9075b_6 0 rfl ?_
    exact h.elim

set_option maxHeartbeats 4000000 in
set_option maxRecDepth 20000 in
theorem vJ5_isLatin1_aae02_0 {X : am_Cx} {G : am_Gx} {d : Nat} {Q : am_Q} (hX : am_ok X rJ5_isLatin1_aae02 G (d + 1)) (hM : am_me X rJ5_isLatin1_aae02 Q) {bc bs : Nat}  {a0 : Nat} {M : am_Hp} (h : ("java/lang/String", "COMPACT_STRINGS", "Z", .int 1) ∈ gx_z G ∧ ((((1 : Int32) = 0) → (Q (.inl (some (.int (0 : Int32)))) M)) ∧ (¬ ((1 : Int32) = 0) → (hp_T M (a0) = 9 ∧ ((((hp_I M 161 a0) = 0) → (Q (.inl (some (.int (1 : Int32)))) M)) ∧ (¬ ((hp_I M 161 a0) = 0) → (Q (.inl (some (.int (0 : Int32)))) M))))))) : am_J X 0 [(0, .ref a0)] [] M bc bs := by
  obtain ⟨z1, h⟩ := h
  refine j_gets hX eJ5_isLatin1_aae02_0 z1 tw_243 ?_
  refine j_if_eq hX 17 eJ5_isLatin1_aae02_3 (by decide) (fun c2 => ?_) (fun c2 => ?_)
  · replace h := h.1 c2
    refine j_iconst (v := (0 : Int32)) hX eJ5_isLatin1_aae02_17 (by decide) ?_
    exact j_zret hX hM eJ5_isLatin1_aae02_18 rfl (by decide) h
  · replace h := h.2 c2
    refine j_aload_n hX eJ5_isLatin1_aae02_6 0 rfl ?_
    obtain ⟨t3, h⟩ := h
    refine j_getI hX eJ5_isLatin1_aae02_7 ff_java_lang_AbstractStringBuilder_22 rfl t3 (by decide) ?_
    refine j_if_ne hX 17 eJ5_isLatin1_aae02_10 (by decide) (fun c4 => ?_) (fun c4 => ?_)
    · replace h := h.2 c4
      refine j_iconst (v := (0 : Int32)) hX eJ5_isLatin1_aae02_17 (by decide) ?_
      exact j_zret hX hM eJ5_isLatin1_aae02_18 rfl (by decide) h
    · replace h := h.1 c4
      refine j_iconst (v := (1 : Int32)) hX eJ5_isLatin1_aae02_13 (by decide) ?_
      refine j_goto hX 18 eJ5_isLatin1_aae02_14 (by decide) ?_
      exact j_zret hX hM eJ5_isLatin1_aae02_18 rfl (by decide) h

set_option maxHeartbeats 4000000 in
set_option maxRecDepth 20000 in
theorem vJ1_canEncode_fc78d_0 {X : am_Cx} {G : am_Gx} {d : Nat} {Q : am_Q} (hX : am_ok X rJ1_canEncode_fc78d G (d + 1)) (hM : am_me X rJ1_canEncode_fc78d Q) {bc bs : Nat}  {a0 : Int32} {M : am_Hp} (h : (((255 : Int32) < a0) → (Q (.inl (some (.int (0 : Int32)))) M)) ∧ (¬ ((255 : Int32) < a0) → (Q (.inl (some (.int (1 : Int32)))) M))) : am_J X 0 [(0, .int a0)] [] M bc bs := by
  refine j_iload_n hX eJ1_canEncode_fc78d_0 0 rfl ?_
  refine j_sipush (v := (255 : Int32)) hX eJ1_canEncode_fc78d_1 (by decide) ?_
  refine j_icmp_gt hX 11 eJ1_canEncode_fc78d_4 (by decide) (fun c1 => ?_) (fun c1 => ?_)
  · replace h := h.1 c1
    refine j_iconst (v := (0 : Int32)) hX eJ1_canEncode_fc78d_11 (by decide) ?_
    exact j_zret hX hM eJ1_canEncode_fc78d_12 rfl (by decide) h
  · replace h := h.2 c1
    refine j_iconst (v := (1 : Int32)) hX eJ1_canEncode_fc78d_7 (by decide) ?_
    refine j_goto hX 12 eJ1_canEncode_fc78d_8 (by decide) ?_
    exact j_zret hX hM eJ1_canEncode_fc78d_12 rfl (by decide) h

set_option maxHeartbeats 4000000 in
set_option maxRecDepth 20000 in
theorem vJ4_charAt_5068e_0 {X : am_Cx} {G : am_Gx} {d : Nat} {Q : am_Q} (hX : am_ok X rJ4_charAt_5068e G (d + 1)) (hM : am_me X rJ4_charAt_5068e Q) {bc bs : Nat}  {a0 : Nat} {a1 : Int32} {M : am_Hp} (h : hp_T M (a0) = 9 ∧ (am_CT G d rJ5_charAt_5068e [.ref a0, .int a1] M 0 0 (fun oz9 M1 => ∃ v2 : Int32, oz9 = .inl (some (.int v2)) ∧ (narrow .char (.int v2) = .int v2 ∧ (Q (.inl (some (.int v2))) M1))))) : am_J X 0 [(0, .ref a0), (1, .int a1)] [] M bc bs := by
  refine j_aload_n hX eJ4_charAt_5068e_0 0 rfl ?_
  refine j_iload_n hX eJ4_charAt_5068e_1 1 rfl ?_
  obtain ⟨t3, h⟩ := h
  refine j_callSU (a := a0) (q := (RJ4, TJ4, 4)) (r' := rJ5_charAt_5068e) (As := [.int a1]) (rest := []) (d1 := d) hX eJ4_charAt_5068e_2 mm_java_lang_StringBuilder_329 rfl t3 (by decide) rfl h rfl (Nat.le_refl _) (Nat.zero_le _) (Nat.zero_le _) (Nat.le_of_ble_eq_true rfl) (fun vz9 Mz9 qz9 => ?_) (fun Ez9 Mz9 qz9 => ?_)
  · obtain ⟨M1, eMz9⟩ : ∃ M1, M1 = Mz9 := ⟨_, rfl⟩; subst eMz9
    obtain ⟨v2, hxz9, h⟩ := qz9
    cases hxz9
    obtain ⟨n4, h⟩ := h
    exact j_zret hX hM eJ4_charAt_5068e_5 rfl n4 h
  · obtain ⟨v2, hxz9, h⟩ := qz9
    cases hxz9

set_option maxHeartbeats 4000000 in
set_option maxRecDepth 20000 in
theorem vJ5_charAt_5068e_0 {X : am_Cx} {G : am_Gx} {d : Nat} {Q : am_Q} (hX : am_ok X rJ5_charAt_5068e G (d + 1)) (hM : am_me X rJ5_charAt_5068e Q) {bc bs : Nat}  {a0 : Nat} {a1 : Int32} {M : am_Hp} (h : hp_T M (a0) = 9 ∧ (∀ v2 : Int32, v2 = (hp_I M 161 a0) → (hp_R M 160 a0 ≠ 0 ∧ (∀ p4 : Nat, p4 = hp_R M 160 a0 → (hp_T M (p4) = 20 ∧ (∀ v6 : Int32, v6 = (if ((Int32.ofNat (hp_N M p4)) >>> (v2 &&& 31)) < (hp_I M 163 a0) then ((Int32.ofNat (hp_N M p4)) >>> (v2 &&& 31)) else (hp_I M 163 a0)) → (am_CT G d rJ0_checkIndex_df160 [.int a1, .int v6] M 0 0 (fun oz9 M7 => oz9 = .inl none ∧ (((v2 = 0) → (hp_T M7 (p4) = 20 ∧ (vp_in a1 (hp_N M7 p4) ∧ (narrow .char (.int (((((hp_E M7 p4 (a1).toNatClampNeg) &&& (255 : Int32))).toUInt32 % 65536).toInt32)) = .int (((((hp_E M7 p4 (a1).toNatClampNeg) &&& (255 : Int32))).toUInt32 % 65536).toInt32) ∧ (Q (.inl (some (.int (((((hp_E M7 p4 (a1).toNatClampNeg) &&& (255 : Int32))).toUInt32 % 65536).toInt32)))) M7))))) ∧ (¬ (v2 = 0) → (am_CT G d rJ2_getChar_3b067 [.ref p4, .int a1] M7 0 0 (fun oz9 M10 => ∃ v11 : Int32, oz9 = .inl (some (.int v11)) ∧ (narrow .char (.int v11) = .int v11 ∧ (Q (.inl (some (.int v11))) M10)))))))))))))) : am_J X 0 [(0, .ref a0), (1, .int a1)] [] M bc bs := by
  refine j_aload_n hX eJ5_charAt_5068e_0 0 rfl ?_
  obtain ⟨t1, h⟩ := h
  refine j_getI hX eJ5_charAt_5068e_1 ff_java_lang_AbstractStringBuilder_22 rfl t1 (by decide) ?_
  refine j_nmI (fun v2 ev2 => ?_)
  replace h := h v2 ev2
  refine j_istore_n (lv' := [(2, .int v2), (0, .ref a0), (1, .int a1)]) hX eJ5_charAt_5068e_4 rfl (by decide) rfl ?_
  refine j_aload_n hX eJ5_charAt_5068e_5 1 rfl ?_
  obtain ⟨z3, h⟩ := h
  refine j_getR hX eJ5_charAt_5068e_6 ff_java_lang_AbstractStringBuilder_15 rfl t1 (by decide) z3 ?_
  refine j_nmR (fun p4 ep4 => ?_)
  replace h := h p4 ep4
  refine j_astore_n (lv' := [(3, .ref p4), (2, .int v2), (0, .ref a0), (1, .int a1)]) hX eJ5_charAt_5068e_9 rfl (by decide) rfl ?_
  refine j_aload_n hX eJ5_charAt_5068e_10 2 rfl ?_
  refine j_getI hX eJ5_charAt_5068e_11 ff_java_lang_AbstractStringBuilder_79 rfl t1 (by decide) ?_
  refine j_aload_n hX eJ5_charAt_5068e_14 0 rfl ?_
  obtain ⟨t5, h⟩ := h
  refine j_alen20 hX eJ5_charAt_5068e_15 t5 ?_
  refine j_iload_n hX eJ5_charAt_5068e_16 1 rfl ?_
  refine j_ishr hX eJ5_charAt_5068e_17 ?_
  refine j_mmin hX eJ5_charAt_5068e_18 tw_938 tw_480 tw_21 (Nat.le_of_ble_eq_true rfl) ?_
  refine j_nmI (fun v6 ev6 => ?_)
  replace h := h v6 ev6
  refine j_istore (lv' := [(4, .int v6), (3, .ref p4), (2, .int v2), (0, .ref a0), (1, .int a1)]) hX eJ5_charAt_5068e_21 (by decide) rfl ?_
  refine j_iload_n hX eJ5_charAt_5068e_23 4 rfl ?_
  refine j_iload hX eJ5_charAt_5068e_24 0 rfl ?_
  refine j_callS (r' := rJ0_checkIndex_df160) (As := [.int a1, .int v6]) (rest := []) (d1 := d) hX eJ5_charAt_5068e_26 mm_java_lang_AbstractStringBuilder_144 rfl rfl h rfl (Nat.le_refl _) (Nat.zero_le _) (Nat.zero_le _) (Nat.le_of_ble_eq_true rfl) (fun vz9 Mz9 qz9 => ?_) (fun Ez9 Mz9 qz9 => ?_)
  · obtain ⟨M7, eMz9⟩ : ∃ M7, M7 = Mz9 := ⟨_, rfl⟩; subst eMz9
    obtain ⟨hxz9, h⟩ := qz9
    cases hxz9
    refine j_iload_n hX eJ5_charAt_5068e_29 2 rfl ?_
    refine j_if_ne hX 42 eJ5_charAt_5068e_30 (by decide) (fun c9 => ?_) (fun c9 => ?_)
    · replace h := h.2 c9
      refine j_aload_n hX eJ5_charAt_5068e_42 1 rfl ?_
      refine j_iload_n hX eJ5_charAt_5068e_43 4 rfl ?_
      refine j_callS (r' := rJ2_getChar_3b067) (As := [.ref p4, .int a1]) (rest := []) (d1 := d) hX eJ5_charAt_5068e_44 mm_java_lang_AbstractStringBuilder_148 rfl rfl h rfl (Nat.le_refl _) (Nat.zero_le _) (Nat.zero_le _) (Nat.le_of_ble_eq_true rfl) (fun vz9 Mz9 qz9 => ?_) (fun Ez9 Mz9 qz9 => ?_)
      · obtain ⟨M10, eMz9⟩ : ∃ M10, M10 = Mz9 := ⟨_, rfl⟩; subst eMz9
        obtain ⟨v11, hxz9, h⟩ := qz9
        cases hxz9
        obtain ⟨n12, h⟩ := h
        exact j_zret hX hM eJ5_charAt_5068e_47 rfl n12 h
      · obtain ⟨v11, hxz9, h⟩ := qz9
        cases hxz9
    · replace h := h.1 c9
      refine j_aload_n hX eJ5_charAt_5068e_33 1 rfl ?_
      refine j_iload_n hX eJ5_charAt_5068e_34 4 rfl ?_
      obtain ⟨t13, h⟩ := h
      obtain ⟨i14, h⟩ := h
      refine j_bald hX eJ5_charAt_5068e_35 t13 i14 ?_
      refine j_sipush (v := (255 : Int32)) hX eJ5_charAt_5068e_36 (by decide) ?_
      refine j_iand hX eJ5_charAt_5068e_39 ?_
      refine j_i2c hX eJ5_charAt_5068e_40 ?_
      obtain ⟨n15, h⟩ := h
      exact j_zret hX hM eJ5_charAt_5068e_41 rfl n15 h
  · obtain ⟨hxz9, h⟩ := qz9
    cases hxz9

set_option maxHeartbeats 4000000 in
set_option maxRecDepth 20000 in
theorem vJ3_checkIndex_8e157_0 {X : am_Cx} {G : am_Gx} {d : Nat} {Q : am_Q} (hX : am_ok X rJ3_checkIndex_8e157 G (d + 1)) (hM : am_me X rJ3_checkIndex_8e157 Q) {bc bs : Nat}  {a0 : Int32} {a1 : Int32} {a2 : Nat} {M : am_Hp} (h : ((a0 < 0) → (False)) ∧ (¬ (a0 < 0) → (((a0 < a1) → (Q (.inl (some (.int a0))) M)) ∧ (¬ (a0 < a1) → (False))))) : am_J X 0 [(0, .int a0), (1, .int a1), (2, .ref a2)] [] M bc bs := by
  refine j_iload_n hX eJ3_checkIndex_8e157_0 0 rfl ?_
  refine j_if_lt hX 9 eJ3_checkIndex_8e157_1 (by decide) (fun c1 => ?_) (fun c1 => ?_)
  · replace h := h.1 c1
    refine j_aload_n hX eJ3_checkIndex_8e157_9 2 rfl ?_
    refine j_iload_n hX eJ3_checkIndex_8e157_10 0 rfl ?_
    refine j_iload_n hX eJ3_checkIndex_8e157_11 1 rfl ?_
    exact h.elim
  · replace h := h.2 c1
    refine j_iload_n hX eJ3_checkIndex_8e157_4 0 rfl ?_
    refine j_iload_n hX eJ3_checkIndex_8e157_5 1 rfl ?_
    refine j_icmp_lt hX 16 eJ3_checkIndex_8e157_6 (by decide) (fun c2 => ?_) (fun c2 => ?_)
    · replace h := h.1 c2
      refine j_iload_n hX eJ3_checkIndex_8e157_16 0 rfl ?_
      exact j_iret hX hM eJ3_checkIndex_8e157_17 rfl h
    · replace h := h.2 c2
      refine j_aload_n hX eJ3_checkIndex_8e157_9 2 rfl ?_
      refine j_iload_n hX eJ3_checkIndex_8e157_10 0 rfl ?_
      refine j_iload_n hX eJ3_checkIndex_8e157_11 1 rfl ?_
      exact h.elim

set_option maxHeartbeats 4000000 in
set_option maxRecDepth 20000 in
theorem vJ4_length_8abf5_0 {X : am_Cx} {G : am_Gx} {d : Nat} {Q : am_Q} (hX : am_ok X rJ4_length_8abf5 G (d + 1)) (hM : am_me X rJ4_length_8abf5 Q) {bc bs : Nat}  {a0 : Nat} {M : am_Hp} (h : hp_T M (a0) = 9 ∧ (am_CT G d rJ5_length_8abf5 [.ref a0] M 0 0 (fun oz9 M1 => ∃ v2 : Int32, oz9 = .inl (some (.int v2)) ∧ (Q (.inl (some (.int v2))) M1)))) : am_J X 0 [(0, .ref a0)] [] M bc bs := by
  refine j_aload_n hX eJ4_length_8abf5_0 0 rfl ?_
  obtain ⟨t3, h⟩ := h
  refine j_callSU (a := a0) (q := (RJ4, TJ4, 4)) (r' := rJ5_length_8abf5) (As := []) (rest := []) (d1 := d) hX eJ4_length_8abf5_1 mm_java_lang_StringBuilder_343 rfl t3 (by decide) rfl h rfl (Nat.le_refl _) (Nat.zero_le _) (Nat.zero_le _) (Nat.le_of_ble_eq_true rfl) (fun vz9 Mz9 qz9 => ?_) (fun Ez9 Mz9 qz9 => ?_)
  · obtain ⟨M1, eMz9⟩ : ∃ M1, M1 = Mz9 := ⟨_, rfl⟩; subst eMz9
    obtain ⟨v2, hxz9, h⟩ := qz9
    cases hxz9
    exact j_iret hX hM eJ4_length_8abf5_4 rfl h
  · obtain ⟨v2, hxz9, h⟩ := qz9
    cases hxz9

set_option maxHeartbeats 4000000 in
set_option maxRecDepth 20000 in
theorem vJ4_setLength_d00df_0 {X : am_Cx} {G : am_Gx} {d : Nat} {Q : am_Q} (hX : am_ok X rJ4_setLength_d00df G (d + 1)) (hM : am_me X rJ4_setLength_d00df Q) {bc bs : Nat}  {a0 : Nat} {a1 : Int32} {M : am_Hp} (h : hp_T M (a0) = 9 ∧ (am_CT G d rJ5_setLength_d00df [.ref a0, .int a1] M 0 0 (fun oz9 M1 => oz9 = .inl none ∧ (Q (.inl none) M1)))) : am_J X 0 [(0, .ref a0), (1, .int a1)] [] M bc bs := by
  refine j_aload_n hX eJ4_setLength_d00df_0 0 rfl ?_
  refine j_iload_n hX eJ4_setLength_d00df_1 1 rfl ?_
  obtain ⟨t3, h⟩ := h
  refine j_callSU (a := a0) (q := (RJ4, TJ4, 4)) (r' := rJ5_setLength_d00df) (As := [.int a1]) (rest := []) (d1 := d) hX eJ4_setLength_d00df_2 mm_java_lang_StringBuilder_333 rfl t3 (by decide) rfl h rfl (Nat.le_refl _) (Nat.zero_le _) (Nat.zero_le _) (Nat.le_of_ble_eq_true rfl) (fun vz9 Mz9 qz9 => ?_) (fun Ez9 Mz9 qz9 => ?_)
  · obtain ⟨M1, eMz9⟩ : ∃ M1, M1 = Mz9 := ⟨_, rfl⟩; subst eMz9
    obtain ⟨hxz9, h⟩ := qz9
    cases hxz9
    exact j_vret hX hM eJ4_setLength_d00df_5 rfl h
  · obtain ⟨hxz9, h⟩ := qz9
    cases hxz9

set_option maxHeartbeats 4000000 in
set_option maxRecDepth 20000 in
theorem vJ5_setLength_d00df_0 {X : am_Cx} {G : am_Gx} {d : Nat} {Q : am_Q} (hX : am_ok X rJ5_setLength_d00df G (d + 1)) (hM : am_me X rJ5_setLength_d00df Q) {bc bs : Nat}  {a0 : Nat} {a1 : Int32} {M : am_Hp} (h : ((0 ≤ a1) → (hp_T M (a0) = 9 ∧ (1 ≤ bc ∧ (100 ≤ bs ∧ (am_CT G d rJ5_ensureCapacityInternal_d00df [.ref a0, .int a1] M 1 100 (fun oz9 M2 => oz9 = .inl none ∧ (hp_T M2 (a0) = 9 ∧ (((a1 ≤ (hp_I M2 163 a0)) → ((((hp_I M2 163 a0) ≤ a1) → (∀ M10 : am_Hp, M10 = hp_sI M2 163 a0 a1 → (Q (.inl none) M10))) ∧ (¬ ((hp_I M2 163 a0) ≤ a1) → (am_bo (1 : Int32) ∧ (∀ M13 : am_Hp, M13 = hp_sI M2 162 a0 (1 : Int32) → (∀ M15 : am_Hp, M15 = hp_sI M13 163 a0 a1 → (Q (.inl none) M15))))))) ∧ (¬ (a1 ≤ (hp_I M2 163 a0)) → (am_CT G d rJ5_isLatin1_aae02 [.ref a0] M2 0 0 (fun oz9 M17 => ∃ v18 : Int32, oz9 = .inl (some (.int v18)) ∧ (((v18 = 0) → (hp_T M17 (a0) = 9 ∧ (hp_R M17 160 a0 ≠ 0 ∧ (∀ p22 : Nat, p22 = hp_R M17 160 a0 → (am_CT G d rJ2_fillNull_b72d1 [.ref p22, .int (hp_I M17 163 a0), .int a1] M17 0 0 (fun oz9 M23 => oz9 = .inl none ∧ (hp_T M23 (a0) = 9 ∧ (∀ M26 : am_Hp, M26 = hp_sI M23 163 a0 a1 → (Q (.inl none) M26))))))))) ∧ (¬ (v18 = 0) → (hp_T M17 (a0) = 9 ∧ (hp_R M17 160 a0 ≠ 0 ∧ (∀ p30 : Nat, p30 = hp_R M17 160 a0 → (am_CT G d rJ1_fillNull_b72d1 [.ref p30, .int (hp_I M17 163 a0), .int a1] M17 0 0 (fun oz9 M31 => oz9 = .inl none ∧ (hp_T M31 (a0) = 9 ∧ (∀ M34 : am_Hp, M34 = hp_sI M31 163 a0 a1 → (Q (.inl none) M34))))))))))))))))))))) ∧ (¬ (0 ≤ a1) → (False))) : am_J X 0 [(0, .ref a0), (1, .int a1)] [] M bc bs := by
  refine j_iload_n hX eJ5_setLength_d00df_0 1 rfl ?_
  refine j_if_ge hX 13 eJ5_setLength_d00df_1 (by decide) (fun c1 => ?_) (fun c1 => ?_)
  · replace h := h.1 c1
    refine j_aload_n hX eJ5_setLength_d00df_13 0 rfl ?_
    refine j_iload_n hX eJ5_setLength_d00df_14 1 rfl ?_
    obtain ⟨t4, h⟩ := h
    obtain ⟨b5, b6, h⟩ := h
    refine j_callU (a := a0) (q := (RJ4, TJ4, 4)) (r' := rJ5_ensureCapacityInternal_d00df) (As := [.int a1]) (rest := []) (d1 := d) hX eJ5_setLength_d00df_15 mm_java_lang_AbstractStringBuilder_100 rfl t4 (by decide) rfl h rfl (Nat.le_refl _) b5 b6 (Nat.le_of_ble_eq_true rfl) (fun vz9 Mz9 qz9 => ?_) (fun Ez9 Mz9 qz9 => ?_)
    · obtain ⟨M2, eMz9⟩ : ∃ M2, M2 = Mz9 := ⟨_, rfl⟩; subst eMz9
      obtain ⟨hxz9, h⟩ := qz9
      cases hxz9
      refine j_aload_n hX eJ5_setLength_d00df_18 0 rfl ?_
      obtain ⟨t7, h⟩ := h
      refine j_getI hX eJ5_setLength_d00df_19 ff_java_lang_AbstractStringBuilder_79 rfl t7 (by decide) ?_
      refine j_iload_n hX eJ5_setLength_d00df_22 1 rfl ?_
      refine j_icmp_ge hX 63 eJ5_setLength_d00df_23 (by decide) (fun c8 => ?_) (fun c8 => ?_)
      · replace h := h.1 c8
        refine j_aload_n hX eJ5_setLength_d00df_63 0 rfl ?_
        refine j_getI hX eJ5_setLength_d00df_64 ff_java_lang_AbstractStringBuilder_79 rfl t7 (by decide) ?_
        refine j_iload_n hX eJ5_setLength_d00df_67 1 rfl ?_
        refine j_icmp_le hX 76 eJ5_setLength_d00df_68 (by decide) (fun c9 => ?_) (fun c9 => ?_)
        · replace h := h.1 c9
          refine j_aload_n hX eJ5_setLength_d00df_76 0 rfl ?_
          refine j_iload_n hX eJ5_setLength_d00df_77 1 rfl ?_
          refine j_putI (ty := .int) hX eJ5_setLength_d00df_78 ff_java_lang_AbstractStringBuilder_79 rfl t7 (by decide) pp_8_3 rfl rfl ?_
          refine j_nmM (fun M10 eM10 => ?_)
          replace h := h M10 eM10
          have t11 : hp_T M10 (a0) = 9 := by rw [eM10]; exact t7
          exact j_vret hX hM eJ5_setLength_d00df_81 rfl h
        · replace h := h.2 c9
          refine j_aload_n hX eJ5_setLength_d00df_71 0 rfl ?_
          refine j_iconst (v := (1 : Int32)) hX eJ5_setLength_d00df_72 (by decide) ?_
          obtain ⟨b12, h⟩ := h
          refine j_putI (ty := .boolean) hX eJ5_setLength_d00df_73 ff_java_lang_AbstractStringBuilder_73 rfl t7 (by decide) pp_8_2 (am_bo_n b12) (am_bo_f b12) ?_
          refine j_nmM (fun M13 eM13 => ?_)
          replace h := h M13 eM13
          have t14 : hp_T M13 (a0) = 9 := by rw [eM13]; exact t7
          refine j_aload_n hX eJ5_setLength_d00df_76 0 rfl ?_
          refine j_iload_n hX eJ5_setLength_d00df_77 1 rfl ?_
          refine j_putI (ty := .int) hX eJ5_setLength_d00df_78 ff_java_lang_AbstractStringBuilder_79 rfl t14 (by decide) pp_8_3 rfl rfl ?_
          refine j_nmM (fun M15 eM15 => ?_)
          replace h := h M15 eM15
          have t16 : hp_T M15 (a0) = 9 := by rw [eM15]; exact t14
          exact j_vret hX hM eJ5_setLength_d00df_81 rfl h
      · replace h := h.2 c8
        refine j_aload_n hX eJ5_setLength_d00df_26 0 rfl ?_
        refine j_callU (a := a0) (q := (RJ4, TJ4, 4)) (r' := rJ5_isLatin1_aae02) (As := []) (rest := []) (d1 := d) hX eJ5_setLength_d00df_27 mm_java_lang_AbstractStringBuilder_83 rfl t7 (by decide) rfl h rfl (Nat.le_refl _) (Nat.zero_le _) (Nat.zero_le _) (Nat.le_of_ble_eq_true rfl) (fun vz9 Mz9 qz9 => ?_) (fun Ez9 Mz9 qz9 => ?_)
        · obtain ⟨M17, eMz9⟩ : ∃ M17, M17 = Mz9 := ⟨_, rfl⟩; subst eMz9
          obtain ⟨v18, hxz9, h⟩ := qz9
          cases hxz9
          refine j_if_eq hX 48 eJ5_setLength_d00df_30 (by decide) (fun c19 => ?_) (fun c19 => ?_)
          · replace h := h.1 c19
            refine j_aload_n hX eJ5_setLength_d00df_48 0 rfl ?_
            obtain ⟨t20, h⟩ := h
            obtain ⟨z21, h⟩ := h
            refine j_getR hX eJ5_setLength_d00df_49 ff_java_lang_AbstractStringBuilder_15 rfl t20 (by decide) z21 ?_
            refine j_nmR (fun p22 ep22 => ?_)
            replace h := h p22 ep22
            refine j_aload_n hX eJ5_setLength_d00df_52 0 rfl ?_
            refine j_getI hX eJ5_setLength_d00df_53 ff_java_lang_AbstractStringBuilder_79 rfl t20 (by decide) ?_
            refine j_iload_n hX eJ5_setLength_d00df_56 1 rfl ?_
            refine j_callS (r' := rJ2_fillNull_b72d1) (As := [.ref p22, .int (hp_I M17 163 a0), .int a1]) (rest := []) (d1 := d) hX eJ5_setLength_d00df_57 mm_java_lang_AbstractStringBuilder_137 rfl rfl h rfl (Nat.le_refl _) (Nat.zero_le _) (Nat.zero_le _) (Nat.le_of_ble_eq_true rfl) (fun vz9 Mz9 qz9 => ?_) (fun Ez9 Mz9 qz9 => ?_)
            · obtain ⟨M23, eMz9⟩ : ∃ M23, M23 = Mz9 := ⟨_, rfl⟩; subst eMz9
              obtain ⟨hxz9, h⟩ := qz9
              cases hxz9
              refine j_goto hX 76 eJ5_setLength_d00df_60 (by decide) ?_
              refine j_aload_n hX eJ5_setLength_d00df_76 0 rfl ?_
              refine j_iload_n hX eJ5_setLength_d00df_77 1 rfl ?_
              obtain ⟨t25, h⟩ := h
              refine j_putI (ty := .int) hX eJ5_setLength_d00df_78 ff_java_lang_AbstractStringBuilder_79 rfl t25 (by decide) pp_8_3 rfl rfl ?_
              refine j_nmM (fun M26 eM26 => ?_)
              replace h := h M26 eM26
              have t27 : hp_T M26 (a0) = 9 := by rw [eM26]; exact t25
              exact j_vret hX hM eJ5_setLength_d00df_81 rfl h
            · obtain ⟨hxz9, h⟩ := qz9
              cases hxz9
          · replace h := h.2 c19
            refine j_aload_n hX eJ5_setLength_d00df_33 0 rfl ?_
            obtain ⟨t28, h⟩ := h
            obtain ⟨z29, h⟩ := h
            refine j_getR hX eJ5_setLength_d00df_34 ff_java_lang_AbstractStringBuilder_15 rfl t28 (by decide) z29 ?_
            refine j_nmR (fun p30 ep30 => ?_)
            replace h := h p30 ep30
            refine j_aload_n hX eJ5_setLength_d00df_37 0 rfl ?_
            refine j_getI hX eJ5_setLength_d00df_38 ff_java_lang_AbstractStringBuilder_79 rfl t28 (by decide) ?_
            refine j_iload_n hX eJ5_setLength_d00df_41 1 rfl ?_
            refine j_callS (r' := rJ1_fillNull_b72d1) (As := [.ref p30, .int (hp_I M17 163 a0), .int a1]) (rest := []) (d1 := d) hX eJ5_setLength_d00df_42 mm_java_lang_AbstractStringBuilder_133 rfl rfl h rfl (Nat.le_refl _) (Nat.zero_le _) (Nat.zero_le _) (Nat.le_of_ble_eq_true rfl) (fun vz9 Mz9 qz9 => ?_) (fun Ez9 Mz9 qz9 => ?_)
            · obtain ⟨M31, eMz9⟩ : ∃ M31, M31 = Mz9 := ⟨_, rfl⟩; subst eMz9
              obtain ⟨hxz9, h⟩ := qz9
              cases hxz9
              refine j_goto hX 76 eJ5_setLength_d00df_45 (by decide) ?_
              refine j_aload_n hX eJ5_setLength_d00df_76 0 rfl ?_
              refine j_iload_n hX eJ5_setLength_d00df_77 1 rfl ?_
              obtain ⟨t33, h⟩ := h
              refine j_putI (ty := .int) hX eJ5_setLength_d00df_78 ff_java_lang_AbstractStringBuilder_79 rfl t33 (by decide) pp_8_3 rfl rfl ?_
              refine j_nmM (fun M34 eM34 => ?_)
              replace h := h M34 eM34
              have t35 : hp_T M34 (a0) = 9 := by rw [eM34]; exact t33
              exact j_vret hX hM eJ5_setLength_d00df_81 rfl h
            · obtain ⟨hxz9, h⟩ := qz9
              cases hxz9
        · obtain ⟨v18, hxz9, h⟩ := qz9
          cases hxz9
    · obtain ⟨hxz9, h⟩ := qz9
      cases hxz9
  · replace h := h.2 c1
    exact h.elim

set_option maxHeartbeats 4000000 in
set_option maxRecDepth 20000 in
theorem vJ0_length_8abf5_0 {X : am_Cx} {G : am_Gx} {d : Nat} {Q : am_Q} (hX : am_ok X rJ0_length_8abf5 G (d + 1)) (hM : am_me X rJ0_length_8abf5 Q) {bc bs : Nat}  {a0 : Nat} {M : am_Hp} (h : hp_T M (a0) = 40 ∧ (True ∧ (∀ p3 : Nat, p3 = hp_R M 180 a0 → (hp_T M (p3) = 41 ∧ (am_CT G d rJ0_coder_7d493 [.ref a0] M 0 0 (fun oz9 M5 => ∃ v6 : Int32, oz9 = .inl (some (.int v6)) ∧ (Q (.inl (some (.int ((Int32.ofNat (hp_N M p3)) >>> (v6 &&& 31))))) M5))))))) : am_J X 0 [(0, .ref a0)] [] M bc bs := by
  refine j_aload_n hX eJ0_length_8abf5_0 0 rfl ?_
  obtain ⟨t1, h⟩ := h
  obtain ⟨z2, h⟩ := h
  refine j_getRs hX eJ0_length_8abf5_1 ff_java_lang_String_9 rfl t1 z2 ?_
  refine j_nmR (fun p3 ep3 => ?_)
  replace h := h p3 ep3
  obtain ⟨t4, h⟩ := h
  refine j_alen41 hX eJ0_length_8abf5_4 t4 ?_
  refine j_aload_n hX eJ0_length_8abf5_5 0 rfl ?_
  refine j_callVs (a := a0) (q := (RJ0, TJ0, 4)) (r' := rJ0_coder_7d493) (As := []) (rest := [.int (Int32.ofNat (hp_N M p3))]) (d1 := d) hX eJ0_length_8abf5_6 mm_java_lang_String_335 rfl t1 rfl h rfl (Nat.le_refl _) (Nat.zero_le _) (Nat.zero_le _) (Nat.le_of_ble_eq_true rfl) (fun vz9 Mz9 qz9 => ?_) (fun Ez9 Mz9 qz9 => ?_)
  · obtain ⟨M5, eMz9⟩ : ∃ M5, M5 = Mz9 := ⟨_, rfl⟩; subst eMz9
    obtain ⟨v6, hxz9, h⟩ := qz9
    cases hxz9
    refine j_ishr hX eJ0_length_8abf5_9 ?_
    exact j_iret hX hM eJ0_length_8abf5_10 rfl h
  · obtain ⟨v6, hxz9, h⟩ := qz9
    cases hxz9

set_option maxHeartbeats 4000000 in
set_option maxRecDepth 20000 in
theorem vJ0_coder_7d493_0 {X : am_Cx} {G : am_Gx} {d : Nat} {Q : am_Q} (hX : am_ok X rJ0_coder_7d493 G (d + 1)) (hM : am_me X rJ0_coder_7d493 Q) {bc bs : Nat}  {a0 : Nat} {M : am_Hp} (h : ("java/lang/String", "COMPACT_STRINGS", "Z", .int 1) ∈ gx_z G ∧ ((((1 : Int32) = 0) → (narrow .byte (.int (1 : Int32)) = .int (1 : Int32) ∧ (Q (.inl (some (.int (1 : Int32)))) M))) ∧ (¬ ((1 : Int32) = 0) → (hp_T M (a0) = 40 ∧ (narrow .byte (.int (hp_I M 181 a0)) = .int (hp_I M 181 a0) ∧ (Q (.inl (some (.int (hp_I M 181 a0)))) M)))))) : am_J X 0 [(0, .ref a0)] [] M bc bs := by
  obtain ⟨z1, h⟩ := h
  refine j_gets hX eJ0_coder_7d493_0 z1 tw_881 ?_
  refine j_if_eq hX 13 eJ0_coder_7d493_3 (by decide) (fun c2 => ?_) (fun c2 => ?_)
  · replace h := h.1 c2
    refine j_iconst (v := (1 : Int32)) hX eJ0_coder_7d493_13 (by decide) ?_
    obtain ⟨n3, h⟩ := h
    exact j_zret hX hM eJ0_coder_7d493_14 rfl n3 h
  · replace h := h.2 c2
    refine j_aload_n hX eJ0_coder_7d493_6 0 rfl ?_
    obtain ⟨t4, h⟩ := h
    refine j_getIs hX eJ0_coder_7d493_7 ff_java_lang_String_15 rfl t4 ?_
    refine j_goto hX 14 eJ0_coder_7d493_10 (by decide) ?_
    obtain ⟨n5, h⟩ := h
    exact j_zret hX hM eJ0_coder_7d493_14 rfl n5 h

set_option maxHeartbeats 4000000 in
set_option maxRecDepth 20000 in
theorem vJ0_charAt_5068e_0 {X : am_Cx} {G : am_Gx} {d : Nat} {Q : am_Q} (hX : am_ok X rJ0_charAt_5068e G (d + 1)) (hM : am_me X rJ0_charAt_5068e Q) {bc bs : Nat}  {a0 : Nat} {a1 : Int32} {M : am_Hp} (h : hp_T M (a0) = 40 ∧ (am_CT G d rJ0_isLatin1_aae02 [.ref a0] M 0 0 (fun oz9 M1 => ∃ v2 : Int32, oz9 = .inl (some (.int v2)) ∧ (((v2 = 0) → (hp_T M1 (a0) = 40 ∧ (True ∧ (∀ p7 : Nat, p7 = hp_R M1 180 a0 → (am_CT G d rJ2_charAt_3b067 [.ref p7, .int a1] M1 0 0 (fun oz9 M8 => ∃ v9 : Int32, oz9 = .inl (some (.int v9)) ∧ (narrow .char (.int v9) = .int v9 ∧ (Q (.inl (some (.int v9))) M8)))))))) ∧ (¬ (v2 = 0) → (hp_T M1 (a0) = 40 ∧ (True ∧ (∀ p13 : Nat, p13 = hp_R M1 180 a0 → (am_CT G d rJ1_charAt_3b067 [.ref p13, .int a1] M1 0 0 (fun oz9 M14 => ∃ v15 : Int32, oz9 = .inl (some (.int v15)) ∧ (narrow .char (.int v15) = .int v15 ∧ (Q (.inl (some (.int v15))) M14)))))))))))) : am_J X 0 [(0, .ref a0), (1, .int a1)] [] M bc bs := by
  refine j_aload_n hX eJ0_charAt_5068e_0 0 rfl ?_
  obtain ⟨t3, h⟩ := h
  refine j_callVs (a := a0) (q := (RJ0, TJ0, 4)) (r' := rJ0_isLatin1_aae02) (As := []) (rest := []) (d1 := d) hX eJ0_charAt_5068e_1 mm_java_lang_String_492 rfl t3 rfl h rfl (Nat.le_refl _) (Nat.zero_le _) (Nat.zero_le _) (Nat.le_of_ble_eq_true rfl) (fun vz9 Mz9 qz9 => ?_) (fun Ez9 Mz9 qz9 => ?_)
  · obtain ⟨M1, eMz9⟩ : ∃ M1, M1 = Mz9 := ⟨_, rfl⟩; subst eMz9
    obtain ⟨v2, hxz9, h⟩ := qz9
    cases hxz9
    refine j_if_eq hX 16 eJ0_charAt_5068e_4 (by decide) (fun c4 => ?_) (fun c4 => ?_)
    · replace h := h.1 c4
      refine j_aload_n hX eJ0_charAt_5068e_16 0 rfl ?_
      obtain ⟨t5, h⟩ := h
      obtain ⟨z6, h⟩ := h
      refine j_getRs hX eJ0_charAt_5068e_17 ff_java_lang_String_9 rfl t5 z6 ?_
      refine j_nmR (fun p7 ep7 => ?_)
      replace h := h p7 ep7
      refine j_iload_n hX eJ0_charAt_5068e_20 1 rfl ?_
      refine j_callS (r' := rJ2_charAt_3b067) (As := [.ref p7, .int a1]) (rest := []) (d1 := d) hX eJ0_charAt_5068e_21 mm_java_lang_String_498 rfl rfl h rfl (Nat.le_refl _) (Nat.zero_le _) (Nat.zero_le _) (Nat.le_of_ble_eq_true rfl) (fun vz9 Mz9 qz9 => ?_) (fun Ez9 Mz9 qz9 => ?_)
      · obtain ⟨M8, eMz9⟩ : ∃ M8, M8 = Mz9 := ⟨_, rfl⟩; subst eMz9
        obtain ⟨v9, hxz9, h⟩ := qz9
        cases hxz9
        obtain ⟨n10, h⟩ := h
        exact j_zret hX hM eJ0_charAt_5068e_24 rfl n10 h
      · obtain ⟨v9, hxz9, h⟩ := qz9
        cases hxz9
    · replace h := h.2 c4
      refine j_aload_n hX eJ0_charAt_5068e_7 0 rfl ?_
      obtain ⟨t11, h⟩ := h
      obtain ⟨z12, h⟩ := h
      refine j_getRs hX eJ0_charAt_5068e_8 ff_java_lang_String_9 rfl t11 z12 ?_
      refine j_nmR (fun p13 ep13 => ?_)
      replace h := h p13 ep13
      refine j_iload_n hX eJ0_charAt_5068e_11 1 rfl ?_
      refine j_callS (r' := rJ1_charAt_3b067) (As := [.ref p13, .int a1]) (rest := []) (d1 := d) hX eJ0_charAt_5068e_12 mm_java_lang_String_495 rfl rfl h rfl (Nat.le_refl _) (Nat.zero_le _) (Nat.zero_le _) (Nat.le_of_ble_eq_true rfl) (fun vz9 Mz9 qz9 => ?_) (fun Ez9 Mz9 qz9 => ?_)
      · obtain ⟨M14, eMz9⟩ : ∃ M14, M14 = Mz9 := ⟨_, rfl⟩; subst eMz9
        obtain ⟨v15, hxz9, h⟩ := qz9
        cases hxz9
        obtain ⟨n16, h⟩ := h
        exact j_zret hX hM eJ0_charAt_5068e_15 rfl n16 h
      · obtain ⟨v15, hxz9, h⟩ := qz9
        cases hxz9
  · obtain ⟨v2, hxz9, h⟩ := qz9
    cases hxz9

set_option maxHeartbeats 4000000 in
set_option maxRecDepth 20000 in
theorem vJ0_isLatin1_aae02_0 {X : am_Cx} {G : am_Gx} {d : Nat} {Q : am_Q} (hX : am_ok X rJ0_isLatin1_aae02 G (d + 1)) (hM : am_me X rJ0_isLatin1_aae02 Q) {bc bs : Nat}  {a0 : Nat} {M : am_Hp} (h : ("java/lang/String", "COMPACT_STRINGS", "Z", .int 1) ∈ gx_z G ∧ ((((1 : Int32) = 0) → (Q (.inl (some (.int (0 : Int32)))) M)) ∧ (¬ ((1 : Int32) = 0) → (hp_T M (a0) = 40 ∧ ((((hp_I M 181 a0) = 0) → (Q (.inl (some (.int (1 : Int32)))) M)) ∧ (¬ ((hp_I M 181 a0) = 0) → (Q (.inl (some (.int (0 : Int32)))) M))))))) : am_J X 0 [(0, .ref a0)] [] M bc bs := by
  obtain ⟨z1, h⟩ := h
  refine j_gets hX eJ0_isLatin1_aae02_0 z1 tw_881 ?_
  refine j_if_eq hX 17 eJ0_isLatin1_aae02_3 (by decide) (fun c2 => ?_) (fun c2 => ?_)
  · replace h := h.1 c2
    refine j_iconst (v := (0 : Int32)) hX eJ0_isLatin1_aae02_17 (by decide) ?_
    exact j_zret hX hM eJ0_isLatin1_aae02_18 rfl (by decide) h
  · replace h := h.2 c2
    refine j_aload_n hX eJ0_isLatin1_aae02_6 0 rfl ?_
    obtain ⟨t3, h⟩ := h
    refine j_getIs hX eJ0_isLatin1_aae02_7 ff_java_lang_String_15 rfl t3 ?_
    refine j_if_ne hX 17 eJ0_isLatin1_aae02_10 (by decide) (fun c4 => ?_) (fun c4 => ?_)
    · replace h := h.2 c4
      refine j_iconst (v := (0 : Int32)) hX eJ0_isLatin1_aae02_17 (by decide) ?_
      exact j_zret hX hM eJ0_isLatin1_aae02_18 rfl (by decide) h
    · replace h := h.1 c4
      refine j_iconst (v := (1 : Int32)) hX eJ0_isLatin1_aae02_13 (by decide) ?_
      refine j_goto hX 18 eJ0_isLatin1_aae02_14 (by decide) ?_
      exact j_zret hX hM eJ0_isLatin1_aae02_18 rfl (by decide) h

set_option maxHeartbeats 4000000 in
set_option maxRecDepth 20000 in
theorem vJ1_charAt_3b067_0 {X : am_Cx} {G : am_Gx} {d : Nat} {Q : am_Q} (hX : am_ok X rJ1_charAt_3b067 G (d + 1)) (hM : am_me X rJ1_charAt_3b067 Q) {bc bs : Nat}  {a0 : Nat} {a1 : Int32} {M : am_Hp} (h : hp_T M (a0) = 41 ∧ (am_CT G d rJ0_checkIndex_df160 [.int a1, .int (Int32.ofNat (hp_N M a0))] M 0 0 (fun oz9 M2 => oz9 = .inl none ∧ (hp_T M2 (a0) = 41 ∧ (vp_in a1 (hp_N M2 a0) ∧ (narrow .char (.int (((((hp_E M2 a0 (a1).toNatClampNeg) &&& (255 : Int32))).toUInt32 % 65536).toInt32)) = .int (((((hp_E M2 a0 (a1).toNatClampNeg) &&& (255 : Int32))).toUInt32 % 65536).toInt32) ∧ (Q (.inl (some (.int (((((hp_E M2 a0 (a1).toNatClampNeg) &&& (255 : Int32))).toUInt32 % 65536).toInt32)))) M2))))))) : am_J X 0 [(0, .ref a0), (1, .int a1)] [] M bc bs := by
  refine j_iload_n hX eJ1_charAt_3b067_0 1 rfl ?_
  refine j_aload_n hX eJ1_charAt_3b067_1 0 rfl ?_
  obtain ⟨t1, h⟩ := h
  refine j_alen41 hX eJ1_charAt_3b067_2 t1 ?_
  refine j_callS (r' := rJ0_checkIndex_df160) (As := [.int a1, .int (Int32.ofNat (hp_N M a0))]) (rest := []) (d1 := d) hX eJ1_charAt_3b067_3 mm_java_lang_StringLatin1_9 rfl rfl h rfl (Nat.le_refl _) (Nat.zero_le _) (Nat.zero_le _) (Nat.le_of_ble_eq_true rfl) (fun vz9 Mz9 qz9 => ?_) (fun Ez9 Mz9 qz9 => ?_)
  · obtain ⟨M2, eMz9⟩ : ∃ M2, M2 = Mz9 := ⟨_, rfl⟩; subst eMz9
    obtain ⟨hxz9, h⟩ := qz9
    cases hxz9
    refine j_aload_n hX eJ1_charAt_3b067_6 0 rfl ?_
    refine j_iload_n hX eJ1_charAt_3b067_7 1 rfl ?_
    obtain ⟨t4, h⟩ := h
    obtain ⟨i5, h⟩ := h
    refine j_baldx hX eJ1_charAt_3b067_8 t4 i5 ?_
    refine j_sipush (v := (255 : Int32)) hX eJ1_charAt_3b067_9 (by decide) ?_
    refine j_iand hX eJ1_charAt_3b067_12 ?_
    refine j_i2c hX eJ1_charAt_3b067_13 ?_
    obtain ⟨n6, h⟩ := h
    exact j_zret hX hM eJ1_charAt_3b067_14 rfl n6 h
  · obtain ⟨hxz9, h⟩ := qz9
    cases hxz9

set_option maxHeartbeats 4000000 in
set_option maxRecDepth 20000 in
theorem vJ0_checkIndex_df160_0 {X : am_Cx} {G : am_Gx} {d : Nat} {Q : am_Q} (hX : am_ok X rJ0_checkIndex_df160 G (d + 1)) (hM : am_me X rJ0_checkIndex_df160 Q) {bc bs : Nat}  {a0 : Int32} {a1 : Int32} {M : am_Hp} (h : ∃ p2 : Nat, ("jdk/internal/util/Preconditions", "SIOOBE_FORMATTER", "Ljava/util/function/BiFunction;", .ref p2) ∈ gx_z G ∧ (am_CT G d rJ3_checkIndex_8e157 [.int a0, .int a1, .ref p2] M 0 0 (fun oz9 M3 => ∃ v4 : Int32, oz9 = .inl (some (.int v4)) ∧ (Q (.inl none) M3)))) : am_J X 0 [(0, .int a0), (1, .int a1)] [] M bc bs := by
  refine j_iload_n hX eJ0_checkIndex_df160_0 0 rfl ?_
  refine j_iload_n hX eJ0_checkIndex_df160_1 1 rfl ?_
  obtain ⟨p2, z1, h⟩ := h
  refine j_gets hX eJ0_checkIndex_df160_2 z1 tw_896 ?_
  refine j_callS (r' := rJ3_checkIndex_8e157) (As := [.int a0, .int a1, .ref p2]) (rest := []) (d1 := d) hX eJ0_checkIndex_df160_5 mm_java_lang_String_1059 rfl rfl h rfl (Nat.le_refl _) (Nat.zero_le _) (Nat.zero_le _) (Nat.le_of_ble_eq_true rfl) (fun vz9 Mz9 qz9 => ?_) (fun Ez9 Mz9 qz9 => ?_)
  · obtain ⟨M3, eMz9⟩ : ∃ M3, M3 = Mz9 := ⟨_, rfl⟩; subst eMz9
    obtain ⟨v4, hxz9, h⟩ := qz9
    cases hxz9
    refine j_pop hX eJ0_checkIndex_df160_8 rfl ?_
    exact j_vret hX hM eJ0_checkIndex_df160_9 rfl h
  · obtain ⟨v4, hxz9, h⟩ := qz9
    cases hxz9

set_option maxHeartbeats 4000000 in
set_option maxRecDepth 20000 in
theorem vJxa1e45_init_da8c8_0 {X : am_Cx} {G : am_Gx} {d : Nat} {Q : am_Q} (hX : am_ok X rJxa1e45_init_da8c8 G (d + 1)) (hM : am_me X rJxa1e45_init_da8c8 Q) {bc bs : Nat}  {a0 : Nat} {M : am_Hp} (h : Q (.inl none) M) : am_J X 0 [(0, .ref a0)] [] M bc bs := by
  refine j_aload_n hX eJxa1e45_init_da8c8_0 0 rfl ?_
  refine j_objInit hX eJxa1e45_init_da8c8_1 tw_1330 tw_41 tw_42 (Nat.le_of_ble_eq_true rfl) ?_
  exact j_vret hX hM eJxa1e45_init_da8c8_4 rfl h

set_option maxHeartbeats 4000000 in
set_option maxRecDepth 20000 in
theorem vJxc12de_init_da8c8_0 {X : am_Cx} {G : am_Gx} {d : Nat} {Q : am_Q} (hX : am_ok X rJxc12de_init_da8c8 G (d + 1)) (hM : am_me X rJxc12de_init_da8c8 Q) {bc bs : Nat}  {a0 : Nat} {M : am_Hp} (h : am_CT G d rJxa1e45_init_da8c8 [.ref a0] M 0 0 (fun oz9 M1 => oz9 = .inl none ∧ (hp_T M1 (a0) = 8 ∧ (∀ M4 : am_Hp, M4 = hp_sI M1 140 a0 (0 : Int32) → (Q (.inl none) M4))))) : am_J X 0 [(0, .ref a0)] [] M bc bs := by
  refine j_aload_n hX eJxc12de_init_da8c8_0 0 rfl ?_
  refine j_callI (a := a0) (r' := rJxa1e45_init_da8c8) (As := []) (rest := []) (d1 := d) hX eJxc12de_init_da8c8_1 mm_java_util_AbstractList_1 rfl h rfl (Nat.le_refl _) (Nat.zero_le _) (Nat.zero_le _) (Nat.le_of_ble_eq_true rfl) (fun vz9 Mz9 qz9 => ?_) (fun Ez9 Mz9 qz9 => ?_)
  · obtain ⟨M1, eMz9⟩ : ∃ M1, M1 = Mz9 := ⟨_, rfl⟩; subst eMz9
    obtain ⟨hxz9, h⟩ := qz9
    cases hxz9
    refine j_aload_n hX eJxc12de_init_da8c8_4 0 rfl ?_
    refine j_iconst (v := (0 : Int32)) hX eJxc12de_init_da8c8_5 (by decide) ?_
    obtain ⟨t3, h⟩ := h
    refine j_putI (ty := .int) hX eJxc12de_init_da8c8_6 ff_java_util_AbstractList_7 rfl t3 (by decide) pp_7_0 rfl rfl ?_
    refine j_nmM (fun M4 eM4 => ?_)
    replace h := h M4 eM4
    have t5 : hp_T M4 (a0) = 8 := by rw [eM4]; exact t3
    exact j_vret hX hM eJxc12de_init_da8c8_9 rfl h
  · obtain ⟨hxz9, h⟩ := qz9
    cases hxz9

set_option maxHeartbeats 4000000 in
set_option maxRecDepth 20000 in
theorem vJx4a65c_init_da8c8_0 {X : am_Cx} {G : am_Gx} {d : Nat} {Q : am_Q} (hX : am_ok X rJx4a65c_init_da8c8 G (d + 1)) (hM : am_me X rJx4a65c_init_da8c8 Q) {bc bs : Nat}  {a0 : Nat} {M : am_Hp} (h : am_CT G d rJxc12de_init_da8c8 [.ref a0] M 0 0 (fun oz9 M1 => oz9 = .inl none ∧ (∃ p4 : Nat, ("java/util/ArrayList", "DEFAULTCAPACITY_EMPTY_ELEMENTDATA", "[Ljava/lang/Object;", .ref p4) ∈ gx_z G ∧ (hp_T M1 (a0) = 8 ∧ (∀ M6 : am_Hp, M6 = hp_sR M1 141 a0 (p4 + 1) → (Q (.inl none) M6)))))) : am_J X 0 [(0, .ref a0)] [] M bc bs := by
  refine j_aload_n hX eJx4a65c_init_da8c8_0 0 rfl ?_
  refine j_callI (a := a0) (r' := rJxc12de_init_da8c8) (As := []) (rest := []) (d1 := d) hX eJx4a65c_init_da8c8_1 mm_java_util_ArrayList_1 rfl h rfl (Nat.le_refl _) (Nat.zero_le _) (Nat.zero_le _) (Nat.le_of_ble_eq_true rfl) (fun vz9 Mz9 qz9 => ?_) (fun Ez9 Mz9 qz9 => ?_)
  · obtain ⟨M1, eMz9⟩ : ∃ M1, M1 = Mz9 := ⟨_, rfl⟩; subst eMz9
    obtain ⟨hxz9, h⟩ := qz9
    cases hxz9
    refine j_aload_n hX eJx4a65c_init_da8c8_4 0 rfl ?_
    obtain ⟨p4, z3, h⟩ := h
    refine j_gets hX eJx4a65c_init_da8c8_5 z3 tw_1331 ?_
    obtain ⟨t5, h⟩ := h
    refine j_putRL (ty := .array (.object "java/lang/Object")) hX eJx4a65c_init_da8c8_8 ff_java_util_ArrayList_9 t5 pp_7_1 rfl rfl ?_
    refine j_nmM (fun M6 eM6 => ?_)
    replace h := h M6 eM6
    have t7 : hp_T M6 (a0) = 8 := by rw [eM6]; exact t5
    exact j_vret hX hM eJx4a65c_init_da8c8_11 rfl h
  · obtain ⟨hxz9, h⟩ := qz9
    cases hxz9

set_option maxHeartbeats 4000000 in
set_option maxRecDepth 20000 in
theorem vJx4a65c_grow_92f84_0 {X : am_Cx} {G : am_Gx} {d : Nat} {Q : am_Q} (hX : am_ok X rJx4a65c_grow_92f84 G (d + 1)) (hM : am_me X rJx4a65c_grow_92f84 Q) {bc bs : Nat}  {a0 : Nat} {a1 : Int32} {M : am_Hp} (h : hp_T M (a0) = 8 ∧ (hp_R M 141 a0 ≠ 0 ∧ (∀ p3 : Nat, p3 = hp_R M 141 a0 - 1 → ((hp_T M (p3) = 29 ∨ hp_T M (p3) = 43) ∧ (∀ v5 : Int32, v5 = (Int32.ofNat (hp_N M p3)) → (((0 < v5) → (am_CT G d rJ8_newLength_cabcc [.int v5, .int (a1 - v5), .int (v5 >>> ((1 : Int32) &&& 31))] M 0 0 (fun oz9 M7 => ∃ v8 : Int32, oz9 = .inl (some (.int v8)) ∧ (hp_T M7 (a0) = 8 ∧ (hp_R M7 141 a0 ≠ 0 ∧ (∀ p11 : Nat, p11 = hp_R M7 141 a0 - 1 → (1 ≤ bc ∧ (15 ≤ bs ∧ (am_CT G d rJ7_copyOf_1904c [.ref p11, .int v8] M7 1 15 (fun oz9 M12 => ∃ p13 : Nat, oz9 = .inl (some (.ref p13)) ∧ (hp_T M12 (a0) = 8 ∧ (∀ M17 : am_Hp, M17 = hp_sR M12 141 a0 (p13 + 1) → (Q (.inl (some (.ref p13))) M17))))))))))))) ∧ (¬ (0 < v5) → (hp_R M 141 a0 ≠ 0 ∧ (∀ p20 : Nat, p20 = hp_R M 141 a0 - 1 → (∃ p22 : Nat, ("java/util/ArrayList", "DEFAULTCAPACITY_EMPTY_ELEMENTDATA", "[Ljava/lang/Object;", .ref p22) ∈ gx_z G ∧ (((p20 = p22) → (∀ v24 : Int32, v24 = (if (10 : Int32) < a1 then a1 else (10 : Int32)) → (¬ v24 < 0 ∧ ((v24).toNatClampNeg * 4 ≤ 536870912 ∧ (1 ≤ bc ∧ ((v24).toNatClampNeg ≤ bs ∧ (∀ p29 : Nat, hp_T M p29 = 0 → p29 ≠ 0 → (∀ M32 : am_Hp, M32 = hp_a M p29 29 (v24).toNatClampNeg → (∀ M35 : am_Hp, M35 = hp_sR M32 141 a0 (p29 + 1) → (Q (.inl (some (.ref p29))) M35)))))))))) ∧ (¬ (p20 = p22) → (am_CT G d rJ8_newLength_cabcc [.int v5, .int (a1 - v5), .int (v5 >>> ((1 : Int32) &&& 31))] M 0 0 (fun oz9 M38 => ∃ v39 : Int32, oz9 = .inl (some (.int v39)) ∧ (hp_T M38 (a0) = 8 ∧ (hp_R M38 141 a0 ≠ 0 ∧ (∀ p42 : Nat, p42 = hp_R M38 141 a0 - 1 → (1 ≤ bc ∧ (15 ≤ bs ∧ (am_CT G d rJ7_copyOf_1904c [.ref p42, .int v39] M38 1 15 (fun oz9 M43 => ∃ p44 : Nat, oz9 = .inl (some (.ref p44)) ∧ (hp_T M43 (a0) = 8 ∧ (∀ M48 : am_Hp, M48 = hp_sR M43 141 a0 (p44 + 1) → (Q (.inl (some (.ref p44))) M48)))))))))))))))))))))))) : am_J X 0 [(0, .ref a0), (1, .int a1)] [] M bc bs := by
  refine j_aload_n hX eJx4a65c_grow_92f84_0 0 rfl ?_
  obtain ⟨t1, h⟩ := h
  obtain ⟨z2, h⟩ := h
  refine j_getRL hX eJx4a65c_grow_92f84_1 ff_java_util_ArrayList_9 t1 z2 ?_
  refine j_nmR (fun p3 ep3 => ?_)
  replace h := h p3 ep3
  obtain ⟨t4, h⟩ := h
  refine j_alenL hX eJx4a65c_grow_92f84_4 t4 ?_
  refine j_nmI (fun v5 ev5 => ?_)
  replace h := h v5 ev5
  refine j_istore_n (lv' := [(2, .int v5), (0, .ref a0), (1, .int a1)]) hX eJx4a65c_grow_92f84_5 rfl (by decide) rfl ?_
  refine j_iload_n hX eJx4a65c_grow_92f84_6 0 rfl ?_
  refine j_if_gt hX 20 eJx4a65c_grow_92f84_7 (by decide) (fun c6 => ?_) (fun c6 => ?_)
  · replace h := h.1 c6
    refine j_iload_n hX eJx4a65c_grow_92f84_20 0 rfl ?_
    refine j_iload_n hX eJx4a65c_grow_92f84_21 2 rfl ?_
    refine j_iload_n hX eJx4a65c_grow_92f84_22 0 rfl ?_
    refine j_isub hX eJx4a65c_grow_92f84_23 ?_
    refine j_iload_n hX eJx4a65c_grow_92f84_24 0 rfl ?_
    refine j_iconst (v := (1 : Int32)) hX eJx4a65c_grow_92f84_25 (by decide) ?_
    refine j_ishr hX eJx4a65c_grow_92f84_26 ?_
    refine j_callS (r' := rJ8_newLength_cabcc) (As := [.int v5, .int (a1 - v5), .int (v5 >>> ((1 : Int32) &&& 31))]) (rest := []) (d1 := d) hX eJx4a65c_grow_92f84_27 mm_java_util_ArrayList_73 rfl rfl h rfl (Nat.le_refl _) (Nat.zero_le _) (Nat.zero_le _) (Nat.le_of_ble_eq_true rfl) (fun vz9 Mz9 qz9 => ?_) (fun Ez9 Mz9 qz9 => ?_)
    · obtain ⟨M7, eMz9⟩ : ∃ M7, M7 = Mz9 := ⟨_, rfl⟩; subst eMz9
      obtain ⟨v8, hxz9, h⟩ := qz9
      cases hxz9
      refine j_istore_n (lv' := [(3, .int v8), (2, .int v5), (0, .ref a0), (1, .int a1)]) hX eJx4a65c_grow_92f84_30 rfl (by decide) rfl ?_
      refine j_aload_n hX eJx4a65c_grow_92f84_31 2 rfl ?_
      refine j_aload_n hX eJx4a65c_grow_92f84_32 2 rfl ?_
      obtain ⟨t9, h⟩ := h
      obtain ⟨z10, h⟩ := h
      refine j_getRL hX eJx4a65c_grow_92f84_33 ff_java_util_ArrayList_9 t9 z10 ?_
      refine j_nmR (fun p11 ep11 => ?_)
      replace h := h p11 ep11
      refine j_iload_n hX eJx4a65c_grow_92f84_36 0 rfl ?_
      obtain ⟨b14, b15, h⟩ := h
      refine j_callS (r' := rJ7_copyOf_1904c) (As := [.ref p11, .int v8]) (rest := [.ref a0]) (d1 := d) hX eJx4a65c_grow_92f84_37 mm_java_util_ArrayList_66 rfl rfl h rfl (Nat.le_refl _) b14 b15 (Nat.le_of_ble_eq_true rfl) (fun vz9 Mz9 qz9 => ?_) (fun Ez9 Mz9 qz9 => ?_)
      · obtain ⟨M12, eMz9⟩ : ∃ M12, M12 = Mz9 := ⟨_, rfl⟩; subst eMz9
        obtain ⟨p13, hxz9, h⟩ := qz9
        cases hxz9
        refine j_dup_x1 hX eJx4a65c_grow_92f84_40 rfl rfl ?_
        obtain ⟨t16, h⟩ := h
        refine j_putRL (ty := .array (.object "java/lang/Object")) hX eJx4a65c_grow_92f84_41 ff_java_util_ArrayList_9 t16 pp_7_1 rfl rfl ?_
        refine j_nmM (fun M17 eM17 => ?_)
        replace h := h M17 eM17
        have t18 : hp_T M17 (a0) = 8 := by rw [eM17]; exact t16
        exact j_aret hX hM eJx4a65c_grow_92f84_44 rfl (by first | exact Or.inl ⟨_, rfl⟩ | exact Or.inr ⟨_, rfl⟩) h
      · obtain ⟨p13, hxz9, h⟩ := qz9
        cases hxz9
    · obtain ⟨v8, hxz9, h⟩ := qz9
      cases hxz9
  · replace h := h.2 c6
    refine j_aload_n hX eJx4a65c_grow_92f84_10 1 rfl ?_
    obtain ⟨z19, h⟩ := h
    refine j_getRL hX eJx4a65c_grow_92f84_11 ff_java_util_ArrayList_9 t1 z19 ?_
    refine j_nmR (fun p20 ep20 => ?_)
    replace h := h p20 ep20
    obtain ⟨p22, z21, h⟩ := h
    refine j_gets hX eJx4a65c_grow_92f84_14 z21 tw_1331 ?_
    refine j_acmp_eq hX 45 eJx4a65c_grow_92f84_17 (by decide) (fun c23 => ?_) (fun c23 => ?_)
    · replace h := h.1 c23
      refine j_aload_n hX eJx4a65c_grow_92f84_45 1 rfl ?_
      refine j_bipush (v := (10 : Int32)) hX eJx4a65c_grow_92f84_46 (by decide) ?_
      refine j_iload_n hX eJx4a65c_grow_92f84_48 2 rfl ?_
      refine j_mmax hX eJx4a65c_grow_92f84_49 tw_1413 tw_950 tw_21 (Nat.le_of_ble_eq_true rfl) ?_
      refine j_nmI (fun v24 ev24 => ?_)
      replace h := h v24 ev24
      obtain ⟨n25, n26, b27, b28, h⟩ := h
      refine j_anew29 hX eJx4a65c_grow_92f84_52 tw_1414 tn_1411 n25 n26 b27 b28 (fun p29 o30 z31 => ?_)
      replace h := h p29 o30 z31
      refine j_nmM (fun M32 eM32 => ?_)
      replace h := h M32 eM32
      have t33 : hp_T M32 (a0) = 8 := by rw [eM32]; exact (hp_Ta o30 t1 (by decide)).trans rfl
      have t34 : hp_T M32 (p29) = 29 := by rw [eM32]; exact hp_Tna
      refine j_dup_x1 hX eJx4a65c_grow_92f84_55 rfl rfl ?_
      refine j_putRL (ty := .array (.object "java/lang/Object")) hX eJx4a65c_grow_92f84_56 ff_java_util_ArrayList_9 t33 pp_7_1 rfl rfl ?_
      refine j_nmM (fun M35 eM35 => ?_)
      replace h := h M35 eM35
      have t36 : hp_T M35 (a0) = 8 := by rw [eM35]; exact t33
      have t37 : hp_T M35 (p29) = 29 := by rw [eM35]; exact t34
      exact j_aret hX hM eJx4a65c_grow_92f84_59 rfl (by first | exact Or.inl ⟨_, rfl⟩ | exact Or.inr ⟨_, rfl⟩) h
    · replace h := h.2 c23
      refine j_iload_n hX eJx4a65c_grow_92f84_20 0 rfl ?_
      refine j_iload_n hX eJx4a65c_grow_92f84_21 2 rfl ?_
      refine j_iload_n hX eJx4a65c_grow_92f84_22 0 rfl ?_
      refine j_isub hX eJx4a65c_grow_92f84_23 ?_
      refine j_iload_n hX eJx4a65c_grow_92f84_24 0 rfl ?_
      refine j_iconst (v := (1 : Int32)) hX eJx4a65c_grow_92f84_25 (by decide) ?_
      refine j_ishr hX eJx4a65c_grow_92f84_26 ?_
      refine j_callS (r' := rJ8_newLength_cabcc) (As := [.int v5, .int (a1 - v5), .int (v5 >>> ((1 : Int32) &&& 31))]) (rest := []) (d1 := d) hX eJx4a65c_grow_92f84_27 mm_java_util_ArrayList_73 rfl rfl h rfl (Nat.le_refl _) (Nat.zero_le _) (Nat.zero_le _) (Nat.le_of_ble_eq_true rfl) (fun vz9 Mz9 qz9 => ?_) (fun Ez9 Mz9 qz9 => ?_)
      · obtain ⟨M38, eMz9⟩ : ∃ M38, M38 = Mz9 := ⟨_, rfl⟩; subst eMz9
        obtain ⟨v39, hxz9, h⟩ := qz9
        cases hxz9
        refine j_istore_n (lv' := [(3, .int v39), (2, .int v5), (0, .ref a0), (1, .int a1)]) hX eJx4a65c_grow_92f84_30 rfl (by decide) rfl ?_
        refine j_aload_n hX eJx4a65c_grow_92f84_31 2 rfl ?_
        refine j_aload_n hX eJx4a65c_grow_92f84_32 2 rfl ?_
        obtain ⟨t40, h⟩ := h
        obtain ⟨z41, h⟩ := h
        refine j_getRL hX eJx4a65c_grow_92f84_33 ff_java_util_ArrayList_9 t40 z41 ?_
        refine j_nmR (fun p42 ep42 => ?_)
        replace h := h p42 ep42
        refine j_iload_n hX eJx4a65c_grow_92f84_36 0 rfl ?_
        obtain ⟨b45, b46, h⟩ := h
        refine j_callS (r' := rJ7_copyOf_1904c) (As := [.ref p42, .int v39]) (rest := [.ref a0]) (d1 := d) hX eJx4a65c_grow_92f84_37 mm_java_util_ArrayList_66 rfl rfl h rfl (Nat.le_refl _) b45 b46 (Nat.le_of_ble_eq_true rfl) (fun vz9 Mz9 qz9 => ?_) (fun Ez9 Mz9 qz9 => ?_)
        · obtain ⟨M43, eMz9⟩ : ∃ M43, M43 = Mz9 := ⟨_, rfl⟩; subst eMz9
          obtain ⟨p44, hxz9, h⟩ := qz9
          cases hxz9
          refine j_dup_x1 hX eJx4a65c_grow_92f84_40 rfl rfl ?_
          obtain ⟨t47, h⟩ := h
          refine j_putRL (ty := .array (.object "java/lang/Object")) hX eJx4a65c_grow_92f84_41 ff_java_util_ArrayList_9 t47 pp_7_1 rfl rfl ?_
          refine j_nmM (fun M48 eM48 => ?_)
          replace h := h M48 eM48
          have t49 : hp_T M48 (a0) = 8 := by rw [eM48]; exact t47
          exact j_aret hX hM eJx4a65c_grow_92f84_44 rfl (by first | exact Or.inl ⟨_, rfl⟩ | exact Or.inr ⟨_, rfl⟩) h
        · obtain ⟨p44, hxz9, h⟩ := qz9
          cases hxz9
      · obtain ⟨v39, hxz9, h⟩ := qz9
        cases hxz9

set_option maxHeartbeats 4000000 in
set_option maxRecDepth 20000 in
theorem vJx4a65c_grow_d5877_0 {X : am_Cx} {G : am_Gx} {d : Nat} {Q : am_Q} (hX : am_ok X rJx4a65c_grow_d5877 G (d + 1)) (hM : am_me X rJx4a65c_grow_d5877 Q) {bc bs : Nat}  {a0 : Nat} {M : am_Hp} (h : hp_T M (a0) = 8 ∧ (1 ≤ bc ∧ (15 ≤ bs ∧ (am_CT G d rJx4a65c_grow_92f84 [.ref a0, .int ((hp_I M 142 a0) + (1 : Int32))] M 1 15 (fun oz9 M2 => ∃ p3 : Nat, oz9 = .inl (some (.ref p3)) ∧ (Q (.inl (some (.ref p3))) M2)))))) : am_J X 0 [(0, .ref a0)] [] M bc bs := by
  refine j_aload_n hX eJx4a65c_grow_d5877_0 0 rfl ?_
  refine j_aload_n hX eJx4a65c_grow_d5877_1 0 rfl ?_
  obtain ⟨t1, h⟩ := h
  refine j_getI hX eJx4a65c_grow_d5877_2 ff_java_util_ArrayList_48 rfl t1 (by decide) ?_
  refine j_iconst (v := (1 : Int32)) hX eJx4a65c_grow_d5877_5 (by decide) ?_
  refine j_iadd hX eJx4a65c_grow_d5877_6 ?_
  obtain ⟨b4, b5, h⟩ := h
  refine j_callV (a := a0) (q := (RJx4a65c, TJx4a65c, 3)) (r' := rJx4a65c_grow_92f84) (As := [.int ((hp_I M 142 a0) + (1 : Int32))]) (rest := []) (d1 := d) hX eJx4a65c_grow_d5877_7 mm_java_util_ArrayList_69 rfl t1 (by decide) rfl h rfl (Nat.le_refl _) b4 b5 (Nat.le_of_ble_eq_true rfl) (fun vz9 Mz9 qz9 => ?_) (fun Ez9 Mz9 qz9 => ?_)
  · obtain ⟨M2, eMz9⟩ : ∃ M2, M2 = Mz9 := ⟨_, rfl⟩; subst eMz9
    obtain ⟨p3, hxz9, h⟩ := qz9
    cases hxz9
    exact j_aret hX hM eJx4a65c_grow_d5877_10 rfl (by first | exact Or.inl ⟨_, rfl⟩ | exact Or.inr ⟨_, rfl⟩) h
  · obtain ⟨p3, hxz9, h⟩ := qz9
    cases hxz9

set_option maxHeartbeats 4000000 in
set_option maxRecDepth 20000 in
theorem vJx4a65c_add_72be8_0 {X : am_Cx} {G : am_Gx} {d : Nat} {Q : am_Q} (hX : am_ok X rJx4a65c_add_72be8 G (d + 1)) (hM : am_me X rJx4a65c_add_72be8 Q) {bc bs : Nat}  {a0 : Nat} {a1 : Nat} {a2 : Nat} {a3 : Int32} {M : am_Hp} (h : (hp_T M (a2) = 29 ∨ hp_T M (a2) = 43) ∧ (((a3 = (Int32.ofNat (hp_N M a2))) → (hp_T M (a0) = 8 ∧ (1 ≤ bc ∧ (15 ≤ bs ∧ (am_CT G d rJx4a65c_grow_d5877 [.ref a0] M 1 15 (fun oz9 M15 => ∃ p16 : Nat, oz9 = .inl (some (.ref p16)) ∧ (hp_T M15 (p16) = 29 ∧ (hp_T M15 (a1) = 22 ∧ (a1 ≠ 0 ∧ (vp_in a3 (hp_N M15 p16) ∧ (∀ M24 : am_Hp, M24 = hp_sQ M15 p16 (a3).toNatClampNeg a1 → (hp_T M24 (a0) = 8 ∧ (∀ M28 : am_Hp, M28 = hp_sI M24 142 a0 (a3 + (1 : Int32)) → (Q (.inl none) M28)))))))))))))) ∧ (¬ (a3 = (Int32.ofNat (hp_N M a2))) → (hp_T M (a2) = 29 ∧ (hp_T M (a1) = 22 ∧ (a1 ≠ 0 ∧ (vp_in a3 (hp_N M a2) ∧ (∀ M7 : am_Hp, M7 = hp_sQ M a2 (a3).toNatClampNeg a1 → (hp_T M7 (a0) = 8 ∧ (∀ M11 : am_Hp, M11 = hp_sI M7 142 a0 (a3 + (1 : Int32)) → (Q (.inl none) M11))))))))))) : am_J X 0 [(0, .ref a0), (1, .ref a1), (2, .ref a2), (3, .int a3)] [] M bc bs := by
  refine j_iload_n hX eJx4a65c_add_72be8_0 3 rfl ?_
  refine j_aload_n hX eJx4a65c_add_72be8_1 2 rfl ?_
  obtain ⟨t1, h⟩ := h
  refine j_alenL hX eJx4a65c_add_72be8_2 t1 ?_
  refine j_icmp_ne hX 11 eJx4a65c_add_72be8_3 (by decide) (fun c2 => ?_) (fun c2 => ?_)
  · replace h := h.2 c2
    refine j_aload_n hX eJx4a65c_add_72be8_11 2 rfl ?_
    refine j_iload_n hX eJx4a65c_add_72be8_12 3 rfl ?_
    refine j_aload_n hX eJx4a65c_add_72be8_13 1 rfl ?_
    obtain ⟨t3, h⟩ := h
    obtain ⟨t4, h⟩ := h
    obtain ⟨z5, h⟩ := h
    obtain ⟨i6, h⟩ := h
    refine j_aast29 hX eJx4a65c_add_72be8_14 t3 t4 z5 i6 ?_
    refine j_nmM (fun M7 eM7 => ?_)
    replace h := h M7 eM7
    have t8 : hp_T M7 (a2) = 29 := by rw [eM7]; exact t3
    have t9 : hp_T M7 (a1) = 22 := by rw [eM7]; exact t4
    refine j_aload_n hX eJx4a65c_add_72be8_15 0 rfl ?_
    refine j_iload_n hX eJx4a65c_add_72be8_16 3 rfl ?_
    refine j_iconst (v := (1 : Int32)) hX eJx4a65c_add_72be8_17 (by decide) ?_
    refine j_iadd hX eJx4a65c_add_72be8_18 ?_
    obtain ⟨t10, h⟩ := h
    refine j_putI (ty := .int) hX eJx4a65c_add_72be8_19 ff_java_util_ArrayList_48 rfl t10 (by decide) pp_7_2 rfl rfl ?_
    refine j_nmM (fun M11 eM11 => ?_)
    replace h := h M11 eM11
    have t12 : hp_T M11 (a2) = 29 := by rw [eM11]; exact t8
    have t13 : hp_T M11 (a1) = 22 := by rw [eM11]; exact t9
    have t14 : hp_T M11 (a0) = 8 := by rw [eM11]; exact t10
    exact j_vret hX hM eJx4a65c_add_72be8_22 rfl h
  · replace h := h.1 c2
    refine j_aload_n hX eJx4a65c_add_72be8_6 0 rfl ?_
    obtain ⟨t17, h⟩ := h
    obtain ⟨b18, b19, h⟩ := h
    refine j_callV (a := a0) (q := (RJx4a65c, TJx4a65c, 3)) (r' := rJx4a65c_grow_d5877) (As := []) (rest := []) (d1 := d) hX eJx4a65c_add_72be8_7 mm_java_util_ArrayList_129 rfl t17 (by decide) rfl h rfl (Nat.le_refl _) b18 b19 (Nat.le_of_ble_eq_true rfl) (fun vz9 Mz9 qz9 => ?_) (fun Ez9 Mz9 qz9 => ?_)
    · obtain ⟨M15, eMz9⟩ : ∃ M15, M15 = Mz9 := ⟨_, rfl⟩; subst eMz9
      obtain ⟨p16, hxz9, h⟩ := qz9
      cases hxz9
      refine j_astore_n (lv' := [(2, .ref p16), (0, .ref a0), (1, .ref a1), (3, .int a3)]) hX eJx4a65c_add_72be8_10 rfl (by decide) rfl ?_
      refine j_aload_n hX eJx4a65c_add_72be8_11 0 rfl ?_
      refine j_iload_n hX eJx4a65c_add_72be8_12 3 rfl ?_
      refine j_aload_n hX eJx4a65c_add_72be8_13 2 rfl ?_
      obtain ⟨t20, h⟩ := h
      obtain ⟨t21, h⟩ := h
      obtain ⟨z22, h⟩ := h
      obtain ⟨i23, h⟩ := h
      refine j_aast29 hX eJx4a65c_add_72be8_14 t20 t21 z22 i23 ?_
      refine j_nmM (fun M24 eM24 => ?_)
      replace h := h M24 eM24
      have t25 : hp_T M24 (p16) = 29 := by rw [eM24]; exact t20
      have t26 : hp_T M24 (a1) = 22 := by rw [eM24]; exact t21
      refine j_aload_n hX eJx4a65c_add_72be8_15 1 rfl ?_
      refine j_iload_n hX eJx4a65c_add_72be8_16 3 rfl ?_
      refine j_iconst (v := (1 : Int32)) hX eJx4a65c_add_72be8_17 (by decide) ?_
      refine j_iadd hX eJx4a65c_add_72be8_18 ?_
      obtain ⟨t27, h⟩ := h
      refine j_putI (ty := .int) hX eJx4a65c_add_72be8_19 ff_java_util_ArrayList_48 rfl t27 (by decide) pp_7_2 rfl rfl ?_
      refine j_nmM (fun M28 eM28 => ?_)
      replace h := h M28 eM28
      have t29 : hp_T M28 (p16) = 29 := by rw [eM28]; exact t25
      have t30 : hp_T M28 (a1) = 22 := by rw [eM28]; exact t26
      have t31 : hp_T M28 (a0) = 8 := by rw [eM28]; exact t27
      exact j_vret hX hM eJx4a65c_add_72be8_22 rfl h
    · obtain ⟨p16, hxz9, h⟩ := qz9
      cases hxz9

set_option maxHeartbeats 4000000 in
set_option maxRecDepth 20000 in
theorem vJx4a65c_add_9ea2d_0 {X : am_Cx} {G : am_Gx} {d : Nat} {Q : am_Q} (hX : am_ok X rJx4a65c_add_9ea2d G (d + 1)) (hM : am_me X rJx4a65c_add_9ea2d Q) {bc bs : Nat}  {a0 : Nat} {a1 : Nat} {M : am_Hp} (h : hp_T M (a0) = 8 ∧ (∀ M2 : am_Hp, M2 = hp_sI M 140 a0 ((hp_I M 140 a0) + (1 : Int32)) → (hp_R M2 141 a0 ≠ 0 ∧ (∀ p5 : Nat, p5 = hp_R M2 141 a0 - 1 → (1 ≤ bc ∧ (15 ≤ bs ∧ (am_CT G d rJx4a65c_add_72be8 [.ref a0, .ref a1, .ref p5, .int (hp_I M2 142 a0)] M2 1 15 (fun oz9 M6 => oz9 = .inl none ∧ (Q (.inl (some (.int (1 : Int32)))) M6))))))))) : am_J X 0 [(0, .ref a0), (1, .ref a1)] [] M bc bs := by
  refine j_aload_n hX eJx4a65c_add_9ea2d_0 0 rfl ?_
  refine j_dup hX eJx4a65c_add_9ea2d_1 rfl ?_
  obtain ⟨t1, h⟩ := h
  refine j_getIF hX eJx4a65c_add_9ea2d_2 fs_java_util_ArrayList_63 rfl t1 (by decide) ?_
  refine j_iconst (v := (1 : Int32)) hX eJx4a65c_add_9ea2d_5 (by decide) ?_
  refine j_iadd hX eJx4a65c_add_9ea2d_6 ?_
  refine j_putIF (ty := .int) hX eJx4a65c_add_9ea2d_7 fs_java_util_ArrayList_63 rfl t1 (by decide) pp_7_0 rfl rfl ?_
  refine j_nmM (fun M2 eM2 => ?_)
  replace h := h M2 eM2
  have t3 : hp_T M2 (a0) = 8 := by rw [eM2]; exact t1
  refine j_aload_n hX eJx4a65c_add_9ea2d_10 0 rfl ?_
  refine j_aload_n hX eJx4a65c_add_9ea2d_11 1 rfl ?_
  refine j_aload_n hX eJx4a65c_add_9ea2d_12 0 rfl ?_
  obtain ⟨z4, h⟩ := h
  refine j_getRL hX eJx4a65c_add_9ea2d_13 ff_java_util_ArrayList_9 t3 z4 ?_
  refine j_nmR (fun p5 ep5 => ?_)
  replace h := h p5 ep5
  refine j_aload_n hX eJx4a65c_add_9ea2d_16 0 rfl ?_
  refine j_getI hX eJx4a65c_add_9ea2d_17 ff_java_util_ArrayList_48 rfl t3 (by decide) ?_
  obtain ⟨b8, b9, h⟩ := h
  refine j_callV (a := a0) (q := (RJx4a65c, TJx4a65c, 3)) (r' := rJx4a65c_add_72be8) (As := [.ref a1, .ref p5, .int (hp_I M2 142 a0)]) (rest := []) (d1 := d) hX eJx4a65c_add_9ea2d_20 mm_java_util_ArrayList_131 rfl t3 (by decide) rfl h rfl (Nat.le_refl _) b8 b9 (Nat.le_of_ble_eq_true rfl) (fun vz9 Mz9 qz9 => ?_) (fun Ez9 Mz9 qz9 => ?_)
  · obtain ⟨M6, eMz9⟩ : ∃ M6, M6 = Mz9 := ⟨_, rfl⟩; subst eMz9
    obtain ⟨hxz9, h⟩ := qz9
    cases hxz9
    refine j_iconst (v := (1 : Int32)) hX eJx4a65c_add_9ea2d_23 (by decide) ?_
    exact j_zret hX hM eJx4a65c_add_9ea2d_24 rfl (by decide) h
  · obtain ⟨hxz9, h⟩ := qz9
    cases hxz9

set_option maxHeartbeats 4000000 in
set_option maxRecDepth 20000 in
theorem vJx4a65c_iterator_32c93_0 {X : am_Cx} {G : am_Gx} {d : Nat} {Q : am_Q} (hX : am_ok X rJx4a65c_iterator_32c93 G (d + 1)) (hM : am_me X rJx4a65c_iterator_32c93 Q) {bc bs : Nat}  {a0 : Nat} {M : am_Hp} (h : 1 ≤ bc ∧ (4 ≤ bs ∧ (∀ p1 : Nat, hp_T M p1 = 0 → p1 ≠ 0 → (∀ M7 : am_Hp, M7 = hp_o M p1 11 → (am_CT G d rJx35411_init_45d68 [.ref p1, .ref a0] M7 0 0 (fun oz9 M9 => oz9 = .inl none ∧ (Q (.inl (some (.ref p1))) M9))))))) : am_J X 0 [(0, .ref a0)] [] M bc bs := by
  obtain ⟨b5, b6, h⟩ := h
  refine j_new (q := (RJx35411, TJx35411, 4)) hX eJx4a65c_iterator_32c93_0 rfl (by decide) tw_1419 tw_1420 tw_28 dv_10 b5 b6 (fun p1 o3 z4 => ?_)
  replace h := h p1 o3 z4
  refine j_nmM (fun M7 eM7 => ?_)
  replace h := h M7 eM7
  have t8 : hp_T M7 (p1) = 11 := by rw [eM7]; exact hp_Tn
  refine j_dup hX eJx4a65c_iterator_32c93_3 rfl ?_
  refine j_aload_n hX eJx4a65c_iterator_32c93_4 0 rfl ?_
  refine j_callI (a := p1) (r' := rJx35411_init_45d68) (As := [.ref a0]) (rest := [.ref p1]) (d1 := d) hX eJx4a65c_iterator_32c93_5 mm_java_util_ArrayList_269 rfl h rfl (Nat.le_refl _) (Nat.zero_le _) (Nat.zero_le _) (Nat.le_of_ble_eq_true rfl) (fun vz9 Mz9 qz9 => ?_) (fun Ez9 Mz9 qz9 => ?_)
  · obtain ⟨M9, eMz9⟩ : ∃ M9, M9 = Mz9 := ⟨_, rfl⟩; subst eMz9
    obtain ⟨hxz9, h⟩ := qz9
    cases hxz9
    exact j_aret hX hM eJx4a65c_iterator_32c93_8 rfl (by first | exact Or.inl ⟨_, rfl⟩ | exact Or.inr ⟨_, rfl⟩) h
  · obtain ⟨hxz9, h⟩ := qz9
    cases hxz9

set_option maxHeartbeats 4000000 in
set_option maxRecDepth 20000 in
theorem vJx35411_init_45d68_0 {X : am_Cx} {G : am_Gx} {d : Nat} {Q : am_Q} (hX : am_ok X rJx35411_init_45d68 G (d + 1)) (hM : am_me X rJx35411_init_45d68 Q) {bc bs : Nat}  {a0 : Nat} {a1 : Nat} {M : am_Hp} (h : hp_T M (a0) = 11 ∧ (a1 ≠ 0 ∧ (∀ M3 : am_Hp, M3 = hp_sR M 203 a0 a1 → (∀ M5 : am_Hp, M5 = hp_sI M3 201 a0 (-1 : Int32) → (hp_R M5 203 a0 ≠ 0 ∧ (∀ p8 : Nat, p8 = hp_R M5 203 a0 → (hp_T M5 (p8) = 8 ∧ (∀ M10 : am_Hp, M10 = hp_sI M5 202 a0 (hp_I M5 140 p8) → (Q (.inl none) M10))))))))) : am_J X 0 [(0, .ref a0), (1, .ref a1)] [] M bc bs := by
  refine j_aload_n hX eJx35411_init_45d68_0 0 rfl ?_
  refine j_aload_n hX eJx35411_init_45d68_1 1 rfl ?_
  obtain ⟨t1, h⟩ := h
  obtain ⟨z2, h⟩ := h
  refine j_putF (ty := .object "java/util/ArrayList") hX eJx35411_init_45d68_2 ff_java_util_ArrayList_Itr_1 rfl t1 (by decide) z2 hM rfl pp_10_3 rfl rfl ?_
  refine j_nmM (fun M3 eM3 => ?_)
  replace h := h M3 eM3
  have t4 : hp_T M3 (a0) = 11 := by rw [eM3]; exact t1
  refine j_aload_n hX eJx35411_init_45d68_5 0 rfl ?_
  refine j_objInit hX eJx35411_init_45d68_6 tw_1424 tw_41 tw_42 (Nat.le_of_ble_eq_true rfl) ?_
  refine j_aload_n hX eJx35411_init_45d68_9 0 rfl ?_
  refine j_iconst (v := (-1 : Int32)) hX eJx35411_init_45d68_10 (by decide) ?_
  refine j_putI (ty := .int) hX eJx35411_init_45d68_11 ff_java_util_ArrayList_Itr_13 rfl t4 (by decide) pp_10_1 rfl rfl ?_
  refine j_nmM (fun M5 eM5 => ?_)
  replace h := h M5 eM5
  have t6 : hp_T M5 (a0) = 11 := by rw [eM5]; exact t4
  refine j_aload_n hX eJx35411_init_45d68_14 0 rfl ?_
  refine j_aload_n hX eJx35411_init_45d68_15 0 rfl ?_
  obtain ⟨z7, h⟩ := h
  refine j_getR hX eJx35411_init_45d68_16 ff_java_util_ArrayList_Itr_1 rfl t6 (by decide) z7 ?_
  refine j_nmR (fun p8 ep8 => ?_)
  replace h := h p8 ep8
  obtain ⟨t9, h⟩ := h
  refine j_getIF hX eJx35411_init_45d68_19 fs_java_util_ArrayList_Itr_17 rfl t9 (by decide) ?_
  refine j_putI (ty := .int) hX eJx35411_init_45d68_22 ff_java_util_ArrayList_Itr_22 rfl t6 (by decide) pp_10_2 rfl rfl ?_
  refine j_nmM (fun M10 eM10 => ?_)
  replace h := h M10 eM10
  have t11 : hp_T M10 (a0) = 11 := by rw [eM10]; exact t6
  have t12 : hp_T M10 (p8) = 8 := by rw [eM10]; exact t9
  exact j_vret hX hM eJx35411_init_45d68_25 rfl h

set_option maxHeartbeats 4000000 in
set_option maxRecDepth 20000 in
theorem vJx35411_hasNext_aae02_0 {X : am_Cx} {G : am_Gx} {d : Nat} {Q : am_Q} (hX : am_ok X rJx35411_hasNext_aae02 G (d + 1)) (hM : am_me X rJx35411_hasNext_aae02 Q) {bc bs : Nat}  {a0 : Nat} {M : am_Hp} (h : hp_T M (a0) = 11 ∧ (hp_R M 203 a0 ≠ 0 ∧ (∀ p3 : Nat, p3 = hp_R M 203 a0 → (hp_T M (p3) = 8 ∧ ((((hp_I M 200 a0) = (hp_I M 142 p3)) → (Q (.inl (some (.int (0 : Int32)))) M)) ∧ (¬ ((hp_I M 200 a0) = (hp_I M 142 p3)) → (Q (.inl (some (.int (1 : Int32)))) M))))))) : am_J X 0 [(0, .ref a0)] [] M bc bs := by
  refine j_aload_n hX eJx35411_hasNext_aae02_0 0 rfl ?_
  obtain ⟨t1, h⟩ := h
  refine j_getI hX eJx35411_hasNext_aae02_1 ff_java_util_ArrayList_Itr_25 rfl t1 (by decide) ?_
  refine j_aload_n hX eJx35411_hasNext_aae02_4 0 rfl ?_
  obtain ⟨z2, h⟩ := h
  refine j_getR hX eJx35411_hasNext_aae02_5 ff_java_util_ArrayList_Itr_1 rfl t1 (by decide) z2 ?_
  refine j_nmR (fun p3 ep3 => ?_)
  replace h := h p3 ep3
  obtain ⟨t4, h⟩ := h
  refine j_getIN hX eJx35411_hasNext_aae02_8 fn_java_util_ArrayList_Itr_28 rfl t4 (by decide) ?_
  refine j_icmp_eq hX 18 eJx35411_hasNext_aae02_11 (by decide) (fun c5 => ?_) (fun c5 => ?_)
  · replace h := h.1 c5
    refine j_iconst (v := (0 : Int32)) hX eJx35411_hasNext_aae02_18 (by decide) ?_
    exact j_zret hX hM eJx35411_hasNext_aae02_19 rfl (by decide) h
  · replace h := h.2 c5
    refine j_iconst (v := (1 : Int32)) hX eJx35411_hasNext_aae02_14 (by decide) ?_
    refine j_goto hX 19 eJx35411_hasNext_aae02_15 (by decide) ?_
    exact j_zret hX hM eJx35411_hasNext_aae02_19 rfl (by decide) h

set_option maxHeartbeats 4000000 in
set_option maxRecDepth 20000 in
theorem vJx35411_next_0502b_0 {X : am_Cx} {G : am_Gx} {d : Nat} {Q : am_Q} (hX : am_ok X rJx35411_next_0502b G (d + 1)) (hM : am_me X rJx35411_next_0502b Q) {bc bs : Nat}  {a0 : Nat} {M : am_Hp} (h : hp_T M (a0) = 11 ∧ (am_CT G d rJx35411_checkForComodification_da8c8 [.ref a0] M 0 0 (fun oz9 M1 => oz9 = .inl none ∧ (hp_T M1 (a0) = 11 ∧ (∀ v5 : Int32, v5 = (hp_I M1 200 a0) → (hp_R M1 203 a0 ≠ 0 ∧ (∀ p7 : Nat, p7 = hp_R M1 203 a0 → (hp_T M1 (p7) = 8 ∧ (((v5 < (hp_I M1 142 p7)) → (hp_R M1 203 a0 ≠ 0 ∧ (∀ p11 : Nat, p11 = hp_R M1 203 a0 → (hp_T M1 (p11) = 8 ∧ (hp_R M1 141 p11 ≠ 0 ∧ (∀ p14 : Nat, p14 = hp_R M1 141 p11 - 1 → (hp_T M1 (p14) = 29 ∧ (((v5 < (Int32.ofNat (hp_N M1 p14))) → (∀ M17 : am_Hp, M17 = hp_sI M1 200 a0 (v5 + (1 : Int32)) → (∀ M22 : am_Hp, M22 = hp_sI M17 201 a0 v5 → (vp_in v5 (hp_N M22 p14) ∧ (hp_Q M22 p14 (v5).toNatClampNeg ≠ 0 ∧ (∀ p29 : Nat, p29 = hp_Q M22 p14 (v5).toNatClampNeg → (Q (.inl (some (.ref p29))) M22))))))) ∧ (¬ (v5 < (Int32.ofNat (hp_N M1 p14))) → (False)))))))))) ∧ (¬ (v5 < (hp_I M1 142 p7)) → (False))))))))))) : am_J X 0 [(0, .ref a0)] [] M bc bs := by
  refine j_aload_n hX eJx35411_next_0502b_0 0 rfl ?_
  obtain ⟨t3, h⟩ := h
  refine j_callV (a := a0) (q := (RJx35411, TJx35411, 4)) (r' := rJx35411_checkForComodification_da8c8) (As := []) (rest := []) (d1 := d) hX eJx35411_next_0502b_1 mm_java_util_ArrayList_Itr_31 rfl t3 (by decide) rfl h rfl (Nat.le_refl _) (Nat.zero_le _) (Nat.zero_le _) (Nat.le_of_ble_eq_true rfl) (fun vz9 Mz9 qz9 => ?_) (fun Ez9 Mz9 qz9 => ?_)
  · obtain ⟨M1, eMz9⟩ : ∃ M1, M1 = Mz9 := ⟨_, rfl⟩; subst eMz9
    obtain ⟨hxz9, h⟩ := qz9
    cases hxz9
    refine j_aload_n hX eJx35411_next_0502b_4 0 rfl ?_
    obtain ⟨t4, h⟩ := h
    refine j_getI hX eJx35411_next_0502b_5 ff_java_util_ArrayList_Itr_25 rfl t4 (by decide) ?_
    refine j_nmI (fun v5 ev5 => ?_)
    replace h := h v5 ev5
    refine j_istore_n (lv' := [(1, .int v5), (0, .ref a0)]) hX eJx35411_next_0502b_8 rfl (by decide) rfl ?_
    refine j_iload_n hX eJx35411_next_0502b_9 0 rfl ?_
    refine j_aload_n hX eJx35411_next_0502b_10 1 rfl ?_
    obtain ⟨z6, h⟩ := h
    refine j_getR hX eJx35411_next_0502b_11 ff_java_util_ArrayList_Itr_1 rfl t4 (by decide) z6 ?_
    refine j_nmR (fun p7 ep7 => ?_)
    replace h := h p7 ep7
    obtain ⟨t8, h⟩ := h
    refine j_getIN hX eJx35411_next_0502b_14 fn_java_util_ArrayList_Itr_28 rfl t8 (by decide) ?_
    refine j_icmp_lt hX 28 eJx35411_next_0502b_17 (by decide) (fun c9 => ?_) (fun c9 => ?_)
    · replace h := h.1 c9
      refine j_aload_n hX eJx35411_next_0502b_28 1 rfl ?_
      obtain ⟨z10, h⟩ := h
      refine j_getR hX eJx35411_next_0502b_29 ff_java_util_ArrayList_Itr_1 rfl t4 (by decide) z10 ?_
      refine j_nmR (fun p11 ep11 => ?_)
      replace h := h p11 ep11
      obtain ⟨t12, h⟩ := h
      obtain ⟨z13, h⟩ := h
      refine j_getRL hX eJx35411_next_0502b_32 ff_java_util_ArrayList_Itr_37 t12 z13 ?_
      refine j_nmR (fun p14 ep14 => ?_)
      replace h := h p14 ep14
      refine j_astore_n (lv' := [(2, .ref p14), (1, .int v5), (0, .ref a0)]) hX eJx35411_next_0502b_35 rfl (by decide) rfl ?_
      refine j_iload_n hX eJx35411_next_0502b_36 1 rfl ?_
      refine j_aload_n hX eJx35411_next_0502b_37 0 rfl ?_
      obtain ⟨t15, h⟩ := h
      refine j_alen29 hX eJx35411_next_0502b_38 t15 ?_
      refine j_icmp_lt hX 50 eJx35411_next_0502b_39 (by decide) (fun c16 => ?_) (fun c16 => ?_)
      · replace h := h.1 c16
        refine j_aload_n hX eJx35411_next_0502b_50 2 rfl ?_
        refine j_iload_n hX eJx35411_next_0502b_51 1 rfl ?_
        refine j_iconst (v := (1 : Int32)) hX eJx35411_next_0502b_52 (by decide) ?_
        refine j_iadd hX eJx35411_next_0502b_53 ?_
        refine j_putI (ty := .int) hX eJx35411_next_0502b_54 ff_java_util_ArrayList_Itr_25 rfl t4 (by decide) pp_10_0 rfl rfl ?_
        refine j_nmM (fun M17 eM17 => ?_)
        replace h := h M17 eM17
        have t18 : hp_T M17 (a0) = 11 := by rw [eM17]; exact t4
        have t19 : hp_T M17 (p7) = 8 := by rw [eM17]; exact t8
        have t20 : hp_T M17 (p11) = 8 := by rw [eM17]; exact t12
        have t21 : hp_T M17 (p14) = 29 := by rw [eM17]; exact t15
        refine j_aload_n hX eJx35411_next_0502b_57 0 rfl ?_
        refine j_aload_n hX eJx35411_next_0502b_58 2 rfl ?_
        refine j_iload_n hX eJx35411_next_0502b_59 1 rfl ?_
        refine j_dup_x1 hX eJx35411_next_0502b_60 rfl rfl ?_
        refine j_putI (ty := .int) hX eJx35411_next_0502b_61 ff_java_util_ArrayList_Itr_13 rfl t18 (by decide) pp_10_1 rfl rfl ?_
        refine j_nmM (fun M22 eM22 => ?_)
        replace h := h M22 eM22
        have t23 : hp_T M22 (a0) = 11 := by rw [eM22]; exact t18
        have t24 : hp_T M22 (p7) = 8 := by rw [eM22]; exact t19
        have t25 : hp_T M22 (p11) = 8 := by rw [eM22]; exact t20
        have t26 : hp_T M22 (p14) = 29 := by rw [eM22]; exact t21
        obtain ⟨i27, h⟩ := h
        obtain ⟨z28, h⟩ := h
        refine j_aald29 hX eJx35411_next_0502b_64 t26 i27 z28 ?_
        refine j_nmR (fun p29 ep29 => ?_)
        replace h := h p29 ep29
        exact j_aret hX hM eJx35411_next_0502b_65 rfl (by first | exact Or.inl ⟨_, rfl⟩ | exact Or.inr ⟨_, rfl⟩) h
      · replace h := h.2 c16
        exact h.elim
    · replace h := h.2 c9
      exact h.elim
  · obtain ⟨hxz9, h⟩ := qz9
    cases hxz9

set_option maxHeartbeats 4000000 in
set_option maxRecDepth 20000 in
theorem vJx35411_checkForComodification_da8c8_0 {X : am_Cx} {G : am_Gx} {d : Nat} {Q : am_Q} (hX : am_ok X rJx35411_checkForComodification_da8c8 G (d + 1)) (hM : am_me X rJx35411_checkForComodification_da8c8 Q) {bc bs : Nat}  {a0 : Nat} {M : am_Hp} (h : hp_T M (a0) = 11 ∧ (hp_R M 203 a0 ≠ 0 ∧ (∀ p3 : Nat, p3 = hp_R M 203 a0 → (hp_T M (p3) = 8 ∧ ((((hp_I M 140 p3) = (hp_I M 202 a0)) → (Q (.inl none) M)) ∧ (¬ ((hp_I M 140 p3) = (hp_I M 202 a0)) → (False))))))) : am_J X 0 [(0, .ref a0)] [] M bc bs := by
  refine j_aload_n hX eJx35411_checkForComodification_da8c8_0 0 rfl ?_
  obtain ⟨t1, h⟩ := h
  obtain ⟨z2, h⟩ := h
  refine j_getR hX eJx35411_checkForComodification_da8c8_1 ff_java_util_ArrayList_Itr_1 rfl t1 (by decide) z2 ?_
  refine j_nmR (fun p3 ep3 => ?_)
  replace h := h p3 ep3
  obtain ⟨t4, h⟩ := h
  refine j_getIF hX eJx35411_checkForComodification_da8c8_4 fs_java_util_ArrayList_Itr_17 rfl t4 (by decide) ?_
  refine j_aload_n hX eJx35411_checkForComodification_da8c8_7 0 rfl ?_
  refine j_getI hX eJx35411_checkForComodification_da8c8_8 ff_java_util_ArrayList_Itr_22 rfl t1 (by decide) ?_
  refine j_icmp_eq hX 22 eJx35411_checkForComodification_da8c8_11 (by decide) (fun c5 => ?_) (fun c5 => ?_)
  · replace h := h.1 c5
    exact j_vret hX hM eJx35411_checkForComodification_da8c8_22 rfl h
  · replace h := h.2 c5
    exact h.elim

set_option maxHeartbeats 4000000 in
set_option maxRecDepth 20000 in
theorem vJ7_copyOf_1904c_0 {X : am_Cx} {G : am_Gx} {d : Nat} {Q : am_Q} (hX : am_ok X rJ7_copyOf_1904c G (d + 1)) (hM : am_me X rJ7_copyOf_1904c Q) {bc bs : Nat}  {a0 : Nat} {a1 : Int32} {M : am_Hp} (h : hp_T M (a0) = 29 ∧ (1 ≤ bc ∧ (15 ≤ bs ∧ (am_CT G d rJ7_copyOf_6403c [.ref a0, .int a1, .ref (gx_s G "" 0)] M 1 15 (fun oz9 M2 => ∃ p3 : Nat, oz9 = .inl (some (.ref p3)) ∧ (Q (.inl (some (.ref p3))) M2)))))) : am_J X 0 [(0, .ref a0), (1, .int a1)] [] M bc bs := by
  refine j_aload_n hX eJ7_copyOf_1904c_0 0 rfl ?_
  refine j_iload_n hX eJ7_copyOf_1904c_1 1 rfl ?_
  refine j_aload_n hX eJ7_copyOf_1904c_2 0 rfl ?_
  obtain ⟨t1, h⟩ := h
  refine j_getC29 hX eJ7_copyOf_1904c_3 tw_1384 tw_1536 tw_1385 tw_1406 t1 (Nat.le_of_ble_eq_true rfl) ?_
  obtain ⟨b4, b5, h⟩ := h
  refine j_callS (r' := rJ7_copyOf_6403c) (As := [.ref a0, .int a1, .ref (gx_s G "" 0)]) (rest := []) (d1 := d) hX eJ7_copyOf_1904c_6 mm_java_util_Arrays_300 rfl rfl h rfl (Nat.le_refl _) b4 b5 (Nat.le_of_ble_eq_true rfl) (fun vz9 Mz9 qz9 => ?_) (fun Ez9 Mz9 qz9 => ?_)
  · obtain ⟨M2, eMz9⟩ : ∃ M2, M2 = Mz9 := ⟨_, rfl⟩; subst eMz9
    obtain ⟨p3, hxz9, h⟩ := qz9
    cases hxz9
    exact j_aret hX hM eJ7_copyOf_1904c_9 rfl (by first | exact Or.inl ⟨_, rfl⟩ | exact Or.inr ⟨_, rfl⟩) h
  · obtain ⟨p3, hxz9, h⟩ := qz9
    cases hxz9

set_option maxHeartbeats 4000000 in
set_option maxRecDepth 20000 in
theorem vJ7_copyOf_6403c_0 {X : am_Cx} {G : am_Gx} {d : Nat} {Q : am_Q} (hX : am_ok X rJ7_copyOf_6403c G (d + 1)) (hM : am_me X rJ7_copyOf_6403c Q) {bc bs : Nat}  {a0 : Nat} {a1 : Int32} {a2 : Nat} {M : am_Hp} (h : ((a2 = (gx_s G "" 0)) → (¬ a1 < 0 ∧ ((a1).toNatClampNeg * 4 ≤ 536870912 ∧ (1 ≤ bc ∧ ((a1).toNatClampNeg ≤ bs ∧ (∀ p6 : Nat, hp_T M p6 = 0 → p6 ≠ 0 → (∀ M9 : am_Hp, M9 = hp_a M p6 29 (a1).toNatClampNeg → (hp_T M9 (a0) = 29 ∧ (∀ v12 : Int32, v12 = (if a1 < (Int32.ofNat (hp_N M9 a0)) then a1 else (Int32.ofNat (hp_N M9 a0))) → (¬ (0 : Int32) < 0 ∧ (¬ (0 : Int32) < 0 ∧ (¬ v12 < 0 ∧ (((0 : Int32)).toNatClampNeg + (v12).toNatClampNeg ≤ hp_N M9 a0 ∧ (((0 : Int32)).toNatClampNeg + (v12).toNatClampNeg ≤ hp_N M9 p6 ∧ ((∀ i, i < (v12).toNatClampNeg → hp_Q M9 a0 (((0 : Int32)).toNatClampNeg + i) = 0 ∨ hp_T M9 (hp_Q M9 a0 (((0 : Int32)).toNatClampNeg + i)) = 22) ∧ (∀ M19 : am_Hp, M19 = hp_sQA M9 p6 (va_cpy (hp_Q M9 a0) (hp_Q M9 p6) ((0 : Int32)).toNatClampNeg ((0 : Int32)).toNatClampNeg (v12).toNatClampNeg) → (Q (.inl (some (.ref p6))) M19))))))))))))))))) ∧ (¬ (a2 = (gx_s G "" 0)) → (False))) : am_J X 0 [(0, .ref a0), (1, .int a1), (2, .ref a2)] [] M bc bs := by
  refine j_aload_n hX eJ7_copyOf_6403c_0 2 rfl ?_
  refine j_ldcM hX eJ7_copyOf_6403c_1 tw_1410 ?_
  refine j_acmp_ne hX 13 eJ7_copyOf_6403c_3 (by decide) (fun c1 => ?_) (fun c1 => ?_)
  · replace h := h.2 c1
    refine j_aload_n hX eJ7_copyOf_6403c_13 2 rfl ?_
    exact h.elim
  · replace h := h.1 c1
    refine j_iload_n hX eJ7_copyOf_6403c_6 1 rfl ?_
    obtain ⟨n2, n3, b4, b5, h⟩ := h
    refine j_anew29 hX eJ7_copyOf_6403c_7 tw_1412 tn_1411 n2 n3 b4 b5 (fun p6 o7 z8 => ?_)
    replace h := h p6 o7 z8
    refine j_nmM (fun M9 eM9 => ?_)
    replace h := h M9 eM9
    have t10 : hp_T M9 (p6) = 29 := by rw [eM9]; exact hp_Tna
    refine j_goto hX 24 eJ7_copyOf_6403c_10 (by decide) ?_
    refine j_astore_n (lv' := [(3, .ref p6), (0, .ref a0), (1, .int a1), (2, .ref a2)]) hX eJ7_copyOf_6403c_24 rfl (by decide) rfl ?_
    refine j_aload_n hX eJ7_copyOf_6403c_25 1 rfl ?_
    refine j_iconst (v := (0 : Int32)) hX eJ7_copyOf_6403c_26 (by decide) ?_
    refine j_aload_n hX eJ7_copyOf_6403c_27 0 rfl ?_
    refine j_iconst (v := (0 : Int32)) hX eJ7_copyOf_6403c_28 (by decide) ?_
    refine j_aload_n hX eJ7_copyOf_6403c_29 1 rfl ?_
    obtain ⟨t11, h⟩ := h
    refine j_alen29 hX eJ7_copyOf_6403c_30 t11 ?_
    refine j_iload_n hX eJ7_copyOf_6403c_31 2 rfl ?_
    refine j_mmin hX eJ7_copyOf_6403c_32 tw_1005 tw_480 tw_21 (Nat.le_of_ble_eq_true rfl) ?_
    refine j_nmI (fun v12 ev12 => ?_)
    replace h := h v12 ev12
    obtain ⟨g13, g14, g15, g16, g17, h⟩ := h
    obtain ⟨g18, h⟩ := h
    refine j_copyq29 hX eJ7_copyOf_6403c_35 tw_1006 tw_478 tw_477 tw_20 t10 t11 g13 g14 g15 g16 g17 g18 (Nat.le_of_ble_eq_true rfl) ?_
    refine j_nmM (fun M19 eM19 => ?_)
    replace h := h M19 eM19
    have t20 : hp_T M19 (p6) = 29 := by rw [eM19]; exact t10
    have t21 : hp_T M19 (a0) = 29 := by rw [eM19]; exact t11
    refine j_aload_n hX eJ7_copyOf_6403c_38 0 rfl ?_
    exact j_aret hX hM eJ7_copyOf_6403c_39 rfl (by first | exact Or.inl ⟨_, rfl⟩ | exact Or.inr ⟨_, rfl⟩) h

set_option maxHeartbeats 4000000 in
set_option maxRecDepth 20000 in
theorem vJ6_compare_7cf53_0 {X : am_Cx} {G : am_Gx} {d : Nat} {Q : am_Q} (hX : am_ok X rJ6_compare_7cf53 G (d + 1)) (hM : am_me X rJ6_compare_7cf53 Q) {bc bs : Nat}  {a0 : Int32} {a1 : Int32} {M : am_Hp} (h : ((a1 ≤ a0) → (((a0 = a1) → (Q (.inl (some (.int (0 : Int32)))) M)) ∧ (¬ (a0 = a1) → (Q (.inl (some (.int (1 : Int32)))) M)))) ∧ (¬ (a1 ≤ a0) → (Q (.inl (some (.int (-1 : Int32)))) M))) : am_J X 0 [(0, .int a0), (1, .int a1)] [] M bc bs := by
  refine j_iload_n hX eJ6_compare_7cf53_0 0 rfl ?_
  refine j_iload_n hX eJ6_compare_7cf53_1 1 rfl ?_
  refine j_icmp_ge hX 9 eJ6_compare_7cf53_2 (by decide) (fun c1 => ?_) (fun c1 => ?_)
  · replace h := h.1 c1
    refine j_iload_n hX eJ6_compare_7cf53_9 0 rfl ?_
    refine j_iload_n hX eJ6_compare_7cf53_10 1 rfl ?_
    refine j_icmp_ne hX 18 eJ6_compare_7cf53_11 (by decide) (fun c2 => ?_) (fun c2 => ?_)
    · replace h := h.2 c2
      refine j_iconst (v := (1 : Int32)) hX eJ6_compare_7cf53_18 (by decide) ?_
      exact j_iret hX hM eJ6_compare_7cf53_19 rfl h
    · replace h := h.1 c2
      refine j_iconst (v := (0 : Int32)) hX eJ6_compare_7cf53_14 (by decide) ?_
      refine j_goto hX 19 eJ6_compare_7cf53_15 (by decide) ?_
      exact j_iret hX hM eJ6_compare_7cf53_19 rfl h
  · replace h := h.2 c1
    refine j_iconst (v := (-1 : Int32)) hX eJ6_compare_7cf53_5 (by decide) ?_
    refine j_goto hX 19 eJ6_compare_7cf53_6 (by decide) ?_
    exact j_iret hX hM eJ6_compare_7cf53_19 rfl h
