set_option maxHeartbeats 4000000 in
set_option maxRecDepth 20000 in
theorem vJ4_init_da8c8_0 {X : am_Cx} {G : am_Gx} {d : Nat} {Q : am_Q} (hX : am_ok X rJ4_init_da8c8 G (d + 1)) (hM : am_me X rJ4_init_da8c8 Q) {bc bs : Nat}  {a0 : Nat} {M : am_Hp} (h : 1 ≤ bc ∧ (16 ≤ bs ∧ (am_CT G d rJ5_init_d00df [.ref a0, .int (16 : Int32)] M 1 16 (fun oz9 M1 => oz9 = .inl none ∧ (Q (.inl none) M1))))) : am_J X 0 [(0, .ref a0)] [] M bc bs := by
  refine j_aload_n hX eJ4_init_da8c8_0 0 rfl ?_
  refine j_bipush (v := (16 : Int32)) hX eJ4_init_da8c8_1 (by decide) ?_
  obtain ⟨b3, b4, h⟩ := h
  refine j_callI (a := a0) (r' := rJ5_init_d00df) (As := [.int (16 : Int32)]) (rest := []) (d1 := d) hX eJ4_init_da8c8_3 mm_java_lang_StringBuilder_1 rfl h rfl (Nat.le_refl _) b3 b4 (Nat.le_of_ble_eq_true rfl) (fun vz9 Mz9 qz9 => ?_) (fun Ez9 Mz9 qz9 => ?_)
  · obtain ⟨M1, eMz9⟩ : ∃ M1, M1 = Mz9 := ⟨_, rfl⟩; subst eMz9
    obtain ⟨hxz9, h⟩ := qz9
    cases hxz9
    exact j_vret hX hM eJ4_init_da8c8_6 rfl h
  · obtain ⟨hxz9, h⟩ := qz9
    cases hxz9

set_option maxHeartbeats 4000000 in
set_option maxRecDepth 20000 in
theorem vJ5_init_d00df_0 {X : am_Cx} {G : am_Gx} {d : Nat} {Q : am_Q} (hX : am_ok X rJ5_init_d00df G (d + 1)) (hM : am_me X rJ5_init_d00df Q) {bc bs : Nat}  {a0 : Nat} {a1 : Int32} {M : am_Hp} (h : ("java/lang/String", "COMPACT_STRINGS", "Z", .int 1) ∈ gx_z G ∧ ((((1 : Int32) = 0) → (am_CT G d rJ2_newBytesFor_77867 [.int a1] M 0 0 (fun oz9 M3 => ∃ p4 : Nat, oz9 = .inl (some (.ref p4)) ∧ (hp_T M3 (a0) = 9 ∧ (p4 ≠ 0 ∧ (∀ M7 : am_Hp, M7 = hp_sR M3 160 a0 p4 → (∀ M9 : am_Hp, M9 = hp_sI M7 161 a0 (1 : Int32) → (Q (.inl none) M9)))))))) ∧ (¬ ((1 : Int32) = 0) → (¬ a1 < 0 ∧ ((a1).toNatClampNeg * componentBytes .byte ≤ 536870912 ∧ (1 ≤ bc ∧ ((a1).toNatClampNeg ≤ bs ∧ (∀ p15 : Nat, hp_T M p15 = 0 → p15 ≠ 0 → (∀ M18 : am_Hp, M18 = hp_a M p15 20 (a1).toNatClampNeg → (hp_T M18 (a0) = 9 ∧ (p15 ≠ 0 ∧ (∀ M22 : am_Hp, M22 = hp_sR M18 160 a0 p15 → (∀ M25 : am_Hp, M25 = hp_sI M22 161 a0 (0 : Int32) → (Q (.inl none) M25)))))))))))))) : am_J X 0 [(0, .ref a0), (1, .int a1)] [] M bc bs := by
  refine j_aload_n hX eJ5_init_d00df_0 0 rfl ?_
  refine j_objInit hX eJ5_init_d00df_1 tw_239 tw_38 tw_39 (Nat.le_of_ble_eq_true rfl) ?_
  obtain ⟨z1, h⟩ := h
  refine j_gets hX eJ5_init_d00df_4 z1 tw_240 ?_
  refine j_if_eq hX 25 eJ5_init_d00df_7 (by decide) (fun c2 => ?_) (fun c2 => ?_)
  · replace h := h.1 c2
    refine j_aload_n hX eJ5_init_d00df_25 0 rfl ?_
    refine j_iload_n hX eJ5_init_d00df_26 1 rfl ?_
    refine j_callS (r' := rJ2_newBytesFor_77867) (As := [.int a1]) (rest := [.ref a0]) (d1 := d) hX eJ5_init_d00df_27 mm_java_lang_AbstractStringBuilder_26 rfl rfl h rfl (Nat.le_refl _) (Nat.zero_le _) (Nat.zero_le _) (Nat.le_of_ble_eq_true rfl) (fun vz9 Mz9 qz9 => ?_) (fun Ez9 Mz9 qz9 => ?_)
    · obtain ⟨M3, eMz9⟩ : ∃ M3, M3 = Mz9 := ⟨_, rfl⟩; subst eMz9
      obtain ⟨p4, hxz9, h⟩ := qz9
      cases hxz9
      obtain ⟨t5, h⟩ := h
      obtain ⟨z6, h⟩ := h
      refine j_putR (ty := .array .byte) hX eJ5_init_d00df_30 ff_java_lang_AbstractStringBuilder_15 rfl t5 (by decide) z6 pp_8_0 rfl rfl ?_
      refine j_nmM (fun M7 eM7 => ?_)
      replace h := h M7 eM7
      have t8 : hp_T M7 (a0) = 9 := by rw [eM7]; exact t5
      refine j_aload_n hX eJ5_init_d00df_33 0 rfl ?_
      refine j_iconst (v := (1 : Int32)) hX eJ5_init_d00df_34 (by decide) ?_
      refine j_putI (ty := .byte) hX eJ5_init_d00df_35 ff_java_lang_AbstractStringBuilder_22 rfl t8 (by decide) pp_8_1 (by decide) (by decide) ?_
      refine j_nmM (fun M9 eM9 => ?_)
      replace h := h M9 eM9
      have t10 : hp_T M9 (a0) = 9 := by rw [eM9]; exact t8
      exact j_vret hX hM eJ5_init_d00df_38 rfl h
    · obtain ⟨p4, hxz9, h⟩ := qz9
      cases hxz9
  · replace h := h.2 c2
    refine j_aload_n hX eJ5_init_d00df_10 0 rfl ?_
    refine j_iload_n hX eJ5_init_d00df_11 1 rfl ?_
    obtain ⟨n11, n12, b13, b14, h⟩ := h
    refine j_newa_b hX eJ5_init_d00df_12 tw_263 n11 n12 b13 b14 (fun p15 o16 z17 => ?_)
    replace h := h p15 o16 z17
    refine j_nmM (fun M18 eM18 => ?_)
    replace h := h M18 eM18
    have t19 : hp_T M18 (p15) = 20 := by rw [eM18]; exact hp_Tna
    obtain ⟨t20, h⟩ := h
    obtain ⟨z21, h⟩ := h
    refine j_putR (ty := .array .byte) hX eJ5_init_d00df_14 ff_java_lang_AbstractStringBuilder_15 rfl t20 (by decide) z21 pp_8_0 rfl rfl ?_
    refine j_nmM (fun M22 eM22 => ?_)
    replace h := h M22 eM22
    have t23 : hp_T M22 (p15) = 20 := by rw [eM22]; exact t19
    have t24 : hp_T M22 (a0) = 9 := by rw [eM22]; exact t20
    refine j_aload_n hX eJ5_init_d00df_17 0 rfl ?_
    refine j_iconst (v := (0 : Int32)) hX eJ5_init_d00df_18 (by decide) ?_
    refine j_putI (ty := .byte) hX eJ5_init_d00df_19 ff_java_lang_AbstractStringBuilder_22 rfl t24 (by decide) pp_8_1 (by decide) (by decide) ?_
    refine j_nmM (fun M25 eM25 => ?_)
    replace h := h M25 eM25
    have t26 : hp_T M25 (p15) = 20 := by rw [eM25]; exact t23
    have t27 : hp_T M25 (a0) = 9 := by rw [eM25]; exact t24
    refine j_goto hX 38 eJ5_init_d00df_22 (by decide) ?_
    exact j_vret hX hM eJ5_init_d00df_38 rfl h

set_option maxHeartbeats 4000000 in
set_option maxRecDepth 20000 in
theorem vJ4_append_cf468_0 {X : am_Cx} {G : am_Gx} {d : Nat} {Q : am_Q} (hX : am_ok X rJ4_append_cf468 G (d + 1)) (hM : am_me X rJ4_append_cf468 Q) {bc bs : Nat}  {a0 : Nat} {a1 : Int32} {M : am_Hp} (h : hp_T M (a0) = 9 ∧ (1 ≤ bc ∧ (100 ≤ bs ∧ (am_CT G d rJ5_append_3fe6f [.ref a0, .int a1] M 1 100 (fun oz9 M1 => ∃ p2 : Nat, oz9 = .inl (some (.ref p2)) ∧ (Q (.inl (some (.ref a0))) M1)))))) : am_J X 0 [(0, .ref a0), (1, .int a1)] [] M bc bs := by
  refine j_aload_n hX eJ4_append_cf468_0 0 rfl ?_
  refine j_iload_n hX eJ4_append_cf468_1 1 rfl ?_
  obtain ⟨t3, h⟩ := h
  obtain ⟨b4, b5, h⟩ := h
  refine j_callSU (a := a0) (q := (RJ4, TJ4, 4)) (r' := rJ5_append_3fe6f) (As := [.int a1]) (rest := []) (d1 := d) hX eJ4_append_cf468_2 mm_java_lang_StringBuilder_50 rfl t3 (by decide) rfl h rfl (Nat.le_refl _) b4 b5 (Nat.le_of_ble_eq_true rfl) (fun vz9 Mz9 qz9 => ?_) (fun Ez9 Mz9 qz9 => ?_)
  · obtain ⟨M1, eMz9⟩ : ∃ M1, M1 = Mz9 := ⟨_, rfl⟩; subst eMz9
    obtain ⟨p2, hxz9, h⟩ := qz9
    cases hxz9
    refine j_pop hX eJ4_append_cf468_5 rfl ?_
    refine j_aload_n hX eJ4_append_cf468_6 0 rfl ?_
    exact j_aret hX hM eJ4_append_cf468_7 rfl (by first | exact Or.inl ⟨_, rfl⟩ | exact Or.inr ⟨_, rfl⟩) h
  · obtain ⟨p2, hxz9, h⟩ := qz9
    cases hxz9

set_option maxHeartbeats 4000000 in
set_option maxRecDepth 20000 in
theorem vJ5_append_3fe6f_0 {X : am_Cx} {G : am_Gx} {d : Nat} {Q : am_Q} (hX : am_ok X rJ5_append_3fe6f G (d + 1)) (hM : am_me X rJ5_append_3fe6f Q) {bc bs : Nat}  {a0 : Nat} {a1 : Int32} {M : am_Hp} (h : hp_T M (a0) = 9 ∧ (1 ≤ bc ∧ (100 ≤ bs ∧ (am_CT G d rJ5_ensureCapacityInternal_d00df [.ref a0, .int ((hp_I M 163 a0) + (1 : Int32))] M 1 100 (fun oz9 M2 => oz9 = .inl none ∧ (hp_T M2 (a0) = 9 ∧ (am_CT G d rJ5_isLatin1_aae02 [.ref a0] M2 0 0 (fun oz9 M6 => ∃ v7 : Int32, oz9 = .inl (some (.int v7)) ∧ (((v7 = 0) → (hp_T M6 (a0) = 9 ∧ (am_CT G d rJ5_isLatin1_aae02 [.ref a0] M6 0 0 (fun oz9 M10 => ∃ v11 : Int32, oz9 = .inl (some (.int v11)) ∧ (((v11 = 0) → (hp_T M10 (a0) = 9 ∧ (hp_R M10 160 a0 ≠ 0 ∧ (∀ p16 : Nat, p16 = hp_R M10 160 a0 → (∀ M17 : am_Hp, M17 = hp_sI M10 163 a0 ((hp_I M10 163 a0) + (1 : Int32)) → (am_CT G d rJ2_putCharSB_b72d1 [.ref p16, .int (hp_I M10 163 a0), .int a1] M17 0 0 (fun oz9 M19 => oz9 = .inl none ∧ (Q (.inl (some (.ref a0))) M19)))))))) ∧ (¬ (v11 = 0) → (hp_T M10 (a0) = 9 ∧ (am_CT G d rJ5_inflate_da8c8 [.ref a0] M10 0 0 (fun oz9 M21 => oz9 = .inl none ∧ (hp_T M21 (a0) = 9 ∧ (hp_R M21 160 a0 ≠ 0 ∧ (∀ p26 : Nat, p26 = hp_R M21 160 a0 → (∀ M27 : am_Hp, M27 = hp_sI M21 163 a0 ((hp_I M21 163 a0) + (1 : Int32)) → (am_CT G d rJ2_putCharSB_b72d1 [.ref p26, .int (hp_I M21 163 a0), .int a1] M27 0 0 (fun oz9 M29 => oz9 = .inl none ∧ (Q (.inl (some (.ref a0))) M29)))))))))))))))) ∧ (¬ (v7 = 0) → (am_CT G d rJ1_canEncode_fc78d [.int a1] M6 0 0 (fun oz9 M31 => ∃ v32 : Int32, oz9 = .inl (some (.int v32)) ∧ (((v32 = 0) → (hp_T M31 (a0) = 9 ∧ (am_CT G d rJ5_isLatin1_aae02 [.ref a0] M31 0 0 (fun oz9 M34 => ∃ v35 : Int32, oz9 = .inl (some (.int v35)) ∧ (((v35 = 0) → (hp_T M34 (a0) = 9 ∧ (hp_R M34 160 a0 ≠ 0 ∧ (∀ p40 : Nat, p40 = hp_R M34 160 a0 → (∀ M41 : am_Hp, M41 = hp_sI M34 163 a0 ((hp_I M34 163 a0) + (1 : Int32)) → (am_CT G d rJ2_putCharSB_b72d1 [.ref p40, .int (hp_I M34 163 a0), .int a1] M41 0 0 (fun oz9 M43 => oz9 = .inl none ∧ (Q (.inl (some (.ref a0))) M43)))))))) ∧ (¬ (v35 = 0) → (hp_T M34 (a0) = 9 ∧ (am_CT G d rJ5_inflate_da8c8 [.ref a0] M34 0 0 (fun oz9 M45 => oz9 = .inl none ∧ (hp_T M45 (a0) = 9 ∧ (hp_R M45 160 a0 ≠ 0 ∧ (∀ p50 : Nat, p50 = hp_R M45 160 a0 → (∀ M51 : am_Hp, M51 = hp_sI M45 163 a0 ((hp_I M45 163 a0) + (1 : Int32)) → (am_CT G d rJ2_putCharSB_b72d1 [.ref p50, .int (hp_I M45 163 a0), .int a1] M51 0 0 (fun oz9 M53 => oz9 = .inl none ∧ (Q (.inl (some (.ref a0))) M53)))))))))))))))) ∧ (¬ (v32 = 0) → (hp_T M31 (a0) = 9 ∧ (hp_R M31 160 a0 ≠ 0 ∧ (∀ p57 : Nat, p57 = hp_R M31 160 a0 → (∀ M58 : am_Hp, M58 = hp_sI M31 163 a0 ((hp_I M31 163 a0) + (1 : Int32)) → (hp_T M58 (p57) = 20 ∧ (vp_in (hp_I M31 163 a0) (hp_N M58 p57) ∧ (vp_nar .byte ((a1).toInt8.toInt32) = ((a1).toInt8.toInt32) ∧ (∀ M63 : am_Hp, M63 = hp_sE M58 p57 ((hp_I M31 163 a0)).toNatClampNeg ((a1).toInt8.toInt32) → (Q (.inl (some (.ref a0))) M63))))))))))))))))))))))) : am_J X 0 [(0, .ref a0), (1, .int a1)] [] M bc bs := by
  refine j_aload_n hX eJ5_append_3fe6f_0 0 rfl ?_
  refine j_aload_n hX eJ5_append_3fe6f_1 0 rfl ?_
  obtain ⟨t1, h⟩ := h
  refine j_getI hX eJ5_append_3fe6f_2 ff_java_lang_AbstractStringBuilder_79 rfl t1 (by decide) ?_
  refine j_iconst (v := (1 : Int32)) hX eJ5_append_3fe6f_5 (by decide) ?_
  refine j_iadd hX eJ5_append_3fe6f_6 ?_
  obtain ⟨b4, b5, h⟩ := h
  refine j_callU (a := a0) (q := (RJ4, TJ4, 4)) (r' := rJ5_ensureCapacityInternal_d00df) (As := [.int ((hp_I M 163 a0) + (1 : Int32))]) (rest := []) (d1 := d) hX eJ5_append_3fe6f_7 mm_java_lang_AbstractStringBuilder_100 rfl t1 (by decide) rfl h rfl (Nat.le_refl _) b4 b5 (Nat.le_of_ble_eq_true rfl) (fun vz9 Mz9 qz9 => ?_) (fun Ez9 Mz9 qz9 => ?_)
  · obtain ⟨M2, eMz9⟩ : ∃ M2, M2 = Mz9 := ⟨_, rfl⟩; subst eMz9
    obtain ⟨hxz9, h⟩ := qz9
    cases hxz9
    refine j_aload_n hX eJ5_append_3fe6f_10 0 rfl ?_
    obtain ⟨t8, h⟩ := h
    refine j_callU (a := a0) (q := (RJ4, TJ4, 4)) (r' := rJ5_isLatin1_aae02) (As := []) (rest := []) (d1 := d) hX eJ5_append_3fe6f_11 mm_java_lang_AbstractStringBuilder_83 rfl t8 (by decide) rfl h rfl (Nat.le_refl _) (Nat.zero_le _) (Nat.zero_le _) (Nat.le_of_ble_eq_true rfl) (fun vz9 Mz9 qz9 => ?_) (fun Ez9 Mz9 qz9 => ?_)
    · obtain ⟨M6, eMz9⟩ : ∃ M6, M6 = Mz9 := ⟨_, rfl⟩; subst eMz9
      obtain ⟨v7, hxz9, h⟩ := qz9
      cases hxz9
      refine j_if_eq hX 45 eJ5_append_3fe6f_14 (by decide) (fun c9 => ?_) (fun c9 => ?_)
      · replace h := h.1 c9
        refine j_aload_n hX eJ5_append_3fe6f_45 0 rfl ?_
        obtain ⟨t12, h⟩ := h
        refine j_callU (a := a0) (q := (RJ4, TJ4, 4)) (r' := rJ5_isLatin1_aae02) (As := []) (rest := []) (d1 := d) hX eJ5_append_3fe6f_46 mm_java_lang_AbstractStringBuilder_83 rfl t12 (by decide) rfl h rfl (Nat.le_refl _) (Nat.zero_le _) (Nat.zero_le _) (Nat.le_of_ble_eq_true rfl) (fun vz9 Mz9 qz9 => ?_) (fun Ez9 Mz9 qz9 => ?_)
        · obtain ⟨M10, eMz9⟩ : ∃ M10, M10 = Mz9 := ⟨_, rfl⟩; subst eMz9
          obtain ⟨v11, hxz9, h⟩ := qz9
          cases hxz9
          refine j_if_eq hX 56 eJ5_append_3fe6f_49 (by decide) (fun c13 => ?_) (fun c13 => ?_)
          · replace h := h.1 c13
            refine j_aload_n hX eJ5_append_3fe6f_56 0 rfl ?_
            obtain ⟨t14, h⟩ := h
            obtain ⟨z15, h⟩ := h
            refine j_getR hX eJ5_append_3fe6f_57 ff_java_lang_AbstractStringBuilder_15 rfl t14 (by decide) z15 ?_
            refine j_nmR (fun p16 ep16 => ?_)
            replace h := h p16 ep16
            refine j_aload_n hX eJ5_append_3fe6f_60 0 rfl ?_
            refine j_dup hX eJ5_append_3fe6f_61 rfl ?_
            refine j_getI hX eJ5_append_3fe6f_62 ff_java_lang_AbstractStringBuilder_79 rfl t14 (by decide) ?_
            refine j_dup_x1 hX eJ5_append_3fe6f_65 rfl rfl ?_
            refine j_iconst (v := (1 : Int32)) hX eJ5_append_3fe6f_66 (by decide) ?_
            refine j_iadd hX eJ5_append_3fe6f_67 ?_
            refine j_putI (ty := .int) hX eJ5_append_3fe6f_68 ff_java_lang_AbstractStringBuilder_79 rfl t14 (by decide) pp_8_3 rfl rfl ?_
            refine j_nmM (fun M17 eM17 => ?_)
            replace h := h M17 eM17
            have t18 : hp_T M17 (a0) = 9 := by rw [eM17]; exact t14
            refine j_iload_n hX eJ5_append_3fe6f_71 1 rfl ?_
            refine j_callS (r' := rJ2_putCharSB_b72d1) (As := [.ref p16, .int (hp_I M10 163 a0), .int a1]) (rest := []) (d1 := d) hX eJ5_append_3fe6f_72 mm_java_lang_AbstractStringBuilder_197 rfl rfl h rfl (Nat.le_refl _) (Nat.zero_le _) (Nat.zero_le _) (Nat.le_of_ble_eq_true rfl) (fun vz9 Mz9 qz9 => ?_) (fun Ez9 Mz9 qz9 => ?_)
            · obtain ⟨M19, eMz9⟩ : ∃ M19, M19 = Mz9 := ⟨_, rfl⟩; subst eMz9
              obtain ⟨hxz9, h⟩ := qz9
              cases hxz9
              refine j_aload_n hX eJ5_append_3fe6f_75 0 rfl ?_
              exact j_aret hX hM eJ5_append_3fe6f_76 rfl (by first | exact Or.inl ⟨_, rfl⟩ | exact Or.inr ⟨_, rfl⟩) h
            · obtain ⟨hxz9, h⟩ := qz9
              cases hxz9
          · replace h := h.2 c13
            refine j_aload_n hX eJ5_append_3fe6f_52 0 rfl ?_
            obtain ⟨t23, h⟩ := h
            refine j_callU (a := a0) (q := (RJ4, TJ4, 4)) (r' := rJ5_inflate_da8c8) (As := []) (rest := []) (d1 := d) hX eJ5_append_3fe6f_53 mm_java_lang_AbstractStringBuilder_195 rfl t23 (by decide) rfl h rfl (Nat.le_refl _) (Nat.zero_le _) (Nat.zero_le _) (Nat.le_of_ble_eq_true rfl) (fun vz9 Mz9 qz9 => ?_) (fun Ez9 Mz9 qz9 => ?_)
            · obtain ⟨M21, eMz9⟩ : ∃ M21, M21 = Mz9 := ⟨_, rfl⟩; subst eMz9
              obtain ⟨hxz9, h⟩ := qz9
              cases hxz9
              refine j_aload_n hX eJ5_append_3fe6f_56 0 rfl ?_
              obtain ⟨t24, h⟩ := h
              obtain ⟨z25, h⟩ := h
              refine j_getR hX eJ5_append_3fe6f_57 ff_java_lang_AbstractStringBuilder_15 rfl t24 (by decide) z25 ?_
              refine j_nmR (fun p26 ep26 => ?_)
              replace h := h p26 ep26
              refine j_aload_n hX eJ5_append_3fe6f_60 0 rfl ?_
              refine j_dup hX eJ5_append_3fe6f_61 rfl ?_
              refine j_getI hX eJ5_append_3fe6f_62 ff_java_lang_AbstractStringBuilder_79 rfl t24 (by decide) ?_
              refine j_dup_x1 hX eJ5_append_3fe6f_65 rfl rfl ?_
              refine j_iconst (v := (1 : Int32)) hX eJ5_append_3fe6f_66 (by decide) ?_
              refine j_iadd hX eJ5_append_3fe6f_67 ?_
              refine j_putI (ty := .int) hX eJ5_append_3fe6f_68 ff_java_lang_AbstractStringBuilder_79 rfl t24 (by decide) pp_8_3 rfl rfl ?_
              refine j_nmM (fun M27 eM27 => ?_)
              replace h := h M27 eM27
              have t28 : hp_T M27 (a0) = 9 := by rw [eM27]; exact t24
              refine j_iload_n hX eJ5_append_3fe6f_71 1 rfl ?_
              refine j_callS (r' := rJ2_putCharSB_b72d1) (As := [.ref p26, .int (hp_I M21 163 a0), .int a1]) (rest := []) (d1 := d) hX eJ5_append_3fe6f_72 mm_java_lang_AbstractStringBuilder_197 rfl rfl h rfl (Nat.le_refl _) (Nat.zero_le _) (Nat.zero_le _) (Nat.le_of_ble_eq_true rfl) (fun vz9 Mz9 qz9 => ?_) (fun Ez9 Mz9 qz9 => ?_)
              · obtain ⟨M29, eMz9⟩ : ∃ M29, M29 = Mz9 := ⟨_, rfl⟩; subst eMz9
                obtain ⟨hxz9, h⟩ := qz9
                cases hxz9
                refine j_aload_n hX eJ5_append_3fe6f_75 0 rfl ?_
                exact j_aret hX hM eJ5_append_3fe6f_76 rfl (by first | exact Or.inl ⟨_, rfl⟩ | exact Or.inr ⟨_, rfl⟩) h
              · obtain ⟨hxz9, h⟩ := qz9
                cases hxz9
            · obtain ⟨hxz9, h⟩ := qz9
              cases hxz9
        · obtain ⟨v11, hxz9, h⟩ := qz9
          cases hxz9
      · replace h := h.2 c9
        refine j_iload_n hX eJ5_append_3fe6f_17 1 rfl ?_
        refine j_callS (r' := rJ1_canEncode_fc78d) (As := [.int a1]) (rest := []) (d1 := d) hX eJ5_append_3fe6f_18 mm_java_lang_AbstractStringBuilder_191 rfl rfl h rfl (Nat.le_refl _) (Nat.zero_le _) (Nat.zero_le _) (Nat.le_of_ble_eq_true rfl) (fun vz9 Mz9 qz9 => ?_) (fun Ez9 Mz9 qz9 => ?_)
        · obtain ⟨M31, eMz9⟩ : ∃ M31, M31 = Mz9 := ⟨_, rfl⟩; subst eMz9
          obtain ⟨v32, hxz9, h⟩ := qz9
          cases hxz9
          refine j_if_eq hX 45 eJ5_append_3fe6f_21 (by decide) (fun c33 => ?_) (fun c33 => ?_)
          · replace h := h.1 c33
            refine j_aload_n hX eJ5_append_3fe6f_45 0 rfl ?_
            obtain ⟨t36, h⟩ := h
            refine j_callU (a := a0) (q := (RJ4, TJ4, 4)) (r' := rJ5_isLatin1_aae02) (As := []) (rest := []) (d1 := d) hX eJ5_append_3fe6f_46 mm_java_lang_AbstractStringBuilder_83 rfl t36 (by decide) rfl h rfl (Nat.le_refl _) (Nat.zero_le _) (Nat.zero_le _) (Nat.le_of_ble_eq_true rfl) (fun vz9 Mz9 qz9 => ?_) (fun Ez9 Mz9 qz9 => ?_)
            · obtain ⟨M34, eMz9⟩ : ∃ M34, M34 = Mz9 := ⟨_, rfl⟩; subst eMz9
              obtain ⟨v35, hxz9, h⟩ := qz9
              cases hxz9
              refine j_if_eq hX 56 eJ5_append_3fe6f_49 (by decide) (fun c37 => ?_) (fun c37 => ?_)
              · replace h := h.1 c37
                refine j_aload_n hX eJ5_append_3fe6f_56 0 rfl ?_
                obtain ⟨t38, h⟩ := h
                obtain ⟨z39, h⟩ := h
                refine j_getR hX eJ5_append_3fe6f_57 ff_java_lang_AbstractStringBuilder_15 rfl t38 (by decide) z39 ?_
                refine j_nmR (fun p40 ep40 => ?_)
                replace h := h p40 ep40
                refine j_aload_n hX eJ5_append_3fe6f_60 0 rfl ?_
                refine j_dup hX eJ5_append_3fe6f_61 rfl ?_
                refine j_getI hX eJ5_append_3fe6f_62 ff_java_lang_AbstractStringBuilder_79 rfl t38 (by decide) ?_
                refine j_dup_x1 hX eJ5_append_3fe6f_65 rfl rfl ?_
                refine j_iconst (v := (1 : Int32)) hX eJ5_append_3fe6f_66 (by decide) ?_
                refine j_iadd hX eJ5_append_3fe6f_67 ?_
                refine j_putI (ty := .int) hX eJ5_append_3fe6f_68 ff_java_lang_AbstractStringBuilder_79 rfl t38 (by decide) pp_8_3 rfl rfl ?_
                refine j_nmM (fun M41 eM41 => ?_)
                replace h := h M41 eM41
                have t42 : hp_T M41 (a0) = 9 := by rw [eM41]; exact t38
                refine j_iload_n hX eJ5_append_3fe6f_71 1 rfl ?_
                refine j_callS (r' := rJ2_putCharSB_b72d1) (As := [.ref p40, .int (hp_I M34 163 a0), .int a1]) (rest := []) (d1 := d) hX eJ5_append_3fe6f_72 mm_java_lang_AbstractStringBuilder_197 rfl rfl h rfl (Nat.le_refl _) (Nat.zero_le _) (Nat.zero_le _) (Nat.le_of_ble_eq_true rfl) (fun vz9 Mz9 qz9 => ?_) (fun Ez9 Mz9 qz9 => ?_)
                · obtain ⟨M43, eMz9⟩ : ∃ M43, M43 = Mz9 := ⟨_, rfl⟩; subst eMz9
                  obtain ⟨hxz9, h⟩ := qz9
                  cases hxz9
                  refine j_aload_n hX eJ5_append_3fe6f_75 0 rfl ?_
                  exact j_aret hX hM eJ5_append_3fe6f_76 rfl (by first | exact Or.inl ⟨_, rfl⟩ | exact Or.inr ⟨_, rfl⟩) h
                · obtain ⟨hxz9, h⟩ := qz9
                  cases hxz9
              · replace h := h.2 c37
                refine j_aload_n hX eJ5_append_3fe6f_52 0 rfl ?_
                obtain ⟨t47, h⟩ := h
                refine j_callU (a := a0) (q := (RJ4, TJ4, 4)) (r' := rJ5_inflate_da8c8) (As := []) (rest := []) (d1 := d) hX eJ5_append_3fe6f_53 mm_java_lang_AbstractStringBuilder_195 rfl t47 (by decide) rfl h rfl (Nat.le_refl _) (Nat.zero_le _) (Nat.zero_le _) (Nat.le_of_ble_eq_true rfl) (fun vz9 Mz9 qz9 => ?_) (fun Ez9 Mz9 qz9 => ?_)
                · obtain ⟨M45, eMz9⟩ : ∃ M45, M45 = Mz9 := ⟨_, rfl⟩; subst eMz9
                  obtain ⟨hxz9, h⟩ := qz9
                  cases hxz9
                  refine j_aload_n hX eJ5_append_3fe6f_56 0 rfl ?_
                  obtain ⟨t48, h⟩ := h
                  obtain ⟨z49, h⟩ := h
                  refine j_getR hX eJ5_append_3fe6f_57 ff_java_lang_AbstractStringBuilder_15 rfl t48 (by decide) z49 ?_
                  refine j_nmR (fun p50 ep50 => ?_)
                  replace h := h p50 ep50
                  refine j_aload_n hX eJ5_append_3fe6f_60 0 rfl ?_
                  refine j_dup hX eJ5_append_3fe6f_61 rfl ?_
                  refine j_getI hX eJ5_append_3fe6f_62 ff_java_lang_AbstractStringBuilder_79 rfl t48 (by decide) ?_
                  refine j_dup_x1 hX eJ5_append_3fe6f_65 rfl rfl ?_
                  refine j_iconst (v := (1 : Int32)) hX eJ5_append_3fe6f_66 (by decide) ?_
                  refine j_iadd hX eJ5_append_3fe6f_67 ?_
                  refine j_putI (ty := .int) hX eJ5_append_3fe6f_68 ff_java_lang_AbstractStringBuilder_79 rfl t48 (by decide) pp_8_3 rfl rfl ?_
                  refine j_nmM (fun M51 eM51 => ?_)
                  replace h := h M51 eM51
                  have t52 : hp_T M51 (a0) = 9 := by rw [eM51]; exact t48
                  refine j_iload_n hX eJ5_append_3fe6f_71 1 rfl ?_
                  refine j_callS (r' := rJ2_putCharSB_b72d1) (As := [.ref p50, .int (hp_I M45 163 a0), .int a1]) (rest := []) (d1 := d) hX eJ5_append_3fe6f_72 mm_java_lang_AbstractStringBuilder_197 rfl rfl h rfl (Nat.le_refl _) (Nat.zero_le _) (Nat.zero_le _) (Nat.le_of_ble_eq_true rfl) (fun vz9 Mz9 qz9 => ?_) (fun Ez9 Mz9 qz9 => ?_)
                  · obtain ⟨M53, eMz9⟩ : ∃ M53, M53 = Mz9 := ⟨_, rfl⟩; subst eMz9
                    obtain ⟨hxz9, h⟩ := qz9
                    cases hxz9
                    refine j_aload_n hX eJ5_append_3fe6f_75 0 rfl ?_
                    exact j_aret hX hM eJ5_append_3fe6f_76 rfl (by first | exact Or.inl ⟨_, rfl⟩ | exact Or.inr ⟨_, rfl⟩) h
                  · obtain ⟨hxz9, h⟩ := qz9
                    cases hxz9
                · obtain ⟨hxz9, h⟩ := qz9
                  cases hxz9
            · obtain ⟨v35, hxz9, h⟩ := qz9
              cases hxz9
          · replace h := h.2 c33
            refine j_aload_n hX eJ5_append_3fe6f_24 0 rfl ?_
            obtain ⟨t55, h⟩ := h
            obtain ⟨z56, h⟩ := h
            refine j_getR hX eJ5_append_3fe6f_25 ff_java_lang_AbstractStringBuilder_15 rfl t55 (by decide) z56 ?_
            refine j_nmR (fun p57 ep57 => ?_)
            replace h := h p57 ep57
            refine j_aload_n hX eJ5_append_3fe6f_28 0 rfl ?_
            refine j_dup hX eJ5_append_3fe6f_29 rfl ?_
            refine j_getI hX eJ5_append_3fe6f_30 ff_java_lang_AbstractStringBuilder_79 rfl t55 (by decide) ?_
            refine j_dup_x1 hX eJ5_append_3fe6f_33 rfl rfl ?_
            refine j_iconst (v := (1 : Int32)) hX eJ5_append_3fe6f_34 (by decide) ?_
            refine j_iadd hX eJ5_append_3fe6f_35 ?_
            refine j_putI (ty := .int) hX eJ5_append_3fe6f_36 ff_java_lang_AbstractStringBuilder_79 rfl t55 (by decide) pp_8_3 rfl rfl ?_
            refine j_nmM (fun M58 eM58 => ?_)
            replace h := h M58 eM58
            have t59 : hp_T M58 (a0) = 9 := by rw [eM58]; exact t55
            refine j_iload_n hX eJ5_append_3fe6f_39 1 rfl ?_
            refine j_i2b hX eJ5_append_3fe6f_40 ?_
            obtain ⟨t60, h⟩ := h
            obtain ⟨i61, h⟩ := h
            obtain ⟨n62, h⟩ := h
            refine j_bast hX eJ5_append_3fe6f_41 t60 i61 n62 ?_
            refine j_nmM (fun M63 eM63 => ?_)
            replace h := h M63 eM63
            have t64 : hp_T M63 (a0) = 9 := by rw [eM63]; exact t59
            have t65 : hp_T M63 (p57) = 20 := by rw [eM63]; exact t60
            refine j_goto hX 75 eJ5_append_3fe6f_42 (by decide) ?_
            refine j_aload_n hX eJ5_append_3fe6f_75 0 rfl ?_
            exact j_aret hX hM eJ5_append_3fe6f_76 rfl (by first | exact Or.inl ⟨_, rfl⟩ | exact Or.inr ⟨_, rfl⟩) h
        · obtain ⟨v32, hxz9, h⟩ := qz9
          cases hxz9
    · obtain ⟨v7, hxz9, h⟩ := qz9
      cases hxz9
  · obtain ⟨hxz9, h⟩ := qz9
    cases hxz9

set_option maxHeartbeats 4000000 in
set_option maxRecDepth 20000 in
theorem vJ4_append_bf812_0 {X : am_Cx} {G : am_Gx} {d : Nat} {Q : am_Q} (hX : am_ok X rJ4_append_bf812 G (d + 1)) (hM : am_me X rJ4_append_bf812 Q) {bc bs : Nat}  {a0 : Nat} {a1 : Int32} {M : am_Hp} (h : hp_T M (a0) = 9 ∧ (1 ≤ bc ∧ (100 ≤ bs ∧ (am_CT G d rJ5_append_c97b9 [.ref a0, .int a1] M 1 100 (fun oz9 M1 => ∃ p2 : Nat, oz9 = .inl (some (.ref p2)) ∧ (Q (.inl (some (.ref a0))) M1)))))) : am_J X 0 [(0, .ref a0), (1, .int a1)] [] M bc bs := by
  refine j_aload_n hX eJ4_append_bf812_0 0 rfl ?_
  refine j_iload_n hX eJ4_append_bf812_1 1 rfl ?_
  obtain ⟨t3, h⟩ := h
  obtain ⟨b4, b5, h⟩ := h
  refine j_callSU (a := a0) (q := (RJ4, TJ4, 4)) (r' := rJ5_append_c97b9) (As := [.int a1]) (rest := []) (d1 := d) hX eJ4_append_bf812_2 mm_java_lang_StringBuilder_53 rfl t3 (by decide) rfl h rfl (Nat.le_refl _) b4 b5 (Nat.le_of_ble_eq_true rfl) (fun vz9 Mz9 qz9 => ?_) (fun Ez9 Mz9 qz9 => ?_)
  · obtain ⟨M1, eMz9⟩ : ∃ M1, M1 = Mz9 := ⟨_, rfl⟩; subst eMz9
    obtain ⟨p2, hxz9, h⟩ := qz9
    cases hxz9
    refine j_pop hX eJ4_append_bf812_5 rfl ?_
    refine j_aload_n hX eJ4_append_bf812_6 0 rfl ?_
    exact j_aret hX hM eJ4_append_bf812_7 rfl (by first | exact Or.inl ⟨_, rfl⟩ | exact Or.inr ⟨_, rfl⟩) h
  · obtain ⟨p2, hxz9, h⟩ := qz9
    cases hxz9

set_option maxHeartbeats 4000000 in
set_option maxRecDepth 20000 in
theorem vJ5_append_c97b9_0 {X : am_Cx} {G : am_Gx} {d : Nat} {Q : am_Q} (hX : am_ok X rJ5_append_c97b9 G (d + 1)) (hM : am_me X rJ5_append_c97b9 Q) {bc bs : Nat}  {a0 : Nat} {a1 : Int32} {M : am_Hp} (h : hp_T M (a0) = 9 ∧ (∀ v2 : Int32, v2 = (hp_I M 163 a0) → (am_CT G d rJ6_stringSize_0f7a4 [.int a1] M 0 0 (fun oz9 M3 => ∃ v4 : Int32, oz9 = .inl (some (.int v4)) ∧ (∀ v5 : Int32, v5 = (v2 + v4) → (hp_T M3 (a0) = 9 ∧ (1 ≤ bc ∧ (100 ≤ bs ∧ (am_CT G d rJ5_ensureCapacityInternal_d00df [.ref a0, .int v5] M3 1 100 (fun oz9 M6 => oz9 = .inl none ∧ (hp_T M6 (a0) = 9 ∧ (am_CT G d rJ5_isLatin1_aae02 [.ref a0] M6 0 0 (fun oz9 M11 => ∃ v12 : Int32, oz9 = .inl (some (.int v12)) ∧ (((v12 = 0) → (hp_T M11 (a0) = 9 ∧ (hp_R M11 160 a0 ≠ 0 ∧ (∀ p17 : Nat, p17 = hp_R M11 160 a0 → (am_CT G d rJ2_getChars_46870 [.int a1, .int v2, .int v5, .ref p17] M11 0 0 (fun oz9 M18 => ∃ v19 : Int32, oz9 = .inl (some (.int v19)) ∧ (hp_T M18 (a0) = 9 ∧ (∀ M21 : am_Hp, M21 = hp_sI M18 163 a0 v5 → (Q (.inl (some (.ref a0))) M21))))))))) ∧ (¬ (v12 = 0) → (hp_T M11 (a0) = 9 ∧ (hp_R M11 160 a0 ≠ 0 ∧ (∀ p25 : Nat, p25 = hp_R M11 160 a0 → (am_CT G d rJ6_getChars_ba4f3 [.int a1, .int v5, .ref p25] M11 0 0 (fun oz9 M26 => ∃ v27 : Int32, oz9 = .inl (some (.int v27)) ∧ (hp_T M26 (a0) = 9 ∧ (∀ M29 : am_Hp, M29 = hp_sI M26 163 a0 v5 → (Q (.inl (some (.ref a0))) M29))))))))))))))))))))))) : am_J X 0 [(0, .ref a0), (1, .int a1)] [] M bc bs := by
  refine j_aload_n hX eJ5_append_c97b9_0 0 rfl ?_
  obtain ⟨t1, h⟩ := h
  refine j_getI hX eJ5_append_c97b9_1 ff_java_lang_AbstractStringBuilder_79 rfl t1 (by decide) ?_
  refine j_nmI (fun v2 ev2 => ?_)
  replace h := h v2 ev2
  refine j_istore_n (lv' := [(2, .int v2), (0, .ref a0), (1, .int a1)]) hX eJ5_append_c97b9_4 rfl (by decide) rfl ?_
  refine j_iload_n hX eJ5_append_c97b9_5 0 rfl ?_
  refine j_iload_n hX eJ5_append_c97b9_6 2 rfl ?_
  refine j_callS (r' := rJ6_stringSize_0f7a4) (As := [.int a1]) (rest := [.int v2]) (d1 := d) hX eJ5_append_c97b9_7 mm_java_lang_AbstractStringBuilder_245 rfl rfl h rfl (Nat.le_refl _) (Nat.zero_le _) (Nat.zero_le _) (Nat.le_of_ble_eq_true rfl) (fun vz9 Mz9 qz9 => ?_) (fun Ez9 Mz9 qz9 => ?_)
  · obtain ⟨M3, eMz9⟩ : ∃ M3, M3 = Mz9 := ⟨_, rfl⟩; subst eMz9
    obtain ⟨v4, hxz9, h⟩ := qz9
    cases hxz9
    refine j_iadd hX eJ5_append_c97b9_10 ?_
    refine j_nmI (fun v5 ev5 => ?_)
    replace h := h v5 ev5
    refine j_istore_n (lv' := [(3, .int v5), (2, .int v2), (0, .ref a0), (1, .int a1)]) hX eJ5_append_c97b9_11 rfl (by decide) rfl ?_
    refine j_aload_n hX eJ5_append_c97b9_12 2 rfl ?_
    refine j_iload_n hX eJ5_append_c97b9_13 0 rfl ?_
    obtain ⟨t8, h⟩ := h
    obtain ⟨b9, b10, h⟩ := h
    refine j_callU (a := a0) (q := (RJ4, TJ4, 4)) (r' := rJ5_ensureCapacityInternal_d00df) (As := [.int v5]) (rest := []) (d1 := d) hX eJ5_append_c97b9_14 mm_java_lang_AbstractStringBuilder_100 rfl t8 (by decide) rfl h rfl (Nat.le_refl _) b9 b10 (Nat.le_of_ble_eq_true rfl) (fun vz9 Mz9 qz9 => ?_) (fun Ez9 Mz9 qz9 => ?_)
    · obtain ⟨M6, eMz9⟩ : ∃ M6, M6 = Mz9 := ⟨_, rfl⟩; subst eMz9
      obtain ⟨hxz9, h⟩ := qz9
      cases hxz9
      refine j_aload_n hX eJ5_append_c97b9_17 2 rfl ?_
      obtain ⟨t13, h⟩ := h
      refine j_callU (a := a0) (q := (RJ4, TJ4, 4)) (r' := rJ5_isLatin1_aae02) (As := []) (rest := []) (d1 := d) hX eJ5_append_c97b9_18 mm_java_lang_AbstractStringBuilder_83 rfl t13 (by decide) rfl h rfl (Nat.le_refl _) (Nat.zero_le _) (Nat.zero_le _) (Nat.le_of_ble_eq_true rfl) (fun vz9 Mz9 qz9 => ?_) (fun Ez9 Mz9 qz9 => ?_)
      · obtain ⟨M11, eMz9⟩ : ∃ M11, M11 = Mz9 := ⟨_, rfl⟩; subst eMz9
        obtain ⟨v12, hxz9, h⟩ := qz9
        cases hxz9
        refine j_if_eq hX 37 eJ5_append_c97b9_21 (by decide) (fun c14 => ?_) (fun c14 => ?_)
        · replace h := h.1 c14
          refine j_iload_n hX eJ5_append_c97b9_37 3 rfl ?_
          refine j_iload_n hX eJ5_append_c97b9_38 1 rfl ?_
          refine j_iload_n hX eJ5_append_c97b9_39 0 rfl ?_
          refine j_aload_n hX eJ5_append_c97b9_40 2 rfl ?_
          obtain ⟨t15, h⟩ := h
          obtain ⟨z16, h⟩ := h
          refine j_getR hX eJ5_append_c97b9_41 ff_java_lang_AbstractStringBuilder_15 rfl t15 (by decide) z16 ?_
          refine j_nmR (fun p17 ep17 => ?_)
          replace h := h p17 ep17
          refine j_callS (r' := rJ2_getChars_46870) (As := [.int a1, .int v2, .int v5, .ref p17]) (rest := []) (d1 := d) hX eJ5_append_c97b9_44 mm_java_lang_AbstractStringBuilder_251 rfl rfl h rfl (Nat.le_refl _) (Nat.zero_le _) (Nat.zero_le _) (Nat.le_of_ble_eq_true rfl) (fun vz9 Mz9 qz9 => ?_) (fun Ez9 Mz9 qz9 => ?_)
          · obtain ⟨M18, eMz9⟩ : ∃ M18, M18 = Mz9 := ⟨_, rfl⟩; subst eMz9
            obtain ⟨v19, hxz9, h⟩ := qz9
            cases hxz9
            refine j_pop hX eJ5_append_c97b9_47 rfl ?_
            refine j_aload_n hX eJ5_append_c97b9_48 2 rfl ?_
            refine j_iload_n hX eJ5_append_c97b9_49 0 rfl ?_
            obtain ⟨t20, h⟩ := h
            refine j_putI (ty := .int) hX eJ5_append_c97b9_50 ff_java_lang_AbstractStringBuilder_79 rfl t20 (by decide) pp_8_3 rfl rfl ?_
            refine j_nmM (fun M21 eM21 => ?_)
            replace h := h M21 eM21
            have t22 : hp_T M21 (a0) = 9 := by rw [eM21]; exact t20
            refine j_aload_n hX eJ5_append_c97b9_53 2 rfl ?_
            exact j_aret hX hM eJ5_append_c97b9_54 rfl (by first | exact Or.inl ⟨_, rfl⟩ | exact Or.inr ⟨_, rfl⟩) h
          · obtain ⟨v19, hxz9, h⟩ := qz9
            cases hxz9
        · replace h := h.2 c14
          refine j_iload_n hX eJ5_append_c97b9_24 3 rfl ?_
          refine j_iload_n hX eJ5_append_c97b9_25 0 rfl ?_
          refine j_aload_n hX eJ5_append_c97b9_26 2 rfl ?_
          obtain ⟨t23, h⟩ := h
          obtain ⟨z24, h⟩ := h
          refine j_getR hX eJ5_append_c97b9_27 ff_java_lang_AbstractStringBuilder_15 rfl t23 (by decide) z24 ?_
          refine j_nmR (fun p25 ep25 => ?_)
          replace h := h p25 ep25
          refine j_callS (r' := rJ6_getChars_ba4f3) (As := [.int a1, .int v5, .ref p25]) (rest := []) (d1 := d) hX eJ5_append_c97b9_30 mm_java_lang_AbstractStringBuilder_248 rfl rfl h rfl (Nat.le_refl _) (Nat.zero_le _) (Nat.zero_le _) (Nat.le_of_ble_eq_true rfl) (fun vz9 Mz9 qz9 => ?_) (fun Ez9 Mz9 qz9 => ?_)
          · obtain ⟨M26, eMz9⟩ : ∃ M26, M26 = Mz9 := ⟨_, rfl⟩; subst eMz9
            obtain ⟨v27, hxz9, h⟩ := qz9
            cases hxz9
            refine j_pop hX eJ5_append_c97b9_33 rfl ?_
            refine j_goto hX 48 eJ5_append_c97b9_34 (by decide) ?_
            refine j_aload_n hX eJ5_append_c97b9_48 2 rfl ?_
            refine j_iload_n hX eJ5_append_c97b9_49 0 rfl ?_
            obtain ⟨t28, h⟩ := h
            refine j_putI (ty := .int) hX eJ5_append_c97b9_50 ff_java_lang_AbstractStringBuilder_79 rfl t28 (by decide) pp_8_3 rfl rfl ?_
            refine j_nmM (fun M29 eM29 => ?_)
            replace h := h M29 eM29
            have t30 : hp_T M29 (a0) = 9 := by rw [eM29]; exact t28
            refine j_aload_n hX eJ5_append_c97b9_53 2 rfl ?_
            exact j_aret hX hM eJ5_append_c97b9_54 rfl (by first | exact Or.inl ⟨_, rfl⟩ | exact Or.inr ⟨_, rfl⟩) h
          · obtain ⟨v27, hxz9, h⟩ := qz9
            cases hxz9
      · obtain ⟨v12, hxz9, h⟩ := qz9
        cases hxz9
    · obtain ⟨hxz9, h⟩ := qz9
      cases hxz9
  · obtain ⟨v4, hxz9, h⟩ := qz9
    cases hxz9

set_option maxHeartbeats 4000000 in
set_option maxRecDepth 20000 in
theorem vJ5_ensureCapacityInternal_d00df_0 {X : am_Cx} {G : am_Gx} {d : Nat} {Q : am_Q} (hX : am_ok X rJ5_ensureCapacityInternal_d00df G (d + 1)) (hM : am_me X rJ5_ensureCapacityInternal_d00df Q) {bc bs : Nat}  {a0 : Nat} {a1 : Int32} {M : am_Hp} (h : hp_T M (a0) = 9 ∧ (hp_R M 160 a0 ≠ 0 ∧ (∀ p3 : Nat, p3 = hp_R M 160 a0 → (hp_T M (p3) = 20 ∧ (∀ v5 : Int32, v5 = ((Int32.ofNat (hp_N M p3)) >>> ((hp_I M 161 a0) &&& 31)) → ((((a1 - v5) ≤ 0) → (Q (.inl none) M)) ∧ (¬ ((a1 - v5) ≤ 0) → (hp_R M 160 a0 ≠ 0 ∧ (∀ p8 : Nat, p8 = hp_R M 160 a0 → (am_CT G d rJ5_newCapacity_0f7a4 [.ref a0, .int a1] M 0 0 (fun oz9 M9 => ∃ v10 : Int32, oz9 = .inl (some (.int v10)) ∧ (hp_T M9 (a0) = 9 ∧ (1 ≤ bc ∧ (100 ≤ bs ∧ (am_CT G d rJ7_copyOf_9075b [.ref p8, .int (v10 <<< ((hp_I M9 161 a0) &&& 31))] M9 1 100 (fun oz9 M12 => ∃ p13 : Nat, oz9 = .inl (some (.ref p13)) ∧ (hp_T M12 (a0) = 9 ∧ (p13 ≠ 0 ∧ (∀ M18 : am_Hp, M18 = hp_sR M12 160 a0 p13 → (Q (.inl none) M18)))))))))))))))))))) : am_J X 0 [(0, .ref a0), (1, .int a1)] [] M bc bs := by
  refine j_aload_n hX eJ5_ensureCapacityInternal_d00df_0 0 rfl ?_
  obtain ⟨t1, h⟩ := h
  obtain ⟨z2, h⟩ := h
  refine j_getR hX eJ5_ensureCapacityInternal_d00df_1 ff_java_lang_AbstractStringBuilder_15 rfl t1 (by decide) z2 ?_
  refine j_nmR (fun p3 ep3 => ?_)
  replace h := h p3 ep3
  obtain ⟨t4, h⟩ := h
  refine j_alen20 hX eJ5_ensureCapacityInternal_d00df_4 t4 ?_
  refine j_aload_n hX eJ5_ensureCapacityInternal_d00df_5 0 rfl ?_
  refine j_getI hX eJ5_ensureCapacityInternal_d00df_6 ff_java_lang_AbstractStringBuilder_22 rfl t1 (by decide) ?_
  refine j_ishr hX eJ5_ensureCapacityInternal_d00df_9 ?_
  refine j_nmI (fun v5 ev5 => ?_)
  replace h := h v5 ev5
  refine j_istore_n (lv' := [(2, .int v5), (0, .ref a0), (1, .int a1)]) hX eJ5_ensureCapacityInternal_d00df_10 rfl (by decide) rfl ?_
  refine j_iload_n hX eJ5_ensureCapacityInternal_d00df_11 2 rfl ?_
  refine j_iload_n hX eJ5_ensureCapacityInternal_d00df_12 0 rfl ?_
  refine j_isub hX eJ5_ensureCapacityInternal_d00df_13 ?_
  refine j_if_le hX 38 eJ5_ensureCapacityInternal_d00df_14 (by decide) (fun c6 => ?_) (fun c6 => ?_)
  · replace h := h.1 c6
    exact j_vret hX hM eJ5_ensureCapacityInternal_d00df_38 rfl h
  · replace h := h.2 c6
    refine j_aload_n hX eJ5_ensureCapacityInternal_d00df_17 1 rfl ?_
    refine j_aload_n hX eJ5_ensureCapacityInternal_d00df_18 1 rfl ?_
    obtain ⟨z7, h⟩ := h
    refine j_getR hX eJ5_ensureCapacityInternal_d00df_19 ff_java_lang_AbstractStringBuilder_15 rfl t1 (by decide) z7 ?_
    refine j_nmR (fun p8 ep8 => ?_)
    replace h := h p8 ep8
    refine j_aload_n hX eJ5_ensureCapacityInternal_d00df_22 1 rfl ?_
    refine j_iload_n hX eJ5_ensureCapacityInternal_d00df_23 2 rfl ?_
    refine j_callU (a := a0) (q := (RJ4, TJ4, 4)) (r' := rJ5_newCapacity_0f7a4) (As := [.int a1]) (rest := [.ref p8, .ref a0]) (d1 := d) hX eJ5_ensureCapacityInternal_d00df_24 mm_java_lang_AbstractStringBuilder_104 rfl t1 (by decide) rfl h rfl (Nat.le_refl _) (Nat.zero_le _) (Nat.zero_le _) (Nat.le_of_ble_eq_true rfl) (fun vz9 Mz9 qz9 => ?_) (fun Ez9 Mz9 qz9 => ?_)
    · obtain ⟨M9, eMz9⟩ : ∃ M9, M9 = Mz9 := ⟨_, rfl⟩; subst eMz9
      obtain ⟨v10, hxz9, h⟩ := qz9
      cases hxz9
      refine j_aload_n hX eJ5_ensureCapacityInternal_d00df_27 1 rfl ?_
      obtain ⟨t11, h⟩ := h
      refine j_getI hX eJ5_ensureCapacityInternal_d00df_28 ff_java_lang_AbstractStringBuilder_22 rfl t11 (by decide) ?_
      refine j_ishl hX eJ5_ensureCapacityInternal_d00df_31 ?_
      obtain ⟨b14, b15, h⟩ := h
      refine j_callS (r' := rJ7_copyOf_9075b) (As := [.ref p8, .int (v10 <<< ((hp_I M9 161 a0) &&& 31))]) (rest := [.ref a0]) (d1 := d) hX eJ5_ensureCapacityInternal_d00df_32 mm_java_lang_AbstractStringBuilder_108 rfl rfl h rfl (Nat.le_refl _) b14 b15 (Nat.le_of_ble_eq_true rfl) (fun vz9 Mz9 qz9 => ?_) (fun Ez9 Mz9 qz9 => ?_)
      · obtain ⟨M12, eMz9⟩ : ∃ M12, M12 = Mz9 := ⟨_, rfl⟩; subst eMz9
        obtain ⟨p13, hxz9, h⟩ := qz9
        cases hxz9
        obtain ⟨t16, h⟩ := h
        obtain ⟨z17, h⟩ := h
        refine j_putR (ty := .array .byte) hX eJ5_ensureCapacityInternal_d00df_35 ff_java_lang_AbstractStringBuilder_15 rfl t16 (by decide) z17 pp_8_0 rfl rfl ?_
        refine j_nmM (fun M18 eM18 => ?_)
        replace h := h M18 eM18
        have t19 : hp_T M18 (a0) = 9 := by rw [eM18]; exact t16
        exact j_vret hX hM eJ5_ensureCapacityInternal_d00df_38 rfl h
      · obtain ⟨p13, hxz9, h⟩ := qz9
        cases hxz9
    · obtain ⟨v10, hxz9, h⟩ := qz9
      cases hxz9

set_option maxHeartbeats 4000000 in
set_option maxRecDepth 20000 in
theorem vJ5_newCapacity_0f7a4_0 {X : am_Cx} {G : am_Gx} {d : Nat} {Q : am_Q} (hX : am_ok X rJ5_newCapacity_0f7a4 G (d + 1)) (hM : am_me X rJ5_newCapacity_0f7a4 Q) {bc bs : Nat}  {a0 : Nat} {a1 : Int32} {M : am_Hp} (h : hp_T M (a0) = 9 ∧ (hp_R M 160 a0 ≠ 0 ∧ (∀ p3 : Nat, p3 = hp_R M 160 a0 → (hp_T M (p3) = 20 ∧ (∀ v5 : Int32, v5 = (Int32.ofNat (hp_N M p3)) → (∀ v6 : Int32, v6 = (a1 <<< ((hp_I M 161 a0) &&& 31)) → (∀ v7 : Int32, v7 = (v6 - v5) → (am_CT G d rJ8_newLength_cabcc [.int v5, .int v7, .int (v5 + ((2 : Int32) <<< ((hp_I M 161 a0) &&& 31)))] M 0 0 (fun oz9 M8 => ∃ v9 : Int32, oz9 = .inl (some (.int v9)) ∧ (((v9 = (2147483647 : Int32)) → (False)) ∧ (¬ (v9 = (2147483647 : Int32)) → (hp_T M8 (a0) = 9 ∧ (Q (.inl (some (.int (v9 >>> ((hp_I M8 161 a0) &&& 31))))) M8))))))))))))) : am_J X 0 [(0, .ref a0), (1, .int a1)] [] M bc bs := by
  refine j_aload_n hX eJ5_newCapacity_0f7a4_0 0 rfl ?_
  obtain ⟨t1, h⟩ := h
  obtain ⟨z2, h⟩ := h
  refine j_getR hX eJ5_newCapacity_0f7a4_1 ff_java_lang_AbstractStringBuilder_15 rfl t1 (by decide) z2 ?_
  refine j_nmR (fun p3 ep3 => ?_)
  replace h := h p3 ep3
  obtain ⟨t4, h⟩ := h
  refine j_alen20 hX eJ5_newCapacity_0f7a4_4 t4 ?_
  refine j_nmI (fun v5 ev5 => ?_)
  replace h := h v5 ev5
  refine j_istore_n (lv' := [(2, .int v5), (0, .ref a0), (1, .int a1)]) hX eJ5_newCapacity_0f7a4_5 rfl (by decide) rfl ?_
  refine j_iload_n hX eJ5_newCapacity_0f7a4_6 2 rfl ?_
  refine j_aload_n hX eJ5_newCapacity_0f7a4_7 1 rfl ?_
  refine j_getI hX eJ5_newCapacity_0f7a4_8 ff_java_lang_AbstractStringBuilder_22 rfl t1 (by decide) ?_
  refine j_ishl hX eJ5_newCapacity_0f7a4_11 ?_
  refine j_nmI (fun v6 ev6 => ?_)
  replace h := h v6 ev6
  refine j_istore_n (lv' := [(3, .int v6), (2, .int v5), (0, .ref a0), (1, .int a1)]) hX eJ5_newCapacity_0f7a4_12 rfl (by decide) rfl ?_
  refine j_iload_n hX eJ5_newCapacity_0f7a4_13 0 rfl ?_
  refine j_iload_n hX eJ5_newCapacity_0f7a4_14 1 rfl ?_
  refine j_isub hX eJ5_newCapacity_0f7a4_15 ?_
  refine j_nmI (fun v7 ev7 => ?_)
  replace h := h v7 ev7
  refine j_istore (lv' := [(4, .int v7), (3, .int v6), (2, .int v5), (0, .ref a0), (1, .int a1)]) hX eJ5_newCapacity_0f7a4_16 (by decide) rfl ?_
  refine j_iload_n hX eJ5_newCapacity_0f7a4_18 2 rfl ?_
  refine j_iload hX eJ5_newCapacity_0f7a4_19 0 rfl ?_
  refine j_iload_n hX eJ5_newCapacity_0f7a4_21 2 rfl ?_
  refine j_iconst (v := (2 : Int32)) hX eJ5_newCapacity_0f7a4_22 (by decide) ?_
  refine j_aload_n hX eJ5_newCapacity_0f7a4_23 3 rfl ?_
  refine j_getI hX eJ5_newCapacity_0f7a4_24 ff_java_lang_AbstractStringBuilder_22 rfl t1 (by decide) ?_
  refine j_ishl hX eJ5_newCapacity_0f7a4_27 ?_
  refine j_iadd hX eJ5_newCapacity_0f7a4_28 ?_
  refine j_callS (r' := rJ8_newLength_cabcc) (As := [.int v5, .int v7, .int (v5 + ((2 : Int32) <<< ((hp_I M 161 a0) &&& 31)))]) (rest := []) (d1 := d) hX eJ5_newCapacity_0f7a4_29 mm_java_lang_AbstractStringBuilder_114 rfl rfl h rfl (Nat.le_refl _) (Nat.zero_le _) (Nat.zero_le _) (Nat.le_of_ble_eq_true rfl) (fun vz9 Mz9 qz9 => ?_) (fun Ez9 Mz9 qz9 => ?_)
  · obtain ⟨M8, eMz9⟩ : ∃ M8, M8 = Mz9 := ⟨_, rfl⟩; subst eMz9
    obtain ⟨v9, hxz9, h⟩ := qz9
    cases hxz9
    refine j_istore (lv' := [(5, .int v9), (4, .int v7), (3, .int v6), (2, .int v5), (0, .ref a0), (1, .int a1)]) hX eJ5_newCapacity_0f7a4_32 (by decide) rfl ?_
    refine j_iload hX eJ5_newCapacity_0f7a4_34 0 rfl ?_
    refine j_ldcI hX eJ5_newCapacity_0f7a4_36 tw_449 ?_
    refine j_icmp_ne hX 51 eJ5_newCapacity_0f7a4_38 (by decide) (fun c10 => ?_) (fun c10 => ?_)
    · replace h := h.2 c10
      refine j_iload hX eJ5_newCapacity_0f7a4_51 0 rfl ?_
      refine j_aload_n hX eJ5_newCapacity_0f7a4_53 4 rfl ?_
      obtain ⟨t11, h⟩ := h
      refine j_getI hX eJ5_newCapacity_0f7a4_54 ff_java_lang_AbstractStringBuilder_22 rfl t11 (by decide) ?_
      refine j_ishr hX eJ5_newCapacity_0f7a4_57 ?_
      exact j_iret hX hM eJ5_newCapacity_0f7a4_58 rfl h
    · replace h := h.1 c10
      exact h.elim
  · obtain ⟨v9, hxz9, h⟩ := qz9
    cases hxz9

set_option maxHeartbeats 4000000 in
set_option maxRecDepth 20000 in
theorem vJ8_newLength_cabcc_0 {X : am_Cx} {G : am_Gx} {d : Nat} {Q : am_Q} (hX : am_ok X rJ8_newLength_cabcc G (d + 1)) (hM : am_me X rJ8_newLength_cabcc Q) {bc bs : Nat}  {a0 : Int32} {a1 : Int32} {a2 : Int32} {M : am_Hp} (h : ∀ v1 : Int32, v1 = (if a1 < a2 then a2 else a1) → (∀ v2 : Int32, v2 = (a0 + v1) → (((v2 ≤ (0 : Int32)) → (am_CT G d rJ8_hugeLength_7cf53 [.int a0, .int a1] M 0 0 (fun oz9 M4 => ∃ v5 : Int32, oz9 = .inl (some (.int v5)) ∧ (Q (.inl (some (.int v5))) M4)))) ∧ (¬ (v2 ≤ (0 : Int32)) → ((((2147483639 : Int32) < v2) → (am_CT G d rJ8_hugeLength_7cf53 [.int a0, .int a1] M 0 0 (fun oz9 M7 => ∃ v8 : Int32, oz9 = .inl (some (.int v8)) ∧ (Q (.inl (some (.int v8))) M7)))) ∧ (¬ ((2147483639 : Int32) < v2) → (Q (.inl (some (.int v2))) M))))))) : am_J X 0 [(0, .int a0), (1, .int a1), (2, .int a2)] [] M bc bs := by
  refine j_iload_n hX eJ8_newLength_cabcc_0 0 rfl ?_
  refine j_iload_n hX eJ8_newLength_cabcc_1 1 rfl ?_
  refine j_iload_n hX eJ8_newLength_cabcc_2 2 rfl ?_
  refine j_mmax hX eJ8_newLength_cabcc_3 tw_442 tw_443 tw_21 (Nat.le_of_ble_eq_true rfl) ?_
  refine j_nmI (fun v1 ev1 => ?_)
  replace h := h v1 ev1
  refine j_iadd hX eJ8_newLength_cabcc_6 ?_
  refine j_nmI (fun v2 ev2 => ?_)
  replace h := h v2 ev2
  refine j_istore_n (lv' := [(3, .int v2), (0, .int a0), (1, .int a1), (2, .int a2)]) hX eJ8_newLength_cabcc_7 rfl (by decide) rfl ?_
  refine j_iconst (v := (0 : Int32)) hX eJ8_newLength_cabcc_8 (by decide) ?_
  refine j_iload_n hX eJ8_newLength_cabcc_9 0 rfl ?_
  refine j_icmp_ge hX 21 eJ8_newLength_cabcc_10 (by decide) (fun c3 => ?_) (fun c3 => ?_)
  · replace h := h.1 c3
    refine j_iload_n hX eJ8_newLength_cabcc_21 1 rfl ?_
    refine j_iload_n hX eJ8_newLength_cabcc_22 2 rfl ?_
    refine j_callS (r' := rJ8_hugeLength_7cf53) (As := [.int a0, .int a1]) (rest := []) (d1 := d) hX eJ8_newLength_cabcc_23 mm_jdk_internal_util_ArraysSupport_201 rfl rfl h rfl (Nat.le_refl _) (Nat.zero_le _) (Nat.zero_le _) (Nat.le_of_ble_eq_true rfl) (fun vz9 Mz9 qz9 => ?_) (fun Ez9 Mz9 qz9 => ?_)
    · obtain ⟨M4, eMz9⟩ : ∃ M4, M4 = Mz9 := ⟨_, rfl⟩; subst eMz9
      obtain ⟨v5, hxz9, h⟩ := qz9
      cases hxz9
      exact j_iret hX hM eJ8_newLength_cabcc_26 rfl h
    · obtain ⟨v5, hxz9, h⟩ := qz9
      cases hxz9
  · replace h := h.2 c3
    refine j_iload_n hX eJ8_newLength_cabcc_13 0 rfl ?_
    refine j_ldcI hX eJ8_newLength_cabcc_14 tw_445 ?_
    refine j_icmp_gt hX 21 eJ8_newLength_cabcc_16 (by decide) (fun c6 => ?_) (fun c6 => ?_)
    · replace h := h.1 c6
      refine j_iload_n hX eJ8_newLength_cabcc_21 1 rfl ?_
      refine j_iload_n hX eJ8_newLength_cabcc_22 2 rfl ?_
      refine j_callS (r' := rJ8_hugeLength_7cf53) (As := [.int a0, .int a1]) (rest := []) (d1 := d) hX eJ8_newLength_cabcc_23 mm_jdk_internal_util_ArraysSupport_201 rfl rfl h rfl (Nat.le_refl _) (Nat.zero_le _) (Nat.zero_le _) (Nat.le_of_ble_eq_true rfl) (fun vz9 Mz9 qz9 => ?_) (fun Ez9 Mz9 qz9 => ?_)
      · obtain ⟨M7, eMz9⟩ : ∃ M7, M7 = Mz9 := ⟨_, rfl⟩; subst eMz9
        obtain ⟨v8, hxz9, h⟩ := qz9
        cases hxz9
        exact j_iret hX hM eJ8_newLength_cabcc_26 rfl h
      · obtain ⟨v8, hxz9, h⟩ := qz9
        cases hxz9
    · replace h := h.2 c6
      refine j_iload_n hX eJ8_newLength_cabcc_19 0 rfl ?_
      exact j_iret hX hM eJ8_newLength_cabcc_20 rfl h

set_option maxHeartbeats 4000000 in
set_option maxRecDepth 20000 in
theorem vJ7_copyOf_9075b_0 {X : am_Cx} {G : am_Gx} {d : Nat} {Q : am_Q} (hX : am_ok X rJ7_copyOf_9075b G (d + 1)) (hM : am_me X rJ7_copyOf_9075b Q) {bc bs : Nat}  {a0 : Nat} {a1 : Int32} {M : am_Hp} (h : hp_T M (a0) = 20 ∧ (((a1 = (Int32.ofNat (hp_N M a0))) → (False)) ∧ (¬ (a1 = (Int32.ofNat (hp_N M a0))) → (¬ a1 < 0 ∧ ((a1).toNatClampNeg * componentBytes .byte ≤ 536870912 ∧ (1 ≤ bc ∧ ((a1).toNatClampNeg ≤ bs ∧ (∀ p7 : Nat, hp_T M p7 = 0 → p7 ≠ 0 → (∀ M10 : am_Hp, M10 = hp_a M p7 20 (a1).toNatClampNeg → (∀ v13 : Int32, v13 = (if a1 < (Int32.ofNat (hp_N M10 a0)) then a1 else (Int32.ofNat (hp_N M10 a0))) → (¬ (0 : Int32) < 0 ∧ (¬ (0 : Int32) < 0 ∧ (¬ v13 < 0 ∧ (((0 : Int32)).toNatClampNeg + (v13).toNatClampNeg ≤ hp_N M10 a0 ∧ (((0 : Int32)).toNatClampNeg + (v13).toNatClampNeg ≤ hp_N M10 p7 ∧ ((∀ i, i < (v13).toNatClampNeg → fits .byte (.int (hp_E M10 a0 (((0 : Int32)).toNatClampNeg + i))) = true) ∧ (∀ M20 : am_Hp, M20 = hp_sA M10 p7 (va_cpy (hp_E M10 a0) (hp_E M10 p7) ((0 : Int32)).toNatClampNeg ((0 : Int32)).toNatClampNeg (v13).toNatClampNeg) → (Q (.inl (some (.ref p7))) M20)))))))))))))))))) : am_J X 0 [(0, .ref a0), (1, .int a1)] [] M bc bs := by
  refine j_iload_n hX eJ7_copyOf_9075b_0 1 rfl ?_
  refine j_aload_n hX eJ7_copyOf_9075b_1 0 rfl ?_
  obtain ⟨t1, h⟩ := h
  refine j_alen20 hX eJ7_copyOf_9075b_2 t1 ?_
  refine j_icmp_ne hX 14 eJ7_copyOf_9075b_3 (by decide) (fun c2 => ?_) (fun c2 => ?_)
  · replace h := h.2 c2
    refine j_iload_n hX eJ7_copyOf_9075b_14 1 rfl ?_
    obtain ⟨n3, n4, b5, b6, h⟩ := h
    refine j_newa_b hX eJ7_copyOf_9075b_15 tw_263 n3 n4 b5 b6 (fun p7 o8 z9 => ?_)
    replace h := h p7 o8 z9
    refine j_nmM (fun M10 eM10 => ?_)
    replace h := h M10 eM10
    have t11 : hp_T M10 (a0) = 20 := by rw [eM10]; exact (hp_Ta o8 t1 (by decide)).trans rfl
    have t12 : hp_T M10 (p7) = 20 := by rw [eM10]; exact hp_Tna
    refine j_astore_n (lv' := [(2, .ref p7), (0, .ref a0), (1, .int a1)]) hX eJ7_copyOf_9075b_17 rfl (by decide) rfl ?_
    refine j_aload_n hX eJ7_copyOf_9075b_18 1 rfl ?_
    refine j_iconst (v := (0 : Int32)) hX eJ7_copyOf_9075b_19 (by decide) ?_
    refine j_aload_n hX eJ7_copyOf_9075b_20 0 rfl ?_
    refine j_iconst (v := (0 : Int32)) hX eJ7_copyOf_9075b_21 (by decide) ?_
    refine j_aload_n hX eJ7_copyOf_9075b_22 1 rfl ?_
    refine j_alen20 hX eJ7_copyOf_9075b_23 t11 ?_
    refine j_iload_n hX eJ7_copyOf_9075b_24 2 rfl ?_
    refine j_mmin hX eJ7_copyOf_9075b_25 tw_460 tw_461 tw_21 (Nat.le_of_ble_eq_true rfl) ?_
    refine j_nmI (fun v13 ev13 => ?_)
    replace h := h v13 ev13
    obtain ⟨g14, g15, g16, g17, g18, h⟩ := h
    obtain ⟨g19, h⟩ := h
    refine j_copyb hX eJ7_copyOf_9075b_28 tw_463 tw_465 tw_464 tw_20 t12 t11 g14 g15 g16 g17 g18 g19 (Nat.le_of_ble_eq_true rfl) ?_
    refine j_nmM (fun M20 eM20 => ?_)
    replace h := h M20 eM20
    have t21 : hp_T M20 (a0) = 20 := by rw [eM20]; exact t11
    have t22 : hp_T M20 (p7) = 20 := by rw [eM20]; exact t12
    refine j_aload_n hX eJ7_copyOf_9075b_31 0 rfl ?_
    exact j_aret hX hM eJ7_copyOf_9075b_32 rfl (by first | exact Or.inl ⟨_, rfl⟩ | exact Or.inr ⟨_, rfl⟩) h
  · replace h := h.1 c2
    refine j_aload_n hX eJ7_copyOf_9075b_6 0 rfl ?_
    exact h.elim

set_option maxHeartbeats 4000000 in
set_option maxRecDepth 20000 in
theorem vJ5_isLatin1_aae02_0 {X : am_Cx} {G : am_Gx} {d : Nat} {Q : am_Q} (hX : am_ok X rJ5_isLatin1_aae02 G (d + 1)) (hM : am_me X rJ5_isLatin1_aae02 Q) {bc bs : Nat}  {a0 : Nat} {M : am_Hp} (h : ("java/lang/String", "COMPACT_STRINGS", "Z", .int 1) ∈ gx_z G ∧ ((((1 : Int32) = 0) → (Q (.inl (some (.int (0 : Int32)))) M)) ∧ (¬ ((1 : Int32) = 0) → (hp_T M (a0) = 9 ∧ ((((hp_I M 161 a0) = 0) → (Q (.inl (some (.int (1 : Int32)))) M)) ∧ (¬ ((hp_I M 161 a0) = 0) → (Q (.inl (some (.int (0 : Int32)))) M))))))) : am_J X 0 [(0, .ref a0)] [] M bc bs := by
  obtain ⟨z1, h⟩ := h
  refine j_gets hX eJ5_isLatin1_aae02_0 z1 tw_240 ?_
  refine j_if_eq hX 17 eJ5_isLatin1_aae02_3 (by decide) (fun c2 => ?_) (fun c2 => ?_)
  · replace h := h.1 c2
    refine j_iconst (v := (0 : Int32)) hX eJ5_isLatin1_aae02_17 (by decide) ?_
    exact j_zret hX hM eJ5_isLatin1_aae02_18 rfl (by decide) h
  · replace h := h.2 c2
    refine j_aload_n hX eJ5_isLatin1_aae02_6 0 rfl ?_
    obtain ⟨t3, h⟩ := h
    refine j_getI hX eJ5_isLatin1_aae02_7 ff_java_lang_AbstractStringBuilder_22 rfl t3 (by decide) ?_
    refine j_if_ne hX 17 eJ5_isLatin1_aae02_10 (by decide) (fun c4 => ?_) (fun c4 => ?_)
    · replace h := h.2 c4
      refine j_iconst (v := (0 : Int32)) hX eJ5_isLatin1_aae02_17 (by decide) ?_
      exact j_zret hX hM eJ5_isLatin1_aae02_18 rfl (by decide) h
    · replace h := h.1 c4
      refine j_iconst (v := (1 : Int32)) hX eJ5_isLatin1_aae02_13 (by decide) ?_
      refine j_goto hX 18 eJ5_isLatin1_aae02_14 (by decide) ?_
      exact j_zret hX hM eJ5_isLatin1_aae02_18 rfl (by decide) h

set_option maxHeartbeats 4000000 in
set_option maxRecDepth 20000 in
theorem vJ1_canEncode_fc78d_0 {X : am_Cx} {G : am_Gx} {d : Nat} {Q : am_Q} (hX : am_ok X rJ1_canEncode_fc78d G (d + 1)) (hM : am_me X rJ1_canEncode_fc78d Q) {bc bs : Nat}  {a0 : Int32} {M : am_Hp} (h : (((255 : Int32) < a0) → (Q (.inl (some (.int (0 : Int32)))) M)) ∧ (¬ ((255 : Int32) < a0) → (Q (.inl (some (.int (1 : Int32)))) M))) : am_J X 0 [(0, .int a0)] [] M bc bs := by
  refine j_iload_n hX eJ1_canEncode_fc78d_0 0 rfl ?_
  refine j_sipush (v := (255 : Int32)) hX eJ1_canEncode_fc78d_1 (by decide) ?_
  refine j_icmp_gt hX 11 eJ1_canEncode_fc78d_4 (by decide) (fun c1 => ?_) (fun c1 => ?_)
  · replace h := h.1 c1
    refine j_iconst (v := (0 : Int32)) hX eJ1_canEncode_fc78d_11 (by decide) ?_
    exact j_zret hX hM eJ1_canEncode_fc78d_12 rfl (by decide) h
  · replace h := h.2 c1
    refine j_iconst (v := (1 : Int32)) hX eJ1_canEncode_fc78d_7 (by decide) ?_
    refine j_goto hX 12 eJ1_canEncode_fc78d_8 (by decide) ?_
    exact j_zret hX hM eJ1_canEncode_fc78d_12 rfl (by decide) h

set_option maxHeartbeats 4000000 in
set_option maxRecDepth 20000 in
theorem vJ6_stringSize_0f7a4_0 {X : am_Cx} {G : am_Gx} {d : Nat} {Q : am_Q} (hX : am_ok X rJ6_stringSize_0f7a4 G (d + 1)) (hM : am_me X rJ6_stringSize_0f7a4 Q) {bc bs : Nat} (R16 : Int32 → Int32 → Int32 → Int32 → am_Hp → Prop) (k16 : ∀ (x0 : Int32) (x1 : Int32) (x2 : Int32) (x3 : Int32) (M : am_Hp), R16 x0 x1 x2 x3 M → am_J X 16 [(0, .int x0), (1, .int x1), (2, .int x2), (3, .int x3)] [] M bc bs) {a0 : Int32} {M : am_Hp} (h : ((a0 < 0) → (R16 a0 (1 : Int32) (-10 : Int32) (1 : Int32) M)) ∧ (¬ (a0 < 0) → (∀ v2 : Int32, v2 = (-a0) → (R16 v2 (0 : Int32) (-10 : Int32) (1 : Int32) M)))) : am_J X 0 [(0, .int a0)] [] M bc bs := by
  refine j_iconst (v := (1 : Int32)) hX eJ6_stringSize_0f7a4_0 (by decide) ?_
  refine j_istore_n (lv' := [(1, .int (1 : Int32)), (0, .int a0)]) hX eJ6_stringSize_0f7a4_1 rfl (by decide) rfl ?_
  refine j_iload_n hX eJ6_stringSize_0f7a4_2 1 rfl ?_
  refine j_if_lt hX 11 eJ6_stringSize_0f7a4_3 (by decide) (fun c1 => ?_) (fun c1 => ?_)
  · replace h := h.1 c1
    refine j_bipush (v := (-10 : Int32)) hX eJ6_stringSize_0f7a4_11 (by decide) ?_
    refine j_istore_n (lv' := [(2, .int (-10 : Int32)), (1, .int (1 : Int32)), (0, .int a0)]) hX eJ6_stringSize_0f7a4_13 rfl (by decide) rfl ?_
    refine j_iconst (v := (1 : Int32)) hX eJ6_stringSize_0f7a4_14 (by decide) ?_
    refine j_istore_n (lv' := [(3, .int (1 : Int32)), (2, .int (-10 : Int32)), (1, .int (1 : Int32)), (0, .int a0)]) hX eJ6_stringSize_0f7a4_15 rfl (by decide) rfl ?_
    exact j_sub [3, 2, 1, 0] rfl (k16 _ _ _ _ _ h)
  · replace h := h.2 c1
    refine j_iconst (v := (0 : Int32)) hX eJ6_stringSize_0f7a4_6 (by decide) ?_
    refine j_istore_n (lv' := [(1, .int (0 : Int32)), (0, .int a0)]) hX eJ6_stringSize_0f7a4_7 rfl (by decide) rfl ?_
    refine j_iload_n hX eJ6_stringSize_0f7a4_8 1 rfl ?_
    refine j_ineg hX eJ6_stringSize_0f7a4_9 ?_
    refine j_nmI (fun v2 ev2 => ?_)
    replace h := h v2 ev2
    refine j_istore_n (lv' := [(0, .int v2), (1, .int (0 : Int32))]) hX eJ6_stringSize_0f7a4_10 rfl (by decide) rfl ?_
    refine j_bipush (v := (-10 : Int32)) hX eJ6_stringSize_0f7a4_11 (by decide) ?_
    refine j_istore_n (lv' := [(2, .int (-10 : Int32)), (0, .int v2), (1, .int (0 : Int32))]) hX eJ6_stringSize_0f7a4_13 rfl (by decide) rfl ?_
    refine j_iconst (v := (1 : Int32)) hX eJ6_stringSize_0f7a4_14 (by decide) ?_
    refine j_istore_n (lv' := [(3, .int (1 : Int32)), (2, .int (-10 : Int32)), (0, .int v2), (1, .int (0 : Int32))]) hX eJ6_stringSize_0f7a4_15 rfl (by decide) rfl ?_
    exact j_sub [2, 3, 1, 0] rfl (k16 _ _ _ _ _ h)
set_option maxHeartbeats 4000000 in
set_option maxRecDepth 20000 in
theorem vJ6_stringSize_0f7a4_16 {X : am_Cx} {G : am_Gx} {d : Nat} {Q : am_Q} (hX : am_ok X rJ6_stringSize_0f7a4 G (d + 1)) (hM : am_me X rJ6_stringSize_0f7a4 Q) {bc bs : Nat} (R16 : Int32 → Int32 → Int32 → Int32 → am_Hp → Prop) (k16 : ∀ (x0 : Int32) (x1 : Int32) (x2 : Int32) (x3 : Int32) (M : am_Hp), R16 x0 x1 x2 x3 M → am_J X 16 [(0, .int x0), (1, .int x1), (2, .int x2), (3, .int x3)] [] M bc bs) {a0 : Int32} {a1 : Int32} {a2 : Int32} {a3 : Int32} {M : am_Hp} (h : (((10 : Int32) ≤ a3) → (Q (.inl (some (.int ((10 : Int32) + a1)))) M)) ∧ (¬ ((10 : Int32) ≤ a3) → (((a0 ≤ a2) → (∀ v3 : Int32, v3 = ((10 : Int32) * a2) → (∀ v4 : Int32, v4 = a3 + (1 : Int32) → (R16 a0 a1 v3 v4 M)))) ∧ (¬ (a0 ≤ a2) → (Q (.inl (some (.int (a3 + a1)))) M))))) : am_J X 16 [(0, .int a0), (1, .int a1), (2, .int a2), (3, .int a3)] [] M bc bs := by
  refine j_iload_n hX eJ6_stringSize_0f7a4_16 3 rfl ?_
  refine j_bipush (v := (10 : Int32)) hX eJ6_stringSize_0f7a4_17 (by decide) ?_
  refine j_icmp_ge hX 42 eJ6_stringSize_0f7a4_19 (by decide) (fun c1 => ?_) (fun c1 => ?_)
  · replace h := h.1 c1
    refine j_bipush (v := (10 : Int32)) hX eJ6_stringSize_0f7a4_42 (by decide) ?_
    refine j_iload_n hX eJ6_stringSize_0f7a4_44 1 rfl ?_
    refine j_iadd hX eJ6_stringSize_0f7a4_45 ?_
    exact j_iret hX hM eJ6_stringSize_0f7a4_46 rfl h
  · replace h := h.2 c1
    refine j_iload_n hX eJ6_stringSize_0f7a4_22 0 rfl ?_
    refine j_iload_n hX eJ6_stringSize_0f7a4_23 2 rfl ?_
    refine j_icmp_le hX 31 eJ6_stringSize_0f7a4_24 (by decide) (fun c2 => ?_) (fun c2 => ?_)
    · replace h := h.1 c2
      refine j_bipush (v := (10 : Int32)) hX eJ6_stringSize_0f7a4_31 (by decide) ?_
      refine j_iload_n hX eJ6_stringSize_0f7a4_33 2 rfl ?_
      refine j_imul hX eJ6_stringSize_0f7a4_34 ?_
      refine j_nmI (fun v3 ev3 => ?_)
      replace h := h v3 ev3
      refine j_istore_n (lv' := [(2, .int v3), (0, .int a0), (1, .int a1), (3, .int a3)]) hX eJ6_stringSize_0f7a4_35 rfl (by decide) rfl ?_
      obtain ⟨v4, ev4⟩ : ∃ v4 : Int32, v4 = a3 + (1 : Int32) := ⟨_, rfl⟩
      replace h := h v4 ev4
      refine j_iinc (v := v4) (lv' := [(3, .int v4), (2, .int v3), (0, .int a0), (1, .int a1)]) hX eJ6_stringSize_0f7a4_36 3 rfl (by rw [ev4]; rfl) (by decide) rfl ?_
      refine j_goto hX 16 eJ6_stringSize_0f7a4_39 (by decide) ?_
      exact j_sub [2, 3, 1, 0] rfl (k16 _ _ _ _ _ h)
    · replace h := h.2 c2
      refine j_iload_n hX eJ6_stringSize_0f7a4_27 3 rfl ?_
      refine j_iload_n hX eJ6_stringSize_0f7a4_28 1 rfl ?_
      refine j_iadd hX eJ6_stringSize_0f7a4_29 ?_
      exact j_iret hX hM eJ6_stringSize_0f7a4_30 rfl h

set_option maxHeartbeats 4000000 in
set_option maxRecDepth 20000 in
theorem vJ6_getChars_ba4f3_0 {X : am_Cx} {G : am_Gx} {d : Nat} {Q : am_Q} (hX : am_ok X rJ6_getChars_ba4f3 G (d + 1)) (hM : am_me X rJ6_getChars_ba4f3 Q) {bc bs : Nat} (R22 : Int32 → Nat → Int32 → Int32 → am_Hp → Prop) (k22 : ∀ (x0 : Int32) (x2 : Nat) (x5 : Int32) (x6 : Int32) (M : am_Hp), R22 x0 x2 x5 x6 M → am_J X 22 [(0, .int x0), (2, .ref x2), (5, .int x5), (6, .int x6)] [] M bc bs) {a0 : Int32} {a1 : Int32} {a2 : Nat} {M : am_Hp} (h : ((0 ≤ a0) → ((((0 : Int32) = 0) → (∀ v3 : Int32, v3 = (-a0) → (R22 v3 a2 a1 (0 : Int32) M))) ∧ (¬ ((0 : Int32) = 0) → (R22 a0 a2 a1 (0 : Int32) M)))) ∧ (¬ (0 ≤ a0) → ((((1 : Int32) = 0) → (∀ v5 : Int32, v5 = (-a0) → (R22 v5 a2 a1 (1 : Int32) M))) ∧ (¬ ((1 : Int32) = 0) → (R22 a0 a2 a1 (1 : Int32) M))))) : am_J X 0 [(0, .int a0), (1, .int a1), (2, .ref a2)] [] M bc bs := by
  refine j_iload_n hX eJ6_getChars_ba4f3_0 1 rfl ?_
  refine j_istore (lv' := [(5, .int a1), (0, .int a0), (1, .int a1), (2, .ref a2)]) hX eJ6_getChars_ba4f3_1 (by decide) rfl ?_
  refine j_iload_n hX eJ6_getChars_ba4f3_3 1 rfl ?_
  refine j_if_ge hX 11 eJ6_getChars_ba4f3_4 (by decide) (fun c1 => ?_) (fun c1 => ?_)
  · replace h := h.1 c1
    refine j_iconst (v := (0 : Int32)) hX eJ6_getChars_ba4f3_11 (by decide) ?_
    refine j_istore (lv' := [(6, .int (0 : Int32)), (5, .int a1), (0, .int a0), (1, .int a1), (2, .ref a2)]) hX eJ6_getChars_ba4f3_12 (by decide) rfl ?_
    refine j_iload hX eJ6_getChars_ba4f3_14 0 rfl ?_
    refine j_if_ne hX 22 eJ6_getChars_ba4f3_16 (by decide) (fun c2 => ?_) (fun c2 => ?_)
    · replace h := h.2 c2
      exact j_sub [2, 4, 1, 0] rfl (k22 _ _ _ _ _ h)
    · replace h := h.1 c2
      refine j_iload_n hX eJ6_getChars_ba4f3_19 2 rfl ?_
      refine j_ineg hX eJ6_getChars_ba4f3_20 ?_
      refine j_nmI (fun v3 ev3 => ?_)
      replace h := h v3 ev3
      refine j_istore_n (lv' := [(0, .int v3), (6, .int (0 : Int32)), (5, .int a1), (1, .int a1), (2, .ref a2)]) hX eJ6_getChars_ba4f3_21 rfl (by decide) rfl ?_
      exact j_sub [0, 4, 2, 1] rfl (k22 _ _ _ _ _ h)
  · replace h := h.2 c1
    refine j_iconst (v := (1 : Int32)) hX eJ6_getChars_ba4f3_7 (by decide) ?_
    refine j_goto hX 12 eJ6_getChars_ba4f3_8 (by decide) ?_
    refine j_istore (lv' := [(6, .int (1 : Int32)), (5, .int a1), (0, .int a0), (1, .int a1), (2, .ref a2)]) hX eJ6_getChars_ba4f3_12 (by decide) rfl ?_
    refine j_iload hX eJ6_getChars_ba4f3_14 0 rfl ?_
    refine j_if_ne hX 22 eJ6_getChars_ba4f3_16 (by decide) (fun c4 => ?_) (fun c4 => ?_)
    · replace h := h.2 c4
      exact j_sub [2, 4, 1, 0] rfl (k22 _ _ _ _ _ h)
    · replace h := h.1 c4
      refine j_iload_n hX eJ6_getChars_ba4f3_19 2 rfl ?_
      refine j_ineg hX eJ6_getChars_ba4f3_20 ?_
      refine j_nmI (fun v5 ev5 => ?_)
      replace h := h v5 ev5
      refine j_istore_n (lv' := [(0, .int v5), (6, .int (1 : Int32)), (5, .int a1), (1, .int a1), (2, .ref a2)]) hX eJ6_getChars_ba4f3_21 rfl (by decide) rfl ?_
      exact j_sub [0, 4, 2, 1] rfl (k22 _ _ _ _ _ h)
set_option maxHeartbeats 4000000 in
set_option maxRecDepth 20000 in
theorem vJ6_getChars_ba4f3_22 {X : am_Cx} {G : am_Gx} {d : Nat} {Q : am_Q} (hX : am_ok X rJ6_getChars_ba4f3 G (d + 1)) (hM : am_me X rJ6_getChars_ba4f3 Q) {bc bs : Nat} (R22 : Int32 → Nat → Int32 → Int32 → am_Hp → Prop) (k22 : ∀ (x0 : Int32) (x2 : Nat) (x5 : Int32) (x6 : Int32) (M : am_Hp), R22 x0 x2 x5 x6 M → am_J X 22 [(0, .int x0), (2, .ref x2), (5, .int x5), (6, .int x6)] [] M bc bs) {a0 : Int32} {a2 : Nat} {a5 : Int32} {a6 : Int32} {M : am_Hp} (h : (((-100 : Int32) < a0) → (∀ v2 : Int32, v2 = a5 + (-1 : Int32) → (∃ p4 : Nat, ("java/lang/Integer", "DigitOnes", "[B", .ref p4) ∈ gx_z G ∧ (hp_T M (p4) = 20 ∧ (vp_in (-a0) (hp_N M p4) ∧ (hp_T M (a2) = 20 ∧ (vp_in v2 (hp_N M a2) ∧ (vp_nar .byte (hp_E M p4 ((-a0)).toNatClampNeg) = (hp_E M p4 ((-a0)).toNatClampNeg) ∧ (∀ M10 : am_Hp, M10 = hp_sE M a2 (v2).toNatClampNeg (hp_E M p4 ((-a0)).toNatClampNeg) → ((((-9 : Int32) ≤ a0) → (((a6 = 0) → (Q (.inl (some (.int v2))) M10)) ∧ (¬ (a6 = 0) → (∀ v15 : Int32, v15 = v2 + (-1 : Int32) → (vp_in v15 (hp_N M10 a2) ∧ (vp_nar .byte (45 : Int32) = (45 : Int32) ∧ (∀ M18 : am_Hp, M18 = hp_sE M10 a2 (v15).toNatClampNeg (45 : Int32) → (Q (.inl (some (.int v15))) M18)))))))) ∧ (¬ ((-9 : Int32) ≤ a0) → (∀ v21 : Int32, v21 = v2 + (-1 : Int32) → (∃ p23 : Nat, ("java/lang/Integer", "DigitTens", "[B", .ref p23) ∈ gx_z G ∧ (hp_T M10 (p23) = 20 ∧ (vp_in (-a0) (hp_N M10 p23) ∧ (vp_in v21 (hp_N M10 a2) ∧ (vp_nar .byte (hp_E M10 p23 ((-a0)).toNatClampNeg) = (hp_E M10 p23 ((-a0)).toNatClampNeg) ∧ (∀ M28 : am_Hp, M28 = hp_sE M10 a2 (v21).toNatClampNeg (hp_E M10 p23 ((-a0)).toNatClampNeg) → (((a6 = 0) → (Q (.inl (some (.int v21))) M28)) ∧ (¬ (a6 = 0) → (∀ v33 : Int32, v33 = v21 + (-1 : Int32) → (vp_in v33 (hp_N M28 a2) ∧ (vp_nar .byte (45 : Int32) = (45 : Int32) ∧ (∀ M36 : am_Hp, M36 = hp_sE M28 a2 (v33).toNatClampNeg (45 : Int32) → (Q (.inl (some (.int v33))) M36))))))))))))))))))))))))) ∧ (¬ ((-100 : Int32) < a0) → (∀ v40 : Int32, v40 = (a0 / (100 : Int32)) → (∀ v41 : Int32, v41 = ((v40 * (100 : Int32)) - a0) → (∀ v42 : Int32, v42 = a5 + (-1 : Int32) → (∃ p44 : Nat, ("java/lang/Integer", "DigitOnes", "[B", .ref p44) ∈ gx_z G ∧ (hp_T M (p44) = 20 ∧ (vp_in v41 (hp_N M p44) ∧ (hp_T M (a2) = 20 ∧ (vp_in v42 (hp_N M a2) ∧ (vp_nar .byte (hp_E M p44 (v41).toNatClampNeg) = (hp_E M p44 (v41).toNatClampNeg) ∧ (∀ M50 : am_Hp, M50 = hp_sE M a2 (v42).toNatClampNeg (hp_E M p44 (v41).toNatClampNeg) → (∀ v53 : Int32, v53 = v42 + (-1 : Int32) → (∃ p55 : Nat, ("java/lang/Integer", "DigitTens", "[B", .ref p55) ∈ gx_z G ∧ (hp_T M50 (p55) = 20 ∧ (vp_in v41 (hp_N M50 p55) ∧ (vp_in v53 (hp_N M50 a2) ∧ (vp_nar .byte (hp_E M50 p55 (v41).toNatClampNeg) = (hp_E M50 p55 (v41).toNatClampNeg) ∧ (∀ M60 : am_Hp, M60 = hp_sE M50 a2 (v53).toNatClampNeg (hp_E M50 p55 (v41).toNatClampNeg) → (R22 v40 a2 v53 a6 M60)))))))))))))))))))) : am_J X 22 [(0, .int a0), (2, .ref a2), (5, .int a5), (6, .int a6)] [] M bc bs := by
  refine j_iload_n hX eJ6_getChars_ba4f3_22 0 rfl ?_
  refine j_bipush (v := (-100 : Int32)) hX eJ6_getChars_ba4f3_23 (by decide) ?_
  refine j_icmp_gt hX 72 eJ6_getChars_ba4f3_25 (by decide) (fun c1 => ?_) (fun c1 => ?_)
  · replace h := h.1 c1
    refine j_aload_n hX eJ6_getChars_ba4f3_72 1 rfl ?_
    obtain ⟨v2, ev2⟩ : ∃ v2 : Int32, v2 = a5 + (-1 : Int32) := ⟨_, rfl⟩
    replace h := h v2 ev2
    refine j_iinc (v := v2) (lv' := [(5, .int v2), (0, .int a0), (2, .ref a2), (6, .int a6)]) hX eJ6_getChars_ba4f3_73 2 rfl (by rw [ev2]; rfl) (by decide) rfl ?_
    refine j_iload hX eJ6_getChars_ba4f3_76 0 rfl ?_
    obtain ⟨p4, z3, h⟩ := h
    refine j_gets hX eJ6_getChars_ba4f3_78 z3 tw_553 ?_
    refine j_iload_n hX eJ6_getChars_ba4f3_81 1 rfl ?_
    refine j_ineg hX eJ6_getChars_ba4f3_82 ?_
    obtain ⟨t5, h⟩ := h
    obtain ⟨i6, h⟩ := h
    refine j_bald hX eJ6_getChars_ba4f3_83 t5 i6 ?_
    obtain ⟨t7, h⟩ := h
    obtain ⟨i8, h⟩ := h
    obtain ⟨n9, h⟩ := h
    refine j_bast hX eJ6_getChars_ba4f3_84 t7 i8 n9 ?_
    refine j_nmM (fun M10 eM10 => ?_)
    replace h := h M10 eM10
    have t11 : hp_T M10 (p4) = 20 := by rw [eM10]; exact t5
    have t12 : hp_T M10 (a2) = 20 := by rw [eM10]; exact t7
    refine j_iload_n hX eJ6_getChars_ba4f3_85 1 rfl ?_
    refine j_bipush (v := (-9 : Int32)) hX eJ6_getChars_ba4f3_86 (by decide) ?_
    refine j_icmp_ge hX 104 eJ6_getChars_ba4f3_88 (by decide) (fun c13 => ?_) (fun c13 => ?_)
    · replace h := h.1 c13
      refine j_iload hX eJ6_getChars_ba4f3_104 3 rfl ?_
      refine j_if_eq hX 118 eJ6_getChars_ba4f3_106 (by decide) (fun c14 => ?_) (fun c14 => ?_)
      · replace h := h.1 c14
        refine j_iload hX eJ6_getChars_ba4f3_118 0 rfl ?_
        exact j_iret hX hM eJ6_getChars_ba4f3_120 rfl h
      · replace h := h.2 c14
        refine j_aload_n hX eJ6_getChars_ba4f3_109 2 rfl ?_
        obtain ⟨v15, ev15⟩ : ∃ v15 : Int32, v15 = v2 + (-1 : Int32) := ⟨_, rfl⟩
        replace h := h v15 ev15
        refine j_iinc (v := v15) (lv' := [(5, .int v15), (0, .int a0), (2, .ref a2), (6, .int a6)]) hX eJ6_getChars_ba4f3_110 0 rfl (by rw [ev15]; rfl) (by decide) rfl ?_
        refine j_iload hX eJ6_getChars_ba4f3_113 0 rfl ?_
        refine j_bipush (v := (45 : Int32)) hX eJ6_getChars_ba4f3_115 (by decide) ?_
        obtain ⟨i16, h⟩ := h
        obtain ⟨n17, h⟩ := h
        refine j_bast hX eJ6_getChars_ba4f3_117 t12 i16 n17 ?_
        refine j_nmM (fun M18 eM18 => ?_)
        replace h := h M18 eM18
        have t19 : hp_T M18 (p4) = 20 := by rw [eM18]; exact t11
        have t20 : hp_T M18 (a2) = 20 := by rw [eM18]; exact t12
        refine j_iload hX eJ6_getChars_ba4f3_118 0 rfl ?_
        exact j_iret hX hM eJ6_getChars_ba4f3_120 rfl h
    · replace h := h.2 c13
      refine j_aload_n hX eJ6_getChars_ba4f3_91 2 rfl ?_
      obtain ⟨v21, ev21⟩ : ∃ v21 : Int32, v21 = v2 + (-1 : Int32) := ⟨_, rfl⟩
      replace h := h v21 ev21
      refine j_iinc (v := v21) (lv' := [(5, .int v21), (0, .int a0), (2, .ref a2), (6, .int a6)]) hX eJ6_getChars_ba4f3_92 0 rfl (by rw [ev21]; rfl) (by decide) rfl ?_
      refine j_iload hX eJ6_getChars_ba4f3_95 0 rfl ?_
      obtain ⟨p23, z22, h⟩ := h
      refine j_gets hX eJ6_getChars_ba4f3_97 z22 tw_555 ?_
      refine j_iload_n hX eJ6_getChars_ba4f3_100 1 rfl ?_
      refine j_ineg hX eJ6_getChars_ba4f3_101 ?_
      obtain ⟨t24, h⟩ := h
      obtain ⟨i25, h⟩ := h
      refine j_bald hX eJ6_getChars_ba4f3_102 t24 i25 ?_
      obtain ⟨i26, h⟩ := h
      obtain ⟨n27, h⟩ := h
      refine j_bast hX eJ6_getChars_ba4f3_103 t12 i26 n27 ?_
      refine j_nmM (fun M28 eM28 => ?_)
      replace h := h M28 eM28
      have t29 : hp_T M28 (p4) = 20 := by rw [eM28]; exact t11
      have t30 : hp_T M28 (a2) = 20 := by rw [eM28]; exact t12
      have t31 : hp_T M28 (p23) = 20 := by rw [eM28]; exact t24
      refine j_iload hX eJ6_getChars_ba4f3_104 3 rfl ?_
      refine j_if_eq hX 118 eJ6_getChars_ba4f3_106 (by decide) (fun c32 => ?_) (fun c32 => ?_)
      · replace h := h.1 c32
        refine j_iload hX eJ6_getChars_ba4f3_118 0 rfl ?_
        exact j_iret hX hM eJ6_getChars_ba4f3_120 rfl h
      · replace h := h.2 c32
        refine j_aload_n hX eJ6_getChars_ba4f3_109 2 rfl ?_
        obtain ⟨v33, ev33⟩ : ∃ v33 : Int32, v33 = v21 + (-1 : Int32) := ⟨_, rfl⟩
        replace h := h v33 ev33
        refine j_iinc (v := v33) (lv' := [(5, .int v33), (0, .int a0), (2, .ref a2), (6, .int a6)]) hX eJ6_getChars_ba4f3_110 0 rfl (by rw [ev33]; rfl) (by decide) rfl ?_
        refine j_iload hX eJ6_getChars_ba4f3_113 0 rfl ?_
        refine j_bipush (v := (45 : Int32)) hX eJ6_getChars_ba4f3_115 (by decide) ?_
        obtain ⟨i34, h⟩ := h
        obtain ⟨n35, h⟩ := h
        refine j_bast hX eJ6_getChars_ba4f3_117 t30 i34 n35 ?_
        refine j_nmM (fun M36 eM36 => ?_)
        replace h := h M36 eM36
        have t37 : hp_T M36 (p4) = 20 := by rw [eM36]; exact t29
        have t38 : hp_T M36 (a2) = 20 := by rw [eM36]; exact t30
        have t39 : hp_T M36 (p23) = 20 := by rw [eM36]; exact t31
        refine j_iload hX eJ6_getChars_ba4f3_118 0 rfl ?_
        exact j_iret hX hM eJ6_getChars_ba4f3_120 rfl h
  · replace h := h.2 c1
    refine j_iload_n hX eJ6_getChars_ba4f3_28 0 rfl ?_
    refine j_bipush (v := (100 : Int32)) hX eJ6_getChars_ba4f3_29 (by decide) ?_
    refine j_idiv hX eJ6_getChars_ba4f3_31 (by decide) ?_
    refine j_nmI (fun v40 ev40 => ?_)
    replace h := h v40 ev40
    refine j_istore_n (lv' := [(3, .int v40), (0, .int a0), (2, .ref a2), (5, .int a5), (6, .int a6)]) hX eJ6_getChars_ba4f3_32 rfl (by decide) rfl ?_
    refine j_iload_n hX eJ6_getChars_ba4f3_33 0 rfl ?_
    refine j_bipush (v := (100 : Int32)) hX eJ6_getChars_ba4f3_34 (by decide) ?_
    refine j_imul hX eJ6_getChars_ba4f3_36 ?_
    refine j_iload_n hX eJ6_getChars_ba4f3_37 1 rfl ?_
    refine j_isub hX eJ6_getChars_ba4f3_38 ?_
    refine j_nmI (fun v41 ev41 => ?_)
    replace h := h v41 ev41
    refine j_istore (lv' := [(4, .int v41), (3, .int v40), (0, .int a0), (2, .ref a2), (5, .int a5), (6, .int a6)]) hX eJ6_getChars_ba4f3_39 (by decide) rfl ?_
    refine j_iload_n hX eJ6_getChars_ba4f3_41 1 rfl ?_
    refine j_istore_n (lv' := [(0, .int v40), (4, .int v41), (3, .int v40), (2, .ref a2), (5, .int a5), (6, .int a6)]) hX eJ6_getChars_ba4f3_42 rfl (by decide) rfl ?_
    refine j_aload_n hX eJ6_getChars_ba4f3_43 3 rfl ?_
    obtain ⟨v42, ev42⟩ : ∃ v42 : Int32, v42 = a5 + (-1 : Int32) := ⟨_, rfl⟩
    replace h := h v42 ev42
    refine j_iinc (v := v42) (lv' := [(5, .int v42), (0, .int v40), (4, .int v41), (3, .int v40), (2, .ref a2), (6, .int a6)]) hX eJ6_getChars_ba4f3_44 4 rfl (by rw [ev42]; rfl) (by decide) rfl ?_
    refine j_iload hX eJ6_getChars_ba4f3_47 0 rfl ?_
    obtain ⟨p44, z43, h⟩ := h
    refine j_gets hX eJ6_getChars_ba4f3_49 z43 tw_553 ?_
    refine j_iload hX eJ6_getChars_ba4f3_52 2 rfl ?_
    obtain ⟨t45, h⟩ := h
    obtain ⟨i46, h⟩ := h
    refine j_bald hX eJ6_getChars_ba4f3_54 t45 i46 ?_
    obtain ⟨t47, h⟩ := h
    obtain ⟨i48, h⟩ := h
    obtain ⟨n49, h⟩ := h
    refine j_bast hX eJ6_getChars_ba4f3_55 t47 i48 n49 ?_
    refine j_nmM (fun M50 eM50 => ?_)
    replace h := h M50 eM50
    have t51 : hp_T M50 (p44) = 20 := by rw [eM50]; exact t45
    have t52 : hp_T M50 (a2) = 20 := by rw [eM50]; exact t47
    refine j_aload_n hX eJ6_getChars_ba4f3_56 4 rfl ?_
    obtain ⟨v53, ev53⟩ : ∃ v53 : Int32, v53 = v42 + (-1 : Int32) := ⟨_, rfl⟩
    replace h := h v53 ev53
    refine j_iinc (v := v53) (lv' := [(5, .int v53), (0, .int v40), (4, .int v41), (3, .int v40), (2, .ref a2), (6, .int a6)]) hX eJ6_getChars_ba4f3_57 0 rfl (by rw [ev53]; rfl) (by decide) rfl ?_
    refine j_iload hX eJ6_getChars_ba4f3_60 0 rfl ?_
    obtain ⟨p55, z54, h⟩ := h
    refine j_gets hX eJ6_getChars_ba4f3_62 z54 tw_555 ?_
    refine j_iload hX eJ6_getChars_ba4f3_65 2 rfl ?_
    obtain ⟨t56, h⟩ := h
    obtain ⟨i57, h⟩ := h
    refine j_bald hX eJ6_getChars_ba4f3_67 t56 i57 ?_
    obtain ⟨i58, h⟩ := h
    obtain ⟨n59, h⟩ := h
    refine j_bast hX eJ6_getChars_ba4f3_68 t52 i58 n59 ?_
    refine j_nmM (fun M60 eM60 => ?_)
    replace h := h M60 eM60
    have t61 : hp_T M60 (p44) = 20 := by rw [eM60]; exact t51
    have t62 : hp_T M60 (a2) = 20 := by rw [eM60]; exact t52
    have t63 : hp_T M60 (p55) = 20 := by rw [eM60]; exact t56
    refine j_goto hX 22 eJ6_getChars_ba4f3_69 (by decide) ?_
    exact j_sub [1, 4, 0, 5] rfl (k22 _ _ _ _ _ h)

set_option maxHeartbeats 4000000 in
set_option maxRecDepth 20000 in
theorem vJ4_charAt_5068e_0 {X : am_Cx} {G : am_Gx} {d : Nat} {Q : am_Q} (hX : am_ok X rJ4_charAt_5068e G (d + 1)) (hM : am_me X rJ4_charAt_5068e Q) {bc bs : Nat}  {a0 : Nat} {a1 : Int32} {M : am_Hp} (h : hp_T M (a0) = 9 ∧ (am_CT G d rJ5_charAt_5068e [.ref a0, .int a1] M 0 0 (fun oz9 M1 => ∃ v2 : Int32, oz9 = .inl (some (.int v2)) ∧ (narrow .char (.int v2) = .int v2 ∧ (Q (.inl (some (.int v2))) M1))))) : am_J X 0 [(0, .ref a0), (1, .int a1)] [] M bc bs := by
  refine j_aload_n hX eJ4_charAt_5068e_0 0 rfl ?_
  refine j_iload_n hX eJ4_charAt_5068e_1 1 rfl ?_
  obtain ⟨t3, h⟩ := h
  refine j_callSU (a := a0) (q := (RJ4, TJ4, 4)) (r' := rJ5_charAt_5068e) (As := [.int a1]) (rest := []) (d1 := d) hX eJ4_charAt_5068e_2 mm_java_lang_StringBuilder_329 rfl t3 (by decide) rfl h rfl (Nat.le_refl _) (Nat.zero_le _) (Nat.zero_le _) (Nat.le_of_ble_eq_true rfl) (fun vz9 Mz9 qz9 => ?_) (fun Ez9 Mz9 qz9 => ?_)
  · obtain ⟨M1, eMz9⟩ : ∃ M1, M1 = Mz9 := ⟨_, rfl⟩; subst eMz9
    obtain ⟨v2, hxz9, h⟩ := qz9
    cases hxz9
    obtain ⟨n4, h⟩ := h
    exact j_zret hX hM eJ4_charAt_5068e_5 rfl n4 h
  · obtain ⟨v2, hxz9, h⟩ := qz9
    cases hxz9

set_option maxHeartbeats 4000000 in
set_option maxRecDepth 20000 in
theorem vJ5_charAt_5068e_0 {X : am_Cx} {G : am_Gx} {d : Nat} {Q : am_Q} (hX : am_ok X rJ5_charAt_5068e G (d + 1)) (hM : am_me X rJ5_charAt_5068e Q) {bc bs : Nat}  {a0 : Nat} {a1 : Int32} {M : am_Hp} (h : hp_T M (a0) = 9 ∧ (∀ v2 : Int32, v2 = (hp_I M 161 a0) → (hp_R M 160 a0 ≠ 0 ∧ (∀ p4 : Nat, p4 = hp_R M 160 a0 → (hp_T M (p4) = 20 ∧ (∀ v6 : Int32, v6 = (if ((Int32.ofNat (hp_N M p4)) >>> (v2 &&& 31)) < (hp_I M 163 a0) then ((Int32.ofNat (hp_N M p4)) >>> (v2 &&& 31)) else (hp_I M 163 a0)) → (am_CT G d rJ0_checkIndex_df160 [.int a1, .int v6] M 0 0 (fun oz9 M7 => oz9 = .inl none ∧ (((v2 = 0) → (hp_T M7 (p4) = 20 ∧ (vp_in a1 (hp_N M7 p4) ∧ (narrow .char (.int (((((hp_E M7 p4 (a1).toNatClampNeg) &&& (255 : Int32))).toUInt32 % 65536).toInt32)) = .int (((((hp_E M7 p4 (a1).toNatClampNeg) &&& (255 : Int32))).toUInt32 % 65536).toInt32) ∧ (Q (.inl (some (.int (((((hp_E M7 p4 (a1).toNatClampNeg) &&& (255 : Int32))).toUInt32 % 65536).toInt32)))) M7))))) ∧ (¬ (v2 = 0) → (am_CT G d rJ2_getChar_3b067 [.ref p4, .int a1] M7 0 0 (fun oz9 M10 => ∃ v11 : Int32, oz9 = .inl (some (.int v11)) ∧ (narrow .char (.int v11) = .int v11 ∧ (Q (.inl (some (.int v11))) M10)))))))))))))) : am_J X 0 [(0, .ref a0), (1, .int a1)] [] M bc bs := by
  refine j_aload_n hX eJ5_charAt_5068e_0 0 rfl ?_
  obtain ⟨t1, h⟩ := h
  refine j_getI hX eJ5_charAt_5068e_1 ff_java_lang_AbstractStringBuilder_22 rfl t1 (by decide) ?_
  refine j_nmI (fun v2 ev2 => ?_)
  replace h := h v2 ev2
  refine j_istore_n (lv' := [(2, .int v2), (0, .ref a0), (1, .int a1)]) hX eJ5_charAt_5068e_4 rfl (by decide) rfl ?_
  refine j_aload_n hX eJ5_charAt_5068e_5 1 rfl ?_
  obtain ⟨z3, h⟩ := h
  refine j_getR hX eJ5_charAt_5068e_6 ff_java_lang_AbstractStringBuilder_15 rfl t1 (by decide) z3 ?_
  refine j_nmR (fun p4 ep4 => ?_)
  replace h := h p4 ep4
  refine j_astore_n (lv' := [(3, .ref p4), (2, .int v2), (0, .ref a0), (1, .int a1)]) hX eJ5_charAt_5068e_9 rfl (by decide) rfl ?_
  refine j_aload_n hX eJ5_charAt_5068e_10 2 rfl ?_
  refine j_getI hX eJ5_charAt_5068e_11 ff_java_lang_AbstractStringBuilder_79 rfl t1 (by decide) ?_
  refine j_aload_n hX eJ5_charAt_5068e_14 0 rfl ?_
  obtain ⟨t5, h⟩ := h
  refine j_alen20 hX eJ5_charAt_5068e_15 t5 ?_
  refine j_iload_n hX eJ5_charAt_5068e_16 1 rfl ?_
  refine j_ishr hX eJ5_charAt_5068e_17 ?_
  refine j_mmin hX eJ5_charAt_5068e_18 tw_1380 tw_461 tw_21 (Nat.le_of_ble_eq_true rfl) ?_
  refine j_nmI (fun v6 ev6 => ?_)
  replace h := h v6 ev6
  refine j_istore (lv' := [(4, .int v6), (3, .ref p4), (2, .int v2), (0, .ref a0), (1, .int a1)]) hX eJ5_charAt_5068e_21 (by decide) rfl ?_
  refine j_iload_n hX eJ5_charAt_5068e_23 4 rfl ?_
  refine j_iload hX eJ5_charAt_5068e_24 0 rfl ?_
  refine j_callS (r' := rJ0_checkIndex_df160) (As := [.int a1, .int v6]) (rest := []) (d1 := d) hX eJ5_charAt_5068e_26 mm_java_lang_AbstractStringBuilder_144 rfl rfl h rfl (Nat.le_refl _) (Nat.zero_le _) (Nat.zero_le _) (Nat.le_of_ble_eq_true rfl) (fun vz9 Mz9 qz9 => ?_) (fun Ez9 Mz9 qz9 => ?_)
  · obtain ⟨M7, eMz9⟩ : ∃ M7, M7 = Mz9 := ⟨_, rfl⟩; subst eMz9
    obtain ⟨hxz9, h⟩ := qz9
    cases hxz9
    refine j_iload_n hX eJ5_charAt_5068e_29 2 rfl ?_
    refine j_if_ne hX 42 eJ5_charAt_5068e_30 (by decide) (fun c9 => ?_) (fun c9 => ?_)
    · replace h := h.2 c9
      refine j_aload_n hX eJ5_charAt_5068e_42 1 rfl ?_
      refine j_iload_n hX eJ5_charAt_5068e_43 4 rfl ?_
      refine j_callS (r' := rJ2_getChar_3b067) (As := [.ref p4, .int a1]) (rest := []) (d1 := d) hX eJ5_charAt_5068e_44 mm_java_lang_AbstractStringBuilder_148 rfl rfl h rfl (Nat.le_refl _) (Nat.zero_le _) (Nat.zero_le _) (Nat.le_of_ble_eq_true rfl) (fun vz9 Mz9 qz9 => ?_) (fun Ez9 Mz9 qz9 => ?_)
      · obtain ⟨M10, eMz9⟩ : ∃ M10, M10 = Mz9 := ⟨_, rfl⟩; subst eMz9
        obtain ⟨v11, hxz9, h⟩ := qz9
        cases hxz9
        obtain ⟨n12, h⟩ := h
        exact j_zret hX hM eJ5_charAt_5068e_47 rfl n12 h
      · obtain ⟨v11, hxz9, h⟩ := qz9
        cases hxz9
    · replace h := h.1 c9
      refine j_aload_n hX eJ5_charAt_5068e_33 1 rfl ?_
      refine j_iload_n hX eJ5_charAt_5068e_34 4 rfl ?_
      obtain ⟨t13, h⟩ := h
      obtain ⟨i14, h⟩ := h
      refine j_bald hX eJ5_charAt_5068e_35 t13 i14 ?_
      refine j_sipush (v := (255 : Int32)) hX eJ5_charAt_5068e_36 (by decide) ?_
      refine j_iand hX eJ5_charAt_5068e_39 ?_
      refine j_i2c hX eJ5_charAt_5068e_40 ?_
      obtain ⟨n15, h⟩ := h
      exact j_zret hX hM eJ5_charAt_5068e_41 rfl n15 h
  · obtain ⟨hxz9, h⟩ := qz9
    cases hxz9

set_option maxHeartbeats 4000000 in
set_option maxRecDepth 20000 in
theorem vJ3_checkIndex_8e157_0 {X : am_Cx} {G : am_Gx} {d : Nat} {Q : am_Q} (hX : am_ok X rJ3_checkIndex_8e157 G (d + 1)) (hM : am_me X rJ3_checkIndex_8e157 Q) {bc bs : Nat}  {a0 : Int32} {a1 : Int32} {a2 : Nat} {M : am_Hp} (h : ((a0 < 0) → (False)) ∧ (¬ (a0 < 0) → (((a0 < a1) → (Q (.inl (some (.int a0))) M)) ∧ (¬ (a0 < a1) → (False))))) : am_J X 0 [(0, .int a0), (1, .int a1), (2, .ref a2)] [] M bc bs := by
  refine j_iload_n hX eJ3_checkIndex_8e157_0 0 rfl ?_
  refine j_if_lt hX 9 eJ3_checkIndex_8e157_1 (by decide) (fun c1 => ?_) (fun c1 => ?_)
  · replace h := h.1 c1
    refine j_aload_n hX eJ3_checkIndex_8e157_9 2 rfl ?_
    refine j_iload_n hX eJ3_checkIndex_8e157_10 0 rfl ?_
    refine j_iload_n hX eJ3_checkIndex_8e157_11 1 rfl ?_
    exact h.elim
  · replace h := h.2 c1
    refine j_iload_n hX eJ3_checkIndex_8e157_4 0 rfl ?_
    refine j_iload_n hX eJ3_checkIndex_8e157_5 1 rfl ?_
    refine j_icmp_lt hX 16 eJ3_checkIndex_8e157_6 (by decide) (fun c2 => ?_) (fun c2 => ?_)
    · replace h := h.1 c2
      refine j_iload_n hX eJ3_checkIndex_8e157_16 0 rfl ?_
      exact j_iret hX hM eJ3_checkIndex_8e157_17 rfl h
    · replace h := h.2 c2
      refine j_aload_n hX eJ3_checkIndex_8e157_9 2 rfl ?_
      refine j_iload_n hX eJ3_checkIndex_8e157_10 0 rfl ?_
      refine j_iload_n hX eJ3_checkIndex_8e157_11 1 rfl ?_
      exact h.elim

set_option maxHeartbeats 4000000 in
set_option maxRecDepth 20000 in
theorem vJ4_length_8abf5_0 {X : am_Cx} {G : am_Gx} {d : Nat} {Q : am_Q} (hX : am_ok X rJ4_length_8abf5 G (d + 1)) (hM : am_me X rJ4_length_8abf5 Q) {bc bs : Nat}  {a0 : Nat} {M : am_Hp} (h : hp_T M (a0) = 9 ∧ (am_CT G d rJ5_length_8abf5 [.ref a0] M 0 0 (fun oz9 M1 => ∃ v2 : Int32, oz9 = .inl (some (.int v2)) ∧ (Q (.inl (some (.int v2))) M1)))) : am_J X 0 [(0, .ref a0)] [] M bc bs := by
  refine j_aload_n hX eJ4_length_8abf5_0 0 rfl ?_
  obtain ⟨t3, h⟩ := h
  refine j_callSU (a := a0) (q := (RJ4, TJ4, 4)) (r' := rJ5_length_8abf5) (As := []) (rest := []) (d1 := d) hX eJ4_length_8abf5_1 mm_java_lang_StringBuilder_343 rfl t3 (by decide) rfl h rfl (Nat.le_refl _) (Nat.zero_le _) (Nat.zero_le _) (Nat.le_of_ble_eq_true rfl) (fun vz9 Mz9 qz9 => ?_) (fun Ez9 Mz9 qz9 => ?_)
  · obtain ⟨M1, eMz9⟩ : ∃ M1, M1 = Mz9 := ⟨_, rfl⟩; subst eMz9
    obtain ⟨v2, hxz9, h⟩ := qz9
    cases hxz9
    exact j_iret hX hM eJ4_length_8abf5_4 rfl h
  · obtain ⟨v2, hxz9, h⟩ := qz9
    cases hxz9

set_option maxHeartbeats 4000000 in
set_option maxRecDepth 20000 in
theorem vJ4_setLength_d00df_0 {X : am_Cx} {G : am_Gx} {d : Nat} {Q : am_Q} (hX : am_ok X rJ4_setLength_d00df G (d + 1)) (hM : am_me X rJ4_setLength_d00df Q) {bc bs : Nat}  {a0 : Nat} {a1 : Int32} {M : am_Hp} (h : hp_T M (a0) = 9 ∧ (am_CT G d rJ5_setLength_d00df [.ref a0, .int a1] M 0 0 (fun oz9 M1 => oz9 = .inl none ∧ (Q (.inl none) M1)))) : am_J X 0 [(0, .ref a0), (1, .int a1)] [] M bc bs := by
  refine j_aload_n hX eJ4_setLength_d00df_0 0 rfl ?_
  refine j_iload_n hX eJ4_setLength_d00df_1 1 rfl ?_
  obtain ⟨t3, h⟩ := h
  refine j_callSU (a := a0) (q := (RJ4, TJ4, 4)) (r' := rJ5_setLength_d00df) (As := [.int a1]) (rest := []) (d1 := d) hX eJ4_setLength_d00df_2 mm_java_lang_StringBuilder_333 rfl t3 (by decide) rfl h rfl (Nat.le_refl _) (Nat.zero_le _) (Nat.zero_le _) (Nat.le_of_ble_eq_true rfl) (fun vz9 Mz9 qz9 => ?_) (fun Ez9 Mz9 qz9 => ?_)
  · obtain ⟨M1, eMz9⟩ : ∃ M1, M1 = Mz9 := ⟨_, rfl⟩; subst eMz9
    obtain ⟨hxz9, h⟩ := qz9
    cases hxz9
    exact j_vret hX hM eJ4_setLength_d00df_5 rfl h
  · obtain ⟨hxz9, h⟩ := qz9
    cases hxz9

set_option maxHeartbeats 4000000 in
set_option maxRecDepth 20000 in
theorem vJ5_setLength_d00df_0 {X : am_Cx} {G : am_Gx} {d : Nat} {Q : am_Q} (hX : am_ok X rJ5_setLength_d00df G (d + 1)) (hM : am_me X rJ5_setLength_d00df Q) {bc bs : Nat}  {a0 : Nat} {a1 : Int32} {M : am_Hp} (h : ((0 ≤ a1) → (hp_T M (a0) = 9 ∧ (1 ≤ bc ∧ (100 ≤ bs ∧ (am_CT G d rJ5_ensureCapacityInternal_d00df [.ref a0, .int a1] M 1 100 (fun oz9 M2 => oz9 = .inl none ∧ (hp_T M2 (a0) = 9 ∧ (((a1 ≤ (hp_I M2 163 a0)) → ((((hp_I M2 163 a0) ≤ a1) → (∀ M10 : am_Hp, M10 = hp_sI M2 163 a0 a1 → (Q (.inl none) M10))) ∧ (¬ ((hp_I M2 163 a0) ≤ a1) → (am_bo (1 : Int32) ∧ (∀ M13 : am_Hp, M13 = hp_sI M2 162 a0 (1 : Int32) → (∀ M15 : am_Hp, M15 = hp_sI M13 163 a0 a1 → (Q (.inl none) M15))))))) ∧ (¬ (a1 ≤ (hp_I M2 163 a0)) → (am_CT G d rJ5_isLatin1_aae02 [.ref a0] M2 0 0 (fun oz9 M17 => ∃ v18 : Int32, oz9 = .inl (some (.int v18)) ∧ (((v18 = 0) → (hp_T M17 (a0) = 9 ∧ (hp_R M17 160 a0 ≠ 0 ∧ (∀ p22 : Nat, p22 = hp_R M17 160 a0 → (am_CT G d rJ2_fillNull_b72d1 [.ref p22, .int (hp_I M17 163 a0), .int a1] M17 0 0 (fun oz9 M23 => oz9 = .inl none ∧ (hp_T M23 (a0) = 9 ∧ (∀ M26 : am_Hp, M26 = hp_sI M23 163 a0 a1 → (Q (.inl none) M26))))))))) ∧ (¬ (v18 = 0) → (hp_T M17 (a0) = 9 ∧ (hp_R M17 160 a0 ≠ 0 ∧ (∀ p30 : Nat, p30 = hp_R M17 160 a0 → (am_CT G d rJ1_fillNull_b72d1 [.ref p30, .int (hp_I M17 163 a0), .int a1] M17 0 0 (fun oz9 M31 => oz9 = .inl none ∧ (hp_T M31 (a0) = 9 ∧ (∀ M34 : am_Hp, M34 = hp_sI M31 163 a0 a1 → (Q (.inl none) M34))))))))))))))))))))) ∧ (¬ (0 ≤ a1) → (False))) : am_J X 0 [(0, .ref a0), (1, .int a1)] [] M bc bs := by
  refine j_iload_n hX eJ5_setLength_d00df_0 1 rfl ?_
  refine j_if_ge hX 13 eJ5_setLength_d00df_1 (by decide) (fun c1 => ?_) (fun c1 => ?_)
  · replace h := h.1 c1
    refine j_aload_n hX eJ5_setLength_d00df_13 0 rfl ?_
    refine j_iload_n hX eJ5_setLength_d00df_14 1 rfl ?_
    obtain ⟨t4, h⟩ := h
    obtain ⟨b5, b6, h⟩ := h
    refine j_callU (a := a0) (q := (RJ4, TJ4, 4)) (r' := rJ5_ensureCapacityInternal_d00df) (As := [.int a1]) (rest := []) (d1 := d) hX eJ5_setLength_d00df_15 mm_java_lang_AbstractStringBuilder_100 rfl t4 (by decide) rfl h rfl (Nat.le_refl _) b5 b6 (Nat.le_of_ble_eq_true rfl) (fun vz9 Mz9 qz9 => ?_) (fun Ez9 Mz9 qz9 => ?_)
    · obtain ⟨M2, eMz9⟩ : ∃ M2, M2 = Mz9 := ⟨_, rfl⟩; subst eMz9
      obtain ⟨hxz9, h⟩ := qz9
      cases hxz9
      refine j_aload_n hX eJ5_setLength_d00df_18 0 rfl ?_
      obtain ⟨t7, h⟩ := h
      refine j_getI hX eJ5_setLength_d00df_19 ff_java_lang_AbstractStringBuilder_79 rfl t7 (by decide) ?_
      refine j_iload_n hX eJ5_setLength_d00df_22 1 rfl ?_
      refine j_icmp_ge hX 63 eJ5_setLength_d00df_23 (by decide) (fun c8 => ?_) (fun c8 => ?_)
      · replace h := h.1 c8
        refine j_aload_n hX eJ5_setLength_d00df_63 0 rfl ?_
        refine j_getI hX eJ5_setLength_d00df_64 ff_java_lang_AbstractStringBuilder_79 rfl t7 (by decide) ?_
        refine j_iload_n hX eJ5_setLength_d00df_67 1 rfl ?_
        refine j_icmp_le hX 76 eJ5_setLength_d00df_68 (by decide) (fun c9 => ?_) (fun c9 => ?_)
        · replace h := h.1 c9
          refine j_aload_n hX eJ5_setLength_d00df_76 0 rfl ?_
          refine j_iload_n hX eJ5_setLength_d00df_77 1 rfl ?_
          refine j_putI (ty := .int) hX eJ5_setLength_d00df_78 ff_java_lang_AbstractStringBuilder_79 rfl t7 (by decide) pp_8_3 rfl rfl ?_
          refine j_nmM (fun M10 eM10 => ?_)
          replace h := h M10 eM10
          have t11 : hp_T M10 (a0) = 9 := by rw [eM10]; exact t7
          exact j_vret hX hM eJ5_setLength_d00df_81 rfl h
        · replace h := h.2 c9
          refine j_aload_n hX eJ5_setLength_d00df_71 0 rfl ?_
          refine j_iconst (v := (1 : Int32)) hX eJ5_setLength_d00df_72 (by decide) ?_
          obtain ⟨b12, h⟩ := h
          refine j_putI (ty := .boolean) hX eJ5_setLength_d00df_73 ff_java_lang_AbstractStringBuilder_73 rfl t7 (by decide) pp_8_2 (am_bo_n b12) (am_bo_f b12) ?_
          refine j_nmM (fun M13 eM13 => ?_)
          replace h := h M13 eM13
          have t14 : hp_T M13 (a0) = 9 := by rw [eM13]; exact t7
          refine j_aload_n hX eJ5_setLength_d00df_76 0 rfl ?_
          refine j_iload_n hX eJ5_setLength_d00df_77 1 rfl ?_
          refine j_putI (ty := .int) hX eJ5_setLength_d00df_78 ff_java_lang_AbstractStringBuilder_79 rfl t14 (by decide) pp_8_3 rfl rfl ?_
          refine j_nmM (fun M15 eM15 => ?_)
          replace h := h M15 eM15
          have t16 : hp_T M15 (a0) = 9 := by rw [eM15]; exact t14
          exact j_vret hX hM eJ5_setLength_d00df_81 rfl h
      · replace h := h.2 c8
        refine j_aload_n hX eJ5_setLength_d00df_26 0 rfl ?_
        refine j_callU (a := a0) (q := (RJ4, TJ4, 4)) (r' := rJ5_isLatin1_aae02) (As := []) (rest := []) (d1 := d) hX eJ5_setLength_d00df_27 mm_java_lang_AbstractStringBuilder_83 rfl t7 (by decide) rfl h rfl (Nat.le_refl _) (Nat.zero_le _) (Nat.zero_le _) (Nat.le_of_ble_eq_true rfl) (fun vz9 Mz9 qz9 => ?_) (fun Ez9 Mz9 qz9 => ?_)
        · obtain ⟨M17, eMz9⟩ : ∃ M17, M17 = Mz9 := ⟨_, rfl⟩; subst eMz9
          obtain ⟨v18, hxz9, h⟩ := qz9
          cases hxz9
          refine j_if_eq hX 48 eJ5_setLength_d00df_30 (by decide) (fun c19 => ?_) (fun c19 => ?_)
          · replace h := h.1 c19
            refine j_aload_n hX eJ5_setLength_d00df_48 0 rfl ?_
            obtain ⟨t20, h⟩ := h
            obtain ⟨z21, h⟩ := h
            refine j_getR hX eJ5_setLength_d00df_49 ff_java_lang_AbstractStringBuilder_15 rfl t20 (by decide) z21 ?_
            refine j_nmR (fun p22 ep22 => ?_)
            replace h := h p22 ep22
            refine j_aload_n hX eJ5_setLength_d00df_52 0 rfl ?_
            refine j_getI hX eJ5_setLength_d00df_53 ff_java_lang_AbstractStringBuilder_79 rfl t20 (by decide) ?_
            refine j_iload_n hX eJ5_setLength_d00df_56 1 rfl ?_
            refine j_callS (r' := rJ2_fillNull_b72d1) (As := [.ref p22, .int (hp_I M17 163 a0), .int a1]) (rest := []) (d1 := d) hX eJ5_setLength_d00df_57 mm_java_lang_AbstractStringBuilder_137 rfl rfl h rfl (Nat.le_refl _) (Nat.zero_le _) (Nat.zero_le _) (Nat.le_of_ble_eq_true rfl) (fun vz9 Mz9 qz9 => ?_) (fun Ez9 Mz9 qz9 => ?_)
            · obtain ⟨M23, eMz9⟩ : ∃ M23, M23 = Mz9 := ⟨_, rfl⟩; subst eMz9
              obtain ⟨hxz9, h⟩ := qz9
              cases hxz9
              refine j_goto hX 76 eJ5_setLength_d00df_60 (by decide) ?_
              refine j_aload_n hX eJ5_setLength_d00df_76 0 rfl ?_
              refine j_iload_n hX eJ5_setLength_d00df_77 1 rfl ?_
              obtain ⟨t25, h⟩ := h
              refine j_putI (ty := .int) hX eJ5_setLength_d00df_78 ff_java_lang_AbstractStringBuilder_79 rfl t25 (by decide) pp_8_3 rfl rfl ?_
              refine j_nmM (fun M26 eM26 => ?_)
              replace h := h M26 eM26
              have t27 : hp_T M26 (a0) = 9 := by rw [eM26]; exact t25
              exact j_vret hX hM eJ5_setLength_d00df_81 rfl h
            · obtain ⟨hxz9, h⟩ := qz9
              cases hxz9
          · replace h := h.2 c19
            refine j_aload_n hX eJ5_setLength_d00df_33 0 rfl ?_
            obtain ⟨t28, h⟩ := h
            obtain ⟨z29, h⟩ := h
            refine j_getR hX eJ5_setLength_d00df_34 ff_java_lang_AbstractStringBuilder_15 rfl t28 (by decide) z29 ?_
            refine j_nmR (fun p30 ep30 => ?_)
            replace h := h p30 ep30
            refine j_aload_n hX eJ5_setLength_d00df_37 0 rfl ?_
            refine j_getI hX eJ5_setLength_d00df_38 ff_java_lang_AbstractStringBuilder_79 rfl t28 (by decide) ?_
            refine j_iload_n hX eJ5_setLength_d00df_41 1 rfl ?_
            refine j_callS (r' := rJ1_fillNull_b72d1) (As := [.ref p30, .int (hp_I M17 163 a0), .int a1]) (rest := []) (d1 := d) hX eJ5_setLength_d00df_42 mm_java_lang_AbstractStringBuilder_133 rfl rfl h rfl (Nat.le_refl _) (Nat.zero_le _) (Nat.zero_le _) (Nat.le_of_ble_eq_true rfl) (fun vz9 Mz9 qz9 => ?_) (fun Ez9 Mz9 qz9 => ?_)
            · obtain ⟨M31, eMz9⟩ : ∃ M31, M31 = Mz9 := ⟨_, rfl⟩; subst eMz9
              obtain ⟨hxz9, h⟩ := qz9
              cases hxz9
              refine j_goto hX 76 eJ5_setLength_d00df_45 (by decide) ?_
              refine j_aload_n hX eJ5_setLength_d00df_76 0 rfl ?_
              refine j_iload_n hX eJ5_setLength_d00df_77 1 rfl ?_
              obtain ⟨t33, h⟩ := h
              refine j_putI (ty := .int) hX eJ5_setLength_d00df_78 ff_java_lang_AbstractStringBuilder_79 rfl t33 (by decide) pp_8_3 rfl rfl ?_
              refine j_nmM (fun M34 eM34 => ?_)
              replace h := h M34 eM34
              have t35 : hp_T M34 (a0) = 9 := by rw [eM34]; exact t33
              exact j_vret hX hM eJ5_setLength_d00df_81 rfl h
            · obtain ⟨hxz9, h⟩ := qz9
              cases hxz9
        · obtain ⟨v18, hxz9, h⟩ := qz9
          cases hxz9
    · obtain ⟨hxz9, h⟩ := qz9
      cases hxz9
  · replace h := h.2 c1
    exact h.elim

set_option maxHeartbeats 4000000 in
set_option maxRecDepth 20000 in
theorem vJ0_length_8abf5_0 {X : am_Cx} {G : am_Gx} {d : Nat} {Q : am_Q} (hX : am_ok X rJ0_length_8abf5 G (d + 1)) (hM : am_me X rJ0_length_8abf5 Q) {bc bs : Nat}  {a0 : Nat} {M : am_Hp} (h : hp_T M (a0) = 40 ∧ (True ∧ (∀ p3 : Nat, p3 = hp_R M 180 a0 → (hp_T M (p3) = 41 ∧ (am_CT G d rJ0_coder_7d493 [.ref a0] M 0 0 (fun oz9 M5 => ∃ v6 : Int32, oz9 = .inl (some (.int v6)) ∧ (Q (.inl (some (.int ((Int32.ofNat (hp_N M p3)) >>> (v6 &&& 31))))) M5))))))) : am_J X 0 [(0, .ref a0)] [] M bc bs := by
  refine j_aload_n hX eJ0_length_8abf5_0 0 rfl ?_
  obtain ⟨t1, h⟩ := h
  obtain ⟨z2, h⟩ := h
  refine j_getRs hX eJ0_length_8abf5_1 ff_java_lang_String_9 rfl t1 z2 ?_
  refine j_nmR (fun p3 ep3 => ?_)
  replace h := h p3 ep3
  obtain ⟨t4, h⟩ := h
  refine j_alen41 hX eJ0_length_8abf5_4 t4 ?_
  refine j_aload_n hX eJ0_length_8abf5_5 0 rfl ?_
  refine j_callVs (a := a0) (q := (RJ0, TJ0, 4)) (r' := rJ0_coder_7d493) (As := []) (rest := [.int (Int32.ofNat (hp_N M p3))]) (d1 := d) hX eJ0_length_8abf5_6 mm_java_lang_String_335 rfl t1 rfl h rfl (Nat.le_refl _) (Nat.zero_le _) (Nat.zero_le _) (Nat.le_of_ble_eq_true rfl) (fun vz9 Mz9 qz9 => ?_) (fun Ez9 Mz9 qz9 => ?_)
  · obtain ⟨M5, eMz9⟩ : ∃ M5, M5 = Mz9 := ⟨_, rfl⟩; subst eMz9
    obtain ⟨v6, hxz9, h⟩ := qz9
    cases hxz9
    refine j_ishr hX eJ0_length_8abf5_9 ?_
    exact j_iret hX hM eJ0_length_8abf5_10 rfl h
  · obtain ⟨v6, hxz9, h⟩ := qz9
    cases hxz9

set_option maxHeartbeats 4000000 in
set_option maxRecDepth 20000 in
theorem vJ0_coder_7d493_0 {X : am_Cx} {G : am_Gx} {d : Nat} {Q : am_Q} (hX : am_ok X rJ0_coder_7d493 G (d + 1)) (hM : am_me X rJ0_coder_7d493 Q) {bc bs : Nat}  {a0 : Nat} {M : am_Hp} (h : ("java/lang/String", "COMPACT_STRINGS", "Z", .int 1) ∈ gx_z G ∧ ((((1 : Int32) = 0) → (narrow .byte (.int (1 : Int32)) = .int (1 : Int32) ∧ (Q (.inl (some (.int (1 : Int32)))) M))) ∧ (¬ ((1 : Int32) = 0) → (hp_T M (a0) = 40 ∧ (narrow .byte (.int (hp_I M 181 a0)) = .int (hp_I M 181 a0) ∧ (Q (.inl (some (.int (hp_I M 181 a0)))) M)))))) : am_J X 0 [(0, .ref a0)] [] M bc bs := by
  obtain ⟨z1, h⟩ := h
  refine j_gets hX eJ0_coder_7d493_0 z1 tw_505 ?_
  refine j_if_eq hX 13 eJ0_coder_7d493_3 (by decide) (fun c2 => ?_) (fun c2 => ?_)
  · replace h := h.1 c2
    refine j_iconst (v := (1 : Int32)) hX eJ0_coder_7d493_13 (by decide) ?_
    obtain ⟨n3, h⟩ := h
    exact j_zret hX hM eJ0_coder_7d493_14 rfl n3 h
  · replace h := h.2 c2
    refine j_aload_n hX eJ0_coder_7d493_6 0 rfl ?_
    obtain ⟨t4, h⟩ := h
    refine j_getIs hX eJ0_coder_7d493_7 ff_java_lang_String_15 rfl t4 ?_
    refine j_goto hX 14 eJ0_coder_7d493_10 (by decide) ?_
    obtain ⟨n5, h⟩ := h
    exact j_zret hX hM eJ0_coder_7d493_14 rfl n5 h

set_option maxHeartbeats 4000000 in
set_option maxRecDepth 20000 in
theorem vJ0_charAt_5068e_0 {X : am_Cx} {G : am_Gx} {d : Nat} {Q : am_Q} (hX : am_ok X rJ0_charAt_5068e G (d + 1)) (hM : am_me X rJ0_charAt_5068e Q) {bc bs : Nat}  {a0 : Nat} {a1 : Int32} {M : am_Hp} (h : hp_T M (a0) = 40 ∧ (am_CT G d rJ0_isLatin1_aae02 [.ref a0] M 0 0 (fun oz9 M1 => ∃ v2 : Int32, oz9 = .inl (some (.int v2)) ∧ (((v2 = 0) → (hp_T M1 (a0) = 40 ∧ (True ∧ (∀ p7 : Nat, p7 = hp_R M1 180 a0 → (am_CT G d rJ2_charAt_3b067 [.ref p7, .int a1] M1 0 0 (fun oz9 M8 => ∃ v9 : Int32, oz9 = .inl (some (.int v9)) ∧ (narrow .char (.int v9) = .int v9 ∧ (Q (.inl (some (.int v9))) M8)))))))) ∧ (¬ (v2 = 0) → (hp_T M1 (a0) = 40 ∧ (True ∧ (∀ p13 : Nat, p13 = hp_R M1 180 a0 → (am_CT G d rJ1_charAt_3b067 [.ref p13, .int a1] M1 0 0 (fun oz9 M14 => ∃ v15 : Int32, oz9 = .inl (some (.int v15)) ∧ (narrow .char (.int v15) = .int v15 ∧ (Q (.inl (some (.int v15))) M14)))))))))))) : am_J X 0 [(0, .ref a0), (1, .int a1)] [] M bc bs := by
  refine j_aload_n hX eJ0_charAt_5068e_0 0 rfl ?_
  obtain ⟨t3, h⟩ := h
  refine j_callVs (a := a0) (q := (RJ0, TJ0, 4)) (r' := rJ0_isLatin1_aae02) (As := []) (rest := []) (d1 := d) hX eJ0_charAt_5068e_1 mm_java_lang_String_492 rfl t3 rfl h rfl (Nat.le_refl _) (Nat.zero_le _) (Nat.zero_le _) (Nat.le_of_ble_eq_true rfl) (fun vz9 Mz9 qz9 => ?_) (fun Ez9 Mz9 qz9 => ?_)
  · obtain ⟨M1, eMz9⟩ : ∃ M1, M1 = Mz9 := ⟨_, rfl⟩; subst eMz9
    obtain ⟨v2, hxz9, h⟩ := qz9
    cases hxz9
    refine j_if_eq hX 16 eJ0_charAt_5068e_4 (by decide) (fun c4 => ?_) (fun c4 => ?_)
    · replace h := h.1 c4
      refine j_aload_n hX eJ0_charAt_5068e_16 0 rfl ?_
      obtain ⟨t5, h⟩ := h
      obtain ⟨z6, h⟩ := h
      refine j_getRs hX eJ0_charAt_5068e_17 ff_java_lang_String_9 rfl t5 z6 ?_
      refine j_nmR (fun p7 ep7 => ?_)
      replace h := h p7 ep7
      refine j_iload_n hX eJ0_charAt_5068e_20 1 rfl ?_
      refine j_callS (r' := rJ2_charAt_3b067) (As := [.ref p7, .int a1]) (rest := []) (d1 := d) hX eJ0_charAt_5068e_21 mm_java_lang_String_498 rfl rfl h rfl (Nat.le_refl _) (Nat.zero_le _) (Nat.zero_le _) (Nat.le_of_ble_eq_true rfl) (fun vz9 Mz9 qz9 => ?_) (fun Ez9 Mz9 qz9 => ?_)
      · obtain ⟨M8, eMz9⟩ : ∃ M8, M8 = Mz9 := ⟨_, rfl⟩; subst eMz9
        obtain ⟨v9, hxz9, h⟩ := qz9
        cases hxz9
        obtain ⟨n10, h⟩ := h
        exact j_zret hX hM eJ0_charAt_5068e_24 rfl n10 h
      · obtain ⟨v9, hxz9, h⟩ := qz9
        cases hxz9
    · replace h := h.2 c4
      refine j_aload_n hX eJ0_charAt_5068e_7 0 rfl ?_
      obtain ⟨t11, h⟩ := h
      obtain ⟨z12, h⟩ := h
      refine j_getRs hX eJ0_charAt_5068e_8 ff_java_lang_String_9 rfl t11 z12 ?_
      refine j_nmR (fun p13 ep13 => ?_)
      replace h := h p13 ep13
      refine j_iload_n hX eJ0_charAt_5068e_11 1 rfl ?_
      refine j_callS (r' := rJ1_charAt_3b067) (As := [.ref p13, .int a1]) (rest := []) (d1 := d) hX eJ0_charAt_5068e_12 mm_java_lang_String_495 rfl rfl h rfl (Nat.le_refl _) (Nat.zero_le _) (Nat.zero_le _) (Nat.le_of_ble_eq_true rfl) (fun vz9 Mz9 qz9 => ?_) (fun Ez9 Mz9 qz9 => ?_)
      · obtain ⟨M14, eMz9⟩ : ∃ M14, M14 = Mz9 := ⟨_, rfl⟩; subst eMz9
        obtain ⟨v15, hxz9, h⟩ := qz9
        cases hxz9
        obtain ⟨n16, h⟩ := h
        exact j_zret hX hM eJ0_charAt_5068e_15 rfl n16 h
      · obtain ⟨v15, hxz9, h⟩ := qz9
        cases hxz9
  · obtain ⟨v2, hxz9, h⟩ := qz9
    cases hxz9

set_option maxHeartbeats 4000000 in
set_option maxRecDepth 20000 in
theorem vJ0_isLatin1_aae02_0 {X : am_Cx} {G : am_Gx} {d : Nat} {Q : am_Q} (hX : am_ok X rJ0_isLatin1_aae02 G (d + 1)) (hM : am_me X rJ0_isLatin1_aae02 Q) {bc bs : Nat}  {a0 : Nat} {M : am_Hp} (h : ("java/lang/String", "COMPACT_STRINGS", "Z", .int 1) ∈ gx_z G ∧ ((((1 : Int32) = 0) → (Q (.inl (some (.int (0 : Int32)))) M)) ∧ (¬ ((1 : Int32) = 0) → (hp_T M (a0) = 40 ∧ ((((hp_I M 181 a0) = 0) → (Q (.inl (some (.int (1 : Int32)))) M)) ∧ (¬ ((hp_I M 181 a0) = 0) → (Q (.inl (some (.int (0 : Int32)))) M))))))) : am_J X 0 [(0, .ref a0)] [] M bc bs := by
  obtain ⟨z1, h⟩ := h
  refine j_gets hX eJ0_isLatin1_aae02_0 z1 tw_505 ?_
  refine j_if_eq hX 17 eJ0_isLatin1_aae02_3 (by decide) (fun c2 => ?_) (fun c2 => ?_)
  · replace h := h.1 c2
    refine j_iconst (v := (0 : Int32)) hX eJ0_isLatin1_aae02_17 (by decide) ?_
    exact j_zret hX hM eJ0_isLatin1_aae02_18 rfl (by decide) h
  · replace h := h.2 c2
    refine j_aload_n hX eJ0_isLatin1_aae02_6 0 rfl ?_
    obtain ⟨t3, h⟩ := h
    refine j_getIs hX eJ0_isLatin1_aae02_7 ff_java_lang_String_15 rfl t3 ?_
    refine j_if_ne hX 17 eJ0_isLatin1_aae02_10 (by decide) (fun c4 => ?_) (fun c4 => ?_)
    · replace h := h.2 c4
      refine j_iconst (v := (0 : Int32)) hX eJ0_isLatin1_aae02_17 (by decide) ?_
      exact j_zret hX hM eJ0_isLatin1_aae02_18 rfl (by decide) h
    · replace h := h.1 c4
      refine j_iconst (v := (1 : Int32)) hX eJ0_isLatin1_aae02_13 (by decide) ?_
      refine j_goto hX 18 eJ0_isLatin1_aae02_14 (by decide) ?_
      exact j_zret hX hM eJ0_isLatin1_aae02_18 rfl (by decide) h

set_option maxHeartbeats 4000000 in
set_option maxRecDepth 20000 in
theorem vJ1_charAt_3b067_0 {X : am_Cx} {G : am_Gx} {d : Nat} {Q : am_Q} (hX : am_ok X rJ1_charAt_3b067 G (d + 1)) (hM : am_me X rJ1_charAt_3b067 Q) {bc bs : Nat}  {a0 : Nat} {a1 : Int32} {M : am_Hp} (h : hp_T M (a0) = 41 ∧ (am_CT G d rJ0_checkIndex_df160 [.int a1, .int (Int32.ofNat (hp_N M a0))] M 0 0 (fun oz9 M2 => oz9 = .inl none ∧ (hp_T M2 (a0) = 41 ∧ (vp_in a1 (hp_N M2 a0) ∧ (narrow .char (.int (((((hp_E M2 a0 (a1).toNatClampNeg) &&& (255 : Int32))).toUInt32 % 65536).toInt32)) = .int (((((hp_E M2 a0 (a1).toNatClampNeg) &&& (255 : Int32))).toUInt32 % 65536).toInt32) ∧ (Q (.inl (some (.int (((((hp_E M2 a0 (a1).toNatClampNeg) &&& (255 : Int32))).toUInt32 % 65536).toInt32)))) M2))))))) : am_J X 0 [(0, .ref a0), (1, .int a1)] [] M bc bs := by
  refine j_iload_n hX eJ1_charAt_3b067_0 1 rfl ?_
  refine j_aload_n hX eJ1_charAt_3b067_1 0 rfl ?_
  obtain ⟨t1, h⟩ := h
  refine j_alen41 hX eJ1_charAt_3b067_2 t1 ?_
  refine j_callS (r' := rJ0_checkIndex_df160) (As := [.int a1, .int (Int32.ofNat (hp_N M a0))]) (rest := []) (d1 := d) hX eJ1_charAt_3b067_3 mm_java_lang_StringLatin1_9 rfl rfl h rfl (Nat.le_refl _) (Nat.zero_le _) (Nat.zero_le _) (Nat.le_of_ble_eq_true rfl) (fun vz9 Mz9 qz9 => ?_) (fun Ez9 Mz9 qz9 => ?_)
  · obtain ⟨M2, eMz9⟩ : ∃ M2, M2 = Mz9 := ⟨_, rfl⟩; subst eMz9
    obtain ⟨hxz9, h⟩ := qz9
    cases hxz9
    refine j_aload_n hX eJ1_charAt_3b067_6 0 rfl ?_
    refine j_iload_n hX eJ1_charAt_3b067_7 1 rfl ?_
    obtain ⟨t4, h⟩ := h
    obtain ⟨i5, h⟩ := h
    refine j_baldx hX eJ1_charAt_3b067_8 t4 i5 ?_
    refine j_sipush (v := (255 : Int32)) hX eJ1_charAt_3b067_9 (by decide) ?_
    refine j_iand hX eJ1_charAt_3b067_12 ?_
    refine j_i2c hX eJ1_charAt_3b067_13 ?_
    obtain ⟨n6, h⟩ := h
    exact j_zret hX hM eJ1_charAt_3b067_14 rfl n6 h
  · obtain ⟨hxz9, h⟩ := qz9
    cases hxz9

set_option maxHeartbeats 4000000 in
set_option maxRecDepth 20000 in
theorem vJ0_checkIndex_df160_0 {X : am_Cx} {G : am_Gx} {d : Nat} {Q : am_Q} (hX : am_ok X rJ0_checkIndex_df160 G (d + 1)) (hM : am_me X rJ0_checkIndex_df160 Q) {bc bs : Nat}  {a0 : Int32} {a1 : Int32} {M : am_Hp} (h : ∃ p2 : Nat, ("jdk/internal/util/Preconditions", "SIOOBE_FORMATTER", "Ljava/util/function/BiFunction;", .ref p2) ∈ gx_z G ∧ (am_CT G d rJ3_checkIndex_8e157 [.int a0, .int a1, .ref p2] M 0 0 (fun oz9 M3 => ∃ v4 : Int32, oz9 = .inl (some (.int v4)) ∧ (Q (.inl none) M3)))) : am_J X 0 [(0, .int a0), (1, .int a1)] [] M bc bs := by
  refine j_iload_n hX eJ0_checkIndex_df160_0 0 rfl ?_
  refine j_iload_n hX eJ0_checkIndex_df160_1 1 rfl ?_
  obtain ⟨p2, z1, h⟩ := h
  refine j_gets hX eJ0_checkIndex_df160_2 z1 tw_483 ?_
  refine j_callS (r' := rJ3_checkIndex_8e157) (As := [.int a0, .int a1, .ref p2]) (rest := []) (d1 := d) hX eJ0_checkIndex_df160_5 mm_java_lang_String_1059 rfl rfl h rfl (Nat.le_refl _) (Nat.zero_le _) (Nat.zero_le _) (Nat.le_of_ble_eq_true rfl) (fun vz9 Mz9 qz9 => ?_) (fun Ez9 Mz9 qz9 => ?_)
  · obtain ⟨M3, eMz9⟩ : ∃ M3, M3 = Mz9 := ⟨_, rfl⟩; subst eMz9
    obtain ⟨v4, hxz9, h⟩ := qz9
    cases hxz9
    refine j_pop hX eJ0_checkIndex_df160_8 rfl ?_
    exact j_vret hX hM eJ0_checkIndex_df160_9 rfl h
  · obtain ⟨v4, hxz9, h⟩ := qz9
    cases hxz9

set_option maxHeartbeats 4000000 in
set_option maxRecDepth 20000 in
theorem vJ6_bitCount_0f7a4_0 {X : am_Cx} {G : am_Gx} {d : Nat} {Q : am_Q} (hX : am_ok X rJ6_bitCount_0f7a4 G (d + 1)) (hM : am_me X rJ6_bitCount_0f7a4 Q) {bc bs : Nat}  {a0 : Int32} {M : am_Hp} (h : ∀ v1 : Int32, v1 = (a0 - (((a0).toUInt32 >>> (((1 : Int32) : Int32).toUInt32 &&& Int32.toUInt32 31)).toInt32 &&& (1431655765 : Int32))) → (∀ v2 : Int32, v2 = ((v1 &&& (858993459 : Int32)) + (((v1).toUInt32 >>> (((2 : Int32) : Int32).toUInt32 &&& Int32.toUInt32 31)).toInt32 &&& (858993459 : Int32))) → (∀ v3 : Int32, v3 = ((v2 + ((v2).toUInt32 >>> (((4 : Int32) : Int32).toUInt32 &&& Int32.toUInt32 31)).toInt32) &&& (252645135 : Int32)) → (∀ v4 : Int32, v4 = (v3 + ((v3).toUInt32 >>> (((8 : Int32) : Int32).toUInt32 &&& Int32.toUInt32 31)).toInt32) → (∀ v5 : Int32, v5 = (v4 + ((v4).toUInt32 >>> (((16 : Int32) : Int32).toUInt32 &&& Int32.toUInt32 31)).toInt32) → (Q (.inl (some (.int (v5 &&& (63 : Int32))))) M)))))) : am_J X 0 [(0, .int a0)] [] M bc bs := by
  refine j_iload_n hX eJ6_bitCount_0f7a4_0 0 rfl ?_
  refine j_iload_n hX eJ6_bitCount_0f7a4_1 0 rfl ?_
  refine j_iconst (v := (1 : Int32)) hX eJ6_bitCount_0f7a4_2 (by decide) ?_
  refine j_iushr hX eJ6_bitCount_0f7a4_3 ?_
  refine j_ldcIw hX eJ6_bitCount_0f7a4_4 tw_1110 ?_
  refine j_iand hX eJ6_bitCount_0f7a4_7 ?_
  refine j_isub hX eJ6_bitCount_0f7a4_8 ?_
  refine j_nmI (fun v1 ev1 => ?_)
  replace h := h v1 ev1
  refine j_istore_n (lv' := [(0, .int v1)]) hX eJ6_bitCount_0f7a4_9 rfl (by decide) rfl ?_
  refine j_iload_n hX eJ6_bitCount_0f7a4_10 0 rfl ?_
  refine j_ldcIw hX eJ6_bitCount_0f7a4_11 tw_1111 ?_
  refine j_iand hX eJ6_bitCount_0f7a4_14 ?_
  refine j_iload_n hX eJ6_bitCount_0f7a4_15 0 rfl ?_
  refine j_iconst (v := (2 : Int32)) hX eJ6_bitCount_0f7a4_16 (by decide) ?_
  refine j_iushr hX eJ6_bitCount_0f7a4_17 ?_
  refine j_ldcIw hX eJ6_bitCount_0f7a4_18 tw_1111 ?_
  refine j_iand hX eJ6_bitCount_0f7a4_21 ?_
  refine j_iadd hX eJ6_bitCount_0f7a4_22 ?_
  refine j_nmI (fun v2 ev2 => ?_)
  replace h := h v2 ev2
  refine j_istore_n (lv' := [(0, .int v2)]) hX eJ6_bitCount_0f7a4_23 rfl (by decide) rfl ?_
  refine j_iload_n hX eJ6_bitCount_0f7a4_24 0 rfl ?_
  refine j_iload_n hX eJ6_bitCount_0f7a4_25 0 rfl ?_
  refine j_iconst (v := (4 : Int32)) hX eJ6_bitCount_0f7a4_26 (by decide) ?_
  refine j_iushr hX eJ6_bitCount_0f7a4_27 ?_
  refine j_iadd hX eJ6_bitCount_0f7a4_28 ?_
  refine j_ldcIw hX eJ6_bitCount_0f7a4_29 tw_1112 ?_
  refine j_iand hX eJ6_bitCount_0f7a4_32 ?_
  refine j_nmI (fun v3 ev3 => ?_)
  replace h := h v3 ev3
  refine j_istore_n (lv' := [(0, .int v3)]) hX eJ6_bitCount_0f7a4_33 rfl (by decide) rfl ?_
  refine j_iload_n hX eJ6_bitCount_0f7a4_34 0 rfl ?_
  refine j_iload_n hX eJ6_bitCount_0f7a4_35 0 rfl ?_
  refine j_bipush (v := (8 : Int32)) hX eJ6_bitCount_0f7a4_36 (by decide) ?_
  refine j_iushr hX eJ6_bitCount_0f7a4_38 ?_
  refine j_iadd hX eJ6_bitCount_0f7a4_39 ?_
  refine j_nmI (fun v4 ev4 => ?_)
  replace h := h v4 ev4
  refine j_istore_n (lv' := [(0, .int v4)]) hX eJ6_bitCount_0f7a4_40 rfl (by decide) rfl ?_
  refine j_iload_n hX eJ6_bitCount_0f7a4_41 0 rfl ?_
  refine j_iload_n hX eJ6_bitCount_0f7a4_42 0 rfl ?_
  refine j_bipush (v := (16 : Int32)) hX eJ6_bitCount_0f7a4_43 (by decide) ?_
  refine j_iushr hX eJ6_bitCount_0f7a4_45 ?_
  refine j_iadd hX eJ6_bitCount_0f7a4_46 ?_
  refine j_nmI (fun v5 ev5 => ?_)
  replace h := h v5 ev5
  refine j_istore_n (lv' := [(0, .int v5)]) hX eJ6_bitCount_0f7a4_47 rfl (by decide) rfl ?_
  refine j_iload_n hX eJ6_bitCount_0f7a4_48 0 rfl ?_
  refine j_bipush (v := (63 : Int32)) hX eJ6_bitCount_0f7a4_49 (by decide) ?_
  refine j_iand hX eJ6_bitCount_0f7a4_51 ?_
  exact j_iret hX hM eJ6_bitCount_0f7a4_52 rfl h

set_option maxHeartbeats 4000000 in
set_option maxRecDepth 20000 in
theorem vJ6_compare_7cf53_0 {X : am_Cx} {G : am_Gx} {d : Nat} {Q : am_Q} (hX : am_ok X rJ6_compare_7cf53 G (d + 1)) (hM : am_me X rJ6_compare_7cf53 Q) {bc bs : Nat}  {a0 : Int32} {a1 : Int32} {M : am_Hp} (h : ((a1 ≤ a0) → (((a0 = a1) → (Q (.inl (some (.int (0 : Int32)))) M)) ∧ (¬ (a0 = a1) → (Q (.inl (some (.int (1 : Int32)))) M)))) ∧ (¬ (a1 ≤ a0) → (Q (.inl (some (.int (-1 : Int32)))) M))) : am_J X 0 [(0, .int a0), (1, .int a1)] [] M bc bs := by
  refine j_iload_n hX eJ6_compare_7cf53_0 0 rfl ?_
  refine j_iload_n hX eJ6_compare_7cf53_1 1 rfl ?_
  refine j_icmp_ge hX 9 eJ6_compare_7cf53_2 (by decide) (fun c1 => ?_) (fun c1 => ?_)
  · replace h := h.1 c1
    refine j_iload_n hX eJ6_compare_7cf53_9 0 rfl ?_
    refine j_iload_n hX eJ6_compare_7cf53_10 1 rfl ?_
    refine j_icmp_ne hX 18 eJ6_compare_7cf53_11 (by decide) (fun c2 => ?_) (fun c2 => ?_)
    · replace h := h.2 c2
      refine j_iconst (v := (1 : Int32)) hX eJ6_compare_7cf53_18 (by decide) ?_
      exact j_iret hX hM eJ6_compare_7cf53_19 rfl h
    · replace h := h.1 c2
      refine j_iconst (v := (0 : Int32)) hX eJ6_compare_7cf53_14 (by decide) ?_
      refine j_goto hX 19 eJ6_compare_7cf53_15 (by decide) ?_
      exact j_iret hX hM eJ6_compare_7cf53_19 rfl h
  · replace h := h.2 c1
    refine j_iconst (v := (-1 : Int32)) hX eJ6_compare_7cf53_5 (by decide) ?_
    refine j_goto hX 19 eJ6_compare_7cf53_6 (by decide) ?_
    exact j_iret hX hM eJ6_compare_7cf53_19 rfl h
