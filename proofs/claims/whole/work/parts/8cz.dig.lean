/-! Integer.getChars, the digit tables read only (made by gen/mk/mk8cz.py) -/
set_option maxHeartbeats 4000000 in
set_option maxRecDepth 20000 in
theorem vJ6_getChars41_22 {X : am_Cx} {G : am_Gx} {d : Nat} {Q : am_Q} (hX : am_ok X rJ6_getChars_ba4f3 G (d + 1)) (hM : am_me X rJ6_getChars_ba4f3 Q) {bc bs : Nat} (R22 : Int32 → Nat → Int32 → Int32 → am_Hp → Prop) (k22 : ∀ (x0 : Int32) (x2 : Nat) (x5 : Int32) (x6 : Int32) (M : am_Hp), R22 x0 x2 x5 x6 M → am_J X 22 [(0, .int x0), (2, .ref x2), (5, .int x5), (6, .int x6)] [] M bc bs) {a0 : Int32} {a2 : Nat} {a5 : Int32} {a6 : Int32} {M : am_Hp} (h : (((-100 : Int32) < a0) → (∀ v2 : Int32, v2 = a5 + (-1 : Int32) → (∃ p4 : Nat, ("java/lang/Integer", "DigitOnes", "[B", .ref p4) ∈ gx_z G ∧ (hp_T M (p4) = 41 ∧ (vp_in (-a0) (hp_N M p4) ∧ (hp_T M (a2) = 20 ∧ (vp_in v2 (hp_N M a2) ∧ (vp_nar .byte (hp_E M p4 ((-a0)).toNatClampNeg) = (hp_E M p4 ((-a0)).toNatClampNeg) ∧ (∀ M10 : am_Hp, M10 = hp_sE M a2 (v2).toNatClampNeg (hp_E M p4 ((-a0)).toNatClampNeg) → ((((-9 : Int32) ≤ a0) → (((a6 = 0) → (Q (.inl (some (.int v2))) M10)) ∧ (¬ (a6 = 0) → (∀ v15 : Int32, v15 = v2 + (-1 : Int32) → (vp_in v15 (hp_N M10 a2) ∧ (vp_nar .byte (45 : Int32) = (45 : Int32) ∧ (∀ M18 : am_Hp, M18 = hp_sE M10 a2 (v15).toNatClampNeg (45 : Int32) → (Q (.inl (some (.int v15))) M18)))))))) ∧ (¬ ((-9 : Int32) ≤ a0) → (∀ v21 : Int32, v21 = v2 + (-1 : Int32) → (∃ p23 : Nat, ("java/lang/Integer", "DigitTens", "[B", .ref p23) ∈ gx_z G ∧ (hp_T M10 (p23) = 41 ∧ (vp_in (-a0) (hp_N M10 p23) ∧ (vp_in v21 (hp_N M10 a2) ∧ (vp_nar .byte (hp_E M10 p23 ((-a0)).toNatClampNeg) = (hp_E M10 p23 ((-a0)).toNatClampNeg) ∧ (∀ M28 : am_Hp, M28 = hp_sE M10 a2 (v21).toNatClampNeg (hp_E M10 p23 ((-a0)).toNatClampNeg) → (((a6 = 0) → (Q (.inl (some (.int v21))) M28)) ∧ (¬ (a6 = 0) → (∀ v33 : Int32, v33 = v21 + (-1 : Int32) → (vp_in v33 (hp_N M28 a2) ∧ (vp_nar .byte (45 : Int32) = (45 : Int32) ∧ (∀ M36 : am_Hp, M36 = hp_sE M28 a2 (v33).toNatClampNeg (45 : Int32) → (Q (.inl (some (.int v33))) M36))))))))))))))))))))))))) ∧ (¬ ((-100 : Int32) < a0) → (∀ v40 : Int32, v40 = (a0 / (100 : Int32)) → (∀ v41 : Int32, v41 = ((v40 * (100 : Int32)) - a0) → (∀ v42 : Int32, v42 = a5 + (-1 : Int32) → (∃ p44 : Nat, ("java/lang/Integer", "DigitOnes", "[B", .ref p44) ∈ gx_z G ∧ (hp_T M (p44) = 41 ∧ (vp_in v41 (hp_N M p44) ∧ (hp_T M (a2) = 20 ∧ (vp_in v42 (hp_N M a2) ∧ (vp_nar .byte (hp_E M p44 (v41).toNatClampNeg) = (hp_E M p44 (v41).toNatClampNeg) ∧ (∀ M50 : am_Hp, M50 = hp_sE M a2 (v42).toNatClampNeg (hp_E M p44 (v41).toNatClampNeg) → (∀ v53 : Int32, v53 = v42 + (-1 : Int32) → (∃ p55 : Nat, ("java/lang/Integer", "DigitTens", "[B", .ref p55) ∈ gx_z G ∧ (hp_T M50 (p55) = 41 ∧ (vp_in v41 (hp_N M50 p55) ∧ (vp_in v53 (hp_N M50 a2) ∧ (vp_nar .byte (hp_E M50 p55 (v41).toNatClampNeg) = (hp_E M50 p55 (v41).toNatClampNeg) ∧ (∀ M60 : am_Hp, M60 = hp_sE M50 a2 (v53).toNatClampNeg (hp_E M50 p55 (v41).toNatClampNeg) → (R22 v40 a2 v53 a6 M60)))))))))))))))))))) : am_J X 22 [(0, .int a0), (2, .ref a2), (5, .int a5), (6, .int a6)] [] M bc bs := by
  refine j_iload_n hX eJ6_getChars_ba4f3_22 0 rfl ?_
  refine j_bipush (v := (-100 : Int32)) hX eJ6_getChars_ba4f3_23 (by decide) ?_
  refine j_icmp_gt hX 72 eJ6_getChars_ba4f3_25 (by decide) (fun c1 => ?_) (fun c1 => ?_)
  · replace h := h.1 c1
    refine j_aload_n hX eJ6_getChars_ba4f3_72 1 rfl ?_
    obtain ⟨v2, ev2⟩ : ∃ v2 : Int32, v2 = a5 + (-1 : Int32) := ⟨_, rfl⟩
    replace h := h v2 ev2
    refine j_iinc (v := v2) (lv' := [(5, .int v2), (0, .int a0), (2, .ref a2), (6, .int a6)]) hX eJ6_getChars_ba4f3_73 2 rfl (by rw [ev2]; rfl) (by decide) rfl ?_
    refine j_iload hX eJ6_getChars_ba4f3_76 0 rfl ?_
    obtain ⟨p4, z3, h⟩ := h
    refine j_gets hX eJ6_getChars_ba4f3_78 z3 tw_553 ?_
    refine j_iload_n hX eJ6_getChars_ba4f3_81 1 rfl ?_
    refine j_ineg hX eJ6_getChars_ba4f3_82 ?_
    obtain ⟨t5, h⟩ := h
    obtain ⟨i6, h⟩ := h
    refine j_baldx hX eJ6_getChars_ba4f3_83 t5 i6 ?_
    obtain ⟨t7, h⟩ := h
    obtain ⟨i8, h⟩ := h
    obtain ⟨n9, h⟩ := h
    refine j_bast hX eJ6_getChars_ba4f3_84 t7 i8 n9 ?_
    refine j_nmM (fun M10 eM10 => ?_)
    replace h := h M10 eM10
    have t11 : hp_T M10 (p4) = 41 := by rw [eM10]; exact t5
    have t12 : hp_T M10 (a2) = 20 := by rw [eM10]; exact t7
    refine j_iload_n hX eJ6_getChars_ba4f3_85 1 rfl ?_
    refine j_bipush (v := (-9 : Int32)) hX eJ6_getChars_ba4f3_86 (by decide) ?_
    refine j_icmp_ge hX 104 eJ6_getChars_ba4f3_88 (by decide) (fun c13 => ?_) (fun c13 => ?_)
    · replace h := h.1 c13
      refine j_iload hX eJ6_getChars_ba4f3_104 3 rfl ?_
      refine j_if_eq hX 118 eJ6_getChars_ba4f3_106 (by decide) (fun c14 => ?_) (fun c14 => ?_)
      · replace h := h.1 c14
        refine j_iload hX eJ6_getChars_ba4f3_118 0 rfl ?_
        exact j_iret hX hM eJ6_getChars_ba4f3_120 rfl h
      · replace h := h.2 c14
        refine j_aload_n hX eJ6_getChars_ba4f3_109 2 rfl ?_
        obtain ⟨v15, ev15⟩ : ∃ v15 : Int32, v15 = v2 + (-1 : Int32) := ⟨_, rfl⟩
        replace h := h v15 ev15
        refine j_iinc (v := v15) (lv' := [(5, .int v15), (0, .int a0), (2, .ref a2), (6, .int a6)]) hX eJ6_getChars_ba4f3_110 0 rfl (by rw [ev15]; rfl) (by decide) rfl ?_
        refine j_iload hX eJ6_getChars_ba4f3_113 0 rfl ?_
        refine j_bipush (v := (45 : Int32)) hX eJ6_getChars_ba4f3_115 (by decide) ?_
        obtain ⟨i16, h⟩ := h
        obtain ⟨n17, h⟩ := h
        refine j_bast hX eJ6_getChars_ba4f3_117 t12 i16 n17 ?_
        refine j_nmM (fun M18 eM18 => ?_)
        replace h := h M18 eM18
        have t19 : hp_T M18 (p4) = 41 := by rw [eM18]; exact t11
        have t20 : hp_T M18 (a2) = 20 := by rw [eM18]; exact t12
        refine j_iload hX eJ6_getChars_ba4f3_118 0 rfl ?_
        exact j_iret hX hM eJ6_getChars_ba4f3_120 rfl h
    · replace h := h.2 c13
      refine j_aload_n hX eJ6_getChars_ba4f3_91 2 rfl ?_
      obtain ⟨v21, ev21⟩ : ∃ v21 : Int32, v21 = v2 + (-1 : Int32) := ⟨_, rfl⟩
      replace h := h v21 ev21
      refine j_iinc (v := v21) (lv' := [(5, .int v21), (0, .int a0), (2, .ref a2), (6, .int a6)]) hX eJ6_getChars_ba4f3_92 0 rfl (by rw [ev21]; rfl) (by decide) rfl ?_
      refine j_iload hX eJ6_getChars_ba4f3_95 0 rfl ?_
      obtain ⟨p23, z22, h⟩ := h
      refine j_gets hX eJ6_getChars_ba4f3_97 z22 tw_555 ?_
      refine j_iload_n hX eJ6_getChars_ba4f3_100 1 rfl ?_
      refine j_ineg hX eJ6_getChars_ba4f3_101 ?_
      obtain ⟨t24, h⟩ := h
      obtain ⟨i25, h⟩ := h
      refine j_baldx hX eJ6_getChars_ba4f3_102 t24 i25 ?_
      obtain ⟨i26, h⟩ := h
      obtain ⟨n27, h⟩ := h
      refine j_bast hX eJ6_getChars_ba4f3_103 t12 i26 n27 ?_
      refine j_nmM (fun M28 eM28 => ?_)
      replace h := h M28 eM28
      have t29 : hp_T M28 (p4) = 41 := by rw [eM28]; exact t11
      have t30 : hp_T M28 (a2) = 20 := by rw [eM28]; exact t12
      have t31 : hp_T M28 (p23) = 41 := by rw [eM28]; exact t24
      refine j_iload hX eJ6_getChars_ba4f3_104 3 rfl ?_
      refine j_if_eq hX 118 eJ6_getChars_ba4f3_106 (by decide) (fun c32 => ?_) (fun c32 => ?_)
      · replace h := h.1 c32
        refine j_iload hX eJ6_getChars_ba4f3_118 0 rfl ?_
        exact j_iret hX hM eJ6_getChars_ba4f3_120 rfl h
      · replace h := h.2 c32
        refine j_aload_n hX eJ6_getChars_ba4f3_109 2 rfl ?_
        obtain ⟨v33, ev33⟩ : ∃ v33 : Int32, v33 = v21 + (-1 : Int32) := ⟨_, rfl⟩
        replace h := h v33 ev33
        refine j_iinc (v := v33) (lv' := [(5, .int v33), (0, .int a0), (2, .ref a2), (6, .int a6)]) hX eJ6_getChars_ba4f3_110 0 rfl (by rw [ev33]; rfl) (by decide) rfl ?_
        refine j_iload hX eJ6_getChars_ba4f3_113 0 rfl ?_
        refine j_bipush (v := (45 : Int32)) hX eJ6_getChars_ba4f3_115 (by decide) ?_
        obtain ⟨i34, h⟩ := h
        obtain ⟨n35, h⟩ := h
        refine j_bast hX eJ6_getChars_ba4f3_117 t30 i34 n35 ?_
        refine j_nmM (fun M36 eM36 => ?_)
        replace h := h M36 eM36
        have t37 : hp_T M36 (p4) = 41 := by rw [eM36]; exact t29
        have t38 : hp_T M36 (a2) = 20 := by rw [eM36]; exact t30
        have t39 : hp_T M36 (p23) = 41 := by rw [eM36]; exact t31
        refine j_iload hX eJ6_getChars_ba4f3_118 0 rfl ?_
        exact j_iret hX hM eJ6_getChars_ba4f3_120 rfl h
  · replace h := h.2 c1
    refine j_iload_n hX eJ6_getChars_ba4f3_28 0 rfl ?_
    refine j_bipush (v := (100 : Int32)) hX eJ6_getChars_ba4f3_29 (by decide) ?_
    refine j_idiv hX eJ6_getChars_ba4f3_31 (by decide) ?_
    refine j_nmI (fun v40 ev40 => ?_)
    replace h := h v40 ev40
    refine j_istore_n (lv' := [(3, .int v40), (0, .int a0), (2, .ref a2), (5, .int a5), (6, .int a6)]) hX eJ6_getChars_ba4f3_32 rfl (by decide) rfl ?_
    refine j_iload_n hX eJ6_getChars_ba4f3_33 0 rfl ?_
    refine j_bipush (v := (100 : Int32)) hX eJ6_getChars_ba4f3_34 (by decide) ?_
    refine j_imul hX eJ6_getChars_ba4f3_36 ?_
    refine j_iload_n hX eJ6_getChars_ba4f3_37 1 rfl ?_
    refine j_isub hX eJ6_getChars_ba4f3_38 ?_
    refine j_nmI (fun v41 ev41 => ?_)
    replace h := h v41 ev41
    refine j_istore (lv' := [(4, .int v41), (3, .int v40), (0, .int a0), (2, .ref a2), (5, .int a5), (6, .int a6)]) hX eJ6_getChars_ba4f3_39 (by decide) rfl ?_
    refine j_iload_n hX eJ6_getChars_ba4f3_41 1 rfl ?_
    refine j_istore_n (lv' := [(0, .int v40), (4, .int v41), (3, .int v40), (2, .ref a2), (5, .int a5), (6, .int a6)]) hX eJ6_getChars_ba4f3_42 rfl (by decide) rfl ?_
    refine j_aload_n hX eJ6_getChars_ba4f3_43 3 rfl ?_
    obtain ⟨v42, ev42⟩ : ∃ v42 : Int32, v42 = a5 + (-1 : Int32) := ⟨_, rfl⟩
    replace h := h v42 ev42
    refine j_iinc (v := v42) (lv' := [(5, .int v42), (0, .int v40), (4, .int v41), (3, .int v40), (2, .ref a2), (6, .int a6)]) hX eJ6_getChars_ba4f3_44 4 rfl (by rw [ev42]; rfl) (by decide) rfl ?_
    refine j_iload hX eJ6_getChars_ba4f3_47 0 rfl ?_
    obtain ⟨p44, z43, h⟩ := h
    refine j_gets hX eJ6_getChars_ba4f3_49 z43 tw_553 ?_
    refine j_iload hX eJ6_getChars_ba4f3_52 2 rfl ?_
    obtain ⟨t45, h⟩ := h
    obtain ⟨i46, h⟩ := h
    refine j_baldx hX eJ6_getChars_ba4f3_54 t45 i46 ?_
    obtain ⟨t47, h⟩ := h
    obtain ⟨i48, h⟩ := h
    obtain ⟨n49, h⟩ := h
    refine j_bast hX eJ6_getChars_ba4f3_55 t47 i48 n49 ?_
    refine j_nmM (fun M50 eM50 => ?_)
    replace h := h M50 eM50
    have t51 : hp_T M50 (p44) = 41 := by rw [eM50]; exact t45
    have t52 : hp_T M50 (a2) = 20 := by rw [eM50]; exact t47
    refine j_aload_n hX eJ6_getChars_ba4f3_56 4 rfl ?_
    obtain ⟨v53, ev53⟩ : ∃ v53 : Int32, v53 = v42 + (-1 : Int32) := ⟨_, rfl⟩
    replace h := h v53 ev53
    refine j_iinc (v := v53) (lv' := [(5, .int v53), (0, .int v40), (4, .int v41), (3, .int v40), (2, .ref a2), (6, .int a6)]) hX eJ6_getChars_ba4f3_57 0 rfl (by rw [ev53]; rfl) (by decide) rfl ?_
    refine j_iload hX eJ6_getChars_ba4f3_60 0 rfl ?_
    obtain ⟨p55, z54, h⟩ := h
    refine j_gets hX eJ6_getChars_ba4f3_62 z54 tw_555 ?_
    refine j_iload hX eJ6_getChars_ba4f3_65 2 rfl ?_
    obtain ⟨t56, h⟩ := h
    obtain ⟨i57, h⟩ := h
    refine j_baldx hX eJ6_getChars_ba4f3_67 t56 i57 ?_
    obtain ⟨i58, h⟩ := h
    obtain ⟨n59, h⟩ := h
    refine j_bast hX eJ6_getChars_ba4f3_68 t52 i58 n59 ?_
    refine j_nmM (fun M60 eM60 => ?_)
    replace h := h M60 eM60
    have t61 : hp_T M60 (p44) = 41 := by rw [eM60]; exact t51
    have t62 : hp_T M60 (a2) = 20 := by rw [eM60]; exact t52
    have t63 : hp_T M60 (p55) = 41 := by rw [eM60]; exact t56
    refine j_goto hX 22 eJ6_getChars_ba4f3_69 (by decide) ?_
    exact j_sub [1, 4, 0, 5] rfl (k22 _ _ _ _ _ h)
