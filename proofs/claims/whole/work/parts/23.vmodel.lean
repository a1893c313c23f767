set_option maxHeartbeats 4000000 in
set_option maxRecDepth 20000 in
theorem vX7_init_0 {X : am_Cx} {G : am_Gx} {d : Nat} {Q : am_Q} (hX : am_ok X rX7_init G (d + 1)) (hM : am_me X rX7_init Q) {bc bs : Nat} (R93 : Nat → Int32 → am_Hp → Nat → Nat → Prop) (k93 : ∀ (x0 : Nat) (x1 : Int32) (M : am_Hp) (bc bs : Nat), R93 x0 x1 M bc bs → am_J X 93 [(0, .ref x0), (1, .int x1)] [] M bc bs) {a0 : Nat} {M : am_Hp} (h : ¬ (141 : Int32) < 0 ∧ (((141 : Int32)).toNatClampNeg * componentBytes .int ≤ 536870912 ∧ (1 ≤ bc ∧ (((141 : Int32)).toNatClampNeg ≤ bs ∧ (∀ p5 : Nat, hp_T M p5 = 0 → p5 ≠ 0 → (∀ M8 : am_Hp, M8 = hp_a M p5 22 ((141 : Int32)).toNatClampNeg → (hp_T M8 (a0) = 8 ∧ (p5 ≠ 0 ∧ (∀ M12 : am_Hp, M12 = hp_sR M8 140 a0 p5 → (¬ (141 : Int32) < 0 ∧ (((141 : Int32)).toNatClampNeg * componentBytes .int ≤ 536870912 ∧ (1 ≤ (bc - 1) ∧ (((141 : Int32)).toNatClampNeg ≤ (bs - ((141 : Int32)).toNatClampNeg) ∧ (∀ p19 : Nat, hp_T M12 p19 = 0 → p19 ≠ 0 → (∀ M22 : am_Hp, M22 = hp_a M12 p19 22 ((141 : Int32)).toNatClampNeg → (p19 ≠ 0 ∧ (∀ M27 : am_Hp, M27 = hp_sR M22 141 a0 p19 → (¬ (141 : Int32) < 0 ∧ (((141 : Int32)).toNatClampNeg * componentBytes .int ≤ 536870912 ∧ (1 ≤ ((bc - 1) - 1) ∧ (((141 : Int32)).toNatClampNeg ≤ ((bs - ((141 : Int32)).toNatClampNeg) - ((141 : Int32)).toNatClampNeg) ∧ (∀ p35 : Nat, hp_T M27 p35 = 0 → p35 ≠ 0 → (∀ M38 : am_Hp, M38 = hp_a M27 p35 22 ((141 : Int32)).toNatClampNeg → (p35 ≠ 0 ∧ (∀ M44 : am_Hp, M44 = hp_sR M38 142 a0 p35 → (¬ (1128 : Int32) < 0 ∧ (((1128 : Int32)).toNatClampNeg * componentBytes .int ≤ 536870912 ∧ (1 ≤ (((bc - 1) - 1) - 1) ∧ (((1128 : Int32)).toNatClampNeg ≤ (((bs - ((141 : Int32)).toNatClampNeg) - ((141 : Int32)).toNatClampNeg) - ((141 : Int32)).toNatClampNeg) ∧ (∀ p53 : Nat, hp_T M44 p53 = 0 → p53 ≠ 0 → (∀ M56 : am_Hp, M56 = hp_a M44 p53 22 ((1128 : Int32)).toNatClampNeg → (p53 ≠ 0 ∧ (∀ M63 : am_Hp, M63 = hp_sR M56 143 a0 p53 → (¬ (141 : Int32) < 0 ∧ (((141 : Int32)).toNatClampNeg * componentBytes .int ≤ 536870912 ∧ (1 ≤ ((((bc - 1) - 1) - 1) - 1) ∧ (((141 : Int32)).toNatClampNeg ≤ ((((bs - ((141 : Int32)).toNatClampNeg) - ((141 : Int32)).toNatClampNeg) - ((141 : Int32)).toNatClampNeg) - ((1128 : Int32)).toNatClampNeg) ∧ (∀ p73 : Nat, hp_T M63 p73 = 0 → p73 ≠ 0 → (∀ M76 : am_Hp, M76 = hp_a M63 p73 22 ((141 : Int32)).toNatClampNeg → (p73 ≠ 0 ∧ (∀ M84 : am_Hp, M84 = hp_sR M76 145 a0 p73 → (¬ (60 : Int32) < 0 ∧ (((60 : Int32)).toNatClampNeg * componentBytes .char ≤ 536870912 ∧ (1 ≤ (((((bc - 1) - 1) - 1) - 1) - 1) ∧ (((60 : Int32)).toNatClampNeg ≤ (((((bs - ((141 : Int32)).toNatClampNeg) - ((141 : Int32)).toNatClampNeg) - ((141 : Int32)).toNatClampNeg) - ((1128 : Int32)).toNatClampNeg) - ((141 : Int32)).toNatClampNeg) ∧ (∀ p95 : Nat, hp_T M84 p95 = 0 → p95 ≠ 0 → (∀ M98 : am_Hp, M98 = hp_a M84 p95 21 ((60 : Int32)).toNatClampNeg → (p95 ≠ 0 ∧ (∀ M107 : am_Hp, M107 = hp_sR M98 147 a0 p95 → (∀ M115 : am_Hp, M115 = hp_sI M107 149 a0 (-1 : Int32) → (∀ M123 : am_Hp, M123 = hp_sI M115 150 a0 (-1 : Int32) → (¬ (60 : Int32) < 0 ∧ (((60 : Int32)).toNatClampNeg * componentBytes .char ≤ 536870912 ∧ (1 ≤ ((((((bc - 1) - 1) - 1) - 1) - 1) - 1) ∧ (((60 : Int32)).toNatClampNeg ≤ ((((((bs - ((141 : Int32)).toNatClampNeg) - ((141 : Int32)).toNatClampNeg) - ((141 : Int32)).toNatClampNeg) - ((1128 : Int32)).toNatClampNeg) - ((141 : Int32)).toNatClampNeg) - ((60 : Int32)).toNatClampNeg) ∧ (∀ p135 : Nat, hp_T M123 p135 = 0 → p135 ≠ 0 → (∀ M138 : am_Hp, M138 = hp_a M123 p135 21 ((60 : Int32)).toNatClampNeg → (p135 ≠ 0 ∧ (∀ M148 : am_Hp, M148 = hp_sR M138 151 a0 p135 → (¬ (240 : Int32) < 0 ∧ (((240 : Int32)).toNatClampNeg * componentBytes .int ≤ 536870912 ∧ (1 ≤ (((((((bc - 1) - 1) - 1) - 1) - 1) - 1) - 1) ∧ (((240 : Int32)).toNatClampNeg ≤ (((((((bs - ((141 : Int32)).toNatClampNeg) - ((141 : Int32)).toNatClampNeg) - ((141 : Int32)).toNatClampNeg) - ((1128 : Int32)).toNatClampNeg) - ((141 : Int32)).toNatClampNeg) - ((60 : Int32)).toNatClampNeg) - ((60 : Int32)).toNatClampNeg) ∧ (∀ p161 : Nat, hp_T M148 p161 = 0 → p161 ≠ 0 → (∀ M164 : am_Hp, M164 = hp_a M148 p161 22 ((240 : Int32)).toNatClampNeg → (p161 ≠ 0 ∧ (∀ M175 : am_Hp, M175 = hp_sR M164 156 a0 p161 → (hp_R M175 140 a0 ≠ 0 ∧ (∀ p186 : Nat, p186 = hp_R M175 140 a0 → (hp_T M175 (p186) = 22 ∧ (vp_in (2 : Int32) (hp_N M175 p186) ∧ (∀ M189 : am_Hp, M189 = hp_sE M175 p186 ((2 : Int32)).toNatClampNeg (1 : Int32) → (R93 a0 (0 : Int32) M189 ((((((((bc - 1) - 1) - 1) - 1) - 1) - 1) - 1) - 1) ((((((((bs - ((141 : Int32)).toNatClampNeg) - ((141 : Int32)).toNatClampNeg) - ((141 : Int32)).toNatClampNeg) - ((1128 : Int32)).toNatClampNeg) - ((141 : Int32)).toNatClampNeg) - ((60 : Int32)).toNatClampNeg) - ((60 : Int32)).toNatClampNeg) - ((240 : Int32)).toNatClampNeg)))))))))))))))))))))))))))))))))))))))))))))))))))))))))))))))))))))))))) : am_J X 0 [(0, .ref a0)] [] M bc bs := by
  refine j_aload_n hX eX7_init_0 0 rfl ?_
  refine j_objInit hX eX7_init_1 tw_1518 tw_38 tw_39 (Nat.le_of_ble_eq_true rfl) ?_
  refine j_aload_n hX eX7_init_4 0 rfl ?_
  refine j_sipush (v := (141 : Int32)) hX eX7_init_5 (by decide) ?_
  obtain ⟨n1, n2, b3, b4, h⟩ := h
  refine j_newa_i hX eX7_init_8 tw_78 n1 n2 b3 b4 (fun p5 o6 z7 => ?_)
  replace h := h p5 o6 z7
  refine j_nmM (fun M8 eM8 => ?_)
  replace h := h M8 eM8
  have t9 : hp_T M8 (p5) = 22 := by rw [eM8]; exact hp_Tna
  obtain ⟨t10, h⟩ := h
  obtain ⟨z11, h⟩ := h
  refine j_putF (ty := .array .int) hX eX7_init_10 ff_LiftGroupModel_7 rfl t10 (by decide) z11 hM rfl pp_7_0 rfl rfl ?_
  refine j_nmM (fun M12 eM12 => ?_)
  replace h := h M12 eM12
  have t13 : hp_T M12 (p5) = 22 := by rw [eM12]; exact t9
  have t14 : hp_T M12 (a0) = 8 := by rw [eM12]; exact t10
  refine j_aload_n hX eX7_init_13 0 rfl ?_
  refine j_sipush (v := (141 : Int32)) hX eX7_init_14 (by decide) ?_
  obtain ⟨n15, n16, b17, b18, h⟩ := h
  refine j_newa_i hX eX7_init_17 tw_78 n15 n16 b17 b18 (fun p19 o20 z21 => ?_)
  replace h := h p19 o20 z21
  refine j_nmM (fun M22 eM22 => ?_)
  replace h := h M22 eM22
  have t23 : hp_T M22 (p5) = 22 := by rw [eM22]; exact (hp_Ta o20 t13 (by decide)).trans rfl
  have t24 : hp_T M22 (a0) = 8 := by rw [eM22]; exact (hp_Ta o20 t14 (by decide)).trans rfl
  have t25 : hp_T M22 (p19) = 22 := by rw [eM22]; exact hp_Tna
  obtain ⟨z26, h⟩ := h
  refine j_putF (ty := .array .int) hX eX7_init_19 ff_LiftGroupModel_13 rfl t24 (by decide) z26 hM rfl pp_7_1 rfl rfl ?_
  refine j_nmM (fun M27 eM27 => ?_)
  replace h := h M27 eM27
  have t28 : hp_T M27 (p5) = 22 := by rw [eM27]; exact t23
  have t29 : hp_T M27 (a0) = 8 := by rw [eM27]; exact t24
  have t30 : hp_T M27 (p19) = 22 := by rw [eM27]; exact t25
  refine j_aload_n hX eX7_init_22 0 rfl ?_
  refine j_sipush (v := (141 : Int32)) hX eX7_init_23 (by decide) ?_
  obtain ⟨n31, n32, b33, b34, h⟩ := h
  refine j_newa_i hX eX7_init_26 tw_78 n31 n32 b33 b34 (fun p35 o36 z37 => ?_)
  replace h := h p35 o36 z37
  refine j_nmM (fun M38 eM38 => ?_)
  replace h := h M38 eM38
  have t39 : hp_T M38 (p5) = 22 := by rw [eM38]; exact (hp_Ta o36 t28 (by decide)).trans rfl
  have t40 : hp_T M38 (a0) = 8 := by rw [eM38]; exact (hp_Ta o36 t29 (by decide)).trans rfl
  have t41 : hp_T M38 (p19) = 22 := by rw [eM38]; exact (hp_Ta o36 t30 (by decide)).trans rfl
  have t42 : hp_T M38 (p35) = 22 := by rw [eM38]; exact hp_Tna
  obtain ⟨z43, h⟩ := h
  refine j_putF (ty := .array .int) hX eX7_init_28 ff_LiftGroupModel_16 rfl t40 (by decide) z43 hM rfl pp_7_2 rfl rfl ?_
  refine j_nmM (fun M44 eM44 => ?_)
  replace h := h M44 eM44
  have t45 : hp_T M44 (p5) = 22 := by rw [eM44]; exact t39
  have t46 : hp_T M44 (a0) = 8 := by rw [eM44]; exact t40
  have t47 : hp_T M44 (p19) = 22 := by rw [eM44]; exact t41
  have t48 : hp_T M44 (p35) = 22 := by rw [eM44]; exact t42
  refine j_aload_n hX eX7_init_31 0 rfl ?_
  refine j_sipush (v := (1128 : Int32)) hX eX7_init_32 (by decide) ?_
  obtain ⟨n49, n50, b51, b52, h⟩ := h
  refine j_newa_i hX eX7_init_35 tw_78 n49 n50 b51 b52 (fun p53 o54 z55 => ?_)
  replace h := h p53 o54 z55
  refine j_nmM (fun M56 eM56 => ?_)
  replace h := h M56 eM56
  have t57 : hp_T M56 (p5) = 22 := by rw [eM56]; exact (hp_Ta o54 t45 (by decide)).trans rfl
  have t58 : hp_T M56 (a0) = 8 := by rw [eM56]; exact (hp_Ta o54 t46 (by decide)).trans rfl
  have t59 : hp_T M56 (p19) = 22 := by rw [eM56]; exact (hp_Ta o54 t47 (by decide)).trans rfl
  have t60 : hp_T M56 (p35) = 22 := by rw [eM56]; exact (hp_Ta o54 t48 (by decide)).trans rfl
  have t61 : hp_T M56 (p53) = 22 := by rw [eM56]; exact hp_Tna
  obtain ⟨z62, h⟩ := h
  refine j_putF (ty := .array .int) hX eX7_init_37 ff_LiftGroupModel_19 rfl t58 (by decide) z62 hM rfl pp_7_3 rfl rfl ?_
  refine j_nmM (fun M63 eM63 => ?_)
  replace h := h M63 eM63
  have t64 : hp_T M63 (p5) = 22 := by rw [eM63]; exact t57
  have t65 : hp_T M63 (a0) = 8 := by rw [eM63]; exact t58
  have t66 : hp_T M63 (p19) = 22 := by rw [eM63]; exact t59
  have t67 : hp_T M63 (p35) = 22 := by rw [eM63]; exact t60
  have t68 : hp_T M63 (p53) = 22 := by rw [eM63]; exact t61
  refine j_aload_n hX eX7_init_40 0 rfl ?_
  refine j_sipush (v := (141 : Int32)) hX eX7_init_41 (by decide) ?_
  obtain ⟨n69, n70, b71, b72, h⟩ := h
  refine j_newa_i hX eX7_init_44 tw_78 n69 n70 b71 b72 (fun p73 o74 z75 => ?_)
  replace h := h p73 o74 z75
  refine j_nmM (fun M76 eM76 => ?_)
  replace h := h M76 eM76
  have t77 : hp_T M76 (p5) = 22 := by rw [eM76]; exact (hp_Ta o74 t64 (by decide)).trans rfl
  have t78 : hp_T M76 (a0) = 8 := by rw [eM76]; exact (hp_Ta o74 t65 (by decide)).trans rfl
  have t79 : hp_T M76 (p19) = 22 := by rw [eM76]; exact (hp_Ta o74 t66 (by decide)).trans rfl
  have t80 : hp_T M76 (p35) = 22 := by rw [eM76]; exact (hp_Ta o74 t67 (by decide)).trans rfl
  have t81 : hp_T M76 (p53) = 22 := by rw [eM76]; exact (hp_Ta o74 t68 (by decide)).trans rfl
  have t82 : hp_T M76 (p73) = 22 := by rw [eM76]; exact hp_Tna
  obtain ⟨z83, h⟩ := h
  refine j_putF (ty := .array .int) hX eX7_init_46 ff_LiftGroupModel_22 rfl t78 (by decide) z83 hM rfl pp_7_5 rfl rfl ?_
  refine j_nmM (fun M84 eM84 => ?_)
  replace h := h M84 eM84
  have t85 : hp_T M84 (p5) = 22 := by rw [eM84]; exact t77
  have t86 : hp_T M84 (a0) = 8 := by rw [eM84]; exact t78
  have t87 : hp_T M84 (p19) = 22 := by rw [eM84]; exact t79
  have t88 : hp_T M84 (p35) = 22 := by rw [eM84]; exact t80
  have t89 : hp_T M84 (p53) = 22 := by rw [eM84]; exact t81
  have t90 : hp_T M84 (p73) = 22 := by rw [eM84]; exact t82
  refine j_aload_n hX eX7_init_49 0 rfl ?_
  refine j_bipush (v := (60 : Int32)) hX eX7_init_50 (by decide) ?_
  obtain ⟨n91, n92, b93, b94, h⟩ := h
  refine j_newa_c hX eX7_init_52 tw_1571 n91 n92 b93 b94 (fun p95 o96 z97 => ?_)
  replace h := h p95 o96 z97
  refine j_nmM (fun M98 eM98 => ?_)
  replace h := h M98 eM98
  have t99 : hp_T M98 (p5) = 22 := by rw [eM98]; exact (hp_Ta o96 t85 (by decide)).trans rfl
  have t100 : hp_T M98 (a0) = 8 := by rw [eM98]; exact (hp_Ta o96 t86 (by decide)).trans rfl
  have t101 : hp_T M98 (p19) = 22 := by rw [eM98]; exact (hp_Ta o96 t87 (by decide)).trans rfl
  have t102 : hp_T M98 (p35) = 22 := by rw [eM98]; exact (hp_Ta o96 t88 (by decide)).trans rfl
  have t103 : hp_T M98 (p53) = 22 := by rw [eM98]; exact (hp_Ta o96 t89 (by decide)).trans rfl
  have t104 : hp_T M98 (p73) = 22 := by rw [eM98]; exact (hp_Ta o96 t90 (by decide)).trans rfl
  have t105 : hp_T M98 (p95) = 21 := by rw [eM98]; exact hp_Tna
  obtain ⟨z106, h⟩ := h
  refine j_putF (ty := .array .char) hX eX7_init_54 ff_LiftGroupModel_25 rfl t100 (by decide) z106 hM rfl pp_7_7 rfl rfl ?_
  refine j_nmM (fun M107 eM107 => ?_)
  replace h := h M107 eM107
  have t108 : hp_T M107 (p5) = 22 := by rw [eM107]; exact t99
  have t109 : hp_T M107 (a0) = 8 := by rw [eM107]; exact t100
  have t110 : hp_T M107 (p19) = 22 := by rw [eM107]; exact t101
  have t111 : hp_T M107 (p35) = 22 := by rw [eM107]; exact t102
  have t112 : hp_T M107 (p53) = 22 := by rw [eM107]; exact t103
  have t113 : hp_T M107 (p73) = 22 := by rw [eM107]; exact t104
  have t114 : hp_T M107 (p95) = 21 := by rw [eM107]; exact t105
  refine j_aload_n hX eX7_init_57 0 rfl ?_
  refine j_iconst (v := (-1 : Int32)) hX eX7_init_58 (by decide) ?_
  refine j_putI (ty := .int) hX eX7_init_59 ff_LiftGroupModel_29 rfl t109 (by decide) pp_7_9 rfl rfl ?_
  refine j_nmM (fun M115 eM115 => ?_)
  replace h := h M115 eM115
  have t116 : hp_T M115 (p5) = 22 := by rw [eM115]; exact t108
  have t117 : hp_T M115 (a0) = 8 := by rw [eM115]; exact t109
  have t118 : hp_T M115 (p19) = 22 := by rw [eM115]; exact t110
  have t119 : hp_T M115 (p35) = 22 := by rw [eM115]; exact t111
  have t120 : hp_T M115 (p53) = 22 := by rw [eM115]; exact t112
  have t121 : hp_T M115 (p73) = 22 := by rw [eM115]; exact t113
  have t122 : hp_T M115 (p95) = 21 := by rw [eM115]; exact t114
  refine j_aload_n hX eX7_init_62 0 rfl ?_
  refine j_iconst (v := (-1 : Int32)) hX eX7_init_63 (by decide) ?_
  refine j_putI (ty := .int) hX eX7_init_64 ff_LiftGroupModel_33 rfl t117 (by decide) pp_7_10 rfl rfl ?_
  refine j_nmM (fun M123 eM123 => ?_)
  replace h := h M123 eM123
  have t124 : hp_T M123 (p5) = 22 := by rw [eM123]; exact t116
  have t125 : hp_T M123 (a0) = 8 := by rw [eM123]; exact t117
  have t126 : hp_T M123 (p19) = 22 := by rw [eM123]; exact t118
  have t127 : hp_T M123 (p35) = 22 := by rw [eM123]; exact t119
  have t128 : hp_T M123 (p53) = 22 := by rw [eM123]; exact t120
  have t129 : hp_T M123 (p73) = 22 := by rw [eM123]; exact t121
  have t130 : hp_T M123 (p95) = 21 := by rw [eM123]; exact t122
  refine j_aload_n hX eX7_init_67 0 rfl ?_
  refine j_bipush (v := (60 : Int32)) hX eX7_init_68 (by decide) ?_
  obtain ⟨n131, n132, b133, b134, h⟩ := h
  refine j_newa_c hX eX7_init_70 tw_1571 n131 n132 b133 b134 (fun p135 o136 z137 => ?_)
  replace h := h p135 o136 z137
  refine j_nmM (fun M138 eM138 => ?_)
  replace h := h M138 eM138
  have t139 : hp_T M138 (p5) = 22 := by rw [eM138]; exact (hp_Ta o136 t124 (by decide)).trans rfl
  have t140 : hp_T M138 (a0) = 8 := by rw [eM138]; exact (hp_Ta o136 t125 (by decide)).trans rfl
  have t141 : hp_T M138 (p19) = 22 := by rw [eM138]; exact (hp_Ta o136 t126 (by decide)).trans rfl
  have t142 : hp_T M138 (p35) = 22 := by rw [eM138]; exact (hp_Ta o136 t127 (by decide)).trans rfl
  have t143 : hp_T M138 (p53) = 22 := by rw [eM138]; exact (hp_Ta o136 t128 (by decide)).trans rfl
  have t144 : hp_T M138 (p73) = 22 := by rw [eM138]; exact (hp_Ta o136 t129 (by decide)).trans rfl
  have t145 : hp_T M138 (p95) = 21 := by rw [eM138]; exact (hp_Ta o136 t130 (by decide)).trans rfl
  have t146 : hp_T M138 (p135) = 21 := by rw [eM138]; exact hp_Tna
  obtain ⟨z147, h⟩ := h
  refine j_putF (ty := .array .char) hX eX7_init_72 ff_LiftGroupModel_36 rfl t140 (by decide) z147 hM rfl pp_7_11 rfl rfl ?_
  refine j_nmM (fun M148 eM148 => ?_)
  replace h := h M148 eM148
  have t149 : hp_T M148 (p5) = 22 := by rw [eM148]; exact t139
  have t150 : hp_T M148 (a0) = 8 := by rw [eM148]; exact t140
  have t151 : hp_T M148 (p19) = 22 := by rw [eM148]; exact t141
  have t152 : hp_T M148 (p35) = 22 := by rw [eM148]; exact t142
  have t153 : hp_T M148 (p53) = 22 := by rw [eM148]; exact t143
  have t154 : hp_T M148 (p73) = 22 := by rw [eM148]; exact t144
  have t155 : hp_T M148 (p95) = 21 := by rw [eM148]; exact t145
  have t156 : hp_T M148 (p135) = 21 := by rw [eM148]; exact t146
  refine j_aload_n hX eX7_init_75 0 rfl ?_
  refine j_sipush (v := (240 : Int32)) hX eX7_init_76 (by decide) ?_
  obtain ⟨n157, n158, b159, b160, h⟩ := h
  refine j_newa_i hX eX7_init_79 tw_78 n157 n158 b159 b160 (fun p161 o162 z163 => ?_)
  replace h := h p161 o162 z163
  refine j_nmM (fun M164 eM164 => ?_)
  replace h := h M164 eM164
  have t165 : hp_T M164 (p5) = 22 := by rw [eM164]; exact (hp_Ta o162 t149 (by decide)).trans rfl
  have t166 : hp_T M164 (a0) = 8 := by rw [eM164]; exact (hp_Ta o162 t150 (by decide)).trans rfl
  have t167 : hp_T M164 (p19) = 22 := by rw [eM164]; exact (hp_Ta o162 t151 (by decide)).trans rfl
  have t168 : hp_T M164 (p35) = 22 := by rw [eM164]; exact (hp_Ta o162 t152 (by decide)).trans rfl
  have t169 : hp_T M164 (p53) = 22 := by rw [eM164]; exact (hp_Ta o162 t153 (by decide)).trans rfl
  have t170 : hp_T M164 (p73) = 22 := by rw [eM164]; exact (hp_Ta o162 t154 (by decide)).trans rfl
  have t171 : hp_T M164 (p95) = 21 := by rw [eM164]; exact (hp_Ta o162 t155 (by decide)).trans rfl
  have t172 : hp_T M164 (p135) = 21 := by rw [eM164]; exact (hp_Ta o162 t156 (by decide)).trans rfl
  have t173 : hp_T M164 (p161) = 22 := by rw [eM164]; exact hp_Tna
  obtain ⟨z174, h⟩ := h
  refine j_putF (ty := .array .int) hX eX7_init_81 ff_LiftGroupModel_39 rfl t166 (by decide) z174 hM rfl pp_7_16 rfl rfl ?_
  refine j_nmM (fun M175 eM175 => ?_)
  replace h := h M175 eM175
  have t176 : hp_T M175 (p5) = 22 := by rw [eM175]; exact t165
  have t177 : hp_T M175 (a0) = 8 := by rw [eM175]; exact t166
  have t178 : hp_T M175 (p19) = 22 := by rw [eM175]; exact t167
  have t179 : hp_T M175 (p35) = 22 := by rw [eM175]; exact t168
  have t180 : hp_T M175 (p53) = 22 := by rw [eM175]; exact t169
  have t181 : hp_T M175 (p73) = 22 := by rw [eM175]; exact t170
  have t182 : hp_T M175 (p95) = 21 := by rw [eM175]; exact t171
  have t183 : hp_T M175 (p135) = 21 := by rw [eM175]; exact t172
  have t184 : hp_T M175 (p161) = 22 := by rw [eM175]; exact t173
  refine j_aload_n hX eX7_init_84 0 rfl ?_
  obtain ⟨z185, h⟩ := h
  refine j_getR hX eX7_init_85 ff_LiftGroupModel_7 rfl t177 (by decide) z185 ?_
  refine j_nmR (fun p186 ep186 => ?_)
  replace h := h p186 ep186
  refine j_iconst (v := (2 : Int32)) hX eX7_init_88 (by decide) ?_
  refine j_iconst (v := (1 : Int32)) hX eX7_init_89 (by decide) ?_
  obtain ⟨t187, h⟩ := h
  obtain ⟨i188, h⟩ := h
  refine j_iast hX eX7_init_90 t187 i188 ?_
  refine j_nmM (fun M189 eM189 => ?_)
  replace h := h M189 eM189
  have t190 : hp_T M189 (p5) = 22 := by rw [eM189]; exact t176
  have t191 : hp_T M189 (a0) = 8 := by rw [eM189]; exact t177
  have t192 : hp_T M189 (p19) = 22 := by rw [eM189]; exact t178
  have t193 : hp_T M189 (p35) = 22 := by rw [eM189]; exact t179
  have t194 : hp_T M189 (p53) = 22 := by rw [eM189]; exact t180
  have t195 : hp_T M189 (p73) = 22 := by rw [eM189]; exact t181
  have t196 : hp_T M189 (p95) = 21 := by rw [eM189]; exact t182
  have t197 : hp_T M189 (p135) = 21 := by rw [eM189]; exact t183
  have t198 : hp_T M189 (p161) = 22 := by rw [eM189]; exact t184
  have t199 : hp_T M189 (p186) = 22 := by rw [eM189]; exact t187
  refine j_iconst (v := (0 : Int32)) hX eX7_init_91 (by decide) ?_
  refine j_istore_n (lv' := [(1, .int (0 : Int32)), (0, .ref a0)]) hX eX7_init_92 rfl (by decide) rfl ?_
  exact j_sub [1, 0] rfl (k93 _ _ _ _ _ h)
set_option maxHeartbeats 4000000 in
set_option maxRecDepth 20000 in
theorem vX7_init_93 {X : am_Cx} {G : am_Gx} {d : Nat} {Q : am_Q} (hX : am_ok X rX7_init G (d + 1)) (hM : am_me X rX7_init Q) {bc bs : Nat} (R93 : Nat → Int32 → am_Hp → Nat → Nat → Prop) (k93 : ∀ (x0 : Nat) (x1 : Int32) (M : am_Hp) (bc bs : Nat), R93 x0 x1 M bc bs → am_J X 93 [(0, .ref x0), (1, .int x1)] [] M bc bs) {a0 : Nat} {a1 : Int32} {M : am_Hp} (h : (((3 : Int32) ≤ a1) → (Q (.inl none) M)) ∧ (¬ ((3 : Int32) ≤ a1) → (hp_T M (a0) = 8 ∧ (hp_R M 140 a0 ≠ 0 ∧ (∀ p4 : Nat, p4 = hp_R M 140 a0 → (hp_T M (p4) = 22 ∧ (vp_in ((15 : Int32) + a1) (hp_N M p4) ∧ (∀ M7 : am_Hp, M7 = hp_sE M p4 (((15 : Int32) + a1)).toNatClampNeg (400 : Int32) → (∀ v10 : Int32, v10 = a1 + (1 : Int32) → (R93 a0 v10 M7 bc bs)))))))))) : am_J X 93 [(0, .ref a0), (1, .int a1)] [] M bc bs := by
  refine j_iload_n hX eX7_init_93 1 rfl ?_
  refine j_iconst (v := (3 : Int32)) hX eX7_init_94 (by decide) ?_
  refine j_icmp_ge hX 116 eX7_init_95 (by decide) (fun c1 => ?_) (fun c1 => ?_)
  · replace h := h.1 c1
    exact j_vret hX hM eX7_init_116 rfl h
  · replace h := h.2 c1
    refine j_aload_n hX eX7_init_98 0 rfl ?_
    obtain ⟨t2, h⟩ := h
    obtain ⟨z3, h⟩ := h
    refine j_getR hX eX7_init_99 ff_LiftGroupModel_7 rfl t2 (by decide) z3 ?_
    refine j_nmR (fun p4 ep4 => ?_)
    replace h := h p4 ep4
    refine j_bipush (v := (15 : Int32)) hX eX7_init_102 (by decide) ?_
    refine j_iload_n hX eX7_init_104 1 rfl ?_
    refine j_iadd hX eX7_init_105 ?_
    refine j_sipush (v := (400 : Int32)) hX eX7_init_106 (by decide) ?_
    obtain ⟨t5, h⟩ := h
    obtain ⟨i6, h⟩ := h
    refine j_iast hX eX7_init_109 t5 i6 ?_
    refine j_nmM (fun M7 eM7 => ?_)
    replace h := h M7 eM7
    have t8 : hp_T M7 (a0) = 8 := by rw [eM7]; exact t2
    have t9 : hp_T M7 (p4) = 22 := by rw [eM7]; exact t5
    obtain ⟨v10, ev10⟩ : ∃ v10 : Int32, v10 = a1 + (1 : Int32) := ⟨_, rfl⟩
    replace h := h v10 ev10
    refine j_iinc (v := v10) (lv' := [(1, .int v10), (0, .ref a0)]) hX eX7_init_110 1 rfl (by rw [ev10]; rfl) (by decide) rfl ?_
    refine j_goto hX 93 eX7_init_113 (by decide) ?_
    exact j_sub [1, 0] rfl (k93 _ _ _ _ _ h)

set_option maxHeartbeats 4000000 in
set_option maxRecDepth 20000 in
theorem vX7_thrown_0 {X : am_Cx} {G : am_Gx} {d : Nat} {Q : am_Q} (hX : am_ok X rX7_thrown G (d + 1)) (hM : am_me X rX7_thrown Q) {bc bs : Nat}  {a0 : Nat} {M : am_Hp} (h : hp_T M (a0) = 8 ∧ (Q (.inl (some (.int (hp_I M 153 a0)))) M)) : am_J X 0 [(0, .ref a0)] [] M bc bs := by
  refine j_aload_n hX eX7_thrown_0 0 rfl ?_
  obtain ⟨t1, h⟩ := h
  refine j_getI hX eX7_thrown_1 ff_LiftGroupModel_42 rfl t1 (by decide) ?_
  exact j_iret hX hM eX7_thrown_4 rfl h

set_option maxHeartbeats 4000000 in
set_option maxRecDepth 20000 in
theorem vX7_in_0 {X : am_Cx} {G : am_Gx} {d : Nat} {Q : am_Q} (hX : am_ok X rX7_in G (d + 1)) (hM : am_me X rX7_in Q) {bc bs : Nat}  {a0 : Int32} {a1 : Int32} {a2 : Int32} {M : am_Hp} (h : ((a0 < a1) → (Q (.inl (some (.int (0 : Int32)))) M)) ∧ (¬ (a0 < a1) → (((a2 < a0) → (Q (.inl (some (.int (0 : Int32)))) M)) ∧ (¬ (a2 < a0) → (Q (.inl (some (.int (1 : Int32)))) M))))) : am_J X 0 [(0, .int a0), (1, .int a1), (2, .int a2)] [] M bc bs := by
  refine j_iload_n hX eX7_in_0 0 rfl ?_
  refine j_iload_n hX eX7_in_1 1 rfl ?_
  refine j_icmp_lt hX 14 eX7_in_2 (by decide) (fun c1 => ?_) (fun c1 => ?_)
  · replace h := h.1 c1
    refine j_iconst (v := (0 : Int32)) hX eX7_in_14 (by decide) ?_
    exact j_zret hX hM eX7_in_15 rfl (by decide) h
  · replace h := h.2 c1
    refine j_iload_n hX eX7_in_5 0 rfl ?_
    refine j_iload_n hX eX7_in_6 2 rfl ?_
    refine j_icmp_gt hX 14 eX7_in_7 (by decide) (fun c2 => ?_) (fun c2 => ?_)
    · replace h := h.1 c2
      refine j_iconst (v := (0 : Int32)) hX eX7_in_14 (by decide) ?_
      exact j_zret hX hM eX7_in_15 rfl (by decide) h
    · replace h := h.2 c2
      refine j_iconst (v := (1 : Int32)) hX eX7_in_10 (by decide) ?_
      refine j_goto hX 15 eX7_in_11 (by decide) ?_
      exact j_zret hX hM eX7_in_15 rfl (by decide) h

set_option maxHeartbeats 4000000 in
set_option maxRecDepth 20000 in
theorem vX7_size_0 {X : am_Cx} {G : am_Gx} {d : Nat} {Q : am_Q} (hX : am_ok X rX7_size G (d + 1)) (hM : am_me X rX7_size Q) {bc bs : Nat}  {a0 : Int32} {M : am_Hp} (h : ((0 ≤ a0) → (Q (.inl (some (.int a0))) M)) ∧ (¬ (0 ≤ a0) → (Q (.inl (some (.int (-a0)))) M))) : am_J X 0 [(0, .int a0)] [] M bc bs := by
  refine j_iload_n hX eX7_size_0 0 rfl ?_
  refine j_if_ge hX 9 eX7_size_1 (by decide) (fun c1 => ?_) (fun c1 => ?_)
  · replace h := h.1 c1
    refine j_iload_n hX eX7_size_9 0 rfl ?_
    exact j_iret hX hM eX7_size_10 rfl h
  · replace h := h.2 c1
    refine j_iload_n hX eX7_size_4 0 rfl ?_
    refine j_ineg hX eX7_size_5 ?_
    refine j_goto hX 10 eX7_size_6 (by decide) ?_
    exact j_iret hX hM eX7_size_10 rfl h

set_option maxHeartbeats 4000000 in
set_option maxRecDepth 20000 in
theorem vX7_done_0 {X : am_Cx} {G : am_Gx} {d : Nat} {Q : am_Q} (hX : am_ok X rX7_done G (d + 1)) (hM : am_me X rX7_done Q) {bc bs : Nat}  {a0 : Nat} {a1 : Int32} {M : am_Hp} (h : hp_T M (a0) = 8 ∧ (∀ M2 : am_Hp, M2 = hp_sI M 153 a0 (0 : Int32) → (Q (.inl (some (.int a1))) M2))) : am_J X 0 [(0, .ref a0), (1, .int a1)] [] M bc bs := by
  refine j_aload_n hX eX7_done_0 0 rfl ?_
  refine j_iconst (v := (0 : Int32)) hX eX7_done_1 (by decide) ?_
  obtain ⟨t1, h⟩ := h
  refine j_putI (ty := .int) hX eX7_done_2 ff_LiftGroupModel_42 rfl t1 (by decide) pp_7_13 rfl rfl ?_
  refine j_nmM (fun M2 eM2 => ?_)
  replace h := h M2 eM2
  have t3 : hp_T M2 (a0) = 8 := by rw [eM2]; exact t1
  refine j_iload_n hX eX7_done_5 1 rfl ?_
  exact j_iret hX hM eX7_done_6 rfl h

set_option maxHeartbeats 4000000 in
set_option maxRecDepth 20000 in
theorem vX7_fails_0 {X : am_Cx} {G : am_Gx} {d : Nat} {Q : am_Q} (hX : am_ok X rX7_fails G (d + 1)) (hM : am_me X rX7_fails Q) {bc bs : Nat}  {a0 : Nat} {a1 : Int32} {M : am_Hp} (h : hp_T M (a0) = 8 ∧ (∀ M2 : am_Hp, M2 = hp_sI M 153 a0 a1 → (Q (.inl (some (.int (0 : Int32)))) M2))) : am_J X 0 [(0, .ref a0), (1, .int a1)] [] M bc bs := by
  refine j_aload_n hX eX7_fails_0 0 rfl ?_
  refine j_iload_n hX eX7_fails_1 1 rfl ?_
  obtain ⟨t1, h⟩ := h
  refine j_putI (ty := .int) hX eX7_fails_2 ff_LiftGroupModel_42 rfl t1 (by decide) pp_7_13 rfl rfl ?_
  refine j_nmM (fun M2 eM2 => ?_)
  replace h := h M2 eM2
  have t3 : hp_T M2 (a0) = 8 := by rw [eM2]; exact t1
  refine j_iconst (v := (0 : Int32)) hX eX7_fails_5 (by decide) ?_
  exact j_iret hX hM eX7_fails_6 rfl h

set_option maxHeartbeats 4000000 in
set_option maxRecDepth 20000 in
theorem vX7_copy_0 {X : am_Cx} {G : am_Gx} {d : Nat} {Q : am_Q} (hX : am_ok X rX7_copy G (d + 1)) (hM : am_me X rX7_copy Q) {bc bs : Nat} (R3 : Nat → Int32 → Nat → Int32 → Int32 → am_Hp → Prop) (k3 : ∀ (x0 : Nat) (x1 : Int32) (x2 : Nat) (x3 : Int32) (x4 : Int32) (M : am_Hp), R3 x0 x1 x2 x3 x4 M → am_J X 3 [(0, .ref x0), (1, .int x1), (2, .ref x2), (3, .int x3), (4, .int x4)] [] M bc bs) {a0 : Nat} {a1 : Int32} {a2 : Nat} {a3 : Int32} {M : am_Hp} (h : R3 a0 a1 a2 a3 (0 : Int32) M) : am_J X 0 [(0, .ref a0), (1, .int a1), (2, .ref a2), (3, .int a3)] [] M bc bs := by
  refine j_iconst (v := (0 : Int32)) hX eX7_copy_0 (by decide) ?_
  refine j_istore (lv' := [(4, .int (0 : Int32)), (0, .ref a0), (1, .int a1), (2, .ref a2), (3, .int a3)]) hX eX7_copy_1 (by decide) rfl ?_
  exact j_sub [1, 2, 3, 4, 0] rfl (k3 _ _ _ _ _ _ h)
set_option maxHeartbeats 4000000 in
set_option maxRecDepth 20000 in
theorem vX7_copy_3 {X : am_Cx} {G : am_Gx} {d : Nat} {Q : am_Q} (hX : am_ok X rX7_copy G (d + 1)) (hM : am_me X rX7_copy Q) {bc bs : Nat} (R3 : Nat → Int32 → Nat → Int32 → Int32 → am_Hp → Prop) (k3 : ∀ (x0 : Nat) (x1 : Int32) (x2 : Nat) (x3 : Int32) (x4 : Int32) (M : am_Hp), R3 x0 x1 x2 x3 x4 M → am_J X 3 [(0, .ref x0), (1, .int x1), (2, .ref x2), (3, .int x3), (4, .int x4)] [] M bc bs) {a0 : Nat} {a1 : Int32} {a2 : Nat} {a3 : Int32} {a4 : Int32} {M : am_Hp} (h : (((141 : Int32) ≤ a4) → (Q (.inl none) M)) ∧ (¬ ((141 : Int32) ≤ a4) → (hp_T M (a0) = 22 ∧ (vp_in (a1 + a4) (hp_N M a0) ∧ (hp_T M (a2) = 22 ∧ (vp_in (a3 + a4) (hp_N M a2) ∧ (∀ M6 : am_Hp, M6 = hp_sE M a2 ((a3 + a4)).toNatClampNeg (hp_E M a0 ((a1 + a4)).toNatClampNeg) → (∀ v9 : Int32, v9 = a4 + (1 : Int32) → (R3 a0 a1 a2 a3 v9 M6))))))))) : am_J X 3 [(0, .ref a0), (1, .int a1), (2, .ref a2), (3, .int a3), (4, .int a4)] [] M bc bs := by
  refine j_iload hX eX7_copy_3 4 rfl ?_
  refine j_sipush (v := (141 : Int32)) hX eX7_copy_5 (by decide) ?_
  refine j_icmp_ge hX 29 eX7_copy_8 (by decide) (fun c1 => ?_) (fun c1 => ?_)
  · replace h := h.1 c1
    exact j_vret hX hM eX7_copy_29 rfl h
  · replace h := h.2 c1
    refine j_aload_n hX eX7_copy_11 2 rfl ?_
    refine j_iload_n hX eX7_copy_12 3 rfl ?_
    refine j_iload hX eX7_copy_13 4 rfl ?_
    refine j_iadd hX eX7_copy_15 ?_
    refine j_aload_n hX eX7_copy_16 0 rfl ?_
    refine j_iload_n hX eX7_copy_17 1 rfl ?_
    refine j_iload hX eX7_copy_18 4 rfl ?_
    refine j_iadd hX eX7_copy_20 ?_
    obtain ⟨t2, h⟩ := h
    obtain ⟨i3, h⟩ := h
    refine j_iald hX eX7_copy_21 t2 i3 ?_
    obtain ⟨t4, h⟩ := h
    obtain ⟨i5, h⟩ := h
    refine j_iast hX eX7_copy_22 t4 i5 ?_
    refine j_nmM (fun M6 eM6 => ?_)
    replace h := h M6 eM6
    have t7 : hp_T M6 (a0) = 22 := by rw [eM6]; exact t2
    have t8 : hp_T M6 (a2) = 22 := by rw [eM6]; exact t4
    obtain ⟨v9, ev9⟩ : ∃ v9 : Int32, v9 = a4 + (1 : Int32) := ⟨_, rfl⟩
    replace h := h v9 ev9
    refine j_iinc (v := v9) (lv' := [(4, .int v9), (0, .ref a0), (1, .int a1), (2, .ref a2), (3, .int a3)]) hX eX7_copy_23 4 rfl (by rw [ev9]; rfl) (by decide) rfl ?_
    refine j_goto hX 3 eX7_copy_26 (by decide) ?_
    exact j_sub [1, 2, 3, 4, 0] rfl (k3 _ _ _ _ _ _ h)

set_option maxHeartbeats 4000000 in
set_option maxRecDepth 20000 in
theorem vX7_begin_0 {X : am_Cx} {G : am_Gx} {d : Nat} {Q : am_Q} (hX : am_ok X rX7_begin G (d + 1)) (hM : am_me X rX7_begin Q) {bc bs : Nat}  {a0 : Nat} {M : am_Hp} (h : hp_T M (a0) = 8 ∧ (hp_R M 140 a0 ≠ 0 ∧ (∀ p3 : Nat, p3 = hp_R M 140 a0 → (hp_R M 141 a0 ≠ 0 ∧ (∀ p5 : Nat, p5 = hp_R M 141 a0 → (am_CT G d rX7_copy [.ref p3, .int (0 : Int32), .ref p5, .int (0 : Int32)] M 0 0 (fun oz9 M6 => oz9 = .inl none ∧ (Q (.inl none) M6)))))))) : am_J X 0 [(0, .ref a0)] [] M bc bs := by
  refine j_aload_n hX eX7_begin_0 0 rfl ?_
  obtain ⟨t1, h⟩ := h
  obtain ⟨z2, h⟩ := h
  refine j_getR hX eX7_begin_1 ff_LiftGroupModel_7 rfl t1 (by decide) z2 ?_
  refine j_nmR (fun p3 ep3 => ?_)
  replace h := h p3 ep3
  refine j_iconst (v := (0 : Int32)) hX eX7_begin_4 (by decide) ?_
  refine j_aload_n hX eX7_begin_5 0 rfl ?_
  obtain ⟨z4, h⟩ := h
  refine j_getR hX eX7_begin_6 ff_LiftGroupModel_13 rfl t1 (by decide) z4 ?_
  refine j_nmR (fun p5 ep5 => ?_)
  replace h := h p5 ep5
  refine j_iconst (v := (0 : Int32)) hX eX7_begin_9 (by decide) ?_
  refine j_callS (r' := rX7_copy) (As := [.ref p3, .int (0 : Int32), .ref p5, .int (0 : Int32)]) (rest := []) (d1 := d) hX eX7_begin_10 mm_LiftGroupModel_45 rfl rfl h rfl (Nat.le_refl _) (Nat.zero_le _) (Nat.zero_le _) (Nat.le_of_ble_eq_true rfl) (fun vz9 Mz9 qz9 => ?_) (fun Ez9 Mz9 qz9 => ?_)
  · obtain ⟨M6, eMz9⟩ : ∃ M6, M6 = Mz9 := ⟨_, rfl⟩; subst eMz9
    obtain ⟨hxz9, h⟩ := qz9
    cases hxz9
    exact j_vret hX hM eX7_begin_13 rfl h
  · obtain ⟨hxz9, h⟩ := qz9
    cases hxz9

set_option maxHeartbeats 4000000 in
set_option maxRecDepth 20000 in
theorem vX7_kept_0 {X : am_Cx} {G : am_Gx} {d : Nat} {Q : am_Q} (hX : am_ok X rX7_kept G (d + 1)) (hM : am_me X rX7_kept Q) {bc bs : Nat} (R33 : Nat → Int32 → Int32 → am_Hp → Prop) (k33 : ∀ (x0 : Nat) (x1 : Int32) (x2 : Int32) (M : am_Hp), R33 x0 x1 x2 M → am_J X 33 [(0, .ref x0), (1, .int x1), (2, .int x2)] [] M bc bs) {a0 : Nat} {a1 : Int32} {M : am_Hp} (h : hp_T M (a0) = 8 ∧ ((((hp_I M 153 a0) = 0) → ((((hp_I M 144 a0) = (8 : Int32)) → (R33 a0 a1 (0 : Int32) M)) ∧ (¬ ((hp_I M 144 a0) = (8 : Int32)) → (hp_R M 141 a0 ≠ 0 ∧ (∀ p5 : Nat, p5 = hp_R M 141 a0 → (hp_R M 143 a0 ≠ 0 ∧ (∀ p7 : Nat, p7 = hp_R M 143 a0 → (am_CT G d rX7_copy [.ref p5, .int (0 : Int32), .ref p7, .int ((hp_I M 144 a0) * (141 : Int32))] M 0 0 (fun oz9 M8 => oz9 = .inl none ∧ (hp_T M8 (a0) = 8 ∧ (∀ M11 : am_Hp, M11 = hp_sI M8 144 a0 ((hp_I M8 144 a0) + (1 : Int32)) → (Q (.inl (some (.int a1))) M11)))))))))))) ∧ (¬ ((hp_I M 153 a0) = 0) → (hp_R M 141 a0 ≠ 0 ∧ (∀ p14 : Nat, p14 = hp_R M 141 a0 → (hp_R M 140 a0 ≠ 0 ∧ (∀ p16 : Nat, p16 = hp_R M 140 a0 → (am_CT G d rX7_copy [.ref p14, .int (0 : Int32), .ref p16, .int (0 : Int32)] M 0 0 (fun oz9 M17 => oz9 = .inl none ∧ (Q (.inl (some (.int (0 : Int32)))) M17)))))))))) : am_J X 0 [(0, .ref a0), (1, .int a1)] [] M bc bs := by
  refine j_aload_n hX eX7_kept_0 0 rfl ?_
  obtain ⟨t1, h⟩ := h
  refine j_getI hX eX7_kept_1 ff_LiftGroupModel_42 rfl t1 (by decide) ?_
  refine j_if_eq hX 22 eX7_kept_4 (by decide) (fun c2 => ?_) (fun c2 => ?_)
  · replace h := h.1 c2
    refine j_aload_n hX eX7_kept_22 0 rfl ?_
    refine j_getI hX eX7_kept_23 ff_LiftGroupModel_49 rfl t1 (by decide) ?_
    refine j_bipush (v := (8 : Int32)) hX eX7_kept_26 (by decide) ?_
    refine j_icmp_ne hX 72 eX7_kept_28 (by decide) (fun c3 => ?_) (fun c3 => ?_)
    · replace h := h.2 c3
      refine j_aload_n hX eX7_kept_72 0 rfl ?_
      obtain ⟨z4, h⟩ := h
      refine j_getR hX eX7_kept_73 ff_LiftGroupModel_13 rfl t1 (by decide) z4 ?_
      refine j_nmR (fun p5 ep5 => ?_)
      replace h := h p5 ep5
      refine j_iconst (v := (0 : Int32)) hX eX7_kept_76 (by decide) ?_
      refine j_aload_n hX eX7_kept_77 0 rfl ?_
      obtain ⟨z6, h⟩ := h
      refine j_getR hX eX7_kept_78 ff_LiftGroupModel_19 rfl t1 (by decide) z6 ?_
      refine j_nmR (fun p7 ep7 => ?_)
      replace h := h p7 ep7
      refine j_aload_n hX eX7_kept_81 0 rfl ?_
      refine j_getI hX eX7_kept_82 ff_LiftGroupModel_49 rfl t1 (by decide) ?_
      refine j_sipush (v := (141 : Int32)) hX eX7_kept_85 (by decide) ?_
      refine j_imul hX eX7_kept_88 ?_
      refine j_callS (r' := rX7_copy) (As := [.ref p5, .int (0 : Int32), .ref p7, .int ((hp_I M 144 a0) * (141 : Int32))]) (rest := []) (d1 := d) hX eX7_kept_89 mm_LiftGroupModel_45 rfl rfl h rfl (Nat.le_refl _) (Nat.zero_le _) (Nat.zero_le _) (Nat.le_of_ble_eq_true rfl) (fun vz9 Mz9 qz9 => ?_) (fun Ez9 Mz9 qz9 => ?_)
      · obtain ⟨M8, eMz9⟩ : ∃ M8, M8 = Mz9 := ⟨_, rfl⟩; subst eMz9
        obtain ⟨hxz9, h⟩ := qz9
        cases hxz9
        refine j_aload_n hX eX7_kept_92 0 rfl ?_
        refine j_dup hX eX7_kept_93 rfl ?_
        obtain ⟨t10, h⟩ := h
        refine j_getI hX eX7_kept_94 ff_LiftGroupModel_49 rfl t10 (by decide) ?_
        refine j_iconst (v := (1 : Int32)) hX eX7_kept_97 (by decide) ?_
        refine j_iadd hX eX7_kept_98 ?_
        refine j_putI (ty := .int) hX eX7_kept_99 ff_LiftGroupModel_49 rfl t10 (by decide) pp_7_4 rfl rfl ?_
        refine j_nmM (fun M11 eM11 => ?_)
        replace h := h M11 eM11
        have t12 : hp_T M11 (a0) = 8 := by rw [eM11]; exact t10
        refine j_iload_n hX eX7_kept_102 1 rfl ?_
        exact j_iret hX hM eX7_kept_103 rfl h
      · obtain ⟨hxz9, h⟩ := qz9
        cases hxz9
    · replace h := h.1 c3
      refine j_iconst (v := (0 : Int32)) hX eX7_kept_31 (by decide) ?_
      refine j_istore_n (lv' := [(2, .int (0 : Int32)), (0, .ref a0), (1, .int a1)]) hX eX7_kept_32 rfl (by decide) rfl ?_
      exact j_sub [1, 2, 0] rfl (k33 _ _ _ _ h)
  · replace h := h.2 c2
    refine j_aload_n hX eX7_kept_7 0 rfl ?_
    obtain ⟨z13, h⟩ := h
    refine j_getR hX eX7_kept_8 ff_LiftGroupModel_13 rfl t1 (by decide) z13 ?_
    refine j_nmR (fun p14 ep14 => ?_)
    replace h := h p14 ep14
    refine j_iconst (v := (0 : Int32)) hX eX7_kept_11 (by decide) ?_
    refine j_aload_n hX eX7_kept_12 0 rfl ?_
    obtain ⟨z15, h⟩ := h
    refine j_getR hX eX7_kept_13 ff_LiftGroupModel_7 rfl t1 (by decide) z15 ?_
    refine j_nmR (fun p16 ep16 => ?_)
    replace h := h p16 ep16
    refine j_iconst (v := (0 : Int32)) hX eX7_kept_16 (by decide) ?_
    refine j_callS (r' := rX7_copy) (As := [.ref p14, .int (0 : Int32), .ref p16, .int (0 : Int32)]) (rest := []) (d1 := d) hX eX7_kept_17 mm_LiftGroupModel_45 rfl rfl h rfl (Nat.le_refl _) (Nat.zero_le _) (Nat.zero_le _) (Nat.le_of_ble_eq_true rfl) (fun vz9 Mz9 qz9 => ?_) (fun Ez9 Mz9 qz9 => ?_)
    · obtain ⟨M17, eMz9⟩ : ∃ M17, M17 = Mz9 := ⟨_, rfl⟩; subst eMz9
      obtain ⟨hxz9, h⟩ := qz9
      cases hxz9
      refine j_iconst (v := (0 : Int32)) hX eX7_kept_20 (by decide) ?_
      exact j_iret hX hM eX7_kept_21 rfl h
    · obtain ⟨hxz9, h⟩ := qz9
      cases hxz9
set_option maxHeartbeats 4000000 in
set_option maxRecDepth 20000 in
theorem vX7_kept_33 {X : am_Cx} {G : am_Gx} {d : Nat} {Q : am_Q} (hX : am_ok X rX7_kept G (d + 1)) (hM : am_me X rX7_kept Q) {bc bs : Nat} (R33 : Nat → Int32 → Int32 → am_Hp → Prop) (k33 : ∀ (x0 : Nat) (x1 : Int32) (x2 : Int32) (M : am_Hp), R33 x0 x1 x2 M → am_J X 33 [(0, .ref x0), (1, .int x1), (2, .int x2)] [] M bc bs) {a0 : Nat} {a1 : Int32} {a2 : Int32} {M : am_Hp} (h : (((987 : Int32) ≤ a2) → (hp_T M (a0) = 8 ∧ (∀ M3 : am_Hp, M3 = hp_sI M 144 a0 ((hp_I M 144 a0) - (1 : Int32)) → (hp_R M3 141 a0 ≠ 0 ∧ (∀ p6 : Nat, p6 = hp_R M3 141 a0 → (hp_R M3 143 a0 ≠ 0 ∧ (∀ p8 : Nat, p8 = hp_R M3 143 a0 → (am_CT G d rX7_copy [.ref p6, .int (0 : Int32), .ref p8, .int ((hp_I M3 144 a0) * (141 : Int32))] M3 0 0 (fun oz9 M9 => oz9 = .inl none ∧ (hp_T M9 (a0) = 8 ∧ (∀ M12 : am_Hp, M12 = hp_sI M9 144 a0 ((hp_I M9 144 a0) + (1 : Int32)) → (Q (.inl (some (.int a1))) M12)))))))))))) ∧ (¬ ((987 : Int32) ≤ a2) → (hp_T M (a0) = 8 ∧ (hp_R M 143 a0 ≠ 0 ∧ (∀ p16 : Nat, p16 = hp_R M 143 a0 → (hp_R M 143 a0 ≠ 0 ∧ (∀ p18 : Nat, p18 = hp_R M 143 a0 → (hp_T M (p18) = 22 ∧ (vp_in (a2 + (141 : Int32)) (hp_N M p18) ∧ (hp_T M (p16) = 22 ∧ (vp_in a2 (hp_N M p16) ∧ (∀ M23 : am_Hp, M23 = hp_sE M p16 (a2).toNatClampNeg (hp_E M p18 ((a2 + (141 : Int32))).toNatClampNeg) → (∀ v27 : Int32, v27 = a2 + (1 : Int32) → (R33 a0 a1 v27 M23)))))))))))))) : am_J X 33 [(0, .ref a0), (1, .int a1), (2, .int a2)] [] M bc bs := by
  refine j_iload_n hX eX7_kept_33 2 rfl ?_
  refine j_sipush (v := (987 : Int32)) hX eX7_kept_34 (by decide) ?_
  refine j_icmp_ge hX 62 eX7_kept_37 (by decide) (fun c1 => ?_) (fun c1 => ?_)
  · replace h := h.1 c1
    refine j_aload_n hX eX7_kept_62 0 rfl ?_
    refine j_dup hX eX7_kept_63 rfl ?_
    obtain ⟨t2, h⟩ := h
    refine j_getI hX eX7_kept_64 ff_LiftGroupModel_49 rfl t2 (by decide) ?_
    refine j_iconst (v := (1 : Int32)) hX eX7_kept_67 (by decide) ?_
    refine j_isub hX eX7_kept_68 ?_
    refine j_putI (ty := .int) hX eX7_kept_69 ff_LiftGroupModel_49 rfl t2 (by decide) pp_7_4 rfl rfl ?_
    refine j_nmM (fun M3 eM3 => ?_)
    replace h := h M3 eM3
    have t4 : hp_T M3 (a0) = 8 := by rw [eM3]; exact t2
    refine j_aload_n hX eX7_kept_72 0 rfl ?_
    obtain ⟨z5, h⟩ := h
    refine j_getR hX eX7_kept_73 ff_LiftGroupModel_13 rfl t4 (by decide) z5 ?_
    refine j_nmR (fun p6 ep6 => ?_)
    replace h := h p6 ep6
    refine j_iconst (v := (0 : Int32)) hX eX7_kept_76 (by decide) ?_
    refine j_aload_n hX eX7_kept_77 0 rfl ?_
    obtain ⟨z7, h⟩ := h
    refine j_getR hX eX7_kept_78 ff_LiftGroupModel_19 rfl t4 (by decide) z7 ?_
    refine j_nmR (fun p8 ep8 => ?_)
    replace h := h p8 ep8
    refine j_aload_n hX eX7_kept_81 0 rfl ?_
    refine j_getI hX eX7_kept_82 ff_LiftGroupModel_49 rfl t4 (by decide) ?_
    refine j_sipush (v := (141 : Int32)) hX eX7_kept_85 (by decide) ?_
    refine j_imul hX eX7_kept_88 ?_
    refine j_callS (r' := rX7_copy) (As := [.ref p6, .int (0 : Int32), .ref p8, .int ((hp_I M3 144 a0) * (141 : Int32))]) (rest := []) (d1 := d) hX eX7_kept_89 mm_LiftGroupModel_45 rfl rfl h rfl (Nat.le_refl _) (Nat.zero_le _) (Nat.zero_le _) (Nat.le_of_ble_eq_true rfl) (fun vz9 Mz9 qz9 => ?_) (fun Ez9 Mz9 qz9 => ?_)
    · obtain ⟨M9, eMz9⟩ : ∃ M9, M9 = Mz9 := ⟨_, rfl⟩; subst eMz9
      obtain ⟨hxz9, h⟩ := qz9
      cases hxz9
      refine j_aload_n hX eX7_kept_92 0 rfl ?_
      refine j_dup hX eX7_kept_93 rfl ?_
      obtain ⟨t11, h⟩ := h
      refine j_getI hX eX7_kept_94 ff_LiftGroupModel_49 rfl t11 (by decide) ?_
      refine j_iconst (v := (1 : Int32)) hX eX7_kept_97 (by decide) ?_
      refine j_iadd hX eX7_kept_98 ?_
      refine j_putI (ty := .int) hX eX7_kept_99 ff_LiftGroupModel_49 rfl t11 (by decide) pp_7_4 rfl rfl ?_
      refine j_nmM (fun M12 eM12 => ?_)
      replace h := h M12 eM12
      have t13 : hp_T M12 (a0) = 8 := by rw [eM12]; exact t11
      refine j_iload_n hX eX7_kept_102 1 rfl ?_
      exact j_iret hX hM eX7_kept_103 rfl h
    · obtain ⟨hxz9, h⟩ := qz9
      cases hxz9
  · replace h := h.2 c1
    refine j_aload_n hX eX7_kept_40 0 rfl ?_
    obtain ⟨t14, h⟩ := h
    obtain ⟨z15, h⟩ := h
    refine j_getR hX eX7_kept_41 ff_LiftGroupModel_19 rfl t14 (by decide) z15 ?_
    refine j_nmR (fun p16 ep16 => ?_)
    replace h := h p16 ep16
    refine j_iload_n hX eX7_kept_44 2 rfl ?_
    refine j_aload_n hX eX7_kept_45 0 rfl ?_
    obtain ⟨z17, h⟩ := h
    refine j_getR hX eX7_kept_46 ff_LiftGroupModel_19 rfl t14 (by decide) z17 ?_
    refine j_nmR (fun p18 ep18 => ?_)
    replace h := h p18 ep18
    refine j_iload_n hX eX7_kept_49 2 rfl ?_
    refine j_sipush (v := (141 : Int32)) hX eX7_kept_50 (by decide) ?_
    refine j_iadd hX eX7_kept_53 ?_
    obtain ⟨t19, h⟩ := h
    obtain ⟨i20, h⟩ := h
    refine j_iald hX eX7_kept_54 t19 i20 ?_
    obtain ⟨t21, h⟩ := h
    obtain ⟨i22, h⟩ := h
    refine j_iast hX eX7_kept_55 t21 i22 ?_
    refine j_nmM (fun M23 eM23 => ?_)
    replace h := h M23 eM23
    have t24 : hp_T M23 (a0) = 8 := by rw [eM23]; exact t14
    have t25 : hp_T M23 (p18) = 22 := by rw [eM23]; exact t19
    have t26 : hp_T M23 (p16) = 22 := by rw [eM23]; exact t21
    obtain ⟨v27, ev27⟩ : ∃ v27 : Int32, v27 = a2 + (1 : Int32) := ⟨_, rfl⟩
    replace h := h v27 ev27
    refine j_iinc (v := v27) (lv' := [(2, .int v27), (0, .ref a0), (1, .int a1)]) hX eX7_kept_56 2 rfl (by rw [ev27]; rfl) (by decide) rfl ?_
    refine j_goto hX 33 eX7_kept_59 (by decide) ?_
    exact j_sub [1, 2, 0] rfl (k33 _ _ _ _ h)

set_option maxHeartbeats 4000000 in
set_option maxRecDepth 20000 in
theorem vX7_isCar_0 {X : am_Cx} {G : am_Gx} {d : Nat} {Q : am_Q} (hX : am_ok X rX7_isCar G (d + 1)) (hM : am_me X rX7_isCar Q) {bc bs : Nat}  {a0 : Int32} {M : am_Hp} (h : am_CT G d rX7_in [.int a0, .int (0 : Int32), .int (2 : Int32)] M 0 0 (fun oz9 M1 => ∃ v2 : Int32, oz9 = .inl (some (.int v2)) ∧ (am_bo v2 ∧ (Q (.inl (some (.int v2))) M1)))) : am_J X 0 [(0, .int a0)] [] M bc bs := by
  refine j_iload_n hX eX7_isCar_0 0 rfl ?_
  refine j_iconst (v := (0 : Int32)) hX eX7_isCar_1 (by decide) ?_
  refine j_iconst (v := (2 : Int32)) hX eX7_isCar_2 (by decide) ?_
  refine j_callS (r' := rX7_in) (As := [.int a0, .int (0 : Int32), .int (2 : Int32)]) (rest := []) (d1 := d) hX eX7_isCar_3 mm_LiftGroupModel_52 rfl rfl h rfl (Nat.le_refl _) (Nat.zero_le _) (Nat.zero_le _) (Nat.le_of_ble_eq_true rfl) (fun vz9 Mz9 qz9 => ?_) (fun Ez9 Mz9 qz9 => ?_)
  · obtain ⟨M1, eMz9⟩ : ∃ M1, M1 = Mz9 := ⟨_, rfl⟩; subst eMz9
    obtain ⟨v2, hxz9, h⟩ := qz9
    cases hxz9
    obtain ⟨b3, h⟩ := h
    exact j_zret hX hM eX7_isCar_6 rfl (am_bo_n b3) h
  · obtain ⟨v2, hxz9, h⟩ := qz9
    cases hxz9

set_option maxHeartbeats 4000000 in
set_option maxRecDepth 20000 in
theorem vX7_isFloor_0 {X : am_Cx} {G : am_Gx} {d : Nat} {Q : am_Q} (hX : am_ok X rX7_isFloor G (d + 1)) (hM : am_me X rX7_isFloor Q) {bc bs : Nat}  {a0 : Int32} {M : am_Hp} (h : am_CT G d rX7_in [.int a0, .int (0 : Int32), .int (9 : Int32)] M 0 0 (fun oz9 M1 => ∃ v2 : Int32, oz9 = .inl (some (.int v2)) ∧ (am_bo v2 ∧ (Q (.inl (some (.int v2))) M1)))) : am_J X 0 [(0, .int a0)] [] M bc bs := by
  refine j_iload_n hX eX7_isFloor_0 0 rfl ?_
  refine j_iconst (v := (0 : Int32)) hX eX7_isFloor_1 (by decide) ?_
  refine j_bipush (v := (9 : Int32)) hX eX7_isFloor_2 (by decide) ?_
  refine j_callS (r' := rX7_in) (As := [.int a0, .int (0 : Int32), .int (9 : Int32)]) (rest := []) (d1 := d) hX eX7_isFloor_4 mm_LiftGroupModel_52 rfl rfl h rfl (Nat.le_refl _) (Nat.zero_le _) (Nat.zero_le _) (Nat.le_of_ble_eq_true rfl) (fun vz9 Mz9 qz9 => ?_) (fun Ez9 Mz9 qz9 => ?_)
  · obtain ⟨M1, eMz9⟩ : ∃ M1, M1 = Mz9 := ⟨_, rfl⟩; subst eMz9
    obtain ⟨v2, hxz9, h⟩ := qz9
    cases hxz9
    obtain ⟨b3, h⟩ := h
    exact j_zret hX hM eX7_isFloor_7 rfl (am_bo_n b3) h
  · obtain ⟨v2, hxz9, h⟩ := qz9
    cases hxz9

set_option maxHeartbeats 4000000 in
set_option maxRecDepth 20000 in
theorem vX7_isPassenger_0 {X : am_Cx} {G : am_Gx} {d : Nat} {Q : am_Q} (hX : am_ok X rX7_isPassenger G (d + 1)) (hM : am_me X rX7_isPassenger Q) {bc bs : Nat}  {a0 : Nat} {a1 : Int32} {M : am_Hp} (h : hp_T M (a0) = 8 ∧ (hp_R M 140 a0 ≠ 0 ∧ (∀ p3 : Nat, p3 = hp_R M 140 a0 → (hp_T M (p3) = 22 ∧ (vp_in (1 : Int32) (hp_N M p3) ∧ (am_CT G d rX7_in [.int a1, .int (0 : Int32), .int ((hp_E M p3 ((1 : Int32)).toNatClampNeg) - (1 : Int32))] M 0 0 (fun oz9 M6 => ∃ v7 : Int32, oz9 = .inl (some (.int v7)) ∧ (am_bo v7 ∧ (Q (.inl (some (.int v7))) M6))))))))) : am_J X 0 [(0, .ref a0), (1, .int a1)] [] M bc bs := by
  refine j_iload_n hX eX7_isPassenger_0 1 rfl ?_
  refine j_iconst (v := (0 : Int32)) hX eX7_isPassenger_1 (by decide) ?_
  refine j_aload_n hX eX7_isPassenger_2 0 rfl ?_
  obtain ⟨t1, h⟩ := h
  obtain ⟨z2, h⟩ := h
  refine j_getR hX eX7_isPassenger_3 ff_LiftGroupModel_7 rfl t1 (by decide) z2 ?_
  refine j_nmR (fun p3 ep3 => ?_)
  replace h := h p3 ep3
  refine j_iconst (v := (1 : Int32)) hX eX7_isPassenger_6 (by decide) ?_
  obtain ⟨t4, h⟩ := h
  obtain ⟨i5, h⟩ := h
  refine j_iald hX eX7_isPassenger_7 t4 i5 ?_
  refine j_iconst (v := (1 : Int32)) hX eX7_isPassenger_8 (by decide) ?_
  refine j_isub hX eX7_isPassenger_9 ?_
  refine j_callS (r' := rX7_in) (As := [.int a1, .int (0 : Int32), .int ((hp_E M p3 ((1 : Int32)).toNatClampNeg) - (1 : Int32))]) (rest := []) (d1 := d) hX eX7_isPassenger_10 mm_LiftGroupModel_52 rfl rfl h rfl (Nat.le_refl _) (Nat.zero_le _) (Nat.zero_le _) (Nat.le_of_ble_eq_true rfl) (fun vz9 Mz9 qz9 => ?_) (fun Ez9 Mz9 qz9 => ?_)
  · obtain ⟨M6, eMz9⟩ : ∃ M6, M6 = Mz9 := ⟨_, rfl⟩; subst eMz9
    obtain ⟨v7, hxz9, h⟩ := qz9
    cases hxz9
    obtain ⟨b8, h⟩ := h
    exact j_zret hX hM eX7_isPassenger_13 rfl (am_bo_n b8) h
  · obtain ⟨v7, hxz9, h⟩ := qz9
    cases hxz9

set_option maxHeartbeats 4000000 in
set_option maxRecDepth 20000 in
theorem vX7_isIn_0 {X : am_Cx} {G : am_Gx} {d : Nat} {Q : am_Q} (hX : am_ok X rX7_isIn G (d + 1)) (hM : am_me X rX7_isIn Q) {bc bs : Nat}  {a0 : Nat} {a1 : Int32} {a2 : Int32} {M : am_Hp} (h : hp_T M (a0) = 8 ∧ (hp_R M 140 a0 ≠ 0 ∧ (∀ p3 : Nat, p3 = hp_R M 140 a0 → (hp_T M (p3) = 22 ∧ (vp_in ((99 : Int32) + a1) (hp_N M p3) ∧ ((((hp_E M p3 (((99 : Int32) + a1)).toNatClampNeg) = (1 : Int32)) → (hp_R M 140 a0 ≠ 0 ∧ (∀ p8 : Nat, p8 = hp_R M 140 a0 → (hp_T M (p8) = 22 ∧ (vp_in ((87 : Int32) + a1) (hp_N M p8) ∧ ((((hp_E M p8 (((87 : Int32) + a1)).toNatClampNeg) = (a2 + (1 : Int32))) → (Q (.inl (some (.int (1 : Int32)))) M)) ∧ (¬ ((hp_E M p8 (((87 : Int32) + a1)).toNatClampNeg) = (a2 + (1 : Int32))) → (Q (.inl (some (.int (0 : Int32)))) M)))))))) ∧ (¬ ((hp_E M p3 (((99 : Int32) + a1)).toNatClampNeg) = (1 : Int32)) → (Q (.inl (some (.int (0 : Int32)))) M)))))))) : am_J X 0 [(0, .ref a0), (1, .int a1), (2, .int a2)] [] M bc bs := by
  refine j_aload_n hX eX7_isIn_0 0 rfl ?_
  obtain ⟨t1, h⟩ := h
  obtain ⟨z2, h⟩ := h
  refine j_getR hX eX7_isIn_1 ff_LiftGroupModel_7 rfl t1 (by decide) z2 ?_
  refine j_nmR (fun p3 ep3 => ?_)
  replace h := h p3 ep3
  refine j_bipush (v := (99 : Int32)) hX eX7_isIn_4 (by decide) ?_
  refine j_iload_n hX eX7_isIn_6 1 rfl ?_
  refine j_iadd hX eX7_isIn_7 ?_
  obtain ⟨t4, h⟩ := h
  obtain ⟨i5, h⟩ := h
  refine j_iald hX eX7_isIn_8 t4 i5 ?_
  refine j_iconst (v := (1 : Int32)) hX eX7_isIn_9 (by decide) ?_
  refine j_icmp_ne hX 32 eX7_isIn_10 (by decide) (fun c6 => ?_) (fun c6 => ?_)
  · replace h := h.2 c6
    refine j_iconst (v := (0 : Int32)) hX eX7_isIn_32 (by decide) ?_
    exact j_zret hX hM eX7_isIn_33 rfl (by decide) h
  · replace h := h.1 c6
    refine j_aload_n hX eX7_isIn_13 0 rfl ?_
    obtain ⟨z7, h⟩ := h
    refine j_getR hX eX7_isIn_14 ff_LiftGroupModel_7 rfl t1 (by decide) z7 ?_
    refine j_nmR (fun p8 ep8 => ?_)
    replace h := h p8 ep8
    refine j_bipush (v := (87 : Int32)) hX eX7_isIn_17 (by decide) ?_
    refine j_iload_n hX eX7_isIn_19 1 rfl ?_
    refine j_iadd hX eX7_isIn_20 ?_
    obtain ⟨t9, h⟩ := h
    obtain ⟨i10, h⟩ := h
    refine j_iald hX eX7_isIn_21 t9 i10 ?_
    refine j_iload_n hX eX7_isIn_22 2 rfl ?_
    refine j_iconst (v := (1 : Int32)) hX eX7_isIn_23 (by decide) ?_
    refine j_iadd hX eX7_isIn_24 ?_
    refine j_icmp_ne hX 32 eX7_isIn_25 (by decide) (fun c11 => ?_) (fun c11 => ?_)
    · replace h := h.2 c11
      refine j_iconst (v := (0 : Int32)) hX eX7_isIn_32 (by decide) ?_
      exact j_zret hX hM eX7_isIn_33 rfl (by decide) h
    · replace h := h.1 c11
      refine j_iconst (v := (1 : Int32)) hX eX7_isIn_28 (by decide) ?_
      refine j_goto hX 33 eX7_isIn_29 (by decide) ?_
      exact j_zret hX hM eX7_isIn_33 rfl (by decide) h

set_option maxHeartbeats 4000000 in
set_option maxRecDepth 20000 in
theorem vX7_awaits_0 {X : am_Cx} {G : am_Gx} {d : Nat} {Q : am_Q} (hX : am_ok X rX7_awaits G (d + 1)) (hM : am_me X rX7_awaits Q) {bc bs : Nat}  {a0 : Nat} {a1 : Int32} {a2 : Int32} {M : am_Hp} (h : hp_T M (a0) = 8 ∧ (hp_R M 140 a0 ≠ 0 ∧ (∀ p3 : Nat, p3 = hp_R M 140 a0 → (hp_T M (p3) = 22 ∧ (vp_in ((99 : Int32) + a1) (hp_N M p3) ∧ ((((hp_E M p3 (((99 : Int32) + a1)).toNatClampNeg) = 0) → (hp_R M 140 a0 ≠ 0 ∧ (∀ p8 : Nat, p8 = hp_R M 140 a0 → (hp_T M (p8) = 22 ∧ (vp_in ((87 : Int32) + a1) (hp_N M p8) ∧ ((((hp_E M p8 (((87 : Int32) + a1)).toNatClampNeg) = (a2 + (1 : Int32))) → (Q (.inl (some (.int (1 : Int32)))) M)) ∧ (¬ ((hp_E M p8 (((87 : Int32) + a1)).toNatClampNeg) = (a2 + (1 : Int32))) → (Q (.inl (some (.int (0 : Int32)))) M)))))))) ∧ (¬ ((hp_E M p3 (((99 : Int32) + a1)).toNatClampNeg) = 0) → (Q (.inl (some (.int (0 : Int32)))) M)))))))) : am_J X 0 [(0, .ref a0), (1, .int a1), (2, .int a2)] [] M bc bs := by
  refine j_aload_n hX eX7_awaits_0 0 rfl ?_
  obtain ⟨t1, h⟩ := h
  obtain ⟨z2, h⟩ := h
  refine j_getR hX eX7_awaits_1 ff_LiftGroupModel_7 rfl t1 (by decide) z2 ?_
  refine j_nmR (fun p3 ep3 => ?_)
  replace h := h p3 ep3
  refine j_bipush (v := (99 : Int32)) hX eX7_awaits_4 (by decide) ?_
  refine j_iload_n hX eX7_awaits_6 1 rfl ?_
  refine j_iadd hX eX7_awaits_7 ?_
  obtain ⟨t4, h⟩ := h
  obtain ⟨i5, h⟩ := h
  refine j_iald hX eX7_awaits_8 t4 i5 ?_
  refine j_if_ne hX 31 eX7_awaits_9 (by decide) (fun c6 => ?_) (fun c6 => ?_)
  · replace h := h.2 c6
    refine j_iconst (v := (0 : Int32)) hX eX7_awaits_31 (by decide) ?_
    exact j_zret hX hM eX7_awaits_32 rfl (by decide) h
  · replace h := h.1 c6
    refine j_aload_n hX eX7_awaits_12 0 rfl ?_
    obtain ⟨z7, h⟩ := h
    refine j_getR hX eX7_awaits_13 ff_LiftGroupModel_7 rfl t1 (by decide) z7 ?_
    refine j_nmR (fun p8 ep8 => ?_)
    replace h := h p8 ep8
    refine j_bipush (v := (87 : Int32)) hX eX7_awaits_16 (by decide) ?_
    refine j_iload_n hX eX7_awaits_18 1 rfl ?_
    refine j_iadd hX eX7_awaits_19 ?_
    obtain ⟨t9, h⟩ := h
    obtain ⟨i10, h⟩ := h
    refine j_iald hX eX7_awaits_20 t9 i10 ?_
    refine j_iload_n hX eX7_awaits_21 2 rfl ?_
    refine j_iconst (v := (1 : Int32)) hX eX7_awaits_22 (by decide) ?_
    refine j_iadd hX eX7_awaits_23 ?_
    refine j_icmp_ne hX 31 eX7_awaits_24 (by decide) (fun c11 => ?_) (fun c11 => ?_)
    · replace h := h.2 c11
      refine j_iconst (v := (0 : Int32)) hX eX7_awaits_31 (by decide) ?_
      exact j_zret hX hM eX7_awaits_32 rfl (by decide) h
    · replace h := h.1 c11
      refine j_iconst (v := (1 : Int32)) hX eX7_awaits_27 (by decide) ?_
      refine j_goto hX 32 eX7_awaits_28 (by decide) ?_
      exact j_zret hX hM eX7_awaits_32 rfl (by decide) h

set_option maxHeartbeats 4000000 in
set_option maxRecDepth 20000 in
theorem vX7_loadOf_0 {X : am_Cx} {G : am_Gx} {d : Nat} {Q : am_Q} (hX : am_ok X rX7_loadOf G (d + 1)) (hM : am_me X rX7_loadOf Q) {bc bs : Nat} (R4 : Nat → Int32 → Int32 → Int32 → am_Hp → Prop) (k4 : ∀ (x0 : Nat) (x1 : Int32) (x2 : Int32) (x3 : Int32) (M : am_Hp), R4 x0 x1 x2 x3 M → am_J X 4 [(0, .ref x0), (1, .int x1), (2, .int x2), (3, .int x3)] [] M bc bs) {a0 : Nat} {a1 : Int32} {M : am_Hp} (h : R4 a0 a1 (0 : Int32) (0 : Int32) M) : am_J X 0 [(0, .ref a0), (1, .int a1)] [] M bc bs := by
  refine j_iconst (v := (0 : Int32)) hX eX7_loadOf_0 (by decide) ?_
  refine j_istore_n (lv' := [(2, .int (0 : Int32)), (0, .ref a0), (1, .int a1)]) hX eX7_loadOf_1 rfl (by decide) rfl ?_
  refine j_iconst (v := (0 : Int32)) hX eX7_loadOf_2 (by decide) ?_
  refine j_istore_n (lv' := [(3, .int (0 : Int32)), (2, .int (0 : Int32)), (0, .ref a0), (1, .int a1)]) hX eX7_loadOf_3 rfl (by decide) rfl ?_
  exact j_sub [2, 3, 1, 0] rfl (k4 _ _ _ _ _ h)
set_option maxHeartbeats 4000000 in
set_option maxRecDepth 20000 in
theorem vX7_loadOf_4 {X : am_Cx} {G : am_Gx} {d : Nat} {Q : am_Q} (hX : am_ok X rX7_loadOf G (d + 1)) (hM : am_me X rX7_loadOf Q) {bc bs : Nat} (R4 : Nat → Int32 → Int32 → Int32 → am_Hp → Prop) (k4 : ∀ (x0 : Nat) (x1 : Int32) (x2 : Int32) (x3 : Int32) (M : am_Hp), R4 x0 x1 x2 x3 M → am_J X 4 [(0, .ref x0), (1, .int x1), (2, .int x2), (3, .int x3)] [] M bc bs) {a0 : Nat} {a1 : Int32} {a2 : Int32} {a3 : Int32} {M : am_Hp} (h : hp_T M (a0) = 8 ∧ (hp_R M 140 a0 ≠ 0 ∧ (∀ p3 : Nat, p3 = hp_R M 140 a0 → (hp_T M (p3) = 22 ∧ (vp_in (1 : Int32) (hp_N M p3) ∧ ((((hp_E M p3 ((1 : Int32)).toNatClampNeg) ≤ a3) → (Q (.inl (some (.int a2))) M)) ∧ (¬ ((hp_E M p3 ((1 : Int32)).toNatClampNeg) ≤ a3) → (am_CT G d rX7_isIn [.ref a0, .int a3, .int a1] M 0 0 (fun oz9 M7 => ∃ v8 : Int32, oz9 = .inl (some (.int v8)) ∧ (((v8 = 0) → (∀ v10 : Int32, v10 = (a2 + (0 : Int32)) → (∀ v11 : Int32, v11 = a3 + (1 : Int32) → (R4 a0 a1 v10 v11 M7)))) ∧ (¬ (v8 = 0) → (hp_T M7 (a0) = 8 ∧ (hp_R M7 140 a0 ≠ 0 ∧ (∀ p14 : Nat, p14 = hp_R M7 140 a0 → (hp_T M7 (p14) = 22 ∧ (vp_in ((63 : Int32) + a3) (hp_N M7 p14) ∧ (∀ v17 : Int32, v17 = (a2 + (hp_E M7 p14 (((63 : Int32) + a3)).toNatClampNeg)) → (∀ v18 : Int32, v18 = a3 + (1 : Int32) → (R4 a0 a1 v17 v18 M7))))))))))))))))))) : am_J X 4 [(0, .ref a0), (1, .int a1), (2, .int a2), (3, .int a3)] [] M bc bs := by
  refine j_iload_n hX eX7_loadOf_4 3 rfl ?_
  refine j_aload_n hX eX7_loadOf_5 0 rfl ?_
  obtain ⟨t1, h⟩ := h
  obtain ⟨z2, h⟩ := h
  refine j_getR hX eX7_loadOf_6 ff_LiftGroupModel_7 rfl t1 (by decide) z2 ?_
  refine j_nmR (fun p3 ep3 => ?_)
  replace h := h p3 ep3
  refine j_iconst (v := (1 : Int32)) hX eX7_loadOf_9 (by decide) ?_
  obtain ⟨t4, h⟩ := h
  obtain ⟨i5, h⟩ := h
  refine j_iald hX eX7_loadOf_10 t4 i5 ?_
  refine j_icmp_ge hX 45 eX7_loadOf_11 (by decide) (fun c6 => ?_) (fun c6 => ?_)
  · replace h := h.1 c6
    refine j_iload_n hX eX7_loadOf_45 2 rfl ?_
    exact j_iret hX hM eX7_loadOf_46 rfl h
  · replace h := h.2 c6
    refine j_iload_n hX eX7_loadOf_14 2 rfl ?_
    refine j_aload_n hX eX7_loadOf_15 0 rfl ?_
    refine j_iload_n hX eX7_loadOf_16 3 rfl ?_
    refine j_iload_n hX eX7_loadOf_17 1 rfl ?_
    refine j_callV (a := a0) (q := (RX7, TX7, 17)) (r' := rX7_isIn) (As := [.int a3, .int a1]) (rest := [.int a2]) (d1 := d) hX eX7_loadOf_18 mm_LiftGroupModel_56 rfl t1 (by decide) rfl h rfl (Nat.le_refl _) (Nat.zero_le _) (Nat.zero_le _) (Nat.le_of_ble_eq_true rfl) (fun vz9 Mz9 qz9 => ?_) (fun Ez9 Mz9 qz9 => ?_)
    · obtain ⟨M7, eMz9⟩ : ∃ M7, M7 = Mz9 := ⟨_, rfl⟩; subst eMz9
      obtain ⟨v8, hxz9, h⟩ := qz9
      cases hxz9
      refine j_if_eq hX 36 eX7_loadOf_21 (by decide) (fun c9 => ?_) (fun c9 => ?_)
      · replace h := h.1 c9
        refine j_iconst (v := (0 : Int32)) hX eX7_loadOf_36 (by decide) ?_
        refine j_iadd hX eX7_loadOf_37 ?_
        refine j_nmI (fun v10 ev10 => ?_)
        replace h := h v10 ev10
        refine j_istore_n (lv' := [(2, .int v10), (0, .ref a0), (1, .int a1), (3, .int a3)]) hX eX7_loadOf_38 rfl (by decide) rfl ?_
        obtain ⟨v11, ev11⟩ : ∃ v11 : Int32, v11 = a3 + (1 : Int32) := ⟨_, rfl⟩
        replace h := h v11 ev11
        refine j_iinc (v := v11) (lv' := [(3, .int v11), (2, .int v10), (0, .ref a0), (1, .int a1)]) hX eX7_loadOf_39 3 rfl (by rw [ev11]; rfl) (by decide) rfl ?_
        refine j_goto hX 4 eX7_loadOf_42 (by decide) ?_
        exact j_sub [2, 3, 1, 0] rfl (k4 _ _ _ _ _ h)
      · replace h := h.2 c9
        refine j_aload_n hX eX7_loadOf_24 0 rfl ?_
        obtain ⟨t12, h⟩ := h
        obtain ⟨z13, h⟩ := h
        refine j_getR hX eX7_loadOf_25 ff_LiftGroupModel_7 rfl t12 (by decide) z13 ?_
        refine j_nmR (fun p14 ep14 => ?_)
        replace h := h p14 ep14
        refine j_bipush (v := (63 : Int32)) hX eX7_loadOf_28 (by decide) ?_
        refine j_iload_n hX eX7_loadOf_30 3 rfl ?_
        refine j_iadd hX eX7_loadOf_31 ?_
        obtain ⟨t15, h⟩ := h
        obtain ⟨i16, h⟩ := h
        refine j_iald hX eX7_loadOf_32 t15 i16 ?_
        refine j_goto hX 37 eX7_loadOf_33 (by decide) ?_
        refine j_iadd hX eX7_loadOf_37 ?_
        refine j_nmI (fun v17 ev17 => ?_)
        replace h := h v17 ev17
        refine j_istore_n (lv' := [(2, .int v17), (0, .ref a0), (1, .int a1), (3, .int a3)]) hX eX7_loadOf_38 rfl (by decide) rfl ?_
        obtain ⟨v18, ev18⟩ : ∃ v18 : Int32, v18 = a3 + (1 : Int32) := ⟨_, rfl⟩
        replace h := h v18 ev18
        refine j_iinc (v := v18) (lv' := [(3, .int v18), (2, .int v17), (0, .ref a0), (1, .int a1)]) hX eX7_loadOf_39 3 rfl (by rw [ev18]; rfl) (by decide) rfl ?_
        refine j_goto hX 4 eX7_loadOf_42 (by decide) ?_
        exact j_sub [2, 3, 1, 0] rfl (k4 _ _ _ _ _ h)
    · obtain ⟨v8, hxz9, h⟩ := qz9
      cases hxz9

set_option maxHeartbeats 4000000 in
set_option maxRecDepth 20000 in
theorem vX7_inside_0 {X : am_Cx} {G : am_Gx} {d : Nat} {Q : am_Q} (hX : am_ok X rX7_inside G (d + 1)) (hM : am_me X rX7_inside Q) {bc bs : Nat} (R4 : Nat → Int32 → Int32 → Int32 → am_Hp → Prop) (k4 : ∀ (x0 : Nat) (x1 : Int32) (x2 : Int32) (x3 : Int32) (M : am_Hp), R4 x0 x1 x2 x3 M → am_J X 4 [(0, .ref x0), (1, .int x1), (2, .int x2), (3, .int x3)] [] M bc bs) {a0 : Nat} {a1 : Int32} {M : am_Hp} (h : R4 a0 a1 (0 : Int32) (0 : Int32) M) : am_J X 0 [(0, .ref a0), (1, .int a1)] [] M bc bs := by
  refine j_iconst (v := (0 : Int32)) hX eX7_inside_0 (by decide) ?_
  refine j_istore_n (lv' := [(2, .int (0 : Int32)), (0, .ref a0), (1, .int a1)]) hX eX7_inside_1 rfl (by decide) rfl ?_
  refine j_iconst (v := (0 : Int32)) hX eX7_inside_2 (by decide) ?_
  refine j_istore_n (lv' := [(3, .int (0 : Int32)), (2, .int (0 : Int32)), (0, .ref a0), (1, .int a1)]) hX eX7_inside_3 rfl (by decide) rfl ?_
  exact j_sub [2, 3, 1, 0] rfl (k4 _ _ _ _ _ h)
set_option maxHeartbeats 4000000 in
set_option maxRecDepth 20000 in
theorem vX7_inside_4 {X : am_Cx} {G : am_Gx} {d : Nat} {Q : am_Q} (hX : am_ok X rX7_inside G (d + 1)) (hM : am_me X rX7_inside Q) {bc bs : Nat} (R4 : Nat → Int32 → Int32 → Int32 → am_Hp → Prop) (k4 : ∀ (x0 : Nat) (x1 : Int32) (x2 : Int32) (x3 : Int32) (M : am_Hp), R4 x0 x1 x2 x3 M → am_J X 4 [(0, .ref x0), (1, .int x1), (2, .int x2), (3, .int x3)] [] M bc bs) {a0 : Nat} {a1 : Int32} {a2 : Int32} {a3 : Int32} {M : am_Hp} (h : hp_T M (a0) = 8 ∧ (hp_R M 140 a0 ≠ 0 ∧ (∀ p3 : Nat, p3 = hp_R M 140 a0 → (hp_T M (p3) = 22 ∧ (vp_in (1 : Int32) (hp_N M p3) ∧ ((((hp_E M p3 ((1 : Int32)).toNatClampNeg) ≤ a3) → (Q (.inl (some (.int a2))) M)) ∧ (¬ ((hp_E M p3 ((1 : Int32)).toNatClampNeg) ≤ a3) → (am_CT G d rX7_isIn [.ref a0, .int a3, .int a1] M 0 0 (fun oz9 M7 => ∃ v8 : Int32, oz9 = .inl (some (.int v8)) ∧ (((v8 = 0) → (∀ v10 : Int32, v10 = (a2 + (0 : Int32)) → (∀ v11 : Int32, v11 = a3 + (1 : Int32) → (R4 a0 a1 v10 v11 M7)))) ∧ (¬ (v8 = 0) → (∀ v12 : Int32, v12 = (a2 + (1 : Int32)) → (∀ v13 : Int32, v13 = a3 + (1 : Int32) → (R4 a0 a1 v12 v13 M7)))))))))))))) : am_J X 4 [(0, .ref a0), (1, .int a1), (2, .int a2), (3, .int a3)] [] M bc bs := by
  refine j_iload_n hX eX7_inside_4 3 rfl ?_
  refine j_aload_n hX eX7_inside_5 0 rfl ?_
  obtain ⟨t1, h⟩ := h
  obtain ⟨z2, h⟩ := h
  refine j_getR hX eX7_inside_6 ff_LiftGroupModel_7 rfl t1 (by decide) z2 ?_
  refine j_nmR (fun p3 ep3 => ?_)
  replace h := h p3 ep3
  refine j_iconst (v := (1 : Int32)) hX eX7_inside_9 (by decide) ?_
  obtain ⟨t4, h⟩ := h
  obtain ⟨i5, h⟩ := h
  refine j_iald hX eX7_inside_10 t4 i5 ?_
  refine j_icmp_ge hX 37 eX7_inside_11 (by decide) (fun c6 => ?_) (fun c6 => ?_)
  · replace h := h.1 c6
    refine j_iload_n hX eX7_inside_37 2 rfl ?_
    exact j_iret hX hM eX7_inside_38 rfl h
  · replace h := h.2 c6
    refine j_iload_n hX eX7_inside_14 2 rfl ?_
    refine j_aload_n hX eX7_inside_15 0 rfl ?_
    refine j_iload_n hX eX7_inside_16 3 rfl ?_
    refine j_iload_n hX eX7_inside_17 1 rfl ?_
    refine j_callV (a := a0) (q := (RX7, TX7, 17)) (r' := rX7_isIn) (As := [.int a3, .int a1]) (rest := [.int a2]) (d1 := d) hX eX7_inside_18 mm_LiftGroupModel_56 rfl t1 (by decide) rfl h rfl (Nat.le_refl _) (Nat.zero_le _) (Nat.zero_le _) (Nat.le_of_ble_eq_true rfl) (fun vz9 Mz9 qz9 => ?_) (fun Ez9 Mz9 qz9 => ?_)
    · obtain ⟨M7, eMz9⟩ : ∃ M7, M7 = Mz9 := ⟨_, rfl⟩; subst eMz9
      obtain ⟨v8, hxz9, h⟩ := qz9
      cases hxz9
      refine j_if_eq hX 28 eX7_inside_21 (by decide) (fun c9 => ?_) (fun c9 => ?_)
      · replace h := h.1 c9
        refine j_iconst (v := (0 : Int32)) hX eX7_inside_28 (by decide) ?_
        refine j_iadd hX eX7_inside_29 ?_
        refine j_nmI (fun v10 ev10 => ?_)
        replace h := h v10 ev10
        refine j_istore_n (lv' := [(2, .int v10), (0, .ref a0), (1, .int a1), (3, .int a3)]) hX eX7_inside_30 rfl (by decide) rfl ?_
        obtain ⟨v11, ev11⟩ : ∃ v11 : Int32, v11 = a3 + (1 : Int32) := ⟨_, rfl⟩
        replace h := h v11 ev11
        refine j_iinc (v := v11) (lv' := [(3, .int v11), (2, .int v10), (0, .ref a0), (1, .int a1)]) hX eX7_inside_31 3 rfl (by rw [ev11]; rfl) (by decide) rfl ?_
        refine j_goto hX 4 eX7_inside_34 (by decide) ?_
        exact j_sub [2, 3, 1, 0] rfl (k4 _ _ _ _ _ h)
      · replace h := h.2 c9
        refine j_iconst (v := (1 : Int32)) hX eX7_inside_24 (by decide) ?_
        refine j_goto hX 29 eX7_inside_25 (by decide) ?_
        refine j_iadd hX eX7_inside_29 ?_
        refine j_nmI (fun v12 ev12 => ?_)
        replace h := h v12 ev12
        refine j_istore_n (lv' := [(2, .int v12), (0, .ref a0), (1, .int a1), (3, .int a3)]) hX eX7_inside_30 rfl (by decide) rfl ?_
        obtain ⟨v13, ev13⟩ : ∃ v13 : Int32, v13 = a3 + (1 : Int32) := ⟨_, rfl⟩
        replace h := h v13 ev13
        refine j_iinc (v := v13) (lv' := [(3, .int v13), (2, .int v12), (0, .ref a0), (1, .int a1)]) hX eX7_inside_31 3 rfl (by rw [ev13]; rfl) (by decide) rfl ?_
        refine j_goto hX 4 eX7_inside_34 (by decide) ?_
        exact j_sub [2, 3, 1, 0] rfl (k4 _ _ _ _ _ h)
    · obtain ⟨v8, hxz9, h⟩ := qz9
      cases hxz9

set_option maxHeartbeats 4000000 in
set_option maxRecDepth 20000 in
theorem vX7_stopsAt_0 {X : am_Cx} {G : am_Gx} {d : Nat} {Q : am_Q} (hX : am_ok X rX7_stopsAt G (d + 1)) (hM : am_me X rX7_stopsAt Q) {bc bs : Nat} (R5 : Nat → Int32 → Int32 → Int32 → Int32 → am_Hp → Prop) (k5 : ∀ (x0 : Nat) (x1 : Int32) (x2 : Int32) (x3 : Int32) (x4 : Int32) (M : am_Hp), R5 x0 x1 x2 x3 x4 M → am_J X 5 [(0, .ref x0), (1, .int x1), (2, .int x2), (3, .int x3), (4, .int x4)] [] M bc bs) {a0 : Nat} {a1 : Int32} {a2 : Int32} {M : am_Hp} (h : R5 a0 a1 a2 (0 : Int32) (0 : Int32) M) : am_J X 0 [(0, .ref a0), (1, .int a1), (2, .int a2)] [] M bc bs := by
  refine j_iconst (v := (0 : Int32)) hX eX7_stopsAt_0 (by decide) ?_
  refine j_istore_n (lv' := [(3, .int (0 : Int32)), (0, .ref a0), (1, .int a1), (2, .int a2)]) hX eX7_stopsAt_1 rfl (by decide) rfl ?_
  refine j_iconst (v := (0 : Int32)) hX eX7_stopsAt_2 (by decide) ?_
  refine j_istore (lv' := [(4, .int (0 : Int32)), (3, .int (0 : Int32)), (0, .ref a0), (1, .int a1), (2, .int a2)]) hX eX7_stopsAt_3 (by decide) rfl ?_
  exact j_sub [2, 3, 4, 1, 0] rfl (k5 _ _ _ _ _ _ h)
set_option maxHeartbeats 4000000 in
set_option maxRecDepth 20000 in
theorem vX7_stopsAt_5 {X : am_Cx} {G : am_Gx} {d : Nat} {Q : am_Q} (hX : am_ok X rX7_stopsAt G (d + 1)) (hM : am_me X rX7_stopsAt Q) {bc bs : Nat} (R5 : Nat → Int32 → Int32 → Int32 → Int32 → am_Hp → Prop) (k5 : ∀ (x0 : Nat) (x1 : Int32) (x2 : Int32) (x3 : Int32) (x4 : Int32) (M : am_Hp), R5 x0 x1 x2 x3 x4 M → am_J X 5 [(0, .ref x0), (1, .int x1), (2, .int x2), (3, .int x3), (4, .int x4)] [] M bc bs) {a0 : Nat} {a1 : Int32} {a2 : Int32} {a3 : Int32} {a4 : Int32} {M : am_Hp} (h : hp_T M (a0) = 8 ∧ (hp_R M 140 a0 ≠ 0 ∧ (∀ p3 : Nat, p3 = hp_R M 140 a0 → (hp_T M (p3) = 22 ∧ (vp_in (1 : Int32) (hp_N M p3) ∧ ((((hp_E M p3 ((1 : Int32)).toNatClampNeg) ≤ a4) → (am_bo a3 ∧ (Q (.inl (some (.int a3))) M))) ∧ (¬ ((hp_E M p3 ((1 : Int32)).toNatClampNeg) ≤ a4) → (((a3 = 0) → (am_CT G d rX7_isIn [.ref a0, .int a4, .int a1] M 0 0 (fun oz9 M23 => ∃ v24 : Int32, oz9 = .inl (some (.int v24)) ∧ (((v24 = 0) → ((((0 : Int32) = 0) → (hp_T M23 (a0) = 8 ∧ (am_CT G d rX7_awaits [.ref a0, .int a4, .int a1] M23 0 0 (fun oz9 M28 => ∃ v29 : Int32, oz9 = .inl (some (.int v29)) ∧ (((v29 = 0) → (∀ v32 : Int32, v32 = a4 + (1 : Int32) → (R5 a0 a1 a2 (0 : Int32) v32 M28))) ∧ (¬ (v29 = 0) → (hp_T M28 (a0) = 8 ∧ (hp_R M28 140 a0 ≠ 0 ∧ (∀ p35 : Nat, p35 = hp_R M28 140 a0 → (hp_T M28 (p35) = 22 ∧ (vp_in ((39 : Int32) + a4) (hp_N M28 p35) ∧ ((((hp_E M28 p35 (((39 : Int32) + a4)).toNatClampNeg) = a2) → (∀ v40 : Int32, v40 = a4 + (1 : Int32) → (R5 a0 a1 a2 (1 : Int32) v40 M28))) ∧ (¬ ((hp_E M28 p35 (((39 : Int32) + a4)).toNatClampNeg) = a2) → (∀ v39 : Int32, v39 = a4 + (1 : Int32) → (R5 a0 a1 a2 (0 : Int32) v39 M28))))))))))))))) ∧ (¬ ((0 : Int32) = 0) → (∀ v27 : Int32, v27 = a4 + (1 : Int32) → (R5 a0 a1 a2 (1 : Int32) v27 M23))))) ∧ (¬ (v24 = 0) → (hp_T M23 (a0) = 8 ∧ (hp_R M23 140 a0 ≠ 0 ∧ (∀ p43 : Nat, p43 = hp_R M23 140 a0 → (hp_T M23 (p43) = 22 ∧ (vp_in ((51 : Int32) + a4) (hp_N M23 p43) ∧ ((((hp_E M23 p43 (((51 : Int32) + a4)).toNatClampNeg) = a2) → ((((1 : Int32) = 0) → (am_CT G d rX7_awaits [.ref a0, .int a4, .int a1] M23 0 0 (fun oz9 M63 => ∃ v64 : Int32, oz9 = .inl (some (.int v64)) ∧ (((v64 = 0) → (∀ v66 : Int32, v66 = a4 + (1 : Int32) → (R5 a0 a1 a2 (0 : Int32) v66 M63))) ∧ (¬ (v64 = 0) → (hp_T M63 (a0) = 8 ∧ (hp_R M63 140 a0 ≠ 0 ∧ (∀ p69 : Nat, p69 = hp_R M63 140 a0 → (hp_T M63 (p69) = 22 ∧ (vp_in ((39 : Int32) + a4) (hp_N M63 p69) ∧ ((((hp_E M63 p69 (((39 : Int32) + a4)).toNatClampNeg) = a2) → (∀ v74 : Int32, v74 = a4 + (1 : Int32) → (R5 a0 a1 a2 (1 : Int32) v74 M63))) ∧ (¬ ((hp_E M63 p69 (((39 : Int32) + a4)).toNatClampNeg) = a2) → (∀ v73 : Int32, v73 = a4 + (1 : Int32) → (R5 a0 a1 a2 (0 : Int32) v73 M63)))))))))))))) ∧ (¬ ((1 : Int32) = 0) → (∀ v62 : Int32, v62 = a4 + (1 : Int32) → (R5 a0 a1 a2 (1 : Int32) v62 M23))))) ∧ (¬ ((hp_E M23 p43 (((51 : Int32) + a4)).toNatClampNeg) = a2) → ((((0 : Int32) = 0) → (am_CT G d rX7_awaits [.ref a0, .int a4, .int a1] M23 0 0 (fun oz9 M49 => ∃ v50 : Int32, oz9 = .inl (some (.int v50)) ∧ (((v50 = 0) → (∀ v52 : Int32, v52 = a4 + (1 : Int32) → (R5 a0 a1 a2 (0 : Int32) v52 M49))) ∧ (¬ (v50 = 0) → (hp_T M49 (a0) = 8 ∧ (hp_R M49 140 a0 ≠ 0 ∧ (∀ p55 : Nat, p55 = hp_R M49 140 a0 → (hp_T M49 (p55) = 22 ∧ (vp_in ((39 : Int32) + a4) (hp_N M49 p55) ∧ ((((hp_E M49 p55 (((39 : Int32) + a4)).toNatClampNeg) = a2) → (∀ v60 : Int32, v60 = a4 + (1 : Int32) → (R5 a0 a1 a2 (1 : Int32) v60 M49))) ∧ (¬ ((hp_E M49 p55 (((39 : Int32) + a4)).toNatClampNeg) = a2) → (∀ v59 : Int32, v59 = a4 + (1 : Int32) → (R5 a0 a1 a2 (0 : Int32) v59 M49)))))))))))))) ∧ (¬ ((0 : Int32) = 0) → (∀ v48 : Int32, v48 = a4 + (1 : Int32) → (R5 a0 a1 a2 (1 : Int32) v48 M23)))))))))))))))) ∧ (¬ (a3 = 0) → ((((1 : Int32) = 0) → (am_CT G d rX7_awaits [.ref a0, .int a4, .int a1] M 0 0 (fun oz9 M11 => ∃ v12 : Int32, oz9 = .inl (some (.int v12)) ∧ (((v12 = 0) → (∀ v14 : Int32, v14 = a4 + (1 : Int32) → (R5 a0 a1 a2 (0 : Int32) v14 M11))) ∧ (¬ (v12 = 0) → (hp_T M11 (a0) = 8 ∧ (hp_R M11 140 a0 ≠ 0 ∧ (∀ p17 : Nat, p17 = hp_R M11 140 a0 → (hp_T M11 (p17) = 22 ∧ (vp_in ((39 : Int32) + a4) (hp_N M11 p17) ∧ ((((hp_E M11 p17 (((39 : Int32) + a4)).toNatClampNeg) = a2) → (∀ v22 : Int32, v22 = a4 + (1 : Int32) → (R5 a0 a1 a2 (1 : Int32) v22 M11))) ∧ (¬ ((hp_E M11 p17 (((39 : Int32) + a4)).toNatClampNeg) = a2) → (∀ v21 : Int32, v21 = a4 + (1 : Int32) → (R5 a0 a1 a2 (0 : Int32) v21 M11)))))))))))))) ∧ (¬ ((1 : Int32) = 0) → (∀ v10 : Int32, v10 = a4 + (1 : Int32) → (R5 a0 a1 a2 (1 : Int32) v10 M))))))))))))) : am_J X 5 [(0, .ref a0), (1, .int a1), (2, .int a2), (3, .int a3), (4, .int a4)] [] M bc bs := by
  refine j_iload hX eX7_stopsAt_5 4 rfl ?_
  refine j_aload_n hX eX7_stopsAt_7 0 rfl ?_
  obtain ⟨t1, h⟩ := h
  obtain ⟨z2, h⟩ := h
  refine j_getR hX eX7_stopsAt_8 ff_LiftGroupModel_7 rfl t1 (by decide) z2 ?_
  refine j_nmR (fun p3 ep3 => ?_)
  replace h := h p3 ep3
  refine j_iconst (v := (1 : Int32)) hX eX7_stopsAt_11 (by decide) ?_
  obtain ⟨t4, h⟩ := h
  obtain ⟨i5, h⟩ := h
  refine j_iald hX eX7_stopsAt_12 t4 i5 ?_
  refine j_icmp_ge hX 90 eX7_stopsAt_13 (by decide) (fun c6 => ?_) (fun c6 => ?_)
  · replace h := h.1 c6
    refine j_iload_n hX eX7_stopsAt_90 3 rfl ?_
    obtain ⟨b7, h⟩ := h
    exact j_zret hX hM eX7_stopsAt_91 rfl (am_bo_n b7) h
  · replace h := h.2 c6
    refine j_iload_n hX eX7_stopsAt_16 3 rfl ?_
    refine j_if_ne hX 44 eX7_stopsAt_17 (by decide) (fun c8 => ?_) (fun c8 => ?_)
    · replace h := h.2 c8
      refine j_iconst (v := (1 : Int32)) hX eX7_stopsAt_44 (by decide) ?_
      refine j_goto hX 49 eX7_stopsAt_45 (by decide) ?_
      refine j_istore_n (lv' := [(3, .int (1 : Int32)), (0, .ref a0), (1, .int a1), (2, .int a2), (4, .int a4)]) hX eX7_stopsAt_49 rfl (by decide) rfl ?_
      refine j_iload_n hX eX7_stopsAt_50 0 rfl ?_
      refine j_if_ne hX 78 eX7_stopsAt_51 (by decide) (fun c9 => ?_) (fun c9 => ?_)
      · replace h := h.2 c9
        refine j_iconst (v := (1 : Int32)) hX eX7_stopsAt_78 (by decide) ?_
        refine j_goto hX 83 eX7_stopsAt_79 (by decide) ?_
        refine j_istore_n (lv' := [(3, .int (1 : Int32)), (0, .ref a0), (1, .int a1), (2, .int a2), (4, .int a4)]) hX eX7_stopsAt_83 rfl (by decide) rfl ?_
        obtain ⟨v10, ev10⟩ : ∃ v10 : Int32, v10 = a4 + (1 : Int32) := ⟨_, rfl⟩
        replace h := h v10 ev10
        refine j_iinc (v := v10) (lv' := [(4, .int v10), (3, .int (1 : Int32)), (0, .ref a0), (1, .int a1), (2, .int a2)]) hX eX7_stopsAt_84 4 rfl (by rw [ev10]; rfl) (by decide) rfl ?_
        refine j_goto hX 5 eX7_stopsAt_87 (by decide) ?_
        exact j_sub [2, 3, 4, 1, 0] rfl (k5 _ _ _ _ _ _ h)
      · replace h := h.1 c9
        refine j_aload_n hX eX7_stopsAt_54 1 rfl ?_
        refine j_iload hX eX7_stopsAt_55 4 rfl ?_
        refine j_iload_n hX eX7_stopsAt_57 2 rfl ?_
        refine j_callV (a := a0) (q := (RX7, TX7, 17)) (r' := rX7_awaits) (As := [.int a4, .int a1]) (rest := []) (d1 := d) hX eX7_stopsAt_58 mm_LiftGroupModel_60 rfl t1 (by decide) rfl h rfl (Nat.le_refl _) (Nat.zero_le _) (Nat.zero_le _) (Nat.le_of_ble_eq_true rfl) (fun vz9 Mz9 qz9 => ?_) (fun Ez9 Mz9 qz9 => ?_)
        · obtain ⟨M11, eMz9⟩ : ∃ M11, M11 = Mz9 := ⟨_, rfl⟩; subst eMz9
          obtain ⟨v12, hxz9, h⟩ := qz9
          cases hxz9
          refine j_if_eq hX 82 eX7_stopsAt_61 (by decide) (fun c13 => ?_) (fun c13 => ?_)
          · replace h := h.1 c13
            refine j_iconst (v := (0 : Int32)) hX eX7_stopsAt_82 (by decide) ?_
            refine j_istore_n (lv' := [(3, .int (0 : Int32)), (0, .ref a0), (1, .int a1), (2, .int a2), (4, .int a4)]) hX eX7_stopsAt_83 rfl (by decide) rfl ?_
            obtain ⟨v14, ev14⟩ : ∃ v14 : Int32, v14 = a4 + (1 : Int32) := ⟨_, rfl⟩
            replace h := h v14 ev14
            refine j_iinc (v := v14) (lv' := [(4, .int v14), (3, .int (0 : Int32)), (0, .ref a0), (1, .int a1), (2, .int a2)]) hX eX7_stopsAt_84 4 rfl (by rw [ev14]; rfl) (by decide) rfl ?_
            refine j_goto hX 5 eX7_stopsAt_87 (by decide) ?_
            exact j_sub [2, 3, 4, 1, 0] rfl (k5 _ _ _ _ _ _ h)
          · replace h := h.2 c13
            refine j_aload_n hX eX7_stopsAt_64 1 rfl ?_
            obtain ⟨t15, h⟩ := h
            obtain ⟨z16, h⟩ := h
            refine j_getR hX eX7_stopsAt_65 ff_LiftGroupModel_7 rfl t15 (by decide) z16 ?_
            refine j_nmR (fun p17 ep17 => ?_)
            replace h := h p17 ep17
            refine j_bipush (v := (39 : Int32)) hX eX7_stopsAt_68 (by decide) ?_
            refine j_iload hX eX7_stopsAt_70 4 rfl ?_
            refine j_iadd hX eX7_stopsAt_72 ?_
            obtain ⟨t18, h⟩ := h
            obtain ⟨i19, h⟩ := h
            refine j_iald hX eX7_stopsAt_73 t18 i19 ?_
            refine j_iload_n hX eX7_stopsAt_74 3 rfl ?_
            refine j_icmp_ne hX 82 eX7_stopsAt_75 (by decide) (fun c20 => ?_) (fun c20 => ?_)
            · replace h := h.2 c20
              refine j_iconst (v := (0 : Int32)) hX eX7_stopsAt_82 (by decide) ?_
              refine j_istore_n (lv' := [(3, .int (0 : Int32)), (0, .ref a0), (1, .int a1), (2, .int a2), (4, .int a4)]) hX eX7_stopsAt_83 rfl (by decide) rfl ?_
              obtain ⟨v21, ev21⟩ : ∃ v21 : Int32, v21 = a4 + (1 : Int32) := ⟨_, rfl⟩
              replace h := h v21 ev21
              refine j_iinc (v := v21) (lv' := [(4, .int v21), (3, .int (0 : Int32)), (0, .ref a0), (1, .int a1), (2, .int a2)]) hX eX7_stopsAt_84 4 rfl (by rw [ev21]; rfl) (by decide) rfl ?_
              refine j_goto hX 5 eX7_stopsAt_87 (by decide) ?_
              exact j_sub [2, 3, 4, 1, 0] rfl (k5 _ _ _ _ _ _ h)
            · replace h := h.1 c20
              refine j_iconst (v := (1 : Int32)) hX eX7_stopsAt_78 (by decide) ?_
              refine j_goto hX 83 eX7_stopsAt_79 (by decide) ?_
              refine j_istore_n (lv' := [(3, .int (1 : Int32)), (0, .ref a0), (1, .int a1), (2, .int a2), (4, .int a4)]) hX eX7_stopsAt_83 rfl (by decide) rfl ?_
              obtain ⟨v22, ev22⟩ : ∃ v22 : Int32, v22 = a4 + (1 : Int32) := ⟨_, rfl⟩
              replace h := h v22 ev22
              refine j_iinc (v := v22) (lv' := [(4, .int v22), (3, .int (1 : Int32)), (0, .ref a0), (1, .int a1), (2, .int a2)]) hX eX7_stopsAt_84 4 rfl (by rw [ev22]; rfl) (by decide) rfl ?_
              refine j_goto hX 5 eX7_stopsAt_87 (by decide) ?_
              exact j_sub [2, 3, 4, 1, 0] rfl (k5 _ _ _ _ _ _ h)
        · obtain ⟨v12, hxz9, h⟩ := qz9
          cases hxz9
    · replace h := h.1 c8
      refine j_aload_n hX eX7_stopsAt_20 0 rfl ?_
      refine j_iload hX eX7_stopsAt_21 4 rfl ?_
      refine j_iload_n hX eX7_stopsAt_23 1 rfl ?_
      refine j_callV (a := a0) (q := (RX7, TX7, 17)) (r' := rX7_isIn) (As := [.int a4, .int a1]) (rest := []) (d1 := d) hX eX7_stopsAt_24 mm_LiftGroupModel_56 rfl t1 (by decide) rfl h rfl (Nat.le_refl _) (Nat.zero_le _) (Nat.zero_le _) (Nat.le_of_ble_eq_true rfl) (fun vz9 Mz9 qz9 => ?_) (fun Ez9 Mz9 qz9 => ?_)
      · obtain ⟨M23, eMz9⟩ : ∃ M23, M23 = Mz9 := ⟨_, rfl⟩; subst eMz9
        obtain ⟨v24, hxz9, h⟩ := qz9
        cases hxz9
        refine j_if_eq hX 48 eX7_stopsAt_27 (by decide) (fun c25 => ?_) (fun c25 => ?_)
        · replace h := h.1 c25
          refine j_iconst (v := (0 : Int32)) hX eX7_stopsAt_48 (by decide) ?_
          refine j_istore_n (lv' := [(3, .int (0 : Int32)), (0, .ref a0), (1, .int a1), (2, .int a2), (4, .int a4)]) hX eX7_stopsAt_49 rfl (by decide) rfl ?_
          refine j_iload_n hX eX7_stopsAt_50 0 rfl ?_
          refine j_if_ne hX 78 eX7_stopsAt_51 (by decide) (fun c26 => ?_) (fun c26 => ?_)
          · replace h := h.2 c26
            refine j_iconst (v := (1 : Int32)) hX eX7_stopsAt_78 (by decide) ?_
            refine j_goto hX 83 eX7_stopsAt_79 (by decide) ?_
            refine j_istore_n (lv' := [(3, .int (1 : Int32)), (0, .ref a0), (1, .int a1), (2, .int a2), (4, .int a4)]) hX eX7_stopsAt_83 rfl (by decide) rfl ?_
            obtain ⟨v27, ev27⟩ : ∃ v27 : Int32, v27 = a4 + (1 : Int32) := ⟨_, rfl⟩
            replace h := h v27 ev27
            refine j_iinc (v := v27) (lv' := [(4, .int v27), (3, .int (1 : Int32)), (0, .ref a0), (1, .int a1), (2, .int a2)]) hX eX7_stopsAt_84 4 rfl (by rw [ev27]; rfl) (by decide) rfl ?_
            refine j_goto hX 5 eX7_stopsAt_87 (by decide) ?_
            exact j_sub [2, 3, 4, 1, 0] rfl (k5 _ _ _ _ _ _ h)
          · replace h := h.1 c26
            refine j_aload_n hX eX7_stopsAt_54 1 rfl ?_
            refine j_iload hX eX7_stopsAt_55 4 rfl ?_
            refine j_iload_n hX eX7_stopsAt_57 2 rfl ?_
            obtain ⟨t30, h⟩ := h
            refine j_callV (a := a0) (q := (RX7, TX7, 17)) (r' := rX7_awaits) (As := [.int a4, .int a1]) (rest := []) (d1 := d) hX eX7_stopsAt_58 mm_LiftGroupModel_60 rfl t30 (by decide) rfl h rfl (Nat.le_refl _) (Nat.zero_le _) (Nat.zero_le _) (Nat.le_of_ble_eq_true rfl) (fun vz9 Mz9 qz9 => ?_) (fun Ez9 Mz9 qz9 => ?_)
            · obtain ⟨M28, eMz9⟩ : ∃ M28, M28 = Mz9 := ⟨_, rfl⟩; subst eMz9
              obtain ⟨v29, hxz9, h⟩ := qz9
              cases hxz9
              refine j_if_eq hX 82 eX7_stopsAt_61 (by decide) (fun c31 => ?_) (fun c31 => ?_)
              · replace h := h.1 c31
                refine j_iconst (v := (0 : Int32)) hX eX7_stopsAt_82 (by decide) ?_
                refine j_istore_n (lv' := [(3, .int (0 : Int32)), (0, .ref a0), (1, .int a1), (2, .int a2), (4, .int a4)]) hX eX7_stopsAt_83 rfl (by decide) rfl ?_
                obtain ⟨v32, ev32⟩ : ∃ v32 : Int32, v32 = a4 + (1 : Int32) := ⟨_, rfl⟩
                replace h := h v32 ev32
                refine j_iinc (v := v32) (lv' := [(4, .int v32), (3, .int (0 : Int32)), (0, .ref a0), (1, .int a1), (2, .int a2)]) hX eX7_stopsAt_84 4 rfl (by rw [ev32]; rfl) (by decide) rfl ?_
                refine j_goto hX 5 eX7_stopsAt_87 (by decide) ?_
                exact j_sub [2, 3, 4, 1, 0] rfl (k5 _ _ _ _ _ _ h)
              · replace h := h.2 c31
                refine j_aload_n hX eX7_stopsAt_64 1 rfl ?_
                obtain ⟨t33, h⟩ := h
                obtain ⟨z34, h⟩ := h
                refine j_getR hX eX7_stopsAt_65 ff_LiftGroupModel_7 rfl t33 (by decide) z34 ?_
                refine j_nmR (fun p35 ep35 => ?_)
                replace h := h p35 ep35
                refine j_bipush (v := (39 : Int32)) hX eX7_stopsAt_68 (by decide) ?_
                refine j_iload hX eX7_stopsAt_70 4 rfl ?_
                refine j_iadd hX eX7_stopsAt_72 ?_
                obtain ⟨t36, h⟩ := h
                obtain ⟨i37, h⟩ := h
                refine j_iald hX eX7_stopsAt_73 t36 i37 ?_
                refine j_iload_n hX eX7_stopsAt_74 3 rfl ?_
                refine j_icmp_ne hX 82 eX7_stopsAt_75 (by decide) (fun c38 => ?_) (fun c38 => ?_)
                · replace h := h.2 c38
                  refine j_iconst (v := (0 : Int32)) hX eX7_stopsAt_82 (by decide) ?_
                  refine j_istore_n (lv' := [(3, .int (0 : Int32)), (0, .ref a0), (1, .int a1), (2, .int a2), (4, .int a4)]) hX eX7_stopsAt_83 rfl (by decide) rfl ?_
                  obtain ⟨v39, ev39⟩ : ∃ v39 : Int32, v39 = a4 + (1 : Int32) := ⟨_, rfl⟩
                  replace h := h v39 ev39
                  refine j_iinc (v := v39) (lv' := [(4, .int v39), (3, .int (0 : Int32)), (0, .ref a0), (1, .int a1), (2, .int a2)]) hX eX7_stopsAt_84 4 rfl (by rw [ev39]; rfl) (by decide) rfl ?_
                  refine j_goto hX 5 eX7_stopsAt_87 (by decide) ?_
                  exact j_sub [2, 3, 4, 1, 0] rfl (k5 _ _ _ _ _ _ h)
                · replace h := h.1 c38
                  refine j_iconst (v := (1 : Int32)) hX eX7_stopsAt_78 (by decide) ?_
                  refine j_goto hX 83 eX7_stopsAt_79 (by decide) ?_
                  refine j_istore_n (lv' := [(3, .int (1 : Int32)), (0, .ref a0), (1, .int a1), (2, .int a2), (4, .int a4)]) hX eX7_stopsAt_83 rfl (by decide) rfl ?_
                  obtain ⟨v40, ev40⟩ : ∃ v40 : Int32, v40 = a4 + (1 : Int32) := ⟨_, rfl⟩
                  replace h := h v40 ev40
                  refine j_iinc (v := v40) (lv' := [(4, .int v40), (3, .int (1 : Int32)), (0, .ref a0), (1, .int a1), (2, .int a2)]) hX eX7_stopsAt_84 4 rfl (by rw [ev40]; rfl) (by decide) rfl ?_
                  refine j_goto hX 5 eX7_stopsAt_87 (by decide) ?_
                  exact j_sub [2, 3, 4, 1, 0] rfl (k5 _ _ _ _ _ _ h)
            · obtain ⟨v29, hxz9, h⟩ := qz9
              cases hxz9
        · replace h := h.2 c25
          refine j_aload_n hX eX7_stopsAt_30 0 rfl ?_
          obtain ⟨t41, h⟩ := h
          obtain ⟨z42, h⟩ := h
          refine j_getR hX eX7_stopsAt_31 ff_LiftGroupModel_7 rfl t41 (by decide) z42 ?_
          refine j_nmR (fun p43 ep43 => ?_)
          replace h := h p43 ep43
          refine j_bipush (v := (51 : Int32)) hX eX7_stopsAt_34 (by decide) ?_
          refine j_iload hX eX7_stopsAt_36 4 rfl ?_
          refine j_iadd hX eX7_stopsAt_38 ?_
          obtain ⟨t44, h⟩ := h
          obtain ⟨i45, h⟩ := h
          refine j_iald hX eX7_stopsAt_39 t44 i45 ?_
          refine j_iload_n hX eX7_stopsAt_40 2 rfl ?_
          refine j_icmp_ne hX 48 eX7_stopsAt_41 (by decide) (fun c46 => ?_) (fun c46 => ?_)
          · replace h := h.2 c46
            refine j_iconst (v := (0 : Int32)) hX eX7_stopsAt_48 (by decide) ?_
            refine j_istore_n (lv' := [(3, .int (0 : Int32)), (0, .ref a0), (1, .int a1), (2, .int a2), (4, .int a4)]) hX eX7_stopsAt_49 rfl (by decide) rfl ?_
            refine j_iload_n hX eX7_stopsAt_50 0 rfl ?_
            refine j_if_ne hX 78 eX7_stopsAt_51 (by decide) (fun c47 => ?_) (fun c47 => ?_)
            · replace h := h.2 c47
              refine j_iconst (v := (1 : Int32)) hX eX7_stopsAt_78 (by decide) ?_
              refine j_goto hX 83 eX7_stopsAt_79 (by decide) ?_
              refine j_istore_n (lv' := [(3, .int (1 : Int32)), (0, .ref a0), (1, .int a1), (2, .int a2), (4, .int a4)]) hX eX7_stopsAt_83 rfl (by decide) rfl ?_
              obtain ⟨v48, ev48⟩ : ∃ v48 : Int32, v48 = a4 + (1 : Int32) := ⟨_, rfl⟩
              replace h := h v48 ev48
              refine j_iinc (v := v48) (lv' := [(4, .int v48), (3, .int (1 : Int32)), (0, .ref a0), (1, .int a1), (2, .int a2)]) hX eX7_stopsAt_84 4 rfl (by rw [ev48]; rfl) (by decide) rfl ?_
              refine j_goto hX 5 eX7_stopsAt_87 (by decide) ?_
              exact j_sub [2, 3, 4, 1, 0] rfl (k5 _ _ _ _ _ _ h)
            · replace h := h.1 c47
              refine j_aload_n hX eX7_stopsAt_54 1 rfl ?_
              refine j_iload hX eX7_stopsAt_55 4 rfl ?_
              refine j_iload_n hX eX7_stopsAt_57 2 rfl ?_
              refine j_callV (a := a0) (q := (RX7, TX7, 17)) (r' := rX7_awaits) (As := [.int a4, .int a1]) (rest := []) (d1 := d) hX eX7_stopsAt_58 mm_LiftGroupModel_60 rfl t41 (by decide) rfl h rfl (Nat.le_refl _) (Nat.zero_le _) (Nat.zero_le _) (Nat.le_of_ble_eq_true rfl) (fun vz9 Mz9 qz9 => ?_) (fun Ez9 Mz9 qz9 => ?_)
              · obtain ⟨M49, eMz9⟩ : ∃ M49, M49 = Mz9 := ⟨_, rfl⟩; subst eMz9
                obtain ⟨v50, hxz9, h⟩ := qz9
                cases hxz9
                refine j_if_eq hX 82 eX7_stopsAt_61 (by decide) (fun c51 => ?_) (fun c51 => ?_)
                · replace h := h.1 c51
                  refine j_iconst (v := (0 : Int32)) hX eX7_stopsAt_82 (by decide) ?_
                  refine j_istore_n (lv' := [(3, .int (0 : Int32)), (0, .ref a0), (1, .int a1), (2, .int a2), (4, .int a4)]) hX eX7_stopsAt_83 rfl (by decide) rfl ?_
                  obtain ⟨v52, ev52⟩ : ∃ v52 : Int32, v52 = a4 + (1 : Int32) := ⟨_, rfl⟩
                  replace h := h v52 ev52
                  refine j_iinc (v := v52) (lv' := [(4, .int v52), (3, .int (0 : Int32)), (0, .ref a0), (1, .int a1), (2, .int a2)]) hX eX7_stopsAt_84 4 rfl (by rw [ev52]; rfl) (by decide) rfl ?_
                  refine j_goto hX 5 eX7_stopsAt_87 (by decide) ?_
                  exact j_sub [2, 3, 4, 1, 0] rfl (k5 _ _ _ _ _ _ h)
                · replace h := h.2 c51
                  refine j_aload_n hX eX7_stopsAt_64 1 rfl ?_
                  obtain ⟨t53, h⟩ := h
                  obtain ⟨z54, h⟩ := h
                  refine j_getR hX eX7_stopsAt_65 ff_LiftGroupModel_7 rfl t53 (by decide) z54 ?_
                  refine j_nmR (fun p55 ep55 => ?_)
                  replace h := h p55 ep55
                  refine j_bipush (v := (39 : Int32)) hX eX7_stopsAt_68 (by decide) ?_
                  refine j_iload hX eX7_stopsAt_70 4 rfl ?_
                  refine j_iadd hX eX7_stopsAt_72 ?_
                  obtain ⟨t56, h⟩ := h
                  obtain ⟨i57, h⟩ := h
                  refine j_iald hX eX7_stopsAt_73 t56 i57 ?_
                  refine j_iload_n hX eX7_stopsAt_74 3 rfl ?_
                  refine j_icmp_ne hX 82 eX7_stopsAt_75 (by decide) (fun c58 => ?_) (fun c58 => ?_)
                  · replace h := h.2 c58
                    refine j_iconst (v := (0 : Int32)) hX eX7_stopsAt_82 (by decide) ?_
                    refine j_istore_n (lv' := [(3, .int (0 : Int32)), (0, .ref a0), (1, .int a1), (2, .int a2), (4, .int a4)]) hX eX7_stopsAt_83 rfl (by decide) rfl ?_
                    obtain ⟨v59, ev59⟩ : ∃ v59 : Int32, v59 = a4 + (1 : Int32) := ⟨_, rfl⟩
                    replace h := h v59 ev59
                    refine j_iinc (v := v59) (lv' := [(4, .int v59), (3, .int (0 : Int32)), (0, .ref a0), (1, .int a1), (2, .int a2)]) hX eX7_stopsAt_84 4 rfl (by rw [ev59]; rfl) (by decide) rfl ?_
                    refine j_goto hX 5 eX7_stopsAt_87 (by decide) ?_
                    exact j_sub [2, 3, 4, 1, 0] rfl (k5 _ _ _ _ _ _ h)
                  · replace h := h.1 c58
                    refine j_iconst (v := (1 : Int32)) hX eX7_stopsAt_78 (by decide) ?_
                    refine j_goto hX 83 eX7_stopsAt_79 (by decide) ?_
                    refine j_istore_n (lv' := [(3, .int (1 : Int32)), (0, .ref a0), (1, .int a1), (2, .int a2), (4, .int a4)]) hX eX7_stopsAt_83 rfl (by decide) rfl ?_
                    obtain ⟨v60, ev60⟩ : ∃ v60 : Int32, v60 = a4 + (1 : Int32) := ⟨_, rfl⟩
                    replace h := h v60 ev60
                    refine j_iinc (v := v60) (lv' := [(4, .int v60), (3, .int (1 : Int32)), (0, .ref a0), (1, .int a1), (2, .int a2)]) hX eX7_stopsAt_84 4 rfl (by rw [ev60]; rfl) (by decide) rfl ?_
                    refine j_goto hX 5 eX7_stopsAt_87 (by decide) ?_
                    exact j_sub [2, 3, 4, 1, 0] rfl (k5 _ _ _ _ _ _ h)
              · obtain ⟨v50, hxz9, h⟩ := qz9
                cases hxz9
          · replace h := h.1 c46
            refine j_iconst (v := (1 : Int32)) hX eX7_stopsAt_44 (by decide) ?_
            refine j_goto hX 49 eX7_stopsAt_45 (by decide) ?_
            refine j_istore_n (lv' := [(3, .int (1 : Int32)), (0, .ref a0), (1, .int a1), (2, .int a2), (4, .int a4)]) hX eX7_stopsAt_49 rfl (by decide) rfl ?_
            refine j_iload_n hX eX7_stopsAt_50 0 rfl ?_
            refine j_if_ne hX 78 eX7_stopsAt_51 (by decide) (fun c61 => ?_) (fun c61 => ?_)
            · replace h := h.2 c61
              refine j_iconst (v := (1 : Int32)) hX eX7_stopsAt_78 (by decide) ?_
              refine j_goto hX 83 eX7_stopsAt_79 (by decide) ?_
              refine j_istore_n (lv' := [(3, .int (1 : Int32)), (0, .ref a0), (1, .int a1), (2, .int a2), (4, .int a4)]) hX eX7_stopsAt_83 rfl (by decide) rfl ?_
              obtain ⟨v62, ev62⟩ : ∃ v62 : Int32, v62 = a4 + (1 : Int32) := ⟨_, rfl⟩
              replace h := h v62 ev62
              refine j_iinc (v := v62) (lv' := [(4, .int v62), (3, .int (1 : Int32)), (0, .ref a0), (1, .int a1), (2, .int a2)]) hX eX7_stopsAt_84 4 rfl (by rw [ev62]; rfl) (by decide) rfl ?_
              refine j_goto hX 5 eX7_stopsAt_87 (by decide) ?_
              exact j_sub [2, 3, 4, 1, 0] rfl (k5 _ _ _ _ _ _ h)
            · replace h := h.1 c61
              refine j_aload_n hX eX7_stopsAt_54 1 rfl ?_
              refine j_iload hX eX7_stopsAt_55 4 rfl ?_
              refine j_iload_n hX eX7_stopsAt_57 2 rfl ?_
              refine j_callV (a := a0) (q := (RX7, TX7, 17)) (r' := rX7_awaits) (As := [.int a4, .int a1]) (rest := []) (d1 := d) hX eX7_stopsAt_58 mm_LiftGroupModel_60 rfl t41 (by decide) rfl h rfl (Nat.le_refl _) (Nat.zero_le _) (Nat.zero_le _) (Nat.le_of_ble_eq_true rfl) (fun vz9 Mz9 qz9 => ?_) (fun Ez9 Mz9 qz9 => ?_)
              · obtain ⟨M63, eMz9⟩ : ∃ M63, M63 = Mz9 := ⟨_, rfl⟩; subst eMz9
                obtain ⟨v64, hxz9, h⟩ := qz9
                cases hxz9
                refine j_if_eq hX 82 eX7_stopsAt_61 (by decide) (fun c65 => ?_) (fun c65 => ?_)
                · replace h := h.1 c65
                  refine j_iconst (v := (0 : Int32)) hX eX7_stopsAt_82 (by decide) ?_
                  refine j_istore_n (lv' := [(3, .int (0 : Int32)), (0, .ref a0), (1, .int a1), (2, .int a2), (4, .int a4)]) hX eX7_stopsAt_83 rfl (by decide) rfl ?_
                  obtain ⟨v66, ev66⟩ : ∃ v66 : Int32, v66 = a4 + (1 : Int32) := ⟨_, rfl⟩
                  replace h := h v66 ev66
                  refine j_iinc (v := v66) (lv' := [(4, .int v66), (3, .int (0 : Int32)), (0, .ref a0), (1, .int a1), (2, .int a2)]) hX eX7_stopsAt_84 4 rfl (by rw [ev66]; rfl) (by decide) rfl ?_
                  refine j_goto hX 5 eX7_stopsAt_87 (by decide) ?_
                  exact j_sub [2, 3, 4, 1, 0] rfl (k5 _ _ _ _ _ _ h)
                · replace h := h.2 c65
                  refine j_aload_n hX eX7_stopsAt_64 1 rfl ?_
                  obtain ⟨t67, h⟩ := h
                  obtain ⟨z68, h⟩ := h
                  refine j_getR hX eX7_stopsAt_65 ff_LiftGroupModel_7 rfl t67 (by decide) z68 ?_
                  refine j_nmR (fun p69 ep69 => ?_)
                  replace h := h p69 ep69
                  refine j_bipush (v := (39 : Int32)) hX eX7_stopsAt_68 (by decide) ?_
                  refine j_iload hX eX7_stopsAt_70 4 rfl ?_
                  refine j_iadd hX eX7_stopsAt_72 ?_
                  obtain ⟨t70, h⟩ := h
                  obtain ⟨i71, h⟩ := h
                  refine j_iald hX eX7_stopsAt_73 t70 i71 ?_
                  refine j_iload_n hX eX7_stopsAt_74 3 rfl ?_
                  refine j_icmp_ne hX 82 eX7_stopsAt_75 (by decide) (fun c72 => ?_) (fun c72 => ?_)
                  · replace h := h.2 c72
                    refine j_iconst (v := (0 : Int32)) hX eX7_stopsAt_82 (by decide) ?_
                    refine j_istore_n (lv' := [(3, .int (0 : Int32)), (0, .ref a0), (1, .int a1), (2, .int a2), (4, .int a4)]) hX eX7_stopsAt_83 rfl (by decide) rfl ?_
                    obtain ⟨v73, ev73⟩ : ∃ v73 : Int32, v73 = a4 + (1 : Int32) := ⟨_, rfl⟩
                    replace h := h v73 ev73
                    refine j_iinc (v := v73) (lv' := [(4, .int v73), (3, .int (0 : Int32)), (0, .ref a0), (1, .int a1), (2, .int a2)]) hX eX7_stopsAt_84 4 rfl (by rw [ev73]; rfl) (by decide) rfl ?_
                    refine j_goto hX 5 eX7_stopsAt_87 (by decide) ?_
                    exact j_sub [2, 3, 4, 1, 0] rfl (k5 _ _ _ _ _ _ h)
                  · replace h := h.1 c72
                    refine j_iconst (v := (1 : Int32)) hX eX7_stopsAt_78 (by decide) ?_
                    refine j_goto hX 83 eX7_stopsAt_79 (by decide) ?_
                    refine j_istore_n (lv' := [(3, .int (1 : Int32)), (0, .ref a0), (1, .int a1), (2, .int a2), (4, .int a4)]) hX eX7_stopsAt_83 rfl (by decide) rfl ?_
                    obtain ⟨v74, ev74⟩ : ∃ v74 : Int32, v74 = a4 + (1 : Int32) := ⟨_, rfl⟩
                    replace h := h v74 ev74
                    refine j_iinc (v := v74) (lv' := [(4, .int v74), (3, .int (1 : Int32)), (0, .ref a0), (1, .int a1), (2, .int a2)]) hX eX7_stopsAt_84 4 rfl (by rw [ev74]; rfl) (by decide) rfl ?_
                    refine j_goto hX 5 eX7_stopsAt_87 (by decide) ?_
                    exact j_sub [2, 3, 4, 1, 0] rfl (k5 _ _ _ _ _ _ h)
              · obtain ⟨v64, hxz9, h⟩ := qz9
                cases hxz9
      · obtain ⟨v24, hxz9, h⟩ := qz9
        cases hxz9

set_option maxHeartbeats 4000000 in
set_option maxRecDepth 20000 in
theorem vX7_nearest_0 {X : am_Cx} {G : am_Gx} {d : Nat} {Q : am_Q} (hX : am_ok X rX7_nearest G (d + 1)) (hM : am_me X rX7_nearest Q) {bc bs : Nat} (R2 : Nat → Int32 → Int32 → Int32 → am_Hp → Prop) (k2 : ∀ (x0 : Nat) (x1 : Int32) (x2 : Int32) (x3 : Int32) (M : am_Hp), R2 x0 x1 x2 x3 M → am_J X 2 [(0, .ref x0), (1, .int x1), (2, .int x2), (3, .int x3)] [] M bc bs) {a0 : Nat} {a1 : Int32} {a2 : Int32} {M : am_Hp} (h : R2 a0 a1 a2 (1 : Int32) M) : am_J X 0 [(0, .ref a0), (1, .int a1), (2, .int a2)] [] M bc bs := by
  refine j_iconst (v := (1 : Int32)) hX eX7_nearest_0 (by decide) ?_
  refine j_istore_n (lv' := [(3, .int (1 : Int32)), (0, .ref a0), (1, .int a1), (2, .int a2)]) hX eX7_nearest_1 rfl (by decide) rfl ?_
  exact j_sub [1, 2, 3, 0] rfl (k2 _ _ _ _ _ h)
set_option maxHeartbeats 4000000 in
set_option maxRecDepth 20000 in
theorem vX7_nearest_2 {X : am_Cx} {G : am_Gx} {d : Nat} {Q : am_Q} (hX : am_ok X rX7_nearest G (d + 1)) (hM : am_me X rX7_nearest Q) {bc bs : Nat} (R2 : Nat → Int32 → Int32 → Int32 → am_Hp → Prop) (k2 : ∀ (x0 : Nat) (x1 : Int32) (x2 : Int32) (x3 : Int32) (M : am_Hp), R2 x0 x1 x2 x3 M → am_J X 2 [(0, .ref x0), (1, .int x1), (2, .int x2), (3, .int x3)] [] M bc bs) {a0 : Nat} {a1 : Int32} {a2 : Int32} {a3 : Int32} {M : am_Hp} (h : hp_T M (a0) = 8 ∧ (hp_R M 140 a0 ≠ 0 ∧ (∀ p3 : Nat, p3 = hp_R M 140 a0 → (hp_T M (p3) = 22 ∧ (vp_in ((9 : Int32) + a1) (hp_N M p3) ∧ (am_CT G d rX7_isFloor [.int ((hp_E M p3 (((9 : Int32) + a1)).toNatClampNeg) + (a2 * a3))] M 0 0 (fun oz9 M6 => ∃ v7 : Int32, oz9 = .inl (some (.int v7)) ∧ (((v7 = 0) → (hp_T M6 (a0) = 8 ∧ (hp_R M6 140 a0 ≠ 0 ∧ (∀ p11 : Nat, p11 = hp_R M6 140 a0 → (hp_T M6 (p11) = 22 ∧ (vp_in ((9 : Int32) + a1) (hp_N M6 p11) ∧ (am_CT G d rX7_isFloor [.int ((hp_E M6 p11 (((9 : Int32) + a1)).toNatClampNeg) + (a2 * a3))] M6 0 0 (fun oz9 M14 => ∃ v15 : Int32, oz9 = .inl (some (.int v15)) ∧ (((v15 = 0) → (Q (.inl (some (.int (0 : Int32)))) M14)) ∧ (¬ (v15 = 0) → (Q (.inl (some (.int a3))) M14))))))))))) ∧ (¬ (v7 = 0) → (hp_T M6 (a0) = 8 ∧ (hp_R M6 140 a0 ≠ 0 ∧ (∀ p19 : Nat, p19 = hp_R M6 140 a0 → (hp_T M6 (p19) = 22 ∧ (vp_in ((9 : Int32) + a1) (hp_N M6 p19) ∧ (am_CT G d rX7_stopsAt [.ref a0, .int a1, .int ((hp_E M6 p19 (((9 : Int32) + a1)).toNatClampNeg) + (a2 * a3))] M6 0 0 (fun oz9 M22 => ∃ v23 : Int32, oz9 = .inl (some (.int v23)) ∧ (((v23 = 0) → (∀ v33 : Int32, v33 = a3 + (1 : Int32) → (R2 a0 a1 a2 v33 M22))) ∧ (¬ (v23 = 0) → (hp_T M22 (a0) = 8 ∧ (hp_R M22 140 a0 ≠ 0 ∧ (∀ p27 : Nat, p27 = hp_R M22 140 a0 → (hp_T M22 (p27) = 22 ∧ (vp_in ((9 : Int32) + a1) (hp_N M22 p27) ∧ (am_CT G d rX7_isFloor [.int ((hp_E M22 p27 (((9 : Int32) + a1)).toNatClampNeg) + (a2 * a3))] M22 0 0 (fun oz9 M30 => ∃ v31 : Int32, oz9 = .inl (some (.int v31)) ∧ (((v31 = 0) → (Q (.inl (some (.int (0 : Int32)))) M30)) ∧ (¬ (v31 = 0) → (Q (.inl (some (.int a3))) M30)))))))))))))))))))))))))))) : am_J X 2 [(0, .ref a0), (1, .int a1), (2, .int a2), (3, .int a3)] [] M bc bs := by
  refine j_aload_n hX eX7_nearest_2 0 rfl ?_
  obtain ⟨t1, h⟩ := h
  obtain ⟨z2, h⟩ := h
  refine j_getR hX eX7_nearest_3 ff_LiftGroupModel_7 rfl t1 (by decide) z2 ?_
  refine j_nmR (fun p3 ep3 => ?_)
  replace h := h p3 ep3
  refine j_bipush (v := (9 : Int32)) hX eX7_nearest_6 (by decide) ?_
  refine j_iload_n hX eX7_nearest_8 1 rfl ?_
  refine j_iadd hX eX7_nearest_9 ?_
  obtain ⟨t4, h⟩ := h
  obtain ⟨i5, h⟩ := h
  refine j_iald hX eX7_nearest_10 t4 i5 ?_
  refine j_iload_n hX eX7_nearest_11 2 rfl ?_
  refine j_iload_n hX eX7_nearest_12 3 rfl ?_
  refine j_imul hX eX7_nearest_13 ?_
  refine j_iadd hX eX7_nearest_14 ?_
  refine j_callS (r' := rX7_isFloor) (As := [.int ((hp_E M p3 (((9 : Int32) + a1)).toNatClampNeg) + (a2 * a3))]) (rest := []) (d1 := d) hX eX7_nearest_15 mm_LiftGroupModel_63 rfl rfl h rfl (Nat.le_refl _) (Nat.zero_le _) (Nat.zero_le _) (Nat.le_of_ble_eq_true rfl) (fun vz9 Mz9 qz9 => ?_) (fun Ez9 Mz9 qz9 => ?_)
  · obtain ⟨M6, eMz9⟩ : ∃ M6, M6 = Mz9 := ⟨_, rfl⟩; subst eMz9
    obtain ⟨v7, hxz9, h⟩ := qz9
    cases hxz9
    refine j_if_eq hX 48 eX7_nearest_18 (by decide) (fun c8 => ?_) (fun c8 => ?_)
    · replace h := h.1 c8
      refine j_aload_n hX eX7_nearest_48 0 rfl ?_
      obtain ⟨t9, h⟩ := h
      obtain ⟨z10, h⟩ := h
      refine j_getR hX eX7_nearest_49 ff_LiftGroupModel_7 rfl t9 (by decide) z10 ?_
      refine j_nmR (fun p11 ep11 => ?_)
      replace h := h p11 ep11
      refine j_bipush (v := (9 : Int32)) hX eX7_nearest_52 (by decide) ?_
      refine j_iload_n hX eX7_nearest_54 1 rfl ?_
      refine j_iadd hX eX7_nearest_55 ?_
      obtain ⟨t12, h⟩ := h
      obtain ⟨i13, h⟩ := h
      refine j_iald hX eX7_nearest_56 t12 i13 ?_
      refine j_iload_n hX eX7_nearest_57 2 rfl ?_
      refine j_iload_n hX eX7_nearest_58 3 rfl ?_
      refine j_imul hX eX7_nearest_59 ?_
      refine j_iadd hX eX7_nearest_60 ?_
      refine j_callS (r' := rX7_isFloor) (As := [.int ((hp_E M6 p11 (((9 : Int32) + a1)).toNatClampNeg) + (a2 * a3))]) (rest := []) (d1 := d) hX eX7_nearest_61 mm_LiftGroupModel_63 rfl rfl h rfl (Nat.le_refl _) (Nat.zero_le _) (Nat.zero_le _) (Nat.le_of_ble_eq_true rfl) (fun vz9 Mz9 qz9 => ?_) (fun Ez9 Mz9 qz9 => ?_)
      · obtain ⟨M14, eMz9⟩ : ∃ M14, M14 = Mz9 := ⟨_, rfl⟩; subst eMz9
        obtain ⟨v15, hxz9, h⟩ := qz9
        cases hxz9
        refine j_if_eq hX 71 eX7_nearest_64 (by decide) (fun c16 => ?_) (fun c16 => ?_)
        · replace h := h.1 c16
          refine j_iconst (v := (0 : Int32)) hX eX7_nearest_71 (by decide) ?_
          exact j_iret hX hM eX7_nearest_72 rfl h
        · replace h := h.2 c16
          refine j_iload_n hX eX7_nearest_67 3 rfl ?_
          refine j_goto hX 72 eX7_nearest_68 (by decide) ?_
          exact j_iret hX hM eX7_nearest_72 rfl h
      · obtain ⟨v15, hxz9, h⟩ := qz9
        cases hxz9
    · replace h := h.2 c8
      refine j_aload_n hX eX7_nearest_21 0 rfl ?_
      refine j_iload_n hX eX7_nearest_22 1 rfl ?_
      refine j_aload_n hX eX7_nearest_23 0 rfl ?_
      obtain ⟨t17, h⟩ := h
      obtain ⟨z18, h⟩ := h
      refine j_getR hX eX7_nearest_24 ff_LiftGroupModel_7 rfl t17 (by decide) z18 ?_
      refine j_nmR (fun p19 ep19 => ?_)
      replace h := h p19 ep19
      refine j_bipush (v := (9 : Int32)) hX eX7_nearest_27 (by decide) ?_
      refine j_iload_n hX eX7_nearest_29 1 rfl ?_
      refine j_iadd hX eX7_nearest_30 ?_
      obtain ⟨t20, h⟩ := h
      obtain ⟨i21, h⟩ := h
      refine j_iald hX eX7_nearest_31 t20 i21 ?_
      refine j_iload_n hX eX7_nearest_32 2 rfl ?_
      refine j_iload_n hX eX7_nearest_33 3 rfl ?_
      refine j_imul hX eX7_nearest_34 ?_
      refine j_iadd hX eX7_nearest_35 ?_
      refine j_callV (a := a0) (q := (RX7, TX7, 17)) (r' := rX7_stopsAt) (As := [.int a1, .int ((hp_E M6 p19 (((9 : Int32) + a1)).toNatClampNeg) + (a2 * a3))]) (rest := []) (d1 := d) hX eX7_nearest_36 mm_LiftGroupModel_67 rfl t17 (by decide) rfl h rfl (Nat.le_refl _) (Nat.zero_le _) (Nat.zero_le _) (Nat.le_of_ble_eq_true rfl) (fun vz9 Mz9 qz9 => ?_) (fun Ez9 Mz9 qz9 => ?_)
      · obtain ⟨M22, eMz9⟩ : ∃ M22, M22 = Mz9 := ⟨_, rfl⟩; subst eMz9
        obtain ⟨v23, hxz9, h⟩ := qz9
        cases hxz9
        refine j_if_ne hX 48 eX7_nearest_39 (by decide) (fun c24 => ?_) (fun c24 => ?_)
        · replace h := h.2 c24
          refine j_aload_n hX eX7_nearest_48 0 rfl ?_
          obtain ⟨t25, h⟩ := h
          obtain ⟨z26, h⟩ := h
          refine j_getR hX eX7_nearest_49 ff_LiftGroupModel_7 rfl t25 (by decide) z26 ?_
          refine j_nmR (fun p27 ep27 => ?_)
          replace h := h p27 ep27
          refine j_bipush (v := (9 : Int32)) hX eX7_nearest_52 (by decide) ?_
          refine j_iload_n hX eX7_nearest_54 1 rfl ?_
          refine j_iadd hX eX7_nearest_55 ?_
          obtain ⟨t28, h⟩ := h
          obtain ⟨i29, h⟩ := h
          refine j_iald hX eX7_nearest_56 t28 i29 ?_
          refine j_iload_n hX eX7_nearest_57 2 rfl ?_
          refine j_iload_n hX eX7_nearest_58 3 rfl ?_
          refine j_imul hX eX7_nearest_59 ?_
          refine j_iadd hX eX7_nearest_60 ?_
          refine j_callS (r' := rX7_isFloor) (As := [.int ((hp_E M22 p27 (((9 : Int32) + a1)).toNatClampNeg) + (a2 * a3))]) (rest := []) (d1 := d) hX eX7_nearest_61 mm_LiftGroupModel_63 rfl rfl h rfl (Nat.le_refl _) (Nat.zero_le _) (Nat.zero_le _) (Nat.le_of_ble_eq_true rfl) (fun vz9 Mz9 qz9 => ?_) (fun Ez9 Mz9 qz9 => ?_)
          · obtain ⟨M30, eMz9⟩ : ∃ M30, M30 = Mz9 := ⟨_, rfl⟩; subst eMz9
            obtain ⟨v31, hxz9, h⟩ := qz9
            cases hxz9
            refine j_if_eq hX 71 eX7_nearest_64 (by decide) (fun c32 => ?_) (fun c32 => ?_)
            · replace h := h.1 c32
              refine j_iconst (v := (0 : Int32)) hX eX7_nearest_71 (by decide) ?_
              exact j_iret hX hM eX7_nearest_72 rfl h
            · replace h := h.2 c32
              refine j_iload_n hX eX7_nearest_67 3 rfl ?_
              refine j_goto hX 72 eX7_nearest_68 (by decide) ?_
              exact j_iret hX hM eX7_nearest_72 rfl h
          · obtain ⟨v31, hxz9, h⟩ := qz9
            cases hxz9
        · replace h := h.1 c24
          obtain ⟨v33, ev33⟩ : ∃ v33 : Int32, v33 = a3 + (1 : Int32) := ⟨_, rfl⟩
          replace h := h v33 ev33
          refine j_iinc (v := v33) (lv' := [(3, .int v33), (0, .ref a0), (1, .int a1), (2, .int a2)]) hX eX7_nearest_42 3 rfl (by rw [ev33]; rfl) (by decide) rfl ?_
          refine j_goto hX 2 eX7_nearest_45 (by decide) ?_
          exact j_sub [1, 2, 3, 0] rfl (k2 _ _ _ _ _ h)
      · obtain ⟨v23, hxz9, h⟩ := qz9
        cases hxz9
  · obtain ⟨v7, hxz9, h⟩ := qz9
    cases hxz9

set_option maxHeartbeats 4000000 in
set_option maxRecDepth 20000 in
theorem vX7_farthest_0 {X : am_Cx} {G : am_Gx} {d : Nat} {Q : am_Q} (hX : am_ok X rX7_farthest G (d + 1)) (hM : am_me X rX7_farthest Q) {bc bs : Nat} (R5 : Nat → Int32 → Int32 → Int32 → Int32 → am_Hp → Prop) (k5 : ∀ (x0 : Nat) (x1 : Int32) (x2 : Int32) (x3 : Int32) (x4 : Int32) (M : am_Hp), R5 x0 x1 x2 x3 x4 M → am_J X 5 [(0, .ref x0), (1, .int x1), (2, .int x2), (3, .int x3), (4, .int x4)] [] M bc bs) {a0 : Nat} {a1 : Int32} {a2 : Int32} {M : am_Hp} (h : R5 a0 a1 a2 (0 : Int32) (1 : Int32) M) : am_J X 0 [(0, .ref a0), (1, .int a1), (2, .int a2)] [] M bc bs := by
  refine j_iconst (v := (0 : Int32)) hX eX7_farthest_0 (by decide) ?_
  refine j_istore_n (lv' := [(3, .int (0 : Int32)), (0, .ref a0), (1, .int a1), (2, .int a2)]) hX eX7_farthest_1 rfl (by decide) rfl ?_
  refine j_iconst (v := (1 : Int32)) hX eX7_farthest_2 (by decide) ?_
  refine j_istore (lv' := [(4, .int (1 : Int32)), (3, .int (0 : Int32)), (0, .ref a0), (1, .int a1), (2, .int a2)]) hX eX7_farthest_3 (by decide) rfl ?_
  exact j_sub [2, 3, 4, 1, 0] rfl (k5 _ _ _ _ _ _ h)
set_option maxHeartbeats 4000000 in
set_option maxRecDepth 20000 in
theorem vX7_farthest_5 {X : am_Cx} {G : am_Gx} {d : Nat} {Q : am_Q} (hX : am_ok X rX7_farthest G (d + 1)) (hM : am_me X rX7_farthest Q) {bc bs : Nat} (R5 : Nat → Int32 → Int32 → Int32 → Int32 → am_Hp → Prop) (k5 : ∀ (x0 : Nat) (x1 : Int32) (x2 : Int32) (x3 : Int32) (x4 : Int32) (M : am_Hp), R5 x0 x1 x2 x3 x4 M → am_J X 5 [(0, .ref x0), (1, .int x1), (2, .int x2), (3, .int x3), (4, .int x4)] [] M bc bs) {a0 : Nat} {a1 : Int32} {a2 : Int32} {a3 : Int32} {a4 : Int32} {M : am_Hp} (h : (((10 : Int32) ≤ a4) → (Q (.inl (some (.int a3))) M)) ∧ (¬ ((10 : Int32) ≤ a4) → (hp_T M (a0) = 8 ∧ (hp_R M 140 a0 ≠ 0 ∧ (∀ p4 : Nat, p4 = hp_R M 140 a0 → (hp_T M (p4) = 22 ∧ (vp_in ((9 : Int32) + a1) (hp_N M p4) ∧ (∀ v7 : Int32, v7 = ((hp_E M p4 (((9 : Int32) + a1)).toNatClampNeg) + (a2 * a4)) → (am_CT G d rX7_isFloor [.int v7] M 0 0 (fun oz9 M8 => ∃ v9 : Int32, oz9 = .inl (some (.int v9)) ∧ (((v9 = 0) → (∀ v11 : Int32, v11 = a4 + (1 : Int32) → (R5 a0 a1 a2 a3 v11 M8))) ∧ (¬ (v9 = 0) → (hp_T M8 (a0) = 8 ∧ (am_CT G d rX7_stopsAt [.ref a0, .int a1, .int v7] M8 0 0 (fun oz9 M12 => ∃ v13 : Int32, oz9 = .inl (some (.int v13)) ∧ (((v13 = 0) → (∀ v16 : Int32, v16 = a4 + (1 : Int32) → (R5 a0 a1 a2 a3 v16 M12))) ∧ (¬ (v13 = 0) → (∀ v17 : Int32, v17 = a4 + (1 : Int32) → (R5 a0 a1 a2 a4 v17 M12))))))))))))))))))) : am_J X 5 [(0, .ref a0), (1, .int a1), (2, .int a2), (3, .int a3), (4, .int a4)] [] M bc bs := by
  refine j_iload hX eX7_farthest_5 4 rfl ?_
  refine j_bipush (v := (10 : Int32)) hX eX7_farthest_7 (by decide) ?_
  refine j_icmp_ge hX 59 eX7_farthest_9 (by decide) (fun c1 => ?_) (fun c1 => ?_)
  · replace h := h.1 c1
    refine j_iload_n hX eX7_farthest_59 3 rfl ?_
    exact j_iret hX hM eX7_farthest_60 rfl h
  · replace h := h.2 c1
    refine j_aload_n hX eX7_farthest_12 0 rfl ?_
    obtain ⟨t2, h⟩ := h
    obtain ⟨z3, h⟩ := h
    refine j_getR hX eX7_farthest_13 ff_LiftGroupModel_7 rfl t2 (by decide) z3 ?_
    refine j_nmR (fun p4 ep4 => ?_)
    replace h := h p4 ep4
    refine j_bipush (v := (9 : Int32)) hX eX7_farthest_16 (by decide) ?_
    refine j_iload_n hX eX7_farthest_18 1 rfl ?_
    refine j_iadd hX eX7_farthest_19 ?_
    obtain ⟨t5, h⟩ := h
    obtain ⟨i6, h⟩ := h
    refine j_iald hX eX7_farthest_20 t5 i6 ?_
    refine j_iload_n hX eX7_farthest_21 2 rfl ?_
    refine j_iload hX eX7_farthest_22 4 rfl ?_
    refine j_imul hX eX7_farthest_24 ?_
    refine j_iadd hX eX7_farthest_25 ?_
    refine j_nmI (fun v7 ev7 => ?_)
    replace h := h v7 ev7
    refine j_istore (lv' := [(5, .int v7), (0, .ref a0), (1, .int a1), (2, .int a2), (3, .int a3), (4, .int a4)]) hX eX7_farthest_26 (by decide) rfl ?_
    refine j_iload hX eX7_farthest_28 0 rfl ?_
    refine j_callS (r' := rX7_isFloor) (As := [.int v7]) (rest := []) (d1 := d) hX eX7_farthest_30 mm_LiftGroupModel_63 rfl rfl h rfl (Nat.le_refl _) (Nat.zero_le _) (Nat.zero_le _) (Nat.le_of_ble_eq_true rfl) (fun vz9 Mz9 qz9 => ?_) (fun Ez9 Mz9 qz9 => ?_)
    · obtain ⟨M8, eMz9⟩ : ∃ M8, M8 = Mz9 := ⟨_, rfl⟩; subst eMz9
      obtain ⟨v9, hxz9, h⟩ := qz9
      cases hxz9
      refine j_if_eq hX 51 eX7_farthest_33 (by decide) (fun c10 => ?_) (fun c10 => ?_)
      · replace h := h.1 c10
        refine j_iload_n hX eX7_farthest_51 4 rfl ?_
        refine j_istore_n (lv' := [(3, .int a3), (5, .int v7), (0, .ref a0), (1, .int a1), (2, .int a2), (4, .int a4)]) hX eX7_farthest_52 rfl (by decide) rfl ?_
        obtain ⟨v11, ev11⟩ : ∃ v11 : Int32, v11 = a4 + (1 : Int32) := ⟨_, rfl⟩
        replace h := h v11 ev11
        refine j_iinc (v := v11) (lv' := [(4, .int v11), (3, .int a3), (5, .int v7), (0, .ref a0), (1, .int a1), (2, .int a2)]) hX eX7_farthest_53 5 rfl (by rw [ev11]; rfl) (by decide) rfl ?_
        refine j_goto hX 5 eX7_farthest_56 (by decide) ?_
        exact j_sub [3, 4, 5, 1, 0] rfl (k5 _ _ _ _ _ _ h)
      · replace h := h.2 c10
        refine j_aload_n hX eX7_farthest_36 1 rfl ?_
        refine j_iload_n hX eX7_farthest_37 2 rfl ?_
        refine j_iload hX eX7_farthest_38 0 rfl ?_
        obtain ⟨t14, h⟩ := h
        refine j_callV (a := a0) (q := (RX7, TX7, 17)) (r' := rX7_stopsAt) (As := [.int a1, .int v7]) (rest := []) (d1 := d) hX eX7_farthest_40 mm_LiftGroupModel_67 rfl t14 (by decide) rfl h rfl (Nat.le_refl _) (Nat.zero_le _) (Nat.zero_le _) (Nat.le_of_ble_eq_true rfl) (fun vz9 Mz9 qz9 => ?_) (fun Ez9 Mz9 qz9 => ?_)
        · obtain ⟨M12, eMz9⟩ : ∃ M12, M12 = Mz9 := ⟨_, rfl⟩; subst eMz9
          obtain ⟨v13, hxz9, h⟩ := qz9
          cases hxz9
          refine j_if_eq hX 51 eX7_farthest_43 (by decide) (fun c15 => ?_) (fun c15 => ?_)
          · replace h := h.1 c15
            refine j_iload_n hX eX7_farthest_51 4 rfl ?_
            refine j_istore_n (lv' := [(3, .int a3), (5, .int v7), (0, .ref a0), (1, .int a1), (2, .int a2), (4, .int a4)]) hX eX7_farthest_52 rfl (by decide) rfl ?_
            obtain ⟨v16, ev16⟩ : ∃ v16 : Int32, v16 = a4 + (1 : Int32) := ⟨_, rfl⟩
            replace h := h v16 ev16
            refine j_iinc (v := v16) (lv' := [(4, .int v16), (3, .int a3), (5, .int v7), (0, .ref a0), (1, .int a1), (2, .int a2)]) hX eX7_farthest_53 5 rfl (by rw [ev16]; rfl) (by decide) rfl ?_
            refine j_goto hX 5 eX7_farthest_56 (by decide) ?_
            exact j_sub [3, 4, 5, 1, 0] rfl (k5 _ _ _ _ _ _ h)
          · replace h := h.2 c15
            refine j_iload hX eX7_farthest_46 5 rfl ?_
            refine j_goto hX 52 eX7_farthest_48 (by decide) ?_
            refine j_istore_n (lv' := [(3, .int a4), (5, .int v7), (0, .ref a0), (1, .int a1), (2, .int a2), (4, .int a4)]) hX eX7_farthest_52 rfl (by decide) rfl ?_
            obtain ⟨v17, ev17⟩ : ∃ v17 : Int32, v17 = a4 + (1 : Int32) := ⟨_, rfl⟩
            replace h := h v17 ev17
            refine j_iinc (v := v17) (lv' := [(4, .int v17), (3, .int a4), (5, .int v7), (0, .ref a0), (1, .int a1), (2, .int a2)]) hX eX7_farthest_53 5 rfl (by rw [ev17]; rfl) (by decide) rfl ?_
            refine j_goto hX 5 eX7_farthest_56 (by decide) ?_
            exact j_sub [3, 4, 5, 1, 0] rfl (k5 _ _ _ _ _ _ h)
        · obtain ⟨v13, hxz9, h⟩ := qz9
          cases hxz9
    · obtain ⟨v9, hxz9, h⟩ := qz9
      cases hxz9

set_option maxHeartbeats 4000000 in
set_option maxRecDepth 20000 in
theorem vX7_estimated_0 {X : am_Cx} {G : am_Gx} {d : Nat} {Q : am_Q} (hX : am_ok X rX7_estimated G (d + 1)) (hM : am_me X rX7_estimated Q) {bc bs : Nat}  {a0 : Nat} {a1 : Int32} {a2 : Int32} {M : am_Hp} (h : hp_T M (a0) = 8 ∧ (hp_R M 140 a0 ≠ 0 ∧ (∀ p3 : Nat, p3 = hp_R M 140 a0 → (hp_T M (p3) = 22 ∧ (vp_in ((9 : Int32) + a1) (hp_N M p3) ∧ (am_CT G d rX7_size [.int (a2 - (hp_E M p3 (((9 : Int32) + a1)).toNatClampNeg))] M 0 0 (fun oz9 M6 => ∃ v7 : Int32, oz9 = .inl (some (.int v7)) ∧ (hp_T M6 (a0) = 8 ∧ (hp_R M6 140 a0 ≠ 0 ∧ (∀ p10 : Nat, p10 = hp_R M6 140 a0 → (hp_T M6 (p10) = 22 ∧ (vp_in ((12 : Int32) + a1) (hp_N M6 p10) ∧ (∀ v13 : Int32, v13 = (hp_E M6 p10 (((12 : Int32) + a1)).toNatClampNeg) → (((v13 = 0) → (am_CT G d rX7_inside [.ref a0, .int a1] M6 0 0 (fun oz9 M15 => ∃ v16 : Int32, oz9 = .inl (some (.int v16)) ∧ ((((0 : Int32) = 0) → (Q (.inl (some (.int ((v16 + v7) + (0 : Int32))))) M15)) ∧ (¬ ((0 : Int32) = 0) → (hp_T M15 (a0) = 8 ∧ (am_CT G d rX7_farthest [.ref a0, .int a1, .int v13] M15 0 0 (fun oz9 M18 => ∃ v19 : Int32, oz9 = .inl (some (.int v19)) ∧ (Q (.inl (some (.int ((v16 + v7) + ((2 : Int32) * v19))))) M18))))))))) ∧ (¬ (v13 = 0) → (hp_R M6 140 a0 ≠ 0 ∧ (∀ p22 : Nat, p22 = hp_R M6 140 a0 → (hp_T M6 (p22) = 22 ∧ (vp_in ((9 : Int32) + a1) (hp_N M6 p22) ∧ (((0 ≤ ((a2 - (hp_E M6 p22 (((9 : Int32) + a1)).toNatClampNeg)) * v13)) → (am_CT G d rX7_inside [.ref a0, .int a1] M6 0 0 (fun oz9 M26 => ∃ v27 : Int32, oz9 = .inl (some (.int v27)) ∧ ((((0 : Int32) = 0) → (Q (.inl (some (.int ((v27 + v7) + (0 : Int32))))) M26)) ∧ (¬ ((0 : Int32) = 0) → (hp_T M26 (a0) = 8 ∧ (am_CT G d rX7_farthest [.ref a0, .int a1, .int v13] M26 0 0 (fun oz9 M29 => ∃ v30 : Int32, oz9 = .inl (some (.int v30)) ∧ (Q (.inl (some (.int ((v27 + v7) + ((2 : Int32) * v30))))) M29))))))))) ∧ (¬ (0 ≤ ((a2 - (hp_E M6 p22 (((9 : Int32) + a1)).toNatClampNeg)) * v13)) → (am_CT G d rX7_inside [.ref a0, .int a1] M6 0 0 (fun oz9 M32 => ∃ v33 : Int32, oz9 = .inl (some (.int v33)) ∧ ((((1 : Int32) = 0) → (Q (.inl (some (.int ((v33 + v7) + (0 : Int32))))) M32)) ∧ (¬ ((1 : Int32) = 0) → (hp_T M32 (a0) = 8 ∧ (am_CT G d rX7_farthest [.ref a0, .int a1, .int v13] M32 0 0 (fun oz9 M35 => ∃ v36 : Int32, oz9 = .inl (some (.int v36)) ∧ (Q (.inl (some (.int ((v33 + v7) + ((2 : Int32) * v36))))) M35))))))))))))))))))))))))))))) : am_J X 0 [(0, .ref a0), (1, .int a1), (2, .int a2)] [] M bc bs := by
  refine j_iload_n hX eX7_estimated_0 2 rfl ?_
  refine j_aload_n hX eX7_estimated_1 0 rfl ?_
  obtain ⟨t1, h⟩ := h
  obtain ⟨z2, h⟩ := h
  refine j_getR hX eX7_estimated_2 ff_LiftGroupModel_7 rfl t1 (by decide) z2 ?_
  refine j_nmR (fun p3 ep3 => ?_)
  replace h := h p3 ep3
  refine j_bipush (v := (9 : Int32)) hX eX7_estimated_5 (by decide) ?_
  refine j_iload_n hX eX7_estimated_7 1 rfl ?_
  refine j_iadd hX eX7_estimated_8 ?_
  obtain ⟨t4, h⟩ := h
  obtain ⟨i5, h⟩ := h
  refine j_iald hX eX7_estimated_9 t4 i5 ?_
  refine j_isub hX eX7_estimated_10 ?_
  refine j_callS (r' := rX7_size) (As := [.int (a2 - (hp_E M p3 (((9 : Int32) + a1)).toNatClampNeg))]) (rest := []) (d1 := d) hX eX7_estimated_11 mm_LiftGroupModel_70 rfl rfl h rfl (Nat.le_refl _) (Nat.zero_le _) (Nat.zero_le _) (Nat.le_of_ble_eq_true rfl) (fun vz9 Mz9 qz9 => ?_) (fun Ez9 Mz9 qz9 => ?_)
  · obtain ⟨M6, eMz9⟩ : ∃ M6, M6 = Mz9 := ⟨_, rfl⟩; subst eMz9
    obtain ⟨v7, hxz9, h⟩ := qz9
    cases hxz9
    refine j_istore_n (lv' := [(3, .int v7), (0, .ref a0), (1, .int a1), (2, .int a2)]) hX eX7_estimated_14 rfl (by decide) rfl ?_
    refine j_aload_n hX eX7_estimated_15 1 rfl ?_
    obtain ⟨t8, h⟩ := h
    obtain ⟨z9, h⟩ := h
    refine j_getR hX eX7_estimated_16 ff_LiftGroupModel_7 rfl t8 (by decide) z9 ?_
    refine j_nmR (fun p10 ep10 => ?_)
    replace h := h p10 ep10
    refine j_bipush (v := (12 : Int32)) hX eX7_estimated_19 (by decide) ?_
    refine j_iload_n hX eX7_estimated_21 2 rfl ?_
    refine j_iadd hX eX7_estimated_22 ?_
    obtain ⟨t11, h⟩ := h
    obtain ⟨i12, h⟩ := h
    refine j_iald hX eX7_estimated_23 t11 i12 ?_
    refine j_nmI (fun v13 ev13 => ?_)
    replace h := h v13 ev13
    refine j_istore (lv' := [(4, .int v13), (3, .int v7), (0, .ref a0), (1, .int a1), (2, .int a2)]) hX eX7_estimated_24 (by decide) rfl ?_
    refine j_iload hX eX7_estimated_26 0 rfl ?_
    refine j_if_eq hX 52 eX7_estimated_28 (by decide) (fun c14 => ?_) (fun c14 => ?_)
    · replace h := h.1 c14
      refine j_iconst (v := (0 : Int32)) hX eX7_estimated_52 (by decide) ?_
      refine j_istore (lv' := [(5, .int (0 : Int32)), (4, .int v13), (3, .int v7), (0, .ref a0), (1, .int a1), (2, .int a2)]) hX eX7_estimated_53 (by decide) rfl ?_
      refine j_aload_n hX eX7_estimated_55 3 rfl ?_
      refine j_iload_n hX eX7_estimated_56 4 rfl ?_
      refine j_callV (a := a0) (q := (RX7, TX7, 17)) (r' := rX7_inside) (As := [.int a1]) (rest := []) (d1 := d) hX eX7_estimated_57 mm_LiftGroupModel_74 rfl t8 (by decide) rfl h rfl (Nat.le_refl _) (Nat.zero_le _) (Nat.zero_le _) (Nat.le_of_ble_eq_true rfl) (fun vz9 Mz9 qz9 => ?_) (fun Ez9 Mz9 qz9 => ?_)
      · obtain ⟨M15, eMz9⟩ : ∃ M15, M15 = Mz9 := ⟨_, rfl⟩; subst eMz9
        obtain ⟨v16, hxz9, h⟩ := qz9
        cases hxz9
        refine j_iload_n hX eX7_estimated_60 2 rfl ?_
        refine j_iadd hX eX7_estimated_61 ?_
        refine j_iload hX eX7_estimated_62 0 rfl ?_
        refine j_if_eq hX 79 eX7_estimated_64 (by decide) (fun c17 => ?_) (fun c17 => ?_)
        · replace h := h.1 c17
          refine j_iconst (v := (0 : Int32)) hX eX7_estimated_79 (by decide) ?_
          refine j_iadd hX eX7_estimated_80 ?_
          exact j_iret hX hM eX7_estimated_81 rfl h
        · replace h := h.2 c17
          refine j_iconst (v := (2 : Int32)) hX eX7_estimated_67 (by decide) ?_
          refine j_aload_n hX eX7_estimated_68 3 rfl ?_
          refine j_iload_n hX eX7_estimated_69 4 rfl ?_
          refine j_iload hX eX7_estimated_70 1 rfl ?_
          obtain ⟨t20, h⟩ := h
          refine j_callV (a := a0) (q := (RX7, TX7, 17)) (r' := rX7_farthest) (As := [.int a1, .int v13]) (rest := [.int (2 : Int32), .int (v16 + v7)]) (d1 := d) hX eX7_estimated_72 mm_LiftGroupModel_77 rfl t20 (by decide) rfl h rfl (Nat.le_refl _) (Nat.zero_le _) (Nat.zero_le _) (Nat.le_of_ble_eq_true rfl) (fun vz9 Mz9 qz9 => ?_) (fun Ez9 Mz9 qz9 => ?_)
          · obtain ⟨M18, eMz9⟩ : ∃ M18, M18 = Mz9 := ⟨_, rfl⟩; subst eMz9
            obtain ⟨v19, hxz9, h⟩ := qz9
            cases hxz9
            refine j_imul hX eX7_estimated_75 ?_
            refine j_goto hX 80 eX7_estimated_76 (by decide) ?_
            refine j_iadd hX eX7_estimated_80 ?_
            exact j_iret hX hM eX7_estimated_81 rfl h
          · obtain ⟨v19, hxz9, h⟩ := qz9
            cases hxz9
      · obtain ⟨v16, hxz9, h⟩ := qz9
        cases hxz9
    · replace h := h.2 c14
      refine j_iload_n hX eX7_estimated_31 4 rfl ?_
      refine j_aload_n hX eX7_estimated_32 2 rfl ?_
      obtain ⟨z21, h⟩ := h
      refine j_getR hX eX7_estimated_33 ff_LiftGroupModel_7 rfl t8 (by decide) z21 ?_
      refine j_nmR (fun p22 ep22 => ?_)
      replace h := h p22 ep22
      refine j_bipush (v := (9 : Int32)) hX eX7_estimated_36 (by decide) ?_
      refine j_iload_n hX eX7_estimated_38 3 rfl ?_
      refine j_iadd hX eX7_estimated_39 ?_
      obtain ⟨t23, h⟩ := h
      obtain ⟨i24, h⟩ := h
      refine j_iald hX eX7_estimated_40 t23 i24 ?_
      refine j_isub hX eX7_estimated_41 ?_
      refine j_iload hX eX7_estimated_42 0 rfl ?_
      refine j_imul hX eX7_estimated_44 ?_
      refine j_if_ge hX 52 eX7_estimated_45 (by decide) (fun c25 => ?_) (fun c25 => ?_)
      · replace h := h.1 c25
        refine j_iconst (v := (0 : Int32)) hX eX7_estimated_52 (by decide) ?_
        refine j_istore (lv' := [(5, .int (0 : Int32)), (4, .int v13), (3, .int v7), (0, .ref a0), (1, .int a1), (2, .int a2)]) hX eX7_estimated_53 (by decide) rfl ?_
        refine j_aload_n hX eX7_estimated_55 3 rfl ?_
        refine j_iload_n hX eX7_estimated_56 4 rfl ?_
        refine j_callV (a := a0) (q := (RX7, TX7, 17)) (r' := rX7_inside) (As := [.int a1]) (rest := []) (d1 := d) hX eX7_estimated_57 mm_LiftGroupModel_74 rfl t8 (by decide) rfl h rfl (Nat.le_refl _) (Nat.zero_le _) (Nat.zero_le _) (Nat.le_of_ble_eq_true rfl) (fun vz9 Mz9 qz9 => ?_) (fun Ez9 Mz9 qz9 => ?_)
        · obtain ⟨M26, eMz9⟩ : ∃ M26, M26 = Mz9 := ⟨_, rfl⟩; subst eMz9
          obtain ⟨v27, hxz9, h⟩ := qz9
          cases hxz9
          refine j_iload_n hX eX7_estimated_60 2 rfl ?_
          refine j_iadd hX eX7_estimated_61 ?_
          refine j_iload hX eX7_estimated_62 0 rfl ?_
          refine j_if_eq hX 79 eX7_estimated_64 (by decide) (fun c28 => ?_) (fun c28 => ?_)
          · replace h := h.1 c28
            refine j_iconst (v := (0 : Int32)) hX eX7_estimated_79 (by decide) ?_
            refine j_iadd hX eX7_estimated_80 ?_
            exact j_iret hX hM eX7_estimated_81 rfl h
          · replace h := h.2 c28
            refine j_iconst (v := (2 : Int32)) hX eX7_estimated_67 (by decide) ?_
            refine j_aload_n hX eX7_estimated_68 3 rfl ?_
            refine j_iload_n hX eX7_estimated_69 4 rfl ?_
            refine j_iload hX eX7_estimated_70 1 rfl ?_
            obtain ⟨t31, h⟩ := h
            refine j_callV (a := a0) (q := (RX7, TX7, 17)) (r' := rX7_farthest) (As := [.int a1, .int v13]) (rest := [.int (2 : Int32), .int (v27 + v7)]) (d1 := d) hX eX7_estimated_72 mm_LiftGroupModel_77 rfl t31 (by decide) rfl h rfl (Nat.le_refl _) (Nat.zero_le _) (Nat.zero_le _) (Nat.le_of_ble_eq_true rfl) (fun vz9 Mz9 qz9 => ?_) (fun Ez9 Mz9 qz9 => ?_)
            · obtain ⟨M29, eMz9⟩ : ∃ M29, M29 = Mz9 := ⟨_, rfl⟩; subst eMz9
              obtain ⟨v30, hxz9, h⟩ := qz9
              cases hxz9
              refine j_imul hX eX7_estimated_75 ?_
              refine j_goto hX 80 eX7_estimated_76 (by decide) ?_
              refine j_iadd hX eX7_estimated_80 ?_
              exact j_iret hX hM eX7_estimated_81 rfl h
            · obtain ⟨v30, hxz9, h⟩ := qz9
              cases hxz9
        · obtain ⟨v27, hxz9, h⟩ := qz9
          cases hxz9
      · replace h := h.2 c25
        refine j_iconst (v := (1 : Int32)) hX eX7_estimated_48 (by decide) ?_
        refine j_goto hX 53 eX7_estimated_49 (by decide) ?_
        refine j_istore (lv' := [(5, .int (1 : Int32)), (4, .int v13), (3, .int v7), (0, .ref a0), (1, .int a1), (2, .int a2)]) hX eX7_estimated_53 (by decide) rfl ?_
        refine j_aload_n hX eX7_estimated_55 3 rfl ?_
        refine j_iload_n hX eX7_estimated_56 4 rfl ?_
        refine j_callV (a := a0) (q := (RX7, TX7, 17)) (r' := rX7_inside) (As := [.int a1]) (rest := []) (d1 := d) hX eX7_estimated_57 mm_LiftGroupModel_74 rfl t8 (by decide) rfl h rfl (Nat.le_refl _) (Nat.zero_le _) (Nat.zero_le _) (Nat.le_of_ble_eq_true rfl) (fun vz9 Mz9 qz9 => ?_) (fun Ez9 Mz9 qz9 => ?_)
        · obtain ⟨M32, eMz9⟩ : ∃ M32, M32 = Mz9 := ⟨_, rfl⟩; subst eMz9
          obtain ⟨v33, hxz9, h⟩ := qz9
          cases hxz9
          refine j_iload_n hX eX7_estimated_60 2 rfl ?_
          refine j_iadd hX eX7_estimated_61 ?_
          refine j_iload hX eX7_estimated_62 0 rfl ?_
          refine j_if_eq hX 79 eX7_estimated_64 (by decide) (fun c34 => ?_) (fun c34 => ?_)
          · replace h := h.1 c34
            refine j_iconst (v := (0 : Int32)) hX eX7_estimated_79 (by decide) ?_
            refine j_iadd hX eX7_estimated_80 ?_
            exact j_iret hX hM eX7_estimated_81 rfl h
          · replace h := h.2 c34
            refine j_iconst (v := (2 : Int32)) hX eX7_estimated_67 (by decide) ?_
            refine j_aload_n hX eX7_estimated_68 3 rfl ?_
            refine j_iload_n hX eX7_estimated_69 4 rfl ?_
            refine j_iload hX eX7_estimated_70 1 rfl ?_
            obtain ⟨t37, h⟩ := h
            refine j_callV (a := a0) (q := (RX7, TX7, 17)) (r' := rX7_farthest) (As := [.int a1, .int v13]) (rest := [.int (2 : Int32), .int (v33 + v7)]) (d1 := d) hX eX7_estimated_72 mm_LiftGroupModel_77 rfl t37 (by decide) rfl h rfl (Nat.le_refl _) (Nat.zero_le _) (Nat.zero_le _) (Nat.le_of_ble_eq_true rfl) (fun vz9 Mz9 qz9 => ?_) (fun Ez9 Mz9 qz9 => ?_)
            · obtain ⟨M35, eMz9⟩ : ∃ M35, M35 = Mz9 := ⟨_, rfl⟩; subst eMz9
              obtain ⟨v36, hxz9, h⟩ := qz9
              cases hxz9
              refine j_imul hX eX7_estimated_75 ?_
              refine j_goto hX 80 eX7_estimated_76 (by decide) ?_
              refine j_iadd hX eX7_estimated_80 ?_
              exact j_iret hX hM eX7_estimated_81 rfl h
            · obtain ⟨v36, hxz9, h⟩ := qz9
              cases hxz9
        · obtain ⟨v33, hxz9, h⟩ := qz9
          cases hxz9
  · obtain ⟨v7, hxz9, h⟩ := qz9
    cases hxz9

set_option maxHeartbeats 4000000 in
set_option maxRecDepth 20000 in
theorem vX7_best_0 {X : am_Cx} {G : am_Gx} {d : Nat} {Q : am_Q} (hX : am_ok X rX7_best G (d + 1)) (hM : am_me X rX7_best Q) {bc bs : Nat} (R5 : Nat → Int32 → Int32 → Int32 → Int32 → am_Hp → Prop) (k5 : ∀ (x0 : Nat) (x1 : Int32) (x2 : Int32) (x3 : Int32) (x4 : Int32) (M : am_Hp), R5 x0 x1 x2 x3 x4 M → am_J X 5 [(0, .ref x0), (1, .int x1), (2, .int x2), (3, .int x3), (4, .int x4)] [] M bc bs) {a0 : Nat} {a1 : Int32} {a2 : Int32} {M : am_Hp} (h : R5 a0 a1 a2 (-1 : Int32) (0 : Int32) M) : am_J X 0 [(0, .ref a0), (1, .int a1), (2, .int a2)] [] M bc bs := by
  refine j_iconst (v := (-1 : Int32)) hX eX7_best_0 (by decide) ?_
  refine j_istore_n (lv' := [(3, .int (-1 : Int32)), (0, .ref a0), (1, .int a1), (2, .int a2)]) hX eX7_best_1 rfl (by decide) rfl ?_
  refine j_iconst (v := (0 : Int32)) hX eX7_best_2 (by decide) ?_
  refine j_istore (lv' := [(4, .int (0 : Int32)), (3, .int (-1 : Int32)), (0, .ref a0), (1, .int a1), (2, .int a2)]) hX eX7_best_3 (by decide) rfl ?_
  exact j_sub [2, 3, 4, 1, 0] rfl (k5 _ _ _ _ _ _ h)
set_option maxHeartbeats 4000000 in
set_option maxRecDepth 20000 in
theorem vX7_best_5 {X : am_Cx} {G : am_Gx} {d : Nat} {Q : am_Q} (hX : am_ok X rX7_best G (d + 1)) (hM : am_me X rX7_best Q) {bc bs : Nat} (R5 : Nat → Int32 → Int32 → Int32 → Int32 → am_Hp → Prop) (k5 : ∀ (x0 : Nat) (x1 : Int32) (x2 : Int32) (x3 : Int32) (x4 : Int32) (M : am_Hp), R5 x0 x1 x2 x3 x4 M → am_J X 5 [(0, .ref x0), (1, .int x1), (2, .int x2), (3, .int x3), (4, .int x4)] [] M bc bs) {a0 : Nat} {a1 : Int32} {a2 : Int32} {a3 : Int32} {a4 : Int32} {M : am_Hp} (h : (((3 : Int32) ≤ a4) → (Q (.inl (some (.int a3))) M)) ∧ (¬ ((3 : Int32) ≤ a4) → (hp_T M (a0) = 8 ∧ (hp_R M 140 a0 ≠ 0 ∧ (∀ p4 : Nat, p4 = hp_R M 140 a0 → (hp_T M (p4) = 22 ∧ (vp_in ((21 : Int32) + a4) (hp_N M p4) ∧ ((((hp_E M p4 (((21 : Int32) + a4)).toNatClampNeg) = 0) → (am_CT G d rX7_loadOf [.ref a0, .int a4] M 0 0 (fun oz9 M9 => ∃ v10 : Int32, oz9 = .inl (some (.int v10)) ∧ (hp_T M9 (a0) = 8 ∧ (hp_R M9 140 a0 ≠ 0 ∧ (∀ p13 : Nat, p13 = hp_R M9 140 a0 → (hp_T M9 (p13) = 22 ∧ (vp_in ((15 : Int32) + a4) (hp_N M9 p13) ∧ ((((hp_E M9 p13 (((15 : Int32) + a4)).toNatClampNeg) < (v10 + a2)) → (∀ v17 : Int32, v17 = a4 + (1 : Int32) → (R5 a0 a1 a2 a3 v17 M9))) ∧ (¬ ((hp_E M9 p13 (((15 : Int32) + a4)).toNatClampNeg) < (v10 + a2)) → (((a3 = (-1 : Int32)) → (∀ v19 : Int32, v19 = a4 + (1 : Int32) → (R5 a0 a1 a2 a4 v19 M9))) ∧ (¬ (a3 = (-1 : Int32)) → (am_CT G d rX7_estimated [.ref a0, .int a4, .int a1] M9 0 0 (fun oz9 M20 => ∃ v21 : Int32, oz9 = .inl (some (.int v21)) ∧ (hp_T M20 (a0) = 8 ∧ (am_CT G d rX7_estimated [.ref a0, .int a3, .int a1] M20 0 0 (fun oz9 M22 => ∃ v23 : Int32, oz9 = .inl (some (.int v23)) ∧ (((v23 ≤ v21) → (∀ v26 : Int32, v26 = a4 + (1 : Int32) → (R5 a0 a1 a2 a3 v26 M22))) ∧ (¬ (v23 ≤ v21) → (∀ v27 : Int32, v27 = a4 + (1 : Int32) → (R5 a0 a1 a2 a4 v27 M22))))))))))))))))))))) ∧ (¬ ((hp_E M p4 (((21 : Int32) + a4)).toNatClampNeg) = 0) → (∀ v8 : Int32, v8 = a4 + (1 : Int32) → (R5 a0 a1 a2 a3 v8 M))))))))))) : am_J X 5 [(0, .ref a0), (1, .int a1), (2, .int a2), (3, .int a3), (4, .int a4)] [] M bc bs := by
  refine j_iload hX eX7_best_5 4 rfl ?_
  refine j_iconst (v := (3 : Int32)) hX eX7_best_7 (by decide) ?_
  refine j_icmp_ge hX 79 eX7_best_8 (by decide) (fun c1 => ?_) (fun c1 => ?_)
  · replace h := h.1 c1
    refine j_iload_n hX eX7_best_79 3 rfl ?_
    exact j_iret hX hM eX7_best_80 rfl h
  · replace h := h.2 c1
    refine j_aload_n hX eX7_best_11 0 rfl ?_
    obtain ⟨t2, h⟩ := h
    obtain ⟨z3, h⟩ := h
    refine j_getR hX eX7_best_12 ff_LiftGroupModel_7 rfl t2 (by decide) z3 ?_
    refine j_nmR (fun p4 ep4 => ?_)
    replace h := h p4 ep4
    refine j_bipush (v := (21 : Int32)) hX eX7_best_15 (by decide) ?_
    refine j_iload hX eX7_best_17 4 rfl ?_
    refine j_iadd hX eX7_best_19 ?_
    obtain ⟨t5, h⟩ := h
    obtain ⟨i6, h⟩ := h
    refine j_iald hX eX7_best_20 t5 i6 ?_
    refine j_if_ne hX 73 eX7_best_21 (by decide) (fun c7 => ?_) (fun c7 => ?_)
    · replace h := h.2 c7
      obtain ⟨v8, ev8⟩ : ∃ v8 : Int32, v8 = a4 + (1 : Int32) := ⟨_, rfl⟩
      replace h := h v8 ev8
      refine j_iinc (v := v8) (lv' := [(4, .int v8), (0, .ref a0), (1, .int a1), (2, .int a2), (3, .int a3)]) hX eX7_best_73 4 rfl (by rw [ev8]; rfl) (by decide) rfl ?_
      refine j_goto hX 5 eX7_best_76 (by decide) ?_
      exact j_sub [1, 2, 3, 4, 0] rfl (k5 _ _ _ _ _ _ h)
    · replace h := h.1 c7
      refine j_aload_n hX eX7_best_24 0 rfl ?_
      refine j_iload hX eX7_best_25 4 rfl ?_
      refine j_callV (a := a0) (q := (RX7, TX7, 17)) (r' := rX7_loadOf) (As := [.int a4]) (rest := []) (d1 := d) hX eX7_best_27 mm_LiftGroupModel_81 rfl t2 (by decide) rfl h rfl (Nat.le_refl _) (Nat.zero_le _) (Nat.zero_le _) (Nat.le_of_ble_eq_true rfl) (fun vz9 Mz9 qz9 => ?_) (fun Ez9 Mz9 qz9 => ?_)
      · obtain ⟨M9, eMz9⟩ : ∃ M9, M9 = Mz9 := ⟨_, rfl⟩; subst eMz9
        obtain ⟨v10, hxz9, h⟩ := qz9
        cases hxz9
        refine j_iload_n hX eX7_best_30 2 rfl ?_
        refine j_iadd hX eX7_best_31 ?_
        refine j_aload_n hX eX7_best_32 0 rfl ?_
        obtain ⟨t11, h⟩ := h
        obtain ⟨z12, h⟩ := h
        refine j_getR hX eX7_best_33 ff_LiftGroupModel_7 rfl t11 (by decide) z12 ?_
        refine j_nmR (fun p13 ep13 => ?_)
        replace h := h p13 ep13
        refine j_bipush (v := (15 : Int32)) hX eX7_best_36 (by decide) ?_
        refine j_iload hX eX7_best_38 4 rfl ?_
        refine j_iadd hX eX7_best_40 ?_
        obtain ⟨t14, h⟩ := h
        obtain ⟨i15, h⟩ := h
        refine j_iald hX eX7_best_41 t14 i15 ?_
        refine j_icmp_gt hX 73 eX7_best_42 (by decide) (fun c16 => ?_) (fun c16 => ?_)
        · replace h := h.1 c16
          obtain ⟨v17, ev17⟩ : ∃ v17 : Int32, v17 = a4 + (1 : Int32) := ⟨_, rfl⟩
          replace h := h v17 ev17
          refine j_iinc (v := v17) (lv' := [(4, .int v17), (0, .ref a0), (1, .int a1), (2, .int a2), (3, .int a3)]) hX eX7_best_73 4 rfl (by rw [ev17]; rfl) (by decide) rfl ?_
          refine j_goto hX 5 eX7_best_76 (by decide) ?_
          exact j_sub [1, 2, 3, 4, 0] rfl (k5 _ _ _ _ _ _ h)
        · replace h := h.2 c16
          refine j_iload_n hX eX7_best_45 3 rfl ?_
          refine j_iconst (v := (-1 : Int32)) hX eX7_best_46 (by decide) ?_
          refine j_icmp_eq hX 66 eX7_best_47 (by decide) (fun c18 => ?_) (fun c18 => ?_)
          · replace h := h.1 c18
            refine j_iload hX eX7_best_66 4 rfl ?_
            refine j_goto hX 72 eX7_best_68 (by decide) ?_
            refine j_istore_n (lv' := [(3, .int a4), (0, .ref a0), (1, .int a1), (2, .int a2), (4, .int a4)]) hX eX7_best_72 rfl (by decide) rfl ?_
            obtain ⟨v19, ev19⟩ : ∃ v19 : Int32, v19 = a4 + (1 : Int32) := ⟨_, rfl⟩
            replace h := h v19 ev19
            refine j_iinc (v := v19) (lv' := [(4, .int v19), (3, .int a4), (0, .ref a0), (1, .int a1), (2, .int a2)]) hX eX7_best_73 4 rfl (by rw [ev19]; rfl) (by decide) rfl ?_
            refine j_goto hX 5 eX7_best_76 (by decide) ?_
            exact j_sub [2, 3, 4, 1, 0] rfl (k5 _ _ _ _ _ _ h)
          · replace h := h.2 c18
            refine j_aload_n hX eX7_best_50 0 rfl ?_
            refine j_iload hX eX7_best_51 4 rfl ?_
            refine j_iload_n hX eX7_best_53 1 rfl ?_
            refine j_callV (a := a0) (q := (RX7, TX7, 17)) (r' := rX7_estimated) (As := [.int a4, .int a1]) (rest := []) (d1 := d) hX eX7_best_54 mm_LiftGroupModel_84 rfl t11 (by decide) rfl h rfl (Nat.le_refl _) (Nat.zero_le _) (Nat.zero_le _) (Nat.le_of_ble_eq_true rfl) (fun vz9 Mz9 qz9 => ?_) (fun Ez9 Mz9 qz9 => ?_)
            · obtain ⟨M20, eMz9⟩ : ∃ M20, M20 = Mz9 := ⟨_, rfl⟩; subst eMz9
              obtain ⟨v21, hxz9, h⟩ := qz9
              cases hxz9
              refine j_aload_n hX eX7_best_57 0 rfl ?_
              refine j_iload_n hX eX7_best_58 3 rfl ?_
              refine j_iload_n hX eX7_best_59 1 rfl ?_
              obtain ⟨t24, h⟩ := h
              refine j_callV (a := a0) (q := (RX7, TX7, 17)) (r' := rX7_estimated) (As := [.int a3, .int a1]) (rest := [.int v21]) (d1 := d) hX eX7_best_60 mm_LiftGroupModel_84 rfl t24 (by decide) rfl h rfl (Nat.le_refl _) (Nat.zero_le _) (Nat.zero_le _) (Nat.le_of_ble_eq_true rfl) (fun vz9 Mz9 qz9 => ?_) (fun Ez9 Mz9 qz9 => ?_)
              · obtain ⟨M22, eMz9⟩ : ∃ M22, M22 = Mz9 := ⟨_, rfl⟩; subst eMz9
                obtain ⟨v23, hxz9, h⟩ := qz9
                cases hxz9
                refine j_icmp_ge hX 71 eX7_best_63 (by decide) (fun c25 => ?_) (fun c25 => ?_)
                · replace h := h.1 c25
                  refine j_iload_n hX eX7_best_71 3 rfl ?_
                  refine j_istore_n (lv' := [(3, .int a3), (0, .ref a0), (1, .int a1), (2, .int a2), (4, .int a4)]) hX eX7_best_72 rfl (by decide) rfl ?_
                  obtain ⟨v26, ev26⟩ : ∃ v26 : Int32, v26 = a4 + (1 : Int32) := ⟨_, rfl⟩
                  replace h := h v26 ev26
                  refine j_iinc (v := v26) (lv' := [(4, .int v26), (3, .int a3), (0, .ref a0), (1, .int a1), (2, .int a2)]) hX eX7_best_73 4 rfl (by rw [ev26]; rfl) (by decide) rfl ?_
                  refine j_goto hX 5 eX7_best_76 (by decide) ?_
                  exact j_sub [2, 3, 4, 1, 0] rfl (k5 _ _ _ _ _ _ h)
                · replace h := h.2 c25
                  refine j_iload hX eX7_best_66 4 rfl ?_
                  refine j_goto hX 72 eX7_best_68 (by decide) ?_
                  refine j_istore_n (lv' := [(3, .int a4), (0, .ref a0), (1, .int a1), (2, .int a2), (4, .int a4)]) hX eX7_best_72 rfl (by decide) rfl ?_
                  obtain ⟨v27, ev27⟩ : ∃ v27 : Int32, v27 = a4 + (1 : Int32) := ⟨_, rfl⟩
                  replace h := h v27 ev27
                  refine j_iinc (v := v27) (lv' := [(4, .int v27), (3, .int a4), (0, .ref a0), (1, .int a1), (2, .int a2)]) hX eX7_best_73 4 rfl (by rw [ev27]; rfl) (by decide) rfl ?_
                  refine j_goto hX 5 eX7_best_76 (by decide) ?_
                  exact j_sub [2, 3, 4, 1, 0] rfl (k5 _ _ _ _ _ _ h)
              · obtain ⟨v23, hxz9, h⟩ := qz9
                cases hxz9
            · obtain ⟨v21, hxz9, h⟩ := qz9
              cases hxz9
      · obtain ⟨v10, hxz9, h⟩ := qz9
        cases hxz9

set_option maxHeartbeats 4000000 in
set_option maxRecDepth 20000 in
theorem vX7_assigns_0 {X : am_Cx} {G : am_Gx} {d : Nat} {Q : am_Q} (hX : am_ok X rX7_assigns G (d + 1)) (hM : am_me X rX7_assigns Q) {bc bs : Nat}  {a0 : Nat} {a1 : Int32} {M : am_Hp} (h : hp_T M (a0) = 8 ∧ (hp_R M 140 a0 ≠ 0 ∧ (∀ p3 : Nat, p3 = hp_R M 140 a0 → (hp_T M (p3) = 22 ∧ (vp_in ((87 : Int32) + a1) (hp_N M p3) ∧ (∀ M6 : am_Hp, M6 = hp_sE M p3 (((87 : Int32) + a1)).toNatClampNeg (0 : Int32) → (hp_R M6 140 a0 ≠ 0 ∧ (∀ p10 : Nat, p10 = hp_R M6 140 a0 → (hp_R M6 140 a0 ≠ 0 ∧ (∀ p12 : Nat, p12 = hp_R M6 140 a0 → (hp_T M6 (p12) = 22 ∧ (vp_in ((39 : Int32) + a1) (hp_N M6 p12) ∧ (hp_R M6 140 a0 ≠ 0 ∧ (∀ p16 : Nat, p16 = hp_R M6 140 a0 → (hp_T M6 (p16) = 22 ∧ (vp_in ((63 : Int32) + a1) (hp_N M6 p16) ∧ (am_CT G d rX7_best [.ref a0, .int (hp_E M6 p12 (((39 : Int32) + a1)).toNatClampNeg), .int (hp_E M6 p16 (((63 : Int32) + a1)).toNatClampNeg)] M6 0 0 (fun oz9 M19 => ∃ v20 : Int32, oz9 = .inl (some (.int v20)) ∧ (hp_T M19 (p10) = 22 ∧ (vp_in ((87 : Int32) + a1) (hp_N M19 p10) ∧ (∀ M23 : am_Hp, M23 = hp_sE M19 p10 (((87 : Int32) + a1)).toNatClampNeg (v20 + (1 : Int32)) → (Q (.inl none) M23)))))))))))))))))))))) : am_J X 0 [(0, .ref a0), (1, .int a1)] [] M bc bs := by
  refine j_aload_n hX eX7_assigns_0 0 rfl ?_
  obtain ⟨t1, h⟩ := h
  obtain ⟨z2, h⟩ := h
  refine j_getR hX eX7_assigns_1 ff_LiftGroupModel_7 rfl t1 (by decide) z2 ?_
  refine j_nmR (fun p3 ep3 => ?_)
  replace h := h p3 ep3
  refine j_bipush (v := (87 : Int32)) hX eX7_assigns_4 (by decide) ?_
  refine j_iload_n hX eX7_assigns_6 1 rfl ?_
  refine j_iadd hX eX7_assigns_7 ?_
  refine j_iconst (v := (0 : Int32)) hX eX7_assigns_8 (by decide) ?_
  obtain ⟨t4, h⟩ := h
  obtain ⟨i5, h⟩ := h
  refine j_iast hX eX7_assigns_9 t4 i5 ?_
  refine j_nmM (fun M6 eM6 => ?_)
  replace h := h M6 eM6
  have t7 : hp_T M6 (a0) = 8 := by rw [eM6]; exact t1
  have t8 : hp_T M6 (p3) = 22 := by rw [eM6]; exact t4
  refine j_aload_n hX eX7_assigns_10 0 rfl ?_
  obtain ⟨z9, h⟩ := h
  refine j_getR hX eX7_assigns_11 ff_LiftGroupModel_7 rfl t7 (by decide) z9 ?_
  refine j_nmR (fun p10 ep10 => ?_)
  replace h := h p10 ep10
  refine j_bipush (v := (87 : Int32)) hX eX7_assigns_14 (by decide) ?_
  refine j_iload_n hX eX7_assigns_16 1 rfl ?_
  refine j_iadd hX eX7_assigns_17 ?_
  refine j_aload_n hX eX7_assigns_18 0 rfl ?_
  refine j_aload_n hX eX7_assigns_19 0 rfl ?_
  obtain ⟨z11, h⟩ := h
  refine j_getR hX eX7_assigns_20 ff_LiftGroupModel_7 rfl t7 (by decide) z11 ?_
  refine j_nmR (fun p12 ep12 => ?_)
  replace h := h p12 ep12
  refine j_bipush (v := (39 : Int32)) hX eX7_assigns_23 (by decide) ?_
  refine j_iload_n hX eX7_assigns_25 1 rfl ?_
  refine j_iadd hX eX7_assigns_26 ?_
  obtain ⟨t13, h⟩ := h
  obtain ⟨i14, h⟩ := h
  refine j_iald hX eX7_assigns_27 t13 i14 ?_
  refine j_aload_n hX eX7_assigns_28 0 rfl ?_
  obtain ⟨z15, h⟩ := h
  refine j_getR hX eX7_assigns_29 ff_LiftGroupModel_7 rfl t7 (by decide) z15 ?_
  refine j_nmR (fun p16 ep16 => ?_)
  replace h := h p16 ep16
  refine j_bipush (v := (63 : Int32)) hX eX7_assigns_32 (by decide) ?_
  refine j_iload_n hX eX7_assigns_34 1 rfl ?_
  refine j_iadd hX eX7_assigns_35 ?_
  obtain ⟨t17, h⟩ := h
  obtain ⟨i18, h⟩ := h
  refine j_iald hX eX7_assigns_36 t17 i18 ?_
  refine j_callV (a := a0) (q := (RX7, TX7, 17)) (r' := rX7_best) (As := [.int (hp_E M6 p12 (((39 : Int32) + a1)).toNatClampNeg), .int (hp_E M6 p16 (((63 : Int32) + a1)).toNatClampNeg)]) (rest := [.int ((87 : Int32) + a1), .ref p10]) (d1 := d) hX eX7_assigns_37 mm_LiftGroupModel_87 rfl t7 (by decide) rfl h rfl (Nat.le_refl _) (Nat.zero_le _) (Nat.zero_le _) (Nat.le_of_ble_eq_true rfl) (fun vz9 Mz9 qz9 => ?_) (fun Ez9 Mz9 qz9 => ?_)
  · obtain ⟨M19, eMz9⟩ : ∃ M19, M19 = Mz9 := ⟨_, rfl⟩; subst eMz9
    obtain ⟨v20, hxz9, h⟩ := qz9
    cases hxz9
    refine j_iconst (v := (1 : Int32)) hX eX7_assigns_40 (by decide) ?_
    refine j_iadd hX eX7_assigns_41 ?_
    obtain ⟨t21, h⟩ := h
    obtain ⟨i22, h⟩ := h
    refine j_iast hX eX7_assigns_42 t21 i22 ?_
    refine j_nmM (fun M23 eM23 => ?_)
    replace h := h M23 eM23
    have t24 : hp_T M23 (p10) = 22 := by rw [eM23]; exact t21
    exact j_vret hX hM eX7_assigns_43 rfl h
  · obtain ⟨v20, hxz9, h⟩ := qz9
    cases hxz9

set_option maxHeartbeats 4000000 in
set_option maxRecDepth 20000 in
theorem vX7_adds_0 {X : am_Cx} {G : am_Gx} {d : Nat} {Q : am_Q} (hX : am_ok X rX7_adds G (d + 1)) (hM : am_me X rX7_adds Q) {bc bs : Nat}  {a0 : Nat} {a1 : Int32} {a2 : Int32} {a3 : Int32} {M : am_Hp} (h : am_CT G d rX7_isFloor [.int a1] M 0 0 (fun oz9 M1 => ∃ v2 : Int32, oz9 = .inl (some (.int v2)) ∧ (((v2 = 0) → (hp_T M1 (a0) = 8 ∧ (am_CT G d rX7_fails [.ref a0, .int (1 : Int32)] M1 0 0 (fun oz9 M4 => ∃ v5 : Int32, oz9 = .inl (some (.int v5)) ∧ (Q (.inl (some (.int v5))) M4))))) ∧ (¬ (v2 = 0) → (am_CT G d rX7_isFloor [.int a2] M1 0 0 (fun oz9 M7 => ∃ v8 : Int32, oz9 = .inl (some (.int v8)) ∧ (((v8 = 0) → (hp_T M7 (a0) = 8 ∧ (am_CT G d rX7_fails [.ref a0, .int (1 : Int32)] M7 0 0 (fun oz9 M10 => ∃ v11 : Int32, oz9 = .inl (some (.int v11)) ∧ (Q (.inl (some (.int v11))) M10))))) ∧ (¬ (v8 = 0) → (((a1 = a2) → (hp_T M7 (a0) = 8 ∧ (am_CT G d rX7_fails [.ref a0, .int (1 : Int32)] M7 0 0 (fun oz9 M14 => ∃ v15 : Int32, oz9 = .inl (some (.int v15)) ∧ (Q (.inl (some (.int v15))) M14))))) ∧ (¬ (a1 = a2) → (am_CT G d rX7_in [.int a3, .int (10 : Int32), .int (150 : Int32)] M7 0 0 (fun oz9 M17 => ∃ v18 : Int32, oz9 = .inl (some (.int v18)) ∧ (((v18 = 0) → (hp_T M17 (a0) = 8 ∧ (am_CT G d rX7_fails [.ref a0, .int (1 : Int32)] M17 0 0 (fun oz9 M157 => ∃ v158 : Int32, oz9 = .inl (some (.int v158)) ∧ (Q (.inl (some (.int v158))) M157))))) ∧ (¬ (v18 = 0) → (hp_T M17 (a0) = 8 ∧ (hp_R M17 140 a0 ≠ 0 ∧ (∀ p22 : Nat, p22 = hp_R M17 140 a0 → (hp_T M17 (p22) = 22 ∧ (vp_in (1 : Int32) (hp_N M17 p22) ∧ (∀ v25 : Int32, v25 = (hp_E M17 p22 ((1 : Int32)).toNatClampNeg) → (((v25 = (12 : Int32)) → (am_CT G d rX7_fails [.ref a0, .int (2 : Int32)] M17 0 0 (fun oz9 M155 => ∃ v156 : Int32, oz9 = .inl (some (.int v156)) ∧ (Q (.inl (some (.int v156))) M155)))) ∧ (¬ (v25 = (12 : Int32)) → (hp_R M17 140 a0 ≠ 0 ∧ (∀ p28 : Nat, p28 = hp_R M17 140 a0 → (hp_R M17 140 a0 ≠ 0 ∧ (∀ p30 : Nat, p30 = hp_R M17 140 a0 → (hp_T M17 (p30) = 22 ∧ (vp_in (2 : Int32) (hp_N M17 p30) ∧ (hp_T M17 (p28) = 22 ∧ (vp_in ((27 : Int32) + v25) (hp_N M17 p28) ∧ (∀ M35 : am_Hp, M35 = hp_sE M17 p28 (((27 : Int32) + v25)).toNatClampNeg (hp_E M17 p30 ((2 : Int32)).toNatClampNeg) → (hp_R M35 140 a0 ≠ 0 ∧ (∀ p41 : Nat, p41 = hp_R M35 140 a0 → (hp_T M35 (p41) = 22 ∧ (vp_in ((39 : Int32) + v25) (hp_N M35 p41) ∧ (∀ M44 : am_Hp, M44 = hp_sE M35 p41 (((39 : Int32) + v25)).toNatClampNeg a1 → (hp_R M44 140 a0 ≠ 0 ∧ (∀ p51 : Nat, p51 = hp_R M44 140 a0 → (hp_T M44 (p51) = 22 ∧ (vp_in ((51 : Int32) + v25) (hp_N M44 p51) ∧ (∀ M54 : am_Hp, M54 = hp_sE M44 p51 (((51 : Int32) + v25)).toNatClampNeg a2 → (hp_R M54 140 a0 ≠ 0 ∧ (∀ p62 : Nat, p62 = hp_R M54 140 a0 → (hp_T M54 (p62) = 22 ∧ (vp_in ((63 : Int32) + v25) (hp_N M54 p62) ∧ (∀ M65 : am_Hp, M65 = hp_sE M54 p62 (((63 : Int32) + v25)).toNatClampNeg a3 → (hp_R M65 140 a0 ≠ 0 ∧ (∀ p74 : Nat, p74 = hp_R M65 140 a0 → (hp_T M65 (p74) = 22 ∧ (vp_in ((75 : Int32) + v25) (hp_N M65 p74) ∧ (∀ M77 : am_Hp, M77 = hp_sE M65 p74 (((75 : Int32) + v25)).toNatClampNeg (0 : Int32) → (hp_R M77 140 a0 ≠ 0 ∧ (∀ p87 : Nat, p87 = hp_R M77 140 a0 → (hp_T M77 (p87) = 22 ∧ (vp_in ((99 : Int32) + v25) (hp_N M77 p87) ∧ (∀ M90 : am_Hp, M90 = hp_sE M77 p87 (((99 : Int32) + v25)).toNatClampNeg (0 : Int32) → (hp_R M90 140 a0 ≠ 0 ∧ (∀ p101 : Nat, p101 = hp_R M90 140 a0 → (hp_T M90 (p101) = 22 ∧ (vp_in ((87 : Int32) + v25) (hp_N M90 p101) ∧ (∀ M104 : am_Hp, M104 = hp_sE M90 p101 (((87 : Int32) + v25)).toNatClampNeg (0 : Int32) → (hp_R M104 140 a0 ≠ 0 ∧ (∀ p116 : Nat, p116 = hp_R M104 140 a0 → (hp_T M104 (p116) = 22 ∧ (vp_in (1 : Int32) (hp_N M104 p116) ∧ (vp_in (1 : Int32) (hp_N M104 p116) ∧ (∀ M120 : am_Hp, M120 = hp_sE M104 p116 ((1 : Int32)).toNatClampNeg ((hp_E M104 p116 ((1 : Int32)).toNatClampNeg) + (1 : Int32)) → (hp_R M120 140 a0 ≠ 0 ∧ (∀ p133 : Nat, p133 = hp_R M120 140 a0 → (hp_T M120 (p133) = 22 ∧ (vp_in (2 : Int32) (hp_N M120 p133) ∧ (vp_in (2 : Int32) (hp_N M120 p133) ∧ (∀ M137 : am_Hp, M137 = hp_sE M120 p133 ((2 : Int32)).toNatClampNeg ((hp_E M120 p133 ((2 : Int32)).toNatClampNeg) + (1 : Int32)) → (am_CT G d rX7_assigns [.ref a0, .int v25] M137 0 0 (fun oz9 M150 => oz9 = .inl none ∧ (hp_T M150 (a0) = 8 ∧ (am_CT G d rX7_done [.ref a0, .int v25] M150 0 0 (fun oz9 M152 => ∃ v153 : Int32, oz9 = .inl (some (.int v153)) ∧ (Q (.inl (some (.int v153))) M152))))))))))))))))))))))))))))))))))))))))))))))))))))))))))))))))))))))))))))))) : am_J X 0 [(0, .ref a0), (1, .int a1), (2, .int a2), (3, .int a3)] [] M bc bs := by
  refine j_iload_n hX eX7_adds_0 1 rfl ?_
  refine j_callS (r' := rX7_isFloor) (As := [.int a1]) (rest := []) (d1 := d) hX eX7_adds_1 mm_LiftGroupModel_63 rfl rfl h rfl (Nat.le_refl _) (Nat.zero_le _) (Nat.zero_le _) (Nat.le_of_ble_eq_true rfl) (fun vz9 Mz9 qz9 => ?_) (fun Ez9 Mz9 qz9 => ?_)
  · obtain ⟨M1, eMz9⟩ : ∃ M1, M1 = Mz9 := ⟨_, rfl⟩; subst eMz9
    obtain ⟨v2, hxz9, h⟩ := qz9
    cases hxz9
    refine j_if_eq hX 31 eX7_adds_4 (by decide) (fun c3 => ?_) (fun c3 => ?_)
    · replace h := h.1 c3
      refine j_aload_n hX eX7_adds_31 0 rfl ?_
      refine j_iconst (v := (1 : Int32)) hX eX7_adds_32 (by decide) ?_
      obtain ⟨t6, h⟩ := h
      refine j_callV (a := a0) (q := (RX7, TX7, 17)) (r' := rX7_fails) (As := [.int (1 : Int32)]) (rest := []) (d1 := d) hX eX7_adds_33 mm_LiftGroupModel_90 rfl t6 (by decide) rfl h rfl (Nat.le_refl _) (Nat.zero_le _) (Nat.zero_le _) (Nat.le_of_ble_eq_true rfl) (fun vz9 Mz9 qz9 => ?_) (fun Ez9 Mz9 qz9 => ?_)
      · obtain ⟨M4, eMz9⟩ : ∃ M4, M4 = Mz9 := ⟨_, rfl⟩; subst eMz9
        obtain ⟨v5, hxz9, h⟩ := qz9
        cases hxz9
        exact j_iret hX hM eX7_adds_36 rfl h
      · obtain ⟨v5, hxz9, h⟩ := qz9
        cases hxz9
    · replace h := h.2 c3
      refine j_iload_n hX eX7_adds_7 2 rfl ?_
      refine j_callS (r' := rX7_isFloor) (As := [.int a2]) (rest := []) (d1 := d) hX eX7_adds_8 mm_LiftGroupModel_63 rfl rfl h rfl (Nat.le_refl _) (Nat.zero_le _) (Nat.zero_le _) (Nat.le_of_ble_eq_true rfl) (fun vz9 Mz9 qz9 => ?_) (fun Ez9 Mz9 qz9 => ?_)
      · obtain ⟨M7, eMz9⟩ : ∃ M7, M7 = Mz9 := ⟨_, rfl⟩; subst eMz9
        obtain ⟨v8, hxz9, h⟩ := qz9
        cases hxz9
        refine j_if_eq hX 31 eX7_adds_11 (by decide) (fun c9 => ?_) (fun c9 => ?_)
        · replace h := h.1 c9
          refine j_aload_n hX eX7_adds_31 0 rfl ?_
          refine j_iconst (v := (1 : Int32)) hX eX7_adds_32 (by decide) ?_
          obtain ⟨t12, h⟩ := h
          refine j_callV (a := a0) (q := (RX7, TX7, 17)) (r' := rX7_fails) (As := [.int (1 : Int32)]) (rest := []) (d1 := d) hX eX7_adds_33 mm_LiftGroupModel_90 rfl t12 (by decide) rfl h rfl (Nat.le_refl _) (Nat.zero_le _) (Nat.zero_le _) (Nat.le_of_ble_eq_true rfl) (fun vz9 Mz9 qz9 => ?_) (fun Ez9 Mz9 qz9 => ?_)
          · obtain ⟨M10, eMz9⟩ : ∃ M10, M10 = Mz9 := ⟨_, rfl⟩; subst eMz9
            obtain ⟨v11, hxz9, h⟩ := qz9
            cases hxz9
            exact j_iret hX hM eX7_adds_36 rfl h
          · obtain ⟨v11, hxz9, h⟩ := qz9
            cases hxz9
        · replace h := h.2 c9
          refine j_iload_n hX eX7_adds_14 1 rfl ?_
          refine j_iload_n hX eX7_adds_15 2 rfl ?_
          refine j_icmp_eq hX 31 eX7_adds_16 (by decide) (fun c13 => ?_) (fun c13 => ?_)
          · replace h := h.1 c13
            refine j_aload_n hX eX7_adds_31 0 rfl ?_
            refine j_iconst (v := (1 : Int32)) hX eX7_adds_32 (by decide) ?_
            obtain ⟨t16, h⟩ := h
            refine j_callV (a := a0) (q := (RX7, TX7, 17)) (r' := rX7_fails) (As := [.int (1 : Int32)]) (rest := []) (d1 := d) hX eX7_adds_33 mm_LiftGroupModel_90 rfl t16 (by decide) rfl h rfl (Nat.le_refl _) (Nat.zero_le _) (Nat.zero_le _) (Nat.le_of_ble_eq_true rfl) (fun vz9 Mz9 qz9 => ?_) (fun Ez9 Mz9 qz9 => ?_)
            · obtain ⟨M14, eMz9⟩ : ∃ M14, M14 = Mz9 := ⟨_, rfl⟩; subst eMz9
              obtain ⟨v15, hxz9, h⟩ := qz9
              cases hxz9
              exact j_iret hX hM eX7_adds_36 rfl h
            · obtain ⟨v15, hxz9, h⟩ := qz9
              cases hxz9
          · replace h := h.2 c13
            refine j_iload_n hX eX7_adds_19 3 rfl ?_
            refine j_bipush (v := (10 : Int32)) hX eX7_adds_20 (by decide) ?_
            refine j_sipush (v := (150 : Int32)) hX eX7_adds_22 (by decide) ?_
            refine j_callS (r' := rX7_in) (As := [.int a3, .int (10 : Int32), .int (150 : Int32)]) (rest := []) (d1 := d) hX eX7_adds_25 mm_LiftGroupModel_52 rfl rfl h rfl (Nat.le_refl _) (Nat.zero_le _) (Nat.zero_le _) (Nat.le_of_ble_eq_true rfl) (fun vz9 Mz9 qz9 => ?_) (fun Ez9 Mz9 qz9 => ?_)
            · obtain ⟨M17, eMz9⟩ : ∃ M17, M17 = Mz9 := ⟨_, rfl⟩; subst eMz9
              obtain ⟨v18, hxz9, h⟩ := qz9
              cases hxz9
              refine j_if_ne hX 37 eX7_adds_28 (by decide) (fun c19 => ?_) (fun c19 => ?_)
              · replace h := h.2 c19
                refine j_aload_n hX eX7_adds_37 0 rfl ?_
                obtain ⟨t20, h⟩ := h
                obtain ⟨z21, h⟩ := h
                refine j_getR hX eX7_adds_38 ff_LiftGroupModel_7 rfl t20 (by decide) z21 ?_
                refine j_nmR (fun p22 ep22 => ?_)
                replace h := h p22 ep22
                refine j_iconst (v := (1 : Int32)) hX eX7_adds_41 (by decide) ?_
                obtain ⟨t23, h⟩ := h
                obtain ⟨i24, h⟩ := h
                refine j_iald hX eX7_adds_42 t23 i24 ?_
                refine j_nmI (fun v25 ev25 => ?_)
                replace h := h v25 ev25
                refine j_istore (lv' := [(4, .int v25), (0, .ref a0), (1, .int a1), (2, .int a2), (3, .int a3)]) hX eX7_adds_43 (by decide) rfl ?_
                refine j_iload hX eX7_adds_45 0 rfl ?_
                refine j_bipush (v := (12 : Int32)) hX eX7_adds_47 (by decide) ?_
                refine j_icmp_ne hX 58 eX7_adds_49 (by decide) (fun c26 => ?_) (fun c26 => ?_)
                · replace h := h.2 c26
                  refine j_aload_n hX eX7_adds_58 1 rfl ?_
                  obtain ⟨z27, h⟩ := h
                  refine j_getR hX eX7_adds_59 ff_LiftGroupModel_7 rfl t20 (by decide) z27 ?_
                  refine j_nmR (fun p28 ep28 => ?_)
                  replace h := h p28 ep28
                  refine j_bipush (v := (27 : Int32)) hX eX7_adds_62 (by decide) ?_
                  refine j_iload hX eX7_adds_64 0 rfl ?_
                  refine j_iadd hX eX7_adds_66 ?_
                  refine j_aload_n hX eX7_adds_67 1 rfl ?_
                  obtain ⟨z29, h⟩ := h
                  refine j_getR hX eX7_adds_68 ff_LiftGroupModel_7 rfl t20 (by decide) z29 ?_
                  refine j_nmR (fun p30 ep30 => ?_)
                  replace h := h p30 ep30
                  refine j_iconst (v := (2 : Int32)) hX eX7_adds_71 (by decide) ?_
                  obtain ⟨t31, h⟩ := h
                  obtain ⟨i32, h⟩ := h
                  refine j_iald hX eX7_adds_72 t31 i32 ?_
                  obtain ⟨t33, h⟩ := h
                  obtain ⟨i34, h⟩ := h
                  refine j_iast hX eX7_adds_73 t33 i34 ?_
                  refine j_nmM (fun M35 eM35 => ?_)
                  replace h := h M35 eM35
                  have t36 : hp_T M35 (a0) = 8 := by rw [eM35]; exact t20
                  have t37 : hp_T M35 (p22) = 22 := by rw [eM35]; exact t23
                  have t38 : hp_T M35 (p30) = 22 := by rw [eM35]; exact t31
                  have t39 : hp_T M35 (p28) = 22 := by rw [eM35]; exact t33
                  refine j_aload_n hX eX7_adds_74 1 rfl ?_
                  obtain ⟨z40, h⟩ := h
                  refine j_getR hX eX7_adds_75 ff_LiftGroupModel_7 rfl t36 (by decide) z40 ?_
                  refine j_nmR (fun p41 ep41 => ?_)
                  replace h := h p41 ep41
                  refine j_bipush (v := (39 : Int32)) hX eX7_adds_78 (by decide) ?_
                  refine j_iload hX eX7_adds_80 0 rfl ?_
                  refine j_iadd hX eX7_adds_82 ?_
                  refine j_iload_n hX eX7_adds_83 2 rfl ?_
                  obtain ⟨t42, h⟩ := h
                  obtain ⟨i43, h⟩ := h
                  refine j_iast hX eX7_adds_84 t42 i43 ?_
                  refine j_nmM (fun M44 eM44 => ?_)
                  replace h := h M44 eM44
                  have t45 : hp_T M44 (a0) = 8 := by rw [eM44]; exact t36
                  have t46 : hp_T M44 (p22) = 22 := by rw [eM44]; exact t37
                  have t47 : hp_T M44 (p30) = 22 := by rw [eM44]; exact t38
                  have t48 : hp_T M44 (p28) = 22 := by rw [eM44]; exact t39
                  have t49 : hp_T M44 (p41) = 22 := by rw [eM44]; exact t42
                  refine j_aload_n hX eX7_adds_85 1 rfl ?_
                  obtain ⟨z50, h⟩ := h
                  refine j_getR hX eX7_adds_86 ff_LiftGroupModel_7 rfl t45 (by decide) z50 ?_
                  refine j_nmR (fun p51 ep51 => ?_)
                  replace h := h p51 ep51
                  refine j_bipush (v := (51 : Int32)) hX eX7_adds_89 (by decide) ?_
                  refine j_iload hX eX7_adds_91 0 rfl ?_
                  refine j_iadd hX eX7_adds_93 ?_
                  refine j_iload_n hX eX7_adds_94 3 rfl ?_
                  obtain ⟨t52, h⟩ := h
                  obtain ⟨i53, h⟩ := h
                  refine j_iast hX eX7_adds_95 t52 i53 ?_
                  refine j_nmM (fun M54 eM54 => ?_)
                  replace h := h M54 eM54
                  have t55 : hp_T M54 (a0) = 8 := by rw [eM54]; exact t45
                  have t56 : hp_T M54 (p22) = 22 := by rw [eM54]; exact t46
                  have t57 : hp_T M54 (p30) = 22 := by rw [eM54]; exact t47
                  have t58 : hp_T M54 (p28) = 22 := by rw [eM54]; exact t48
                  have t59 : hp_T M54 (p41) = 22 := by rw [eM54]; exact t49
                  have t60 : hp_T M54 (p51) = 22 := by rw [eM54]; exact t52
                  refine j_aload_n hX eX7_adds_96 1 rfl ?_
                  obtain ⟨z61, h⟩ := h
                  refine j_getR hX eX7_adds_97 ff_LiftGroupModel_7 rfl t55 (by decide) z61 ?_
                  refine j_nmR (fun p62 ep62 => ?_)
                  replace h := h p62 ep62
                  refine j_bipush (v := (63 : Int32)) hX eX7_adds_100 (by decide) ?_
                  refine j_iload hX eX7_adds_102 0 rfl ?_
                  refine j_iadd hX eX7_adds_104 ?_
                  refine j_iload_n hX eX7_adds_105 4 rfl ?_
                  obtain ⟨t63, h⟩ := h
                  obtain ⟨i64, h⟩ := h
                  refine j_iast hX eX7_adds_106 t63 i64 ?_
                  refine j_nmM (fun M65 eM65 => ?_)
                  replace h := h M65 eM65
                  have t66 : hp_T M65 (a0) = 8 := by rw [eM65]; exact t55
                  have t67 : hp_T M65 (p22) = 22 := by rw [eM65]; exact t56
                  have t68 : hp_T M65 (p30) = 22 := by rw [eM65]; exact t57
                  have t69 : hp_T M65 (p28) = 22 := by rw [eM65]; exact t58
                  have t70 : hp_T M65 (p41) = 22 := by rw [eM65]; exact t59
                  have t71 : hp_T M65 (p51) = 22 := by rw [eM65]; exact t60
                  have t72 : hp_T M65 (p62) = 22 := by rw [eM65]; exact t63
                  refine j_aload_n hX eX7_adds_107 1 rfl ?_
                  obtain ⟨z73, h⟩ := h
                  refine j_getR hX eX7_adds_108 ff_LiftGroupModel_7 rfl t66 (by decide) z73 ?_
                  refine j_nmR (fun p74 ep74 => ?_)
                  replace h := h p74 ep74
                  refine j_bipush (v := (75 : Int32)) hX eX7_adds_111 (by decide) ?_
                  refine j_iload hX eX7_adds_113 0 rfl ?_
                  refine j_iadd hX eX7_adds_115 ?_
                  refine j_iconst (v := (0 : Int32)) hX eX7_adds_116 (by decide) ?_
                  obtain ⟨t75, h⟩ := h
                  obtain ⟨i76, h⟩ := h
                  refine j_iast hX eX7_adds_117 t75 i76 ?_
                  refine j_nmM (fun M77 eM77 => ?_)
                  replace h := h M77 eM77
                  have t78 : hp_T M77 (a0) = 8 := by rw [eM77]; exact t66
                  have t79 : hp_T M77 (p22) = 22 := by rw [eM77]; exact t67
                  have t80 : hp_T M77 (p30) = 22 := by rw [eM77]; exact t68
                  have t81 : hp_T M77 (p28) = 22 := by rw [eM77]; exact t69
                  have t82 : hp_T M77 (p41) = 22 := by rw [eM77]; exact t70
                  have t83 : hp_T M77 (p51) = 22 := by rw [eM77]; exact t71
                  have t84 : hp_T M77 (p62) = 22 := by rw [eM77]; exact t72
                  have t85 : hp_T M77 (p74) = 22 := by rw [eM77]; exact t75
                  refine j_aload_n hX eX7_adds_118 1 rfl ?_
                  obtain ⟨z86, h⟩ := h
                  refine j_getR hX eX7_adds_119 ff_LiftGroupModel_7 rfl t78 (by decide) z86 ?_
                  refine j_nmR (fun p87 ep87 => ?_)
                  replace h := h p87 ep87
                  refine j_bipush (v := (99 : Int32)) hX eX7_adds_122 (by decide) ?_
                  refine j_iload hX eX7_adds_124 0 rfl ?_
                  refine j_iadd hX eX7_adds_126 ?_
                  refine j_iconst (v := (0 : Int32)) hX eX7_adds_127 (by decide) ?_
                  obtain ⟨t88, h⟩ := h
                  obtain ⟨i89, h⟩ := h
                  refine j_iast hX eX7_adds_128 t88 i89 ?_
                  refine j_nmM (fun M90 eM90 => ?_)
                  replace h := h M90 eM90
                  have t91 : hp_T M90 (a0) = 8 := by rw [eM90]; exact t78
                  have t92 : hp_T M90 (p22) = 22 := by rw [eM90]; exact t79
                  have t93 : hp_T M90 (p30) = 22 := by rw [eM90]; exact t80
                  have t94 : hp_T M90 (p28) = 22 := by rw [eM90]; exact t81
                  have t95 : hp_T M90 (p41) = 22 := by rw [eM90]; exact t82
                  have t96 : hp_T M90 (p51) = 22 := by rw [eM90]; exact t83
                  have t97 : hp_T M90 (p62) = 22 := by rw [eM90]; exact t84
                  have t98 : hp_T M90 (p74) = 22 := by rw [eM90]; exact t85
                  have t99 : hp_T M90 (p87) = 22 := by rw [eM90]; exact t88
                  refine j_aload_n hX eX7_adds_129 1 rfl ?_
                  obtain ⟨z100, h⟩ := h
                  refine j_getR hX eX7_adds_130 ff_LiftGroupModel_7 rfl t91 (by decide) z100 ?_
                  refine j_nmR (fun p101 ep101 => ?_)
                  replace h := h p101 ep101
                  refine j_bipush (v := (87 : Int32)) hX eX7_adds_133 (by decide) ?_
                  refine j_iload hX eX7_adds_135 0 rfl ?_
                  refine j_iadd hX eX7_adds_137 ?_
                  refine j_iconst (v := (0 : Int32)) hX eX7_adds_138 (by decide) ?_
                  obtain ⟨t102, h⟩ := h
                  obtain ⟨i103, h⟩ := h
                  refine j_iast hX eX7_adds_139 t102 i103 ?_
                  refine j_nmM (fun M104 eM104 => ?_)
                  replace h := h M104 eM104
                  have t105 : hp_T M104 (a0) = 8 := by rw [eM104]; exact t91
                  have t106 : hp_T M104 (p22) = 22 := by rw [eM104]; exact t92
                  have t107 : hp_T M104 (p30) = 22 := by rw [eM104]; exact t93
                  have t108 : hp_T M104 (p28) = 22 := by rw [eM104]; exact t94
                  have t109 : hp_T M104 (p41) = 22 := by rw [eM104]; exact t95
                  have t110 : hp_T M104 (p51) = 22 := by rw [eM104]; exact t96
                  have t111 : hp_T M104 (p62) = 22 := by rw [eM104]; exact t97
                  have t112 : hp_T M104 (p74) = 22 := by rw [eM104]; exact t98
                  have t113 : hp_T M104 (p87) = 22 := by rw [eM104]; exact t99
                  have t114 : hp_T M104 (p101) = 22 := by rw [eM104]; exact t102
                  refine j_aload_n hX eX7_adds_140 1 rfl ?_
                  obtain ⟨z115, h⟩ := h
                  refine j_getR hX eX7_adds_141 ff_LiftGroupModel_7 rfl t105 (by decide) z115 ?_
                  refine j_nmR (fun p116 ep116 => ?_)
                  replace h := h p116 ep116
                  refine j_iconst (v := (1 : Int32)) hX eX7_adds_144 (by decide) ?_
                  refine j_dup2 hX eX7_adds_145 rfl rfl ?_
                  obtain ⟨t117, h⟩ := h
                  obtain ⟨i118, h⟩ := h
                  refine j_iald hX eX7_adds_146 t117 i118 ?_
                  refine j_iconst (v := (1 : Int32)) hX eX7_adds_147 (by decide) ?_
                  refine j_iadd hX eX7_adds_148 ?_
                  obtain ⟨i119, h⟩ := h
                  refine j_iast hX eX7_adds_149 t117 i119 ?_
                  refine j_nmM (fun M120 eM120 => ?_)
                  replace h := h M120 eM120
                  have t121 : hp_T M120 (a0) = 8 := by rw [eM120]; exact t105
                  have t122 : hp_T M120 (p22) = 22 := by rw [eM120]; exact t106
                  have t123 : hp_T M120 (p30) = 22 := by rw [eM120]; exact t107
                  have t124 : hp_T M120 (p28) = 22 := by rw [eM120]; exact t108
                  have t125 : hp_T M120 (p41) = 22 := by rw [eM120]; exact t109
                  have t126 : hp_T M120 (p51) = 22 := by rw [eM120]; exact t110
                  have t127 : hp_T M120 (p62) = 22 := by rw [eM120]; exact t111
                  have t128 : hp_T M120 (p74) = 22 := by rw [eM120]; exact t112
                  have t129 : hp_T M120 (p87) = 22 := by rw [eM120]; exact t113
                  have t130 : hp_T M120 (p101) = 22 := by rw [eM120]; exact t114
                  have t131 : hp_T M120 (p116) = 22 := by rw [eM120]; exact t117
                  refine j_aload_n hX eX7_adds_150 1 rfl ?_
                  obtain ⟨z132, h⟩ := h
                  refine j_getR hX eX7_adds_151 ff_LiftGroupModel_7 rfl t121 (by decide) z132 ?_
                  refine j_nmR (fun p133 ep133 => ?_)
                  replace h := h p133 ep133
                  refine j_iconst (v := (2 : Int32)) hX eX7_adds_154 (by decide) ?_
                  refine j_dup2 hX eX7_adds_155 rfl rfl ?_
                  obtain ⟨t134, h⟩ := h
                  obtain ⟨i135, h⟩ := h
                  refine j_iald hX eX7_adds_156 t134 i135 ?_
                  refine j_iconst (v := (1 : Int32)) hX eX7_adds_157 (by decide) ?_
                  refine j_iadd hX eX7_adds_158 ?_
                  obtain ⟨i136, h⟩ := h
                  refine j_iast hX eX7_adds_159 t134 i136 ?_
                  refine j_nmM (fun M137 eM137 => ?_)
                  replace h := h M137 eM137
                  have t138 : hp_T M137 (a0) = 8 := by rw [eM137]; exact t121
                  have t139 : hp_T M137 (p22) = 22 := by rw [eM137]; exact t122
                  have t140 : hp_T M137 (p30) = 22 := by rw [eM137]; exact t123
                  have t141 : hp_T M137 (p28) = 22 := by rw [eM137]; exact t124
                  have t142 : hp_T M137 (p41) = 22 := by rw [eM137]; exact t125
                  have t143 : hp_T M137 (p51) = 22 := by rw [eM137]; exact t126
                  have t144 : hp_T M137 (p62) = 22 := by rw [eM137]; exact t127
                  have t145 : hp_T M137 (p74) = 22 := by rw [eM137]; exact t128
                  have t146 : hp_T M137 (p87) = 22 := by rw [eM137]; exact t129
                  have t147 : hp_T M137 (p101) = 22 := by rw [eM137]; exact t130
                  have t148 : hp_T M137 (p116) = 22 := by rw [eM137]; exact t131
                  have t149 : hp_T M137 (p133) = 22 := by rw [eM137]; exact t134
                  refine j_aload_n hX eX7_adds_160 1 rfl ?_
                  refine j_iload hX eX7_adds_161 0 rfl ?_
                  refine j_callV (a := a0) (q := (RX7, TX7, 17)) (r' := rX7_assigns) (As := [.int v25]) (rest := []) (d1 := d) hX eX7_adds_163 mm_LiftGroupModel_93 rfl t138 (by decide) rfl h rfl (Nat.le_refl _) (Nat.zero_le _) (Nat.zero_le _) (Nat.le_of_ble_eq_true rfl) (fun vz9 Mz9 qz9 => ?_) (fun Ez9 Mz9 qz9 => ?_)
                  · obtain ⟨M150, eMz9⟩ : ∃ M150, M150 = Mz9 := ⟨_, rfl⟩; subst eMz9
                    obtain ⟨hxz9, h⟩ := qz9
                    cases hxz9
                    refine j_aload_n hX eX7_adds_166 1 rfl ?_
                    refine j_iload hX eX7_adds_167 0 rfl ?_
                    obtain ⟨t154, h⟩ := h
                    refine j_callV (a := a0) (q := (RX7, TX7, 17)) (r' := rX7_done) (As := [.int v25]) (rest := []) (d1 := d) hX eX7_adds_169 mm_LiftGroupModel_97 rfl t154 (by decide) rfl h rfl (Nat.le_refl _) (Nat.zero_le _) (Nat.zero_le _) (Nat.le_of_ble_eq_true rfl) (fun vz9 Mz9 qz9 => ?_) (fun Ez9 Mz9 qz9 => ?_)
                    · obtain ⟨M152, eMz9⟩ : ∃ M152, M152 = Mz9 := ⟨_, rfl⟩; subst eMz9
                      obtain ⟨v153, hxz9, h⟩ := qz9
                      cases hxz9
                      exact j_iret hX hM eX7_adds_172 rfl h
                    · obtain ⟨v153, hxz9, h⟩ := qz9
                      cases hxz9
                  · obtain ⟨hxz9, h⟩ := qz9
                    cases hxz9
                · replace h := h.1 c26
                  refine j_aload_n hX eX7_adds_52 1 rfl ?_
                  refine j_iconst (v := (2 : Int32)) hX eX7_adds_53 (by decide) ?_
                  refine j_callV (a := a0) (q := (RX7, TX7, 17)) (r' := rX7_fails) (As := [.int (2 : Int32)]) (rest := []) (d1 := d) hX eX7_adds_54 mm_LiftGroupModel_90 rfl t20 (by decide) rfl h rfl (Nat.le_refl _) (Nat.zero_le _) (Nat.zero_le _) (Nat.le_of_ble_eq_true rfl) (fun vz9 Mz9 qz9 => ?_) (fun Ez9 Mz9 qz9 => ?_)
                  · obtain ⟨M155, eMz9⟩ : ∃ M155, M155 = Mz9 := ⟨_, rfl⟩; subst eMz9
                    obtain ⟨v156, hxz9, h⟩ := qz9
                    cases hxz9
                    exact j_iret hX hM eX7_adds_57 rfl h
                  · obtain ⟨v156, hxz9, h⟩ := qz9
                    cases hxz9
              · replace h := h.1 c19
                refine j_aload_n hX eX7_adds_31 0 rfl ?_
                refine j_iconst (v := (1 : Int32)) hX eX7_adds_32 (by decide) ?_
                obtain ⟨t159, h⟩ := h
                refine j_callV (a := a0) (q := (RX7, TX7, 17)) (r' := rX7_fails) (As := [.int (1 : Int32)]) (rest := []) (d1 := d) hX eX7_adds_33 mm_LiftGroupModel_90 rfl t159 (by decide) rfl h rfl (Nat.le_refl _) (Nat.zero_le _) (Nat.zero_le _) (Nat.le_of_ble_eq_true rfl) (fun vz9 Mz9 qz9 => ?_) (fun Ez9 Mz9 qz9 => ?_)
                · obtain ⟨M157, eMz9⟩ : ∃ M157, M157 = Mz9 := ⟨_, rfl⟩; subst eMz9
                  obtain ⟨v158, hxz9, h⟩ := qz9
                  cases hxz9
                  exact j_iret hX hM eX7_adds_36 rfl h
                · obtain ⟨v158, hxz9, h⟩ := qz9
                  cases hxz9
            · obtain ⟨v18, hxz9, h⟩ := qz9
              cases hxz9
      · obtain ⟨v8, hxz9, h⟩ := qz9
        cases hxz9
  · obtain ⟨v2, hxz9, h⟩ := qz9
    cases hxz9

set_option maxHeartbeats 4000000 in
set_option maxRecDepth 20000 in
theorem vX7_addPassenger_0 {X : am_Cx} {G : am_Gx} {d : Nat} {Q : am_Q} (hX : am_ok X rX7_addPassenger G (d + 1)) (hM : am_me X rX7_addPassenger Q) {bc bs : Nat}  {a0 : Nat} {a1 : Int32} {a2 : Int32} {a3 : Int32} {M : am_Hp} (h : hp_T M (a0) = 8 ∧ (am_CT G d rX7_begin [.ref a0] M 0 0 (fun oz9 M1 => oz9 = .inl none ∧ (hp_T M1 (a0) = 8 ∧ (am_CT G d rX7_adds [.ref a0, .int a1, .int a2, .int a3] M1 0 0 (fun oz9 M4 => ∃ v5 : Int32, oz9 = .inl (some (.int v5)) ∧ (hp_T M4 (a0) = 8 ∧ (am_CT G d rX7_kept [.ref a0, .int v5] M4 0 0 (fun oz9 M7 => ∃ v8 : Int32, oz9 = .inl (some (.int v8)) ∧ (Q (.inl (some (.int v8))) M7)))))))))) : am_J X 0 [(0, .ref a0), (1, .int a1), (2, .int a2), (3, .int a3)] [] M bc bs := by
  refine j_aload_n hX eX7_addPassenger_0 0 rfl ?_
  obtain ⟨t3, h⟩ := h
  refine j_callV (a := a0) (q := (RX7, TX7, 17)) (r' := rX7_begin) (As := []) (rest := []) (d1 := d) hX eX7_addPassenger_1 mm_LiftGroupModel_100 rfl t3 (by decide) rfl h rfl (Nat.le_refl _) (Nat.zero_le _) (Nat.zero_le _) (Nat.le_of_ble_eq_true rfl) (fun vz9 Mz9 qz9 => ?_) (fun Ez9 Mz9 qz9 => ?_)
  · obtain ⟨M1, eMz9⟩ : ∃ M1, M1 = Mz9 := ⟨_, rfl⟩; subst eMz9
    obtain ⟨hxz9, h⟩ := qz9
    cases hxz9
    refine j_aload_n hX eX7_addPassenger_4 0 rfl ?_
    refine j_aload_n hX eX7_addPassenger_5 0 rfl ?_
    refine j_iload_n hX eX7_addPassenger_6 1 rfl ?_
    refine j_iload_n hX eX7_addPassenger_7 2 rfl ?_
    refine j_iload_n hX eX7_addPassenger_8 3 rfl ?_
    obtain ⟨t6, h⟩ := h
    refine j_callV (a := a0) (q := (RX7, TX7, 17)) (r' := rX7_adds) (As := [.int a1, .int a2, .int a3]) (rest := [.ref a0]) (d1 := d) hX eX7_addPassenger_9 mm_LiftGroupModel_103 rfl t6 (by decide) rfl h rfl (Nat.le_refl _) (Nat.zero_le _) (Nat.zero_le _) (Nat.le_of_ble_eq_true rfl) (fun vz9 Mz9 qz9 => ?_) (fun Ez9 Mz9 qz9 => ?_)
    · obtain ⟨M4, eMz9⟩ : ∃ M4, M4 = Mz9 := ⟨_, rfl⟩; subst eMz9
      obtain ⟨v5, hxz9, h⟩ := qz9
      cases hxz9
      obtain ⟨t9, h⟩ := h
      refine j_callV (a := a0) (q := (RX7, TX7, 17)) (r' := rX7_kept) (As := [.int v5]) (rest := []) (d1 := d) hX eX7_addPassenger_12 mm_LiftGroupModel_107 rfl t9 (by decide) rfl h rfl (Nat.le_refl _) (Nat.zero_le _) (Nat.zero_le _) (Nat.le_of_ble_eq_true rfl) (fun vz9 Mz9 qz9 => ?_) (fun Ez9 Mz9 qz9 => ?_)
      · obtain ⟨M7, eMz9⟩ : ∃ M7, M7 = Mz9 := ⟨_, rfl⟩; subst eMz9
        obtain ⟨v8, hxz9, h⟩ := qz9
        cases hxz9
        exact j_iret hX hM eX7_addPassenger_15 rfl h
      · obtain ⟨v8, hxz9, h⟩ := qz9
        cases hxz9
    · obtain ⟨v5, hxz9, h⟩ := qz9
      cases hxz9
  · obtain ⟨hxz9, h⟩ := qz9
    cases hxz9

set_option maxHeartbeats 4000000 in
set_option maxRecDepth 20000 in
theorem vX7_drops_0 {X : am_Cx} {G : am_Gx} {d : Nat} {Q : am_Q} (hX : am_ok X rX7_drops G (d + 1)) (hM : am_me X rX7_drops Q) {bc bs : Nat} (R3 : Nat → Int32 → Int32 → am_Hp → Prop) (k3 : ∀ (x0 : Nat) (x1 : Int32) (x2 : Int32) (M : am_Hp), R3 x0 x1 x2 M → am_J X 3 [(0, .ref x0), (1, .int x1), (2, .int x2)] [] M bc bs) {a0 : Nat} {a1 : Int32} {M : am_Hp} (h : R3 a0 a1 (27 : Int32) M) : am_J X 0 [(0, .ref a0), (1, .int a1)] [] M bc bs := by
  refine j_bipush (v := (27 : Int32)) hX eX7_drops_0 (by decide) ?_
  refine j_istore_n (lv' := [(2, .int (27 : Int32)), (0, .ref a0), (1, .int a1)]) hX eX7_drops_2 rfl (by decide) rfl ?_
  exact j_sub [1, 2, 0] rfl (k3 _ _ _ _ h)
set_option maxHeartbeats 4000000 in
set_option maxRecDepth 20000 in
theorem vX7_drops_3 {X : am_Cx} {G : am_Gx} {d : Nat} {Q : am_Q} (hX : am_ok X rX7_drops G (d + 1)) (hM : am_me X rX7_drops Q) {bc bs : Nat} (R11 : Nat → Int32 → Int32 → Int32 → am_Hp → Prop) (k11 : ∀ (x0 : Nat) (x1 : Int32) (x2 : Int32) (x3 : Int32) (M : am_Hp), R11 x0 x1 x2 x3 M → am_J X 11 [(0, .ref x0), (1, .int x1), (2, .int x2), (3, .int x3)] [] M bc bs) {a0 : Nat} {a1 : Int32} {a2 : Int32} {M : am_Hp} (h : (((111 : Int32) ≤ a2) → (hp_T M (a0) = 8 ∧ (hp_R M 140 a0 ≠ 0 ∧ (∀ p4 : Nat, p4 = hp_R M 140 a0 → (hp_T M (p4) = 22 ∧ (vp_in (1 : Int32) (hp_N M p4) ∧ (vp_in (1 : Int32) (hp_N M p4) ∧ (∀ M8 : am_Hp, M8 = hp_sE M p4 ((1 : Int32)).toNatClampNeg ((hp_E M p4 ((1 : Int32)).toNatClampNeg) - (1 : Int32)) → (Q (.inl none) M8))))))))) ∧ (¬ ((111 : Int32) ≤ a2) → (R11 a0 a1 a2 a1 M))) : am_J X 3 [(0, .ref a0), (1, .int a1), (2, .int a2)] [] M bc bs := by
  refine j_iload_n hX eX7_drops_3 2 rfl ?_
  refine j_bipush (v := (111 : Int32)) hX eX7_drops_4 (by decide) ?_
  refine j_icmp_ge hX 57 eX7_drops_6 (by decide) (fun c1 => ?_) (fun c1 => ?_)
  · replace h := h.1 c1
    refine j_aload_n hX eX7_drops_57 0 rfl ?_
    obtain ⟨t2, h⟩ := h
    obtain ⟨z3, h⟩ := h
    refine j_getR hX eX7_drops_58 ff_LiftGroupModel_7 rfl t2 (by decide) z3 ?_
    refine j_nmR (fun p4 ep4 => ?_)
    replace h := h p4 ep4
    refine j_iconst (v := (1 : Int32)) hX eX7_drops_61 (by decide) ?_
    refine j_dup2 hX eX7_drops_62 rfl rfl ?_
    obtain ⟨t5, h⟩ := h
    obtain ⟨i6, h⟩ := h
    refine j_iald hX eX7_drops_63 t5 i6 ?_
    refine j_iconst (v := (1 : Int32)) hX eX7_drops_64 (by decide) ?_
    refine j_isub hX eX7_drops_65 ?_
    obtain ⟨i7, h⟩ := h
    refine j_iast hX eX7_drops_66 t5 i7 ?_
    refine j_nmM (fun M8 eM8 => ?_)
    replace h := h M8 eM8
    have t9 : hp_T M8 (a0) = 8 := by rw [eM8]; exact t2
    have t10 : hp_T M8 (p4) = 22 := by rw [eM8]; exact t5
    exact j_vret hX hM eX7_drops_67 rfl h
  · replace h := h.2 c1
    refine j_iload_n hX eX7_drops_9 1 rfl ?_
    refine j_istore_n (lv' := [(3, .int a1), (0, .ref a0), (1, .int a1), (2, .int a2)]) hX eX7_drops_10 rfl (by decide) rfl ?_
    exact j_sub [1, 2, 3, 0] rfl (k11 _ _ _ _ _ h)
set_option maxHeartbeats 4000000 in
set_option maxRecDepth 20000 in
theorem vX7_drops_11 {X : am_Cx} {G : am_Gx} {d : Nat} {Q : am_Q} (hX : am_ok X rX7_drops G (d + 1)) (hM : am_me X rX7_drops Q) {bc bs : Nat} (R3 : Nat → Int32 → Int32 → am_Hp → Prop) (k3 : ∀ (x0 : Nat) (x1 : Int32) (x2 : Int32) (M : am_Hp), R3 x0 x1 x2 M → am_J X 3 [(0, .ref x0), (1, .int x1), (2, .int x2)] [] M bc bs) (R11 : Nat → Int32 → Int32 → Int32 → am_Hp → Prop) (k11 : ∀ (x0 : Nat) (x1 : Int32) (x2 : Int32) (x3 : Int32) (M : am_Hp), R11 x0 x1 x2 x3 M → am_J X 11 [(0, .ref x0), (1, .int x1), (2, .int x2), (3, .int x3)] [] M bc bs) {a0 : Nat} {a1 : Int32} {a2 : Int32} {a3 : Int32} {M : am_Hp} (h : (((12 : Int32) ≤ a3) → (∀ v2 : Int32, v2 = a2 + (12 : Int32) → (R3 a0 a1 v2 M))) ∧ (¬ ((12 : Int32) ≤ a3) → (hp_T M (a0) = 8 ∧ (hp_R M 140 a0 ≠ 0 ∧ (∀ p5 : Nat, p5 = hp_R M 140 a0 → ((((11 : Int32) ≤ a3) → (hp_T M (p5) = 22 ∧ (vp_in (a2 + a3) (hp_N M p5) ∧ (∀ M9 : am_Hp, M9 = hp_sE M p5 ((a2 + a3)).toNatClampNeg (0 : Int32) → (∀ v12 : Int32, v12 = a3 + (1 : Int32) → (R11 a0 a1 a2 v12 M9)))))) ∧ (¬ ((11 : Int32) ≤ a3) → (hp_R M 140 a0 ≠ 0 ∧ (∀ p14 : Nat, p14 = hp_R M 140 a0 → (hp_T M (p14) = 22 ∧ (vp_in ((a2 + a3) + (1 : Int32)) (hp_N M p14) ∧ (hp_T M (p5) = 22 ∧ (vp_in (a2 + a3) (hp_N M p5) ∧ (∀ M19 : am_Hp, M19 = hp_sE M p5 ((a2 + a3)).toNatClampNeg (hp_E M p14 (((a2 + a3) + (1 : Int32))).toNatClampNeg) → (∀ v23 : Int32, v23 = a3 + (1 : Int32) → (R11 a0 a1 a2 v23 M19)))))))))))))))) : am_J X 11 [(0, .ref a0), (1, .int a1), (2, .int a2), (3, .int a3)] [] M bc bs := by
  refine j_iload_n hX eX7_drops_11 3 rfl ?_
  refine j_bipush (v := (12 : Int32)) hX eX7_drops_12 (by decide) ?_
  refine j_icmp_ge hX 51 eX7_drops_14 (by decide) (fun c1 => ?_) (fun c1 => ?_)
  · replace h := h.1 c1
    obtain ⟨v2, ev2⟩ : ∃ v2 : Int32, v2 = a2 + (12 : Int32) := ⟨_, rfl⟩
    replace h := h v2 ev2
    refine j_iinc (v := v2) (lv' := [(2, .int v2), (0, .ref a0), (1, .int a1), (3, .int a3)]) hX eX7_drops_51 2 rfl (by rw [ev2]; rfl) (by decide) rfl ?_
    refine j_goto hX 3 eX7_drops_54 (by decide) ?_
    exact j_sub [1, 2, 0] rfl (k3 _ _ _ _ h)
  · replace h := h.2 c1
    refine j_aload_n hX eX7_drops_17 0 rfl ?_
    obtain ⟨t3, h⟩ := h
    obtain ⟨z4, h⟩ := h
    refine j_getR hX eX7_drops_18 ff_LiftGroupModel_7 rfl t3 (by decide) z4 ?_
    refine j_nmR (fun p5 ep5 => ?_)
    replace h := h p5 ep5
    refine j_iload_n hX eX7_drops_21 2 rfl ?_
    refine j_iload_n hX eX7_drops_22 3 rfl ?_
    refine j_iadd hX eX7_drops_23 ?_
    refine j_iload_n hX eX7_drops_24 3 rfl ?_
    refine j_bipush (v := (11 : Int32)) hX eX7_drops_25 (by decide) ?_
    refine j_icmp_ge hX 43 eX7_drops_27 (by decide) (fun c6 => ?_) (fun c6 => ?_)
    · replace h := h.1 c6
      refine j_iconst (v := (0 : Int32)) hX eX7_drops_43 (by decide) ?_
      obtain ⟨t7, h⟩ := h
      obtain ⟨i8, h⟩ := h
      refine j_iast hX eX7_drops_44 t7 i8 ?_
      refine j_nmM (fun M9 eM9 => ?_)
      replace h := h M9 eM9
      have t10 : hp_T M9 (a0) = 8 := by rw [eM9]; exact t3
      have t11 : hp_T M9 (p5) = 22 := by rw [eM9]; exact t7
      obtain ⟨v12, ev12⟩ : ∃ v12 : Int32, v12 = a3 + (1 : Int32) := ⟨_, rfl⟩
      replace h := h v12 ev12
      refine j_iinc (v := v12) (lv' := [(3, .int v12), (0, .ref a0), (1, .int a1), (2, .int a2)]) hX eX7_drops_45 3 rfl (by rw [ev12]; rfl) (by decide) rfl ?_
      refine j_goto hX 11 eX7_drops_48 (by decide) ?_
      exact j_sub [1, 2, 3, 0] rfl (k11 _ _ _ _ _ h)
    · replace h := h.2 c6
      refine j_aload_n hX eX7_drops_30 0 rfl ?_
      obtain ⟨z13, h⟩ := h
      refine j_getR hX eX7_drops_31 ff_LiftGroupModel_7 rfl t3 (by decide) z13 ?_
      refine j_nmR (fun p14 ep14 => ?_)
      replace h := h p14 ep14
      refine j_iload_n hX eX7_drops_34 2 rfl ?_
      refine j_iload_n hX eX7_drops_35 3 rfl ?_
      refine j_iadd hX eX7_drops_36 ?_
      refine j_iconst (v := (1 : Int32)) hX eX7_drops_37 (by decide) ?_
      refine j_iadd hX eX7_drops_38 ?_
      obtain ⟨t15, h⟩ := h
      obtain ⟨i16, h⟩ := h
      refine j_iald hX eX7_drops_39 t15 i16 ?_
      refine j_goto hX 44 eX7_drops_40 (by decide) ?_
      obtain ⟨t17, h⟩ := h
      obtain ⟨i18, h⟩ := h
      refine j_iast hX eX7_drops_44 t17 i18 ?_
      refine j_nmM (fun M19 eM19 => ?_)
      replace h := h M19 eM19
      have t20 : hp_T M19 (a0) = 8 := by rw [eM19]; exact t3
      have t21 : hp_T M19 (p14) = 22 := by rw [eM19]; exact t15
      have t22 : hp_T M19 (p5) = 22 := by rw [eM19]; exact t17
      obtain ⟨v23, ev23⟩ : ∃ v23 : Int32, v23 = a3 + (1 : Int32) := ⟨_, rfl⟩
      replace h := h v23 ev23
      refine j_iinc (v := v23) (lv' := [(3, .int v23), (0, .ref a0), (1, .int a1), (2, .int a2)]) hX eX7_drops_45 3 rfl (by rw [ev23]; rfl) (by decide) rfl ?_
      refine j_goto hX 11 eX7_drops_48 (by decide) ?_
      exact j_sub [1, 2, 3, 0] rfl (k11 _ _ _ _ _ h)

set_option maxHeartbeats 4000000 in
set_option maxRecDepth 20000 in
theorem vX7_removes_0 {X : am_Cx} {G : am_Gx} {d : Nat} {Q : am_Q} (hX : am_ok X rX7_removes G (d + 1)) (hM : am_me X rX7_removes Q) {bc bs : Nat}  {a0 : Nat} {a1 : Int32} {M : am_Hp} (h : hp_T M (a0) = 8 ∧ (am_CT G d rX7_isPassenger [.ref a0, .int a1] M 0 0 (fun oz9 M1 => ∃ v2 : Int32, oz9 = .inl (some (.int v2)) ∧ (((v2 = 0) → (hp_T M1 (a0) = 8 ∧ (am_CT G d rX7_fails [.ref a0, .int (1 : Int32)] M1 0 0 (fun oz9 M23 => ∃ v24 : Int32, oz9 = .inl (some (.int v24)) ∧ (Q (.inl (some (.int v24))) M23))))) ∧ (¬ (v2 = 0) → (hp_T M1 (a0) = 8 ∧ (hp_R M1 140 a0 ≠ 0 ∧ (∀ p7 : Nat, p7 = hp_R M1 140 a0 → (hp_T M1 (p7) = 22 ∧ (vp_in ((99 : Int32) + a1) (hp_N M1 p7) ∧ ((((hp_E M1 p7 (((99 : Int32) + a1)).toNatClampNeg) = (1 : Int32)) → (am_CT G d rX7_fails [.ref a0, .int (2 : Int32)] M1 0 0 (fun oz9 M21 => ∃ v22 : Int32, oz9 = .inl (some (.int v22)) ∧ (Q (.inl (some (.int v22))) M21)))) ∧ (¬ ((hp_E M1 p7 (((99 : Int32) + a1)).toNatClampNeg) = (1 : Int32)) → (hp_R M1 140 a0 ≠ 0 ∧ (∀ p12 : Nat, p12 = hp_R M1 140 a0 → (hp_T M1 (p12) = 22 ∧ (vp_in ((27 : Int32) + a1) (hp_N M1 p12) ∧ (∀ v15 : Int32, v15 = (hp_E M1 p12 (((27 : Int32) + a1)).toNatClampNeg) → (am_CT G d rX7_drops [.ref a0, .int a1] M1 0 0 (fun oz9 M16 => oz9 = .inl none ∧ (hp_T M16 (a0) = 8 ∧ (am_CT G d rX7_done [.ref a0, .int v15] M16 0 0 (fun oz9 M18 => ∃ v19 : Int32, oz9 = .inl (some (.int v19)) ∧ (Q (.inl (some (.int v19))) M18))))))))))))))))))))))) : am_J X 0 [(0, .ref a0), (1, .int a1)] [] M bc bs := by
  refine j_aload_n hX eX7_removes_0 0 rfl ?_
  refine j_iload_n hX eX7_removes_1 1 rfl ?_
  obtain ⟨t3, h⟩ := h
  refine j_callV (a := a0) (q := (RX7, TX7, 17)) (r' := rX7_isPassenger) (As := [.int a1]) (rest := []) (d1 := d) hX eX7_removes_2 mm_LiftGroupModel_110 rfl t3 (by decide) rfl h rfl (Nat.le_refl _) (Nat.zero_le _) (Nat.zero_le _) (Nat.le_of_ble_eq_true rfl) (fun vz9 Mz9 qz9 => ?_) (fun Ez9 Mz9 qz9 => ?_)
  · obtain ⟨M1, eMz9⟩ : ∃ M1, M1 = Mz9 := ⟨_, rfl⟩; subst eMz9
    obtain ⟨v2, hxz9, h⟩ := qz9
    cases hxz9
    refine j_if_ne hX 14 eX7_removes_5 (by decide) (fun c4 => ?_) (fun c4 => ?_)
    · replace h := h.2 c4
      refine j_aload_n hX eX7_removes_14 0 rfl ?_
      obtain ⟨t5, h⟩ := h
      obtain ⟨z6, h⟩ := h
      refine j_getR hX eX7_removes_15 ff_LiftGroupModel_7 rfl t5 (by decide) z6 ?_
      refine j_nmR (fun p7 ep7 => ?_)
      replace h := h p7 ep7
      refine j_bipush (v := (99 : Int32)) hX eX7_removes_18 (by decide) ?_
      refine j_iload_n hX eX7_removes_20 1 rfl ?_
      refine j_iadd hX eX7_removes_21 ?_
      obtain ⟨t8, h⟩ := h
      obtain ⟨i9, h⟩ := h
      refine j_iald hX eX7_removes_22 t8 i9 ?_
      refine j_iconst (v := (1 : Int32)) hX eX7_removes_23 (by decide) ?_
      refine j_icmp_ne hX 33 eX7_removes_24 (by decide) (fun c10 => ?_) (fun c10 => ?_)
      · replace h := h.2 c10
        refine j_aload_n hX eX7_removes_33 0 rfl ?_
        obtain ⟨z11, h⟩ := h
        refine j_getR hX eX7_removes_34 ff_LiftGroupModel_7 rfl t5 (by decide) z11 ?_
        refine j_nmR (fun p12 ep12 => ?_)
        replace h := h p12 ep12
        refine j_bipush (v := (27 : Int32)) hX eX7_removes_37 (by decide) ?_
        refine j_iload_n hX eX7_removes_39 1 rfl ?_
        refine j_iadd hX eX7_removes_40 ?_
        obtain ⟨t13, h⟩ := h
        obtain ⟨i14, h⟩ := h
        refine j_iald hX eX7_removes_41 t13 i14 ?_
        refine j_nmI (fun v15 ev15 => ?_)
        replace h := h v15 ev15
        refine j_istore_n (lv' := [(2, .int v15), (0, .ref a0), (1, .int a1)]) hX eX7_removes_42 rfl (by decide) rfl ?_
        refine j_aload_n hX eX7_removes_43 1 rfl ?_
        refine j_iload_n hX eX7_removes_44 2 rfl ?_
        refine j_callV (a := a0) (q := (RX7, TX7, 17)) (r' := rX7_drops) (As := [.int a1]) (rest := []) (d1 := d) hX eX7_removes_45 mm_LiftGroupModel_113 rfl t5 (by decide) rfl h rfl (Nat.le_refl _) (Nat.zero_le _) (Nat.zero_le _) (Nat.le_of_ble_eq_true rfl) (fun vz9 Mz9 qz9 => ?_) (fun Ez9 Mz9 qz9 => ?_)
        · obtain ⟨M16, eMz9⟩ : ∃ M16, M16 = Mz9 := ⟨_, rfl⟩; subst eMz9
          obtain ⟨hxz9, h⟩ := qz9
          cases hxz9
          refine j_aload_n hX eX7_removes_48 1 rfl ?_
          refine j_iload_n hX eX7_removes_49 0 rfl ?_
          obtain ⟨t20, h⟩ := h
          refine j_callV (a := a0) (q := (RX7, TX7, 17)) (r' := rX7_done) (As := [.int v15]) (rest := []) (d1 := d) hX eX7_removes_50 mm_LiftGroupModel_97 rfl t20 (by decide) rfl h rfl (Nat.le_refl _) (Nat.zero_le _) (Nat.zero_le _) (Nat.le_of_ble_eq_true rfl) (fun vz9 Mz9 qz9 => ?_) (fun Ez9 Mz9 qz9 => ?_)
          · obtain ⟨M18, eMz9⟩ : ∃ M18, M18 = Mz9 := ⟨_, rfl⟩; subst eMz9
            obtain ⟨v19, hxz9, h⟩ := qz9
            cases hxz9
            exact j_iret hX hM eX7_removes_53 rfl h
          · obtain ⟨v19, hxz9, h⟩ := qz9
            cases hxz9
        · obtain ⟨hxz9, h⟩ := qz9
          cases hxz9
      · replace h := h.1 c10
        refine j_aload_n hX eX7_removes_27 0 rfl ?_
        refine j_iconst (v := (2 : Int32)) hX eX7_removes_28 (by decide) ?_
        refine j_callV (a := a0) (q := (RX7, TX7, 17)) (r' := rX7_fails) (As := [.int (2 : Int32)]) (rest := []) (d1 := d) hX eX7_removes_29 mm_LiftGroupModel_90 rfl t5 (by decide) rfl h rfl (Nat.le_refl _) (Nat.zero_le _) (Nat.zero_le _) (Nat.le_of_ble_eq_true rfl) (fun vz9 Mz9 qz9 => ?_) (fun Ez9 Mz9 qz9 => ?_)
        · obtain ⟨M21, eMz9⟩ : ∃ M21, M21 = Mz9 := ⟨_, rfl⟩; subst eMz9
          obtain ⟨v22, hxz9, h⟩ := qz9
          cases hxz9
          exact j_iret hX hM eX7_removes_32 rfl h
        · obtain ⟨v22, hxz9, h⟩ := qz9
          cases hxz9
    · replace h := h.1 c4
      refine j_aload_n hX eX7_removes_8 0 rfl ?_
      refine j_iconst (v := (1 : Int32)) hX eX7_removes_9 (by decide) ?_
      obtain ⟨t25, h⟩ := h
      refine j_callV (a := a0) (q := (RX7, TX7, 17)) (r' := rX7_fails) (As := [.int (1 : Int32)]) (rest := []) (d1 := d) hX eX7_removes_10 mm_LiftGroupModel_90 rfl t25 (by decide) rfl h rfl (Nat.le_refl _) (Nat.zero_le _) (Nat.zero_le _) (Nat.le_of_ble_eq_true rfl) (fun vz9 Mz9 qz9 => ?_) (fun Ez9 Mz9 qz9 => ?_)
      · obtain ⟨M23, eMz9⟩ : ∃ M23, M23 = Mz9 := ⟨_, rfl⟩; subst eMz9
        obtain ⟨v24, hxz9, h⟩ := qz9
        cases hxz9
        exact j_iret hX hM eX7_removes_13 rfl h
      · obtain ⟨v24, hxz9, h⟩ := qz9
        cases hxz9
  · obtain ⟨v2, hxz9, h⟩ := qz9
    cases hxz9

set_option maxHeartbeats 4000000 in
set_option maxRecDepth 20000 in
theorem vX7_removePassenger_0 {X : am_Cx} {G : am_Gx} {d : Nat} {Q : am_Q} (hX : am_ok X rX7_removePassenger G (d + 1)) (hM : am_me X rX7_removePassenger Q) {bc bs : Nat}  {a0 : Nat} {a1 : Int32} {M : am_Hp} (h : hp_T M (a0) = 8 ∧ (am_CT G d rX7_begin [.ref a0] M 0 0 (fun oz9 M1 => oz9 = .inl none ∧ (hp_T M1 (a0) = 8 ∧ (am_CT G d rX7_removes [.ref a0, .int a1] M1 0 0 (fun oz9 M4 => ∃ v5 : Int32, oz9 = .inl (some (.int v5)) ∧ (hp_T M4 (a0) = 8 ∧ (am_CT G d rX7_kept [.ref a0, .int v5] M4 0 0 (fun oz9 M7 => ∃ v8 : Int32, oz9 = .inl (some (.int v8)) ∧ (Q (.inl (some (.int v8))) M7)))))))))) : am_J X 0 [(0, .ref a0), (1, .int a1)] [] M bc bs := by
  refine j_aload_n hX eX7_removePassenger_0 0 rfl ?_
  obtain ⟨t3, h⟩ := h
  refine j_callV (a := a0) (q := (RX7, TX7, 17)) (r' := rX7_begin) (As := []) (rest := []) (d1 := d) hX eX7_removePassenger_1 mm_LiftGroupModel_100 rfl t3 (by decide) rfl h rfl (Nat.le_refl _) (Nat.zero_le _) (Nat.zero_le _) (Nat.le_of_ble_eq_true rfl) (fun vz9 Mz9 qz9 => ?_) (fun Ez9 Mz9 qz9 => ?_)
  · obtain ⟨M1, eMz9⟩ : ∃ M1, M1 = Mz9 := ⟨_, rfl⟩; subst eMz9
    obtain ⟨hxz9, h⟩ := qz9
    cases hxz9
    refine j_aload_n hX eX7_removePassenger_4 0 rfl ?_
    refine j_aload_n hX eX7_removePassenger_5 0 rfl ?_
    refine j_iload_n hX eX7_removePassenger_6 1 rfl ?_
    obtain ⟨t6, h⟩ := h
    refine j_callV (a := a0) (q := (RX7, TX7, 17)) (r' := rX7_removes) (As := [.int a1]) (rest := [.ref a0]) (d1 := d) hX eX7_removePassenger_7 mm_LiftGroupModel_116 rfl t6 (by decide) rfl h rfl (Nat.le_refl _) (Nat.zero_le _) (Nat.zero_le _) (Nat.le_of_ble_eq_true rfl) (fun vz9 Mz9 qz9 => ?_) (fun Ez9 Mz9 qz9 => ?_)
    · obtain ⟨M4, eMz9⟩ : ∃ M4, M4 = Mz9 := ⟨_, rfl⟩; subst eMz9
      obtain ⟨v5, hxz9, h⟩ := qz9
      cases hxz9
      obtain ⟨t9, h⟩ := h
      refine j_callV (a := a0) (q := (RX7, TX7, 17)) (r' := rX7_kept) (As := [.int v5]) (rest := []) (d1 := d) hX eX7_removePassenger_10 mm_LiftGroupModel_107 rfl t9 (by decide) rfl h rfl (Nat.le_refl _) (Nat.zero_le _) (Nat.zero_le _) (Nat.le_of_ble_eq_true rfl) (fun vz9 Mz9 qz9 => ?_) (fun Ez9 Mz9 qz9 => ?_)
      · obtain ⟨M7, eMz9⟩ : ∃ M7, M7 = Mz9 := ⟨_, rfl⟩; subst eMz9
        obtain ⟨v8, hxz9, h⟩ := qz9
        cases hxz9
        exact j_iret hX hM eX7_removePassenger_13 rfl h
      · obtain ⟨v8, hxz9, h⟩ := qz9
        cases hxz9
    · obtain ⟨v5, hxz9, h⟩ := qz9
      cases hxz9
  · obtain ⟨hxz9, h⟩ := qz9
    cases hxz9

set_option maxHeartbeats 4000000 in
set_option maxRecDepth 20000 in
theorem vX7_holds_0 {X : am_Cx} {G : am_Gx} {d : Nat} {Q : am_Q} (hX : am_ok X rX7_holds G (d + 1)) (hM : am_me X rX7_holds Q) {bc bs : Nat}  {a0 : Nat} {a1 : Int32} {a2 : Int32} {M : am_Hp} (h : am_CT G d rX7_isCar [.int a1] M 0 0 (fun oz9 M1 => ∃ v2 : Int32, oz9 = .inl (some (.int v2)) ∧ (((v2 = 0) → (hp_T M1 (a0) = 8 ∧ (am_CT G d rX7_fails [.ref a0, .int (1 : Int32)] M1 0 0 (fun oz9 M29 => ∃ v30 : Int32, oz9 = .inl (some (.int v30)) ∧ (Q (.inl (some (.int v30))) M29))))) ∧ (¬ (v2 = 0) → (am_CT G d rX7_in [.int a2, .int (1 : Int32), .int (3 : Int32)] M1 0 0 (fun oz9 M4 => ∃ v5 : Int32, oz9 = .inl (some (.int v5)) ∧ (((v5 = 0) → (hp_T M4 (a0) = 8 ∧ (am_CT G d rX7_fails [.ref a0, .int (2 : Int32)] M4 0 0 (fun oz9 M26 => ∃ v27 : Int32, oz9 = .inl (some (.int v27)) ∧ (Q (.inl (some (.int v27))) M26))))) ∧ (¬ (v5 = 0) → (hp_T M4 (a0) = 8 ∧ (hp_R M4 140 a0 ≠ 0 ∧ (∀ p9 : Nat, p9 = hp_R M4 140 a0 → (hp_T M4 (p9) = 22 ∧ (vp_in ((18 : Int32) + a1) (hp_N M4 p9) ∧ (∀ v12 : Int32, v12 = (hp_E M4 p9 (((18 : Int32) + a1)).toNatClampNeg) → (((v12 = 0) → (am_CT G d rX7_fails [.ref a0, .int (3 : Int32)] M4 0 0 (fun oz9 M24 => ∃ v25 : Int32, oz9 = .inl (some (.int v25)) ∧ (Q (.inl (some (.int v25))) M24)))) ∧ (¬ (v12 = 0) → (hp_R M4 140 a0 ≠ 0 ∧ (∀ p15 : Nat, p15 = hp_R M4 140 a0 → (hp_T M4 (p15) = 22 ∧ (vp_in ((18 : Int32) + a1) (hp_N M4 p15) ∧ (∀ M18 : am_Hp, M18 = hp_sE M4 p15 (((18 : Int32) + a1)).toNatClampNeg a2 → (am_CT G d rX7_done [.ref a0, .int v12] M18 0 0 (fun oz9 M22 => ∃ v23 : Int32, oz9 = .inl (some (.int v23)) ∧ (Q (.inl (some (.int v23))) M22)))))))))))))))))))))))) : am_J X 0 [(0, .ref a0), (1, .int a1), (2, .int a2)] [] M bc bs := by
  refine j_iload_n hX eX7_holds_0 1 rfl ?_
  refine j_callS (r' := rX7_isCar) (As := [.int a1]) (rest := []) (d1 := d) hX eX7_holds_1 mm_LiftGroupModel_119 rfl rfl h rfl (Nat.le_refl _) (Nat.zero_le _) (Nat.zero_le _) (Nat.le_of_ble_eq_true rfl) (fun vz9 Mz9 qz9 => ?_) (fun Ez9 Mz9 qz9 => ?_)
  · obtain ⟨M1, eMz9⟩ : ∃ M1, M1 = Mz9 := ⟨_, rfl⟩; subst eMz9
    obtain ⟨v2, hxz9, h⟩ := qz9
    cases hxz9
    refine j_if_ne hX 13 eX7_holds_4 (by decide) (fun c3 => ?_) (fun c3 => ?_)
    · replace h := h.2 c3
      refine j_iload_n hX eX7_holds_13 2 rfl ?_
      refine j_iconst (v := (1 : Int32)) hX eX7_holds_14 (by decide) ?_
      refine j_iconst (v := (3 : Int32)) hX eX7_holds_15 (by decide) ?_
      refine j_callS (r' := rX7_in) (As := [.int a2, .int (1 : Int32), .int (3 : Int32)]) (rest := []) (d1 := d) hX eX7_holds_16 mm_LiftGroupModel_52 rfl rfl h rfl (Nat.le_refl _) (Nat.zero_le _) (Nat.zero_le _) (Nat.le_of_ble_eq_true rfl) (fun vz9 Mz9 qz9 => ?_) (fun Ez9 Mz9 qz9 => ?_)
      · obtain ⟨M4, eMz9⟩ : ∃ M4, M4 = Mz9 := ⟨_, rfl⟩; subst eMz9
        obtain ⟨v5, hxz9, h⟩ := qz9
        cases hxz9
        refine j_if_ne hX 28 eX7_holds_19 (by decide) (fun c6 => ?_) (fun c6 => ?_)
        · replace h := h.2 c6
          refine j_aload_n hX eX7_holds_28 0 rfl ?_
          obtain ⟨t7, h⟩ := h
          obtain ⟨z8, h⟩ := h
          refine j_getR hX eX7_holds_29 ff_LiftGroupModel_7 rfl t7 (by decide) z8 ?_
          refine j_nmR (fun p9 ep9 => ?_)
          replace h := h p9 ep9
          refine j_bipush (v := (18 : Int32)) hX eX7_holds_32 (by decide) ?_
          refine j_iload_n hX eX7_holds_34 1 rfl ?_
          refine j_iadd hX eX7_holds_35 ?_
          obtain ⟨t10, h⟩ := h
          obtain ⟨i11, h⟩ := h
          refine j_iald hX eX7_holds_36 t10 i11 ?_
          refine j_nmI (fun v12 ev12 => ?_)
          replace h := h v12 ev12
          refine j_istore_n (lv' := [(3, .int v12), (0, .ref a0), (1, .int a1), (2, .int a2)]) hX eX7_holds_37 rfl (by decide) rfl ?_
          refine j_iload_n hX eX7_holds_38 0 rfl ?_
          refine j_if_ne hX 48 eX7_holds_39 (by decide) (fun c13 => ?_) (fun c13 => ?_)
          · replace h := h.2 c13
            refine j_aload_n hX eX7_holds_48 1 rfl ?_
            obtain ⟨z14, h⟩ := h
            refine j_getR hX eX7_holds_49 ff_LiftGroupModel_7 rfl t7 (by decide) z14 ?_
            refine j_nmR (fun p15 ep15 => ?_)
            replace h := h p15 ep15
            refine j_bipush (v := (18 : Int32)) hX eX7_holds_52 (by decide) ?_
            refine j_iload_n hX eX7_holds_54 2 rfl ?_
            refine j_iadd hX eX7_holds_55 ?_
            refine j_iload_n hX eX7_holds_56 3 rfl ?_
            obtain ⟨t16, h⟩ := h
            obtain ⟨i17, h⟩ := h
            refine j_iast hX eX7_holds_57 t16 i17 ?_
            refine j_nmM (fun M18 eM18 => ?_)
            replace h := h M18 eM18
            have t19 : hp_T M18 (a0) = 8 := by rw [eM18]; exact t7
            have t20 : hp_T M18 (p9) = 22 := by rw [eM18]; exact t10
            have t21 : hp_T M18 (p15) = 22 := by rw [eM18]; exact t16
            refine j_aload_n hX eX7_holds_58 1 rfl ?_
            refine j_iload_n hX eX7_holds_59 0 rfl ?_
            refine j_callV (a := a0) (q := (RX7, TX7, 17)) (r' := rX7_done) (As := [.int v12]) (rest := []) (d1 := d) hX eX7_holds_60 mm_LiftGroupModel_97 rfl t19 (by decide) rfl h rfl (Nat.le_refl _) (Nat.zero_le _) (Nat.zero_le _) (Nat.le_of_ble_eq_true rfl) (fun vz9 Mz9 qz9 => ?_) (fun Ez9 Mz9 qz9 => ?_)
            · obtain ⟨M22, eMz9⟩ : ∃ M22, M22 = Mz9 := ⟨_, rfl⟩; subst eMz9
              obtain ⟨v23, hxz9, h⟩ := qz9
              cases hxz9
              exact j_iret hX hM eX7_holds_63 rfl h
            · obtain ⟨v23, hxz9, h⟩ := qz9
              cases hxz9
          · replace h := h.1 c13
            refine j_aload_n hX eX7_holds_42 1 rfl ?_
            refine j_iconst (v := (3 : Int32)) hX eX7_holds_43 (by decide) ?_
            refine j_callV (a := a0) (q := (RX7, TX7, 17)) (r' := rX7_fails) (As := [.int (3 : Int32)]) (rest := []) (d1 := d) hX eX7_holds_44 mm_LiftGroupModel_90 rfl t7 (by decide) rfl h rfl (Nat.le_refl _) (Nat.zero_le _) (Nat.zero_le _) (Nat.le_of_ble_eq_true rfl) (fun vz9 Mz9 qz9 => ?_) (fun Ez9 Mz9 qz9 => ?_)
            · obtain ⟨M24, eMz9⟩ : ∃ M24, M24 = Mz9 := ⟨_, rfl⟩; subst eMz9
              obtain ⟨v25, hxz9, h⟩ := qz9
              cases hxz9
              exact j_iret hX hM eX7_holds_47 rfl h
            · obtain ⟨v25, hxz9, h⟩ := qz9
              cases hxz9
        · replace h := h.1 c6
          refine j_aload_n hX eX7_holds_22 0 rfl ?_
          refine j_iconst (v := (2 : Int32)) hX eX7_holds_23 (by decide) ?_
          obtain ⟨t28, h⟩ := h
          refine j_callV (a := a0) (q := (RX7, TX7, 17)) (r' := rX7_fails) (As := [.int (2 : Int32)]) (rest := []) (d1 := d) hX eX7_holds_24 mm_LiftGroupModel_90 rfl t28 (by decide) rfl h rfl (Nat.le_refl _) (Nat.zero_le _) (Nat.zero_le _) (Nat.le_of_ble_eq_true rfl) (fun vz9 Mz9 qz9 => ?_) (fun Ez9 Mz9 qz9 => ?_)
          · obtain ⟨M26, eMz9⟩ : ∃ M26, M26 = Mz9 := ⟨_, rfl⟩; subst eMz9
            obtain ⟨v27, hxz9, h⟩ := qz9
            cases hxz9
            exact j_iret hX hM eX7_holds_27 rfl h
          · obtain ⟨v27, hxz9, h⟩ := qz9
            cases hxz9
      · obtain ⟨v5, hxz9, h⟩ := qz9
        cases hxz9
    · replace h := h.1 c3
      refine j_aload_n hX eX7_holds_7 0 rfl ?_
      refine j_iconst (v := (1 : Int32)) hX eX7_holds_8 (by decide) ?_
      obtain ⟨t31, h⟩ := h
      refine j_callV (a := a0) (q := (RX7, TX7, 17)) (r' := rX7_fails) (As := [.int (1 : Int32)]) (rest := []) (d1 := d) hX eX7_holds_9 mm_LiftGroupModel_90 rfl t31 (by decide) rfl h rfl (Nat.le_refl _) (Nat.zero_le _) (Nat.zero_le _) (Nat.le_of_ble_eq_true rfl) (fun vz9 Mz9 qz9 => ?_) (fun Ez9 Mz9 qz9 => ?_)
      · obtain ⟨M29, eMz9⟩ : ∃ M29, M29 = Mz9 := ⟨_, rfl⟩; subst eMz9
        obtain ⟨v30, hxz9, h⟩ := qz9
        cases hxz9
        exact j_iret hX hM eX7_holds_12 rfl h
      · obtain ⟨v30, hxz9, h⟩ := qz9
        cases hxz9
  · obtain ⟨v2, hxz9, h⟩ := qz9
    cases hxz9

set_option maxHeartbeats 4000000 in
set_option maxRecDepth 20000 in
theorem vX7_holdDoors_0 {X : am_Cx} {G : am_Gx} {d : Nat} {Q : am_Q} (hX : am_ok X rX7_holdDoors G (d + 1)) (hM : am_me X rX7_holdDoors Q) {bc bs : Nat}  {a0 : Nat} {a1 : Int32} {a2 : Int32} {M : am_Hp} (h : hp_T M (a0) = 8 ∧ (am_CT G d rX7_begin [.ref a0] M 0 0 (fun oz9 M1 => oz9 = .inl none ∧ (hp_T M1 (a0) = 8 ∧ (am_CT G d rX7_holds [.ref a0, .int a1, .int a2] M1 0 0 (fun oz9 M4 => ∃ v5 : Int32, oz9 = .inl (some (.int v5)) ∧ (hp_T M4 (a0) = 8 ∧ (am_CT G d rX7_kept [.ref a0, .int v5] M4 0 0 (fun oz9 M7 => ∃ v8 : Int32, oz9 = .inl (some (.int v8)) ∧ (Q (.inl (some (.int v8))) M7)))))))))) : am_J X 0 [(0, .ref a0), (1, .int a1), (2, .int a2)] [] M bc bs := by
  refine j_aload_n hX eX7_holdDoors_0 0 rfl ?_
  obtain ⟨t3, h⟩ := h
  refine j_callV (a := a0) (q := (RX7, TX7, 17)) (r' := rX7_begin) (As := []) (rest := []) (d1 := d) hX eX7_holdDoors_1 mm_LiftGroupModel_100 rfl t3 (by decide) rfl h rfl (Nat.le_refl _) (Nat.zero_le _) (Nat.zero_le _) (Nat.le_of_ble_eq_true rfl) (fun vz9 Mz9 qz9 => ?_) (fun Ez9 Mz9 qz9 => ?_)
  · obtain ⟨M1, eMz9⟩ : ∃ M1, M1 = Mz9 := ⟨_, rfl⟩; subst eMz9
    obtain ⟨hxz9, h⟩ := qz9
    cases hxz9
    refine j_aload_n hX eX7_holdDoors_4 0 rfl ?_
    refine j_aload_n hX eX7_holdDoors_5 0 rfl ?_
    refine j_iload_n hX eX7_holdDoors_6 1 rfl ?_
    refine j_iload_n hX eX7_holdDoors_7 2 rfl ?_
    obtain ⟨t6, h⟩ := h
    refine j_callV (a := a0) (q := (RX7, TX7, 17)) (r' := rX7_holds) (As := [.int a1, .int a2]) (rest := [.ref a0]) (d1 := d) hX eX7_holdDoors_8 mm_LiftGroupModel_122 rfl t6 (by decide) rfl h rfl (Nat.le_refl _) (Nat.zero_le _) (Nat.zero_le _) (Nat.le_of_ble_eq_true rfl) (fun vz9 Mz9 qz9 => ?_) (fun Ez9 Mz9 qz9 => ?_)
    · obtain ⟨M4, eMz9⟩ : ∃ M4, M4 = Mz9 := ⟨_, rfl⟩; subst eMz9
      obtain ⟨v5, hxz9, h⟩ := qz9
      cases hxz9
      obtain ⟨t9, h⟩ := h
      refine j_callV (a := a0) (q := (RX7, TX7, 17)) (r' := rX7_kept) (As := [.int v5]) (rest := []) (d1 := d) hX eX7_holdDoors_11 mm_LiftGroupModel_107 rfl t9 (by decide) rfl h rfl (Nat.le_refl _) (Nat.zero_le _) (Nat.zero_le _) (Nat.le_of_ble_eq_true rfl) (fun vz9 Mz9 qz9 => ?_) (fun Ez9 Mz9 qz9 => ?_)
      · obtain ⟨M7, eMz9⟩ : ∃ M7, M7 = Mz9 := ⟨_, rfl⟩; subst eMz9
        obtain ⟨v8, hxz9, h⟩ := qz9
        cases hxz9
        exact j_iret hX hM eX7_holdDoors_14 rfl h
      · obtain ⟨v8, hxz9, h⟩ := qz9
        cases hxz9
    · obtain ⟨v5, hxz9, h⟩ := qz9
      cases hxz9
  · obtain ⟨hxz9, h⟩ := qz9
    cases hxz9

set_option maxHeartbeats 4000000 in
set_option maxRecDepth 20000 in
theorem vX7_stops_0 {X : am_Cx} {G : am_Gx} {d : Nat} {Q : am_Q} (hX : am_ok X rX7_stops G (d + 1)) (hM : am_me X rX7_stops Q) {bc bs : Nat} (R36 : Nat → Int32 → Int32 → Int32 → am_Hp → Prop) (k36 : ∀ (x0 : Nat) (x1 : Int32) (x2 : Int32) (x3 : Int32) (M : am_Hp), R36 x0 x1 x2 x3 M → am_J X 36 [(0, .ref x0), (1, .int x1), (2, .int x2), (3, .int x3)] [] M bc bs) {a0 : Nat} {a1 : Int32} {M : am_Hp} (h : am_CT G d rX7_isCar [.int a1] M 0 0 (fun oz9 M1 => ∃ v2 : Int32, oz9 = .inl (some (.int v2)) ∧ (((v2 = 0) → (hp_T M1 (a0) = 8 ∧ (am_CT G d rX7_fails [.ref a0, .int (1 : Int32)] M1 0 0 (fun oz9 M12 => ∃ v13 : Int32, oz9 = .inl (some (.int v13)) ∧ (Q (.inl (some (.int v13))) M12))))) ∧ (¬ (v2 = 0) → (hp_T M1 (a0) = 8 ∧ (hp_R M1 140 a0 ≠ 0 ∧ (∀ p6 : Nat, p6 = hp_R M1 140 a0 → (hp_T M1 (p6) = 22 ∧ (vp_in ((21 : Int32) + a1) (hp_N M1 p6) ∧ ((((hp_E M1 p6 (((21 : Int32) + a1)).toNatClampNeg) = (1 : Int32)) → (am_CT G d rX7_fails [.ref a0, .int (2 : Int32)] M1 0 0 (fun oz9 M10 => ∃ v11 : Int32, oz9 = .inl (some (.int v11)) ∧ (Q (.inl (some (.int v11))) M10)))) ∧ (¬ ((hp_E M1 p6 (((21 : Int32) + a1)).toNatClampNeg) = (1 : Int32)) → (R36 a0 a1 (0 : Int32) (0 : Int32) M1)))))))))))) : am_J X 0 [(0, .ref a0), (1, .int a1)] [] M bc bs := by
  refine j_iload_n hX eX7_stops_0 1 rfl ?_
  refine j_callS (r' := rX7_isCar) (As := [.int a1]) (rest := []) (d1 := d) hX eX7_stops_1 mm_LiftGroupModel_119 rfl rfl h rfl (Nat.le_refl _) (Nat.zero_le _) (Nat.zero_le _) (Nat.le_of_ble_eq_true rfl) (fun vz9 Mz9 qz9 => ?_) (fun Ez9 Mz9 qz9 => ?_)
  · obtain ⟨M1, eMz9⟩ : ∃ M1, M1 = Mz9 := ⟨_, rfl⟩; subst eMz9
    obtain ⟨v2, hxz9, h⟩ := qz9
    cases hxz9
    refine j_if_ne hX 13 eX7_stops_4 (by decide) (fun c3 => ?_) (fun c3 => ?_)
    · replace h := h.2 c3
      refine j_aload_n hX eX7_stops_13 0 rfl ?_
      obtain ⟨t4, h⟩ := h
      obtain ⟨z5, h⟩ := h
      refine j_getR hX eX7_stops_14 ff_LiftGroupModel_7 rfl t4 (by decide) z5 ?_
      refine j_nmR (fun p6 ep6 => ?_)
      replace h := h p6 ep6
      refine j_bipush (v := (21 : Int32)) hX eX7_stops_17 (by decide) ?_
      refine j_iload_n hX eX7_stops_19 1 rfl ?_
      refine j_iadd hX eX7_stops_20 ?_
      obtain ⟨t7, h⟩ := h
      obtain ⟨i8, h⟩ := h
      refine j_iald hX eX7_stops_21 t7 i8 ?_
      refine j_iconst (v := (1 : Int32)) hX eX7_stops_22 (by decide) ?_
      refine j_icmp_ne hX 32 eX7_stops_23 (by decide) (fun c9 => ?_) (fun c9 => ?_)
      · replace h := h.2 c9
        refine j_iconst (v := (0 : Int32)) hX eX7_stops_32 (by decide) ?_
        refine j_istore_n (lv' := [(2, .int (0 : Int32)), (0, .ref a0), (1, .int a1)]) hX eX7_stops_33 rfl (by decide) rfl ?_
        refine j_iconst (v := (0 : Int32)) hX eX7_stops_34 (by decide) ?_
        refine j_istore_n (lv' := [(3, .int (0 : Int32)), (2, .int (0 : Int32)), (0, .ref a0), (1, .int a1)]) hX eX7_stops_35 rfl (by decide) rfl ?_
        exact j_sub [2, 3, 1, 0] rfl (k36 _ _ _ _ _ h)
      · replace h := h.1 c9
        refine j_aload_n hX eX7_stops_26 0 rfl ?_
        refine j_iconst (v := (2 : Int32)) hX eX7_stops_27 (by decide) ?_
        refine j_callV (a := a0) (q := (RX7, TX7, 17)) (r' := rX7_fails) (As := [.int (2 : Int32)]) (rest := []) (d1 := d) hX eX7_stops_28 mm_LiftGroupModel_90 rfl t4 (by decide) rfl h rfl (Nat.le_refl _) (Nat.zero_le _) (Nat.zero_le _) (Nat.le_of_ble_eq_true rfl) (fun vz9 Mz9 qz9 => ?_) (fun Ez9 Mz9 qz9 => ?_)
        · obtain ⟨M10, eMz9⟩ : ∃ M10, M10 = Mz9 := ⟨_, rfl⟩; subst eMz9
          obtain ⟨v11, hxz9, h⟩ := qz9
          cases hxz9
          exact j_iret hX hM eX7_stops_31 rfl h
        · obtain ⟨v11, hxz9, h⟩ := qz9
          cases hxz9
    · replace h := h.1 c3
      refine j_aload_n hX eX7_stops_7 0 rfl ?_
      refine j_iconst (v := (1 : Int32)) hX eX7_stops_8 (by decide) ?_
      obtain ⟨t14, h⟩ := h
      refine j_callV (a := a0) (q := (RX7, TX7, 17)) (r' := rX7_fails) (As := [.int (1 : Int32)]) (rest := []) (d1 := d) hX eX7_stops_9 mm_LiftGroupModel_90 rfl t14 (by decide) rfl h rfl (Nat.le_refl _) (Nat.zero_le _) (Nat.zero_le _) (Nat.le_of_ble_eq_true rfl) (fun vz9 Mz9 qz9 => ?_) (fun Ez9 Mz9 qz9 => ?_)
      · obtain ⟨M12, eMz9⟩ : ∃ M12, M12 = Mz9 := ⟨_, rfl⟩; subst eMz9
        obtain ⟨v13, hxz9, h⟩ := qz9
        cases hxz9
        exact j_iret hX hM eX7_stops_12 rfl h
      · obtain ⟨v13, hxz9, h⟩ := qz9
        cases hxz9
  · obtain ⟨v2, hxz9, h⟩ := qz9
    cases hxz9
set_option maxHeartbeats 4000000 in
set_option maxRecDepth 20000 in
theorem vX7_stops_36 {X : am_Cx} {G : am_Gx} {d : Nat} {Q : am_Q} (hX : am_ok X rX7_stops G (d + 1)) (hM : am_me X rX7_stops Q) {bc bs : Nat} (R36 : Nat → Int32 → Int32 → Int32 → am_Hp → Prop) (k36 : ∀ (x0 : Nat) (x1 : Int32) (x2 : Int32) (x3 : Int32) (M : am_Hp), R36 x0 x1 x2 x3 M → am_J X 36 [(0, .ref x0), (1, .int x1), (2, .int x2), (3, .int x3)] [] M bc bs) {a0 : Nat} {a1 : Int32} {a2 : Int32} {a3 : Int32} {M : am_Hp} (h : hp_T M (a0) = 8 ∧ (hp_R M 140 a0 ≠ 0 ∧ (∀ p3 : Nat, p3 = hp_R M 140 a0 → (hp_T M (p3) = 22 ∧ (vp_in (1 : Int32) (hp_N M p3) ∧ ((((hp_E M p3 ((1 : Int32)).toNatClampNeg) ≤ a3) → (hp_R M 140 a0 ≠ 0 ∧ (∀ p8 : Nat, p8 = hp_R M 140 a0 → (hp_T M (p8) = 22 ∧ (vp_in ((21 : Int32) + a1) (hp_N M p8) ∧ (∀ M11 : am_Hp, M11 = hp_sE M p8 (((21 : Int32) + a1)).toNatClampNeg (1 : Int32) → (am_CT G d rX7_done [.ref a0, .int a2] M11 0 0 (fun oz9 M15 => ∃ v16 : Int32, oz9 = .inl (some (.int v16)) ∧ (Q (.inl (some (.int v16))) M15))))))))) ∧ (¬ ((hp_E M p3 ((1 : Int32)).toNatClampNeg) ≤ a3) → (am_CT G d rX7_awaits [.ref a0, .int a3, .int a1] M 0 0 (fun oz9 M17 => ∃ v18 : Int32, oz9 = .inl (some (.int v18)) ∧ (((v18 = 0) → (∀ v20 : Int32, v20 = a3 + (1 : Int32) → (R36 a0 a1 a2 v20 M17))) ∧ (¬ (v18 = 0) → (hp_T M17 (a0) = 8 ∧ (hp_R M17 140 a0 ≠ 0 ∧ (∀ p23 : Nat, p23 = hp_R M17 140 a0 → (hp_T M17 (p23) = 22 ∧ (vp_in ((87 : Int32) + a3) (hp_N M17 p23) ∧ (∀ M26 : am_Hp, M26 = hp_sE M17 p23 (((87 : Int32) + a3)).toNatClampNeg (0 : Int32) → (∀ v29 : Int32, v29 = a2 + (1 : Int32) → (∀ v30 : Int32, v30 = a3 + (1 : Int32) → (R36 a0 a1 v29 v30 M26)))))))))))))))))))) : am_J X 36 [(0, .ref a0), (1, .int a1), (2, .int a2), (3, .int a3)] [] M bc bs := by
  refine j_iload_n hX eX7_stops_36 3 rfl ?_
  refine j_aload_n hX eX7_stops_37 0 rfl ?_
  obtain ⟨t1, h⟩ := h
  obtain ⟨z2, h⟩ := h
  refine j_getR hX eX7_stops_38 ff_LiftGroupModel_7 rfl t1 (by decide) z2 ?_
  refine j_nmR (fun p3 ep3 => ?_)
  replace h := h p3 ep3
  refine j_iconst (v := (1 : Int32)) hX eX7_stops_41 (by decide) ?_
  obtain ⟨t4, h⟩ := h
  obtain ⟨i5, h⟩ := h
  refine j_iald hX eX7_stops_42 t4 i5 ?_
  refine j_icmp_ge hX 74 eX7_stops_43 (by decide) (fun c6 => ?_) (fun c6 => ?_)
  · replace h := h.1 c6
    refine j_aload_n hX eX7_stops_74 0 rfl ?_
    obtain ⟨z7, h⟩ := h
    refine j_getR hX eX7_stops_75 ff_LiftGroupModel_7 rfl t1 (by decide) z7 ?_
    refine j_nmR (fun p8 ep8 => ?_)
    replace h := h p8 ep8
    refine j_bipush (v := (21 : Int32)) hX eX7_stops_78 (by decide) ?_
    refine j_iload_n hX eX7_stops_80 1 rfl ?_
    refine j_iadd hX eX7_stops_81 ?_
    refine j_iconst (v := (1 : Int32)) hX eX7_stops_82 (by decide) ?_
    obtain ⟨t9, h⟩ := h
    obtain ⟨i10, h⟩ := h
    refine j_iast hX eX7_stops_83 t9 i10 ?_
    refine j_nmM (fun M11 eM11 => ?_)
    replace h := h M11 eM11
    have t12 : hp_T M11 (a0) = 8 := by rw [eM11]; exact t1
    have t13 : hp_T M11 (p3) = 22 := by rw [eM11]; exact t4
    have t14 : hp_T M11 (p8) = 22 := by rw [eM11]; exact t9
    refine j_aload_n hX eX7_stops_84 0 rfl ?_
    refine j_iload_n hX eX7_stops_85 2 rfl ?_
    refine j_callV (a := a0) (q := (RX7, TX7, 17)) (r' := rX7_done) (As := [.int a2]) (rest := []) (d1 := d) hX eX7_stops_86 mm_LiftGroupModel_97 rfl t12 (by decide) rfl h rfl (Nat.le_refl _) (Nat.zero_le _) (Nat.zero_le _) (Nat.le_of_ble_eq_true rfl) (fun vz9 Mz9 qz9 => ?_) (fun Ez9 Mz9 qz9 => ?_)
    · obtain ⟨M15, eMz9⟩ : ∃ M15, M15 = Mz9 := ⟨_, rfl⟩; subst eMz9
      obtain ⟨v16, hxz9, h⟩ := qz9
      cases hxz9
      exact j_iret hX hM eX7_stops_89 rfl h
    · obtain ⟨v16, hxz9, h⟩ := qz9
      cases hxz9
  · replace h := h.2 c6
    refine j_aload_n hX eX7_stops_46 0 rfl ?_
    refine j_iload_n hX eX7_stops_47 3 rfl ?_
    refine j_iload_n hX eX7_stops_48 1 rfl ?_
    refine j_callV (a := a0) (q := (RX7, TX7, 17)) (r' := rX7_awaits) (As := [.int a3, .int a1]) (rest := []) (d1 := d) hX eX7_stops_49 mm_LiftGroupModel_60 rfl t1 (by decide) rfl h rfl (Nat.le_refl _) (Nat.zero_le _) (Nat.zero_le _) (Nat.le_of_ble_eq_true rfl) (fun vz9 Mz9 qz9 => ?_) (fun Ez9 Mz9 qz9 => ?_)
    · obtain ⟨M17, eMz9⟩ : ∃ M17, M17 = Mz9 := ⟨_, rfl⟩; subst eMz9
      obtain ⟨v18, hxz9, h⟩ := qz9
      cases hxz9
      refine j_if_eq hX 68 eX7_stops_52 (by decide) (fun c19 => ?_) (fun c19 => ?_)
      · replace h := h.1 c19
        obtain ⟨v20, ev20⟩ : ∃ v20 : Int32, v20 = a3 + (1 : Int32) := ⟨_, rfl⟩
        replace h := h v20 ev20
        refine j_iinc (v := v20) (lv' := [(3, .int v20), (0, .ref a0), (1, .int a1), (2, .int a2)]) hX eX7_stops_68 3 rfl (by rw [ev20]; rfl) (by decide) rfl ?_
        refine j_goto hX 36 eX7_stops_71 (by decide) ?_
        exact j_sub [1, 2, 3, 0] rfl (k36 _ _ _ _ _ h)
      · replace h := h.2 c19
        refine j_aload_n hX eX7_stops_55 0 rfl ?_
        obtain ⟨t21, h⟩ := h
        obtain ⟨z22, h⟩ := h
        refine j_getR hX eX7_stops_56 ff_LiftGroupModel_7 rfl t21 (by decide) z22 ?_
        refine j_nmR (fun p23 ep23 => ?_)
        replace h := h p23 ep23
        refine j_bipush (v := (87 : Int32)) hX eX7_stops_59 (by decide) ?_
        refine j_iload_n hX eX7_stops_61 3 rfl ?_
        refine j_iadd hX eX7_stops_62 ?_
        refine j_iconst (v := (0 : Int32)) hX eX7_stops_63 (by decide) ?_
        obtain ⟨t24, h⟩ := h
        obtain ⟨i25, h⟩ := h
        refine j_iast hX eX7_stops_64 t24 i25 ?_
        refine j_nmM (fun M26 eM26 => ?_)
        replace h := h M26 eM26
        have t27 : hp_T M26 (a0) = 8 := by rw [eM26]; exact t21
        have t28 : hp_T M26 (p23) = 22 := by rw [eM26]; exact t24
        obtain ⟨v29, ev29⟩ : ∃ v29 : Int32, v29 = a2 + (1 : Int32) := ⟨_, rfl⟩
        replace h := h v29 ev29
        refine j_iinc (v := v29) (lv' := [(2, .int v29), (0, .ref a0), (1, .int a1), (3, .int a3)]) hX eX7_stops_65 2 rfl (by rw [ev29]; rfl) (by decide) rfl ?_
        obtain ⟨v30, ev30⟩ : ∃ v30 : Int32, v30 = a3 + (1 : Int32) := ⟨_, rfl⟩
        replace h := h v30 ev30
        refine j_iinc (v := v30) (lv' := [(3, .int v30), (2, .int v29), (0, .ref a0), (1, .int a1)]) hX eX7_stops_68 3 rfl (by rw [ev30]; rfl) (by decide) rfl ?_
        refine j_goto hX 36 eX7_stops_71 (by decide) ?_
        exact j_sub [2, 3, 1, 0] rfl (k36 _ _ _ _ _ h)
    · obtain ⟨v18, hxz9, h⟩ := qz9
      cases hxz9

set_option maxHeartbeats 4000000 in
set_option maxRecDepth 20000 in
theorem vX7_stopCar_0 {X : am_Cx} {G : am_Gx} {d : Nat} {Q : am_Q} (hX : am_ok X rX7_stopCar G (d + 1)) (hM : am_me X rX7_stopCar Q) {bc bs : Nat}  {a0 : Nat} {a1 : Int32} {M : am_Hp} (h : hp_T M (a0) = 8 ∧ (am_CT G d rX7_begin [.ref a0] M 0 0 (fun oz9 M1 => oz9 = .inl none ∧ (hp_T M1 (a0) = 8 ∧ (am_CT G d rX7_stops [.ref a0, .int a1] M1 0 0 (fun oz9 M4 => ∃ v5 : Int32, oz9 = .inl (some (.int v5)) ∧ (hp_T M4 (a0) = 8 ∧ (am_CT G d rX7_kept [.ref a0, .int v5] M4 0 0 (fun oz9 M7 => ∃ v8 : Int32, oz9 = .inl (some (.int v8)) ∧ (Q (.inl (some (.int v8))) M7)))))))))) : am_J X 0 [(0, .ref a0), (1, .int a1)] [] M bc bs := by
  refine j_aload_n hX eX7_stopCar_0 0 rfl ?_
  obtain ⟨t3, h⟩ := h
  refine j_callV (a := a0) (q := (RX7, TX7, 17)) (r' := rX7_begin) (As := []) (rest := []) (d1 := d) hX eX7_stopCar_1 mm_LiftGroupModel_100 rfl t3 (by decide) rfl h rfl (Nat.le_refl _) (Nat.zero_le _) (Nat.zero_le _) (Nat.le_of_ble_eq_true rfl) (fun vz9 Mz9 qz9 => ?_) (fun Ez9 Mz9 qz9 => ?_)
  · obtain ⟨M1, eMz9⟩ : ∃ M1, M1 = Mz9 := ⟨_, rfl⟩; subst eMz9
    obtain ⟨hxz9, h⟩ := qz9
    cases hxz9
    refine j_aload_n hX eX7_stopCar_4 0 rfl ?_
    refine j_aload_n hX eX7_stopCar_5 0 rfl ?_
    refine j_iload_n hX eX7_stopCar_6 1 rfl ?_
    obtain ⟨t6, h⟩ := h
    refine j_callV (a := a0) (q := (RX7, TX7, 17)) (r' := rX7_stops) (As := [.int a1]) (rest := [.ref a0]) (d1 := d) hX eX7_stopCar_7 mm_LiftGroupModel_125 rfl t6 (by decide) rfl h rfl (Nat.le_refl _) (Nat.zero_le _) (Nat.zero_le _) (Nat.le_of_ble_eq_true rfl) (fun vz9 Mz9 qz9 => ?_) (fun Ez9 Mz9 qz9 => ?_)
    · obtain ⟨M4, eMz9⟩ : ∃ M4, M4 = Mz9 := ⟨_, rfl⟩; subst eMz9
      obtain ⟨v5, hxz9, h⟩ := qz9
      cases hxz9
      obtain ⟨t9, h⟩ := h
      refine j_callV (a := a0) (q := (RX7, TX7, 17)) (r' := rX7_kept) (As := [.int v5]) (rest := []) (d1 := d) hX eX7_stopCar_10 mm_LiftGroupModel_107 rfl t9 (by decide) rfl h rfl (Nat.le_refl _) (Nat.zero_le _) (Nat.zero_le _) (Nat.le_of_ble_eq_true rfl) (fun vz9 Mz9 qz9 => ?_) (fun Ez9 Mz9 qz9 => ?_)
      · obtain ⟨M7, eMz9⟩ : ∃ M7, M7 = Mz9 := ⟨_, rfl⟩; subst eMz9
        obtain ⟨v8, hxz9, h⟩ := qz9
        cases hxz9
        exact j_iret hX hM eX7_stopCar_13 rfl h
      · obtain ⟨v8, hxz9, h⟩ := qz9
        cases hxz9
    · obtain ⟨v5, hxz9, h⟩ := qz9
      cases hxz9
  · obtain ⟨hxz9, h⟩ := qz9
    cases hxz9

set_option maxHeartbeats 4000000 in
set_option maxRecDepth 20000 in
theorem vX7_starts_0 {X : am_Cx} {G : am_Gx} {d : Nat} {Q : am_Q} (hX : am_ok X rX7_starts G (d + 1)) (hM : am_me X rX7_starts Q) {bc bs : Nat}  {a0 : Nat} {a1 : Int32} {M : am_Hp} (h : am_CT G d rX7_isCar [.int a1] M 0 0 (fun oz9 M1 => ∃ v2 : Int32, oz9 = .inl (some (.int v2)) ∧ (((v2 = 0) → (hp_T M1 (a0) = 8 ∧ (am_CT G d rX7_fails [.ref a0, .int (1 : Int32)] M1 0 0 (fun oz9 M34 => ∃ v35 : Int32, oz9 = .inl (some (.int v35)) ∧ (Q (.inl (some (.int v35))) M34))))) ∧ (¬ (v2 = 0) → (hp_T M1 (a0) = 8 ∧ (hp_R M1 140 a0 ≠ 0 ∧ (∀ p6 : Nat, p6 = hp_R M1 140 a0 → (hp_T M1 (p6) = 22 ∧ (vp_in ((21 : Int32) + a1) (hp_N M1 p6) ∧ ((((hp_E M1 p6 (((21 : Int32) + a1)).toNatClampNeg) = 0) → (am_CT G d rX7_fails [.ref a0, .int (2 : Int32)] M1 0 0 (fun oz9 M32 => ∃ v33 : Int32, oz9 = .inl (some (.int v33)) ∧ (Q (.inl (some (.int v33))) M32)))) ∧ (¬ ((hp_E M1 p6 (((21 : Int32) + a1)).toNatClampNeg) = 0) → (hp_R M1 140 a0 ≠ 0 ∧ (∀ p11 : Nat, p11 = hp_R M1 140 a0 → (hp_T M1 (p11) = 22 ∧ (vp_in ((21 : Int32) + a1) (hp_N M1 p11) ∧ (∀ M14 : am_Hp, M14 = hp_sE M1 p11 (((21 : Int32) + a1)).toNatClampNeg (0 : Int32) → (hp_R M14 140 a0 ≠ 0 ∧ (∀ p19 : Nat, p19 = hp_R M14 140 a0 → (hp_T M14 (p19) = 22 ∧ (vp_in (21 : Int32) (hp_N M14 p19) ∧ (hp_R M14 140 a0 ≠ 0 ∧ (∀ p23 : Nat, p23 = hp_R M14 140 a0 → (hp_T M14 (p23) = 22 ∧ (vp_in (22 : Int32) (hp_N M14 p23) ∧ (hp_R M14 140 a0 ≠ 0 ∧ (∀ p27 : Nat, p27 = hp_R M14 140 a0 → (hp_T M14 (p27) = 22 ∧ (vp_in (23 : Int32) (hp_N M14 p27) ∧ (am_CT G d rX7_done [.ref a0, .int ((((3 : Int32) - (hp_E M14 p19 ((21 : Int32)).toNatClampNeg)) - (hp_E M14 p23 ((22 : Int32)).toNatClampNeg)) - (hp_E M14 p27 ((23 : Int32)).toNatClampNeg))] M14 0 0 (fun oz9 M30 => ∃ v31 : Int32, oz9 = .inl (some (.int v31)) ∧ (Q (.inl (some (.int v31))) M30))))))))))))))))))))))))))))))) : am_J X 0 [(0, .ref a0), (1, .int a1)] [] M bc bs := by
  refine j_iload_n hX eX7_starts_0 1 rfl ?_
  refine j_callS (r' := rX7_isCar) (As := [.int a1]) (rest := []) (d1 := d) hX eX7_starts_1 mm_LiftGroupModel_119 rfl rfl h rfl (Nat.le_refl _) (Nat.zero_le _) (Nat.zero_le _) (Nat.le_of_ble_eq_true rfl) (fun vz9 Mz9 qz9 => ?_) (fun Ez9 Mz9 qz9 => ?_)
  · obtain ⟨M1, eMz9⟩ : ∃ M1, M1 = Mz9 := ⟨_, rfl⟩; subst eMz9
    obtain ⟨v2, hxz9, h⟩ := qz9
    cases hxz9
    refine j_if_ne hX 13 eX7_starts_4 (by decide) (fun c3 => ?_) (fun c3 => ?_)
    · replace h := h.2 c3
      refine j_aload_n hX eX7_starts_13 0 rfl ?_
      obtain ⟨t4, h⟩ := h
      obtain ⟨z5, h⟩ := h
      refine j_getR hX eX7_starts_14 ff_LiftGroupModel_7 rfl t4 (by decide) z5 ?_
      refine j_nmR (fun p6 ep6 => ?_)
      replace h := h p6 ep6
      refine j_bipush (v := (21 : Int32)) hX eX7_starts_17 (by decide) ?_
      refine j_iload_n hX eX7_starts_19 1 rfl ?_
      refine j_iadd hX eX7_starts_20 ?_
      obtain ⟨t7, h⟩ := h
      obtain ⟨i8, h⟩ := h
      refine j_iald hX eX7_starts_21 t7 i8 ?_
      refine j_if_ne hX 31 eX7_starts_22 (by decide) (fun c9 => ?_) (fun c9 => ?_)
      · replace h := h.2 c9
        refine j_aload_n hX eX7_starts_31 0 rfl ?_
        obtain ⟨z10, h⟩ := h
        refine j_getR hX eX7_starts_32 ff_LiftGroupModel_7 rfl t4 (by decide) z10 ?_
        refine j_nmR (fun p11 ep11 => ?_)
        replace h := h p11 ep11
        refine j_bipush (v := (21 : Int32)) hX eX7_starts_35 (by decide) ?_
        refine j_iload_n hX eX7_starts_37 1 rfl ?_
        refine j_iadd hX eX7_starts_38 ?_
        refine j_iconst (v := (0 : Int32)) hX eX7_starts_39 (by decide) ?_
        obtain ⟨t12, h⟩ := h
        obtain ⟨i13, h⟩ := h
        refine j_iast hX eX7_starts_40 t12 i13 ?_
        refine j_nmM (fun M14 eM14 => ?_)
        replace h := h M14 eM14
        have t15 : hp_T M14 (a0) = 8 := by rw [eM14]; exact t4
        have t16 : hp_T M14 (p6) = 22 := by rw [eM14]; exact t7
        have t17 : hp_T M14 (p11) = 22 := by rw [eM14]; exact t12
        refine j_aload_n hX eX7_starts_41 0 rfl ?_
        refine j_iconst (v := (3 : Int32)) hX eX7_starts_42 (by decide) ?_
        refine j_aload_n hX eX7_starts_43 0 rfl ?_
        obtain ⟨z18, h⟩ := h
        refine j_getR hX eX7_starts_44 ff_LiftGroupModel_7 rfl t15 (by decide) z18 ?_
        refine j_nmR (fun p19 ep19 => ?_)
        replace h := h p19 ep19
        refine j_bipush (v := (21 : Int32)) hX eX7_starts_47 (by decide) ?_
        obtain ⟨t20, h⟩ := h
        obtain ⟨i21, h⟩ := h
        refine j_iald hX eX7_starts_49 t20 i21 ?_
        refine j_isub hX eX7_starts_50 ?_
        refine j_aload_n hX eX7_starts_51 0 rfl ?_
        obtain ⟨z22, h⟩ := h
        refine j_getR hX eX7_starts_52 ff_LiftGroupModel_7 rfl t15 (by decide) z22 ?_
        refine j_nmR (fun p23 ep23 => ?_)
        replace h := h p23 ep23
        refine j_bipush (v := (22 : Int32)) hX eX7_starts_55 (by decide) ?_
        obtain ⟨t24, h⟩ := h
        obtain ⟨i25, h⟩ := h
        refine j_iald hX eX7_starts_57 t24 i25 ?_
        refine j_isub hX eX7_starts_58 ?_
        refine j_aload_n hX eX7_starts_59 0 rfl ?_
        obtain ⟨z26, h⟩ := h
        refine j_getR hX eX7_starts_60 ff_LiftGroupModel_7 rfl t15 (by decide) z26 ?_
        refine j_nmR (fun p27 ep27 => ?_)
        replace h := h p27 ep27
        refine j_bipush (v := (23 : Int32)) hX eX7_starts_63 (by decide) ?_
        obtain ⟨t28, h⟩ := h
        obtain ⟨i29, h⟩ := h
        refine j_iald hX eX7_starts_65 t28 i29 ?_
        refine j_isub hX eX7_starts_66 ?_
        refine j_callV (a := a0) (q := (RX7, TX7, 17)) (r' := rX7_done) (As := [.int ((((3 : Int32) - (hp_E M14 p19 ((21 : Int32)).toNatClampNeg)) - (hp_E M14 p23 ((22 : Int32)).toNatClampNeg)) - (hp_E M14 p27 ((23 : Int32)).toNatClampNeg))]) (rest := []) (d1 := d) hX eX7_starts_67 mm_LiftGroupModel_97 rfl t15 (by decide) rfl h rfl (Nat.le_refl _) (Nat.zero_le _) (Nat.zero_le _) (Nat.le_of_ble_eq_true rfl) (fun vz9 Mz9 qz9 => ?_) (fun Ez9 Mz9 qz9 => ?_)
        · obtain ⟨M30, eMz9⟩ : ∃ M30, M30 = Mz9 := ⟨_, rfl⟩; subst eMz9
          obtain ⟨v31, hxz9, h⟩ := qz9
          cases hxz9
          exact j_iret hX hM eX7_starts_70 rfl h
        · obtain ⟨v31, hxz9, h⟩ := qz9
          cases hxz9
      · replace h := h.1 c9
        refine j_aload_n hX eX7_starts_25 0 rfl ?_
        refine j_iconst (v := (2 : Int32)) hX eX7_starts_26 (by decide) ?_
        refine j_callV (a := a0) (q := (RX7, TX7, 17)) (r' := rX7_fails) (As := [.int (2 : Int32)]) (rest := []) (d1 := d) hX eX7_starts_27 mm_LiftGroupModel_90 rfl t4 (by decide) rfl h rfl (Nat.le_refl _) (Nat.zero_le _) (Nat.zero_le _) (Nat.le_of_ble_eq_true rfl) (fun vz9 Mz9 qz9 => ?_) (fun Ez9 Mz9 qz9 => ?_)
        · obtain ⟨M32, eMz9⟩ : ∃ M32, M32 = Mz9 := ⟨_, rfl⟩; subst eMz9
          obtain ⟨v33, hxz9, h⟩ := qz9
          cases hxz9
          exact j_iret hX hM eX7_starts_30 rfl h
        · obtain ⟨v33, hxz9, h⟩ := qz9
          cases hxz9
    · replace h := h.1 c3
      refine j_aload_n hX eX7_starts_7 0 rfl ?_
      refine j_iconst (v := (1 : Int32)) hX eX7_starts_8 (by decide) ?_
      obtain ⟨t36, h⟩ := h
      refine j_callV (a := a0) (q := (RX7, TX7, 17)) (r' := rX7_fails) (As := [.int (1 : Int32)]) (rest := []) (d1 := d) hX eX7_starts_9 mm_LiftGroupModel_90 rfl t36 (by decide) rfl h rfl (Nat.le_refl _) (Nat.zero_le _) (Nat.zero_le _) (Nat.le_of_ble_eq_true rfl) (fun vz9 Mz9 qz9 => ?_) (fun Ez9 Mz9 qz9 => ?_)
      · obtain ⟨M34, eMz9⟩ : ∃ M34, M34 = Mz9 := ⟨_, rfl⟩; subst eMz9
        obtain ⟨v35, hxz9, h⟩ := qz9
        cases hxz9
        exact j_iret hX hM eX7_starts_12 rfl h
      · obtain ⟨v35, hxz9, h⟩ := qz9
        cases hxz9
  · obtain ⟨v2, hxz9, h⟩ := qz9
    cases hxz9

set_option maxHeartbeats 4000000 in
set_option maxRecDepth 20000 in
theorem vX7_startCar_0 {X : am_Cx} {G : am_Gx} {d : Nat} {Q : am_Q} (hX : am_ok X rX7_startCar G (d + 1)) (hM : am_me X rX7_startCar Q) {bc bs : Nat}  {a0 : Nat} {a1 : Int32} {M : am_Hp} (h : hp_T M (a0) = 8 ∧ (am_CT G d rX7_begin [.ref a0] M 0 0 (fun oz9 M1 => oz9 = .inl none ∧ (hp_T M1 (a0) = 8 ∧ (am_CT G d rX7_starts [.ref a0, .int a1] M1 0 0 (fun oz9 M4 => ∃ v5 : Int32, oz9 = .inl (some (.int v5)) ∧ (hp_T M4 (a0) = 8 ∧ (am_CT G d rX7_kept [.ref a0, .int v5] M4 0 0 (fun oz9 M7 => ∃ v8 : Int32, oz9 = .inl (some (.int v8)) ∧ (Q (.inl (some (.int v8))) M7)))))))))) : am_J X 0 [(0, .ref a0), (1, .int a1)] [] M bc bs := by
  refine j_aload_n hX eX7_startCar_0 0 rfl ?_
  obtain ⟨t3, h⟩ := h
  refine j_callV (a := a0) (q := (RX7, TX7, 17)) (r' := rX7_begin) (As := []) (rest := []) (d1 := d) hX eX7_startCar_1 mm_LiftGroupModel_100 rfl t3 (by decide) rfl h rfl (Nat.le_refl _) (Nat.zero_le _) (Nat.zero_le _) (Nat.le_of_ble_eq_true rfl) (fun vz9 Mz9 qz9 => ?_) (fun Ez9 Mz9 qz9 => ?_)
  · obtain ⟨M1, eMz9⟩ : ∃ M1, M1 = Mz9 := ⟨_, rfl⟩; subst eMz9
    obtain ⟨hxz9, h⟩ := qz9
    cases hxz9
    refine j_aload_n hX eX7_startCar_4 0 rfl ?_
    refine j_aload_n hX eX7_startCar_5 0 rfl ?_
    refine j_iload_n hX eX7_startCar_6 1 rfl ?_
    obtain ⟨t6, h⟩ := h
    refine j_callV (a := a0) (q := (RX7, TX7, 17)) (r' := rX7_starts) (As := [.int a1]) (rest := [.ref a0]) (d1 := d) hX eX7_startCar_7 mm_LiftGroupModel_128 rfl t6 (by decide) rfl h rfl (Nat.le_refl _) (Nat.zero_le _) (Nat.zero_le _) (Nat.le_of_ble_eq_true rfl) (fun vz9 Mz9 qz9 => ?_) (fun Ez9 Mz9 qz9 => ?_)
    · obtain ⟨M4, eMz9⟩ : ∃ M4, M4 = Mz9 := ⟨_, rfl⟩; subst eMz9
      obtain ⟨v5, hxz9, h⟩ := qz9
      cases hxz9
      obtain ⟨t9, h⟩ := h
      refine j_callV (a := a0) (q := (RX7, TX7, 17)) (r' := rX7_kept) (As := [.int v5]) (rest := []) (d1 := d) hX eX7_startCar_10 mm_LiftGroupModel_107 rfl t9 (by decide) rfl h rfl (Nat.le_refl _) (Nat.zero_le _) (Nat.zero_le _) (Nat.le_of_ble_eq_true rfl) (fun vz9 Mz9 qz9 => ?_) (fun Ez9 Mz9 qz9 => ?_)
      · obtain ⟨M7, eMz9⟩ : ∃ M7, M7 = Mz9 := ⟨_, rfl⟩; subst eMz9
        obtain ⟨v8, hxz9, h⟩ := qz9
        cases hxz9
        exact j_iret hX hM eX7_startCar_13 rfl h
      · obtain ⟨v8, hxz9, h⟩ := qz9
        cases hxz9
    · obtain ⟨v5, hxz9, h⟩ := qz9
      cases hxz9
  · obtain ⟨hxz9, h⟩ := qz9
    cases hxz9

set_option maxHeartbeats 4000000 in
set_option maxRecDepth 20000 in
theorem vX7_limits_0 {X : am_Cx} {G : am_Gx} {d : Nat} {Q : am_Q} (hX : am_ok X rX7_limits G (d + 1)) (hM : am_me X rX7_limits Q) {bc bs : Nat}  {a0 : Nat} {a1 : Int32} {a2 : Int32} {M : am_Hp} (h : am_CT G d rX7_isCar [.int a1] M 0 0 (fun oz9 M1 => ∃ v2 : Int32, oz9 = .inl (some (.int v2)) ∧ (((v2 = 0) → (hp_T M1 (a0) = 8 ∧ (am_CT G d rX7_fails [.ref a0, .int (1 : Int32)] M1 0 0 (fun oz9 M33 => ∃ v34 : Int32, oz9 = .inl (some (.int v34)) ∧ (Q (.inl (some (.int v34))) M33))))) ∧ (¬ (v2 = 0) → (am_CT G d rX7_in [.int a2, .int (100 : Int32), .int (900 : Int32)] M1 0 0 (fun oz9 M4 => ∃ v5 : Int32, oz9 = .inl (some (.int v5)) ∧ (((v5 = 0) → (hp_T M4 (a0) = 8 ∧ (am_CT G d rX7_fails [.ref a0, .int (2 : Int32)] M4 0 0 (fun oz9 M30 => ∃ v31 : Int32, oz9 = .inl (some (.int v31)) ∧ (Q (.inl (some (.int v31))) M30))))) ∧ (¬ (v5 = 0) → (hp_T M4 (a0) = 8 ∧ (am_CT G d rX7_loadOf [.ref a0, .int a1] M4 0 0 (fun oz9 M7 => ∃ v8 : Int32, oz9 = .inl (some (.int v8)) ∧ (((v8 ≤ a2) → (hp_T M7 (a0) = 8 ∧ (hp_R M7 140 a0 ≠ 0 ∧ (∀ p13 : Nat, p13 = hp_R M7 140 a0 → (hp_T M7 (p13) = 22 ∧ (vp_in ((15 : Int32) + a1) (hp_N M7 p13) ∧ (∀ v16 : Int32, v16 = (hp_E M7 p13 (((15 : Int32) + a1)).toNatClampNeg) → (hp_R M7 140 a0 ≠ 0 ∧ (∀ p18 : Nat, p18 = hp_R M7 140 a0 → (hp_T M7 (p18) = 22 ∧ (vp_in ((15 : Int32) + a1) (hp_N M7 p18) ∧ (∀ M21 : am_Hp, M21 = hp_sE M7 p18 (((15 : Int32) + a1)).toNatClampNeg a2 → (am_CT G d rX7_done [.ref a0, .int v16] M21 0 0 (fun oz9 M25 => ∃ v26 : Int32, oz9 = .inl (some (.int v26)) ∧ (Q (.inl (some (.int v26))) M25))))))))))))))) ∧ (¬ (v8 ≤ a2) → (hp_T M7 (a0) = 8 ∧ (am_CT G d rX7_fails [.ref a0, .int (3 : Int32)] M7 0 0 (fun oz9 M27 => ∃ v28 : Int32, oz9 = .inl (some (.int v28)) ∧ (Q (.inl (some (.int v28))) M27))))))))))))))))) : am_J X 0 [(0, .ref a0), (1, .int a1), (2, .int a2)] [] M bc bs := by
  refine j_iload_n hX eX7_limits_0 1 rfl ?_
  refine j_callS (r' := rX7_isCar) (As := [.int a1]) (rest := []) (d1 := d) hX eX7_limits_1 mm_LiftGroupModel_119 rfl rfl h rfl (Nat.le_refl _) (Nat.zero_le _) (Nat.zero_le _) (Nat.le_of_ble_eq_true rfl) (fun vz9 Mz9 qz9 => ?_) (fun Ez9 Mz9 qz9 => ?_)
  · obtain ⟨M1, eMz9⟩ : ∃ M1, M1 = Mz9 := ⟨_, rfl⟩; subst eMz9
    obtain ⟨v2, hxz9, h⟩ := qz9
    cases hxz9
    refine j_if_ne hX 13 eX7_limits_4 (by decide) (fun c3 => ?_) (fun c3 => ?_)
    · replace h := h.2 c3
      refine j_iload_n hX eX7_limits_13 2 rfl ?_
      refine j_bipush (v := (100 : Int32)) hX eX7_limits_14 (by decide) ?_
      refine j_sipush (v := (900 : Int32)) hX eX7_limits_16 (by decide) ?_
      refine j_callS (r' := rX7_in) (As := [.int a2, .int (100 : Int32), .int (900 : Int32)]) (rest := []) (d1 := d) hX eX7_limits_19 mm_LiftGroupModel_52 rfl rfl h rfl (Nat.le_refl _) (Nat.zero_le _) (Nat.zero_le _) (Nat.le_of_ble_eq_true rfl) (fun vz9 Mz9 qz9 => ?_) (fun Ez9 Mz9 qz9 => ?_)
      · obtain ⟨M4, eMz9⟩ : ∃ M4, M4 = Mz9 := ⟨_, rfl⟩; subst eMz9
        obtain ⟨v5, hxz9, h⟩ := qz9
        cases hxz9
        refine j_if_ne hX 31 eX7_limits_22 (by decide) (fun c6 => ?_) (fun c6 => ?_)
        · replace h := h.2 c6
          refine j_aload_n hX eX7_limits_31 0 rfl ?_
          refine j_iload_n hX eX7_limits_32 1 rfl ?_
          obtain ⟨t9, h⟩ := h
          refine j_callV (a := a0) (q := (RX7, TX7, 17)) (r' := rX7_loadOf) (As := [.int a1]) (rest := []) (d1 := d) hX eX7_limits_33 mm_LiftGroupModel_81 rfl t9 (by decide) rfl h rfl (Nat.le_refl _) (Nat.zero_le _) (Nat.zero_le _) (Nat.le_of_ble_eq_true rfl) (fun vz9 Mz9 qz9 => ?_) (fun Ez9 Mz9 qz9 => ?_)
          · obtain ⟨M7, eMz9⟩ : ∃ M7, M7 = Mz9 := ⟨_, rfl⟩; subst eMz9
            obtain ⟨v8, hxz9, h⟩ := qz9
            cases hxz9
            refine j_iload_n hX eX7_limits_36 2 rfl ?_
            refine j_icmp_le hX 46 eX7_limits_37 (by decide) (fun c10 => ?_) (fun c10 => ?_)
            · replace h := h.1 c10
              refine j_aload_n hX eX7_limits_46 0 rfl ?_
              obtain ⟨t11, h⟩ := h
              obtain ⟨z12, h⟩ := h
              refine j_getR hX eX7_limits_47 ff_LiftGroupModel_7 rfl t11 (by decide) z12 ?_
              refine j_nmR (fun p13 ep13 => ?_)
              replace h := h p13 ep13
              refine j_bipush (v := (15 : Int32)) hX eX7_limits_50 (by decide) ?_
              refine j_iload_n hX eX7_limits_52 1 rfl ?_
              refine j_iadd hX eX7_limits_53 ?_
              obtain ⟨t14, h⟩ := h
              obtain ⟨i15, h⟩ := h
              refine j_iald hX eX7_limits_54 t14 i15 ?_
              refine j_nmI (fun v16 ev16 => ?_)
              replace h := h v16 ev16
              refine j_istore_n (lv' := [(3, .int v16), (0, .ref a0), (1, .int a1), (2, .int a2)]) hX eX7_limits_55 rfl (by decide) rfl ?_
              refine j_aload_n hX eX7_limits_56 1 rfl ?_
              obtain ⟨z17, h⟩ := h
              refine j_getR hX eX7_limits_57 ff_LiftGroupModel_7 rfl t11 (by decide) z17 ?_
              refine j_nmR (fun p18 ep18 => ?_)
              replace h := h p18 ep18
              refine j_bipush (v := (15 : Int32)) hX eX7_limits_60 (by decide) ?_
              refine j_iload_n hX eX7_limits_62 2 rfl ?_
              refine j_iadd hX eX7_limits_63 ?_
              refine j_iload_n hX eX7_limits_64 3 rfl ?_
              obtain ⟨t19, h⟩ := h
              obtain ⟨i20, h⟩ := h
              refine j_iast hX eX7_limits_65 t19 i20 ?_
              refine j_nmM (fun M21 eM21 => ?_)
              replace h := h M21 eM21
              have t22 : hp_T M21 (a0) = 8 := by rw [eM21]; exact t11
              have t23 : hp_T M21 (p13) = 22 := by rw [eM21]; exact t14
              have t24 : hp_T M21 (p18) = 22 := by rw [eM21]; exact t19
              refine j_aload_n hX eX7_limits_66 1 rfl ?_
              refine j_iload_n hX eX7_limits_67 0 rfl ?_
              refine j_callV (a := a0) (q := (RX7, TX7, 17)) (r' := rX7_done) (As := [.int v16]) (rest := []) (d1 := d) hX eX7_limits_68 mm_LiftGroupModel_97 rfl t22 (by decide) rfl h rfl (Nat.le_refl _) (Nat.zero_le _) (Nat.zero_le _) (Nat.le_of_ble_eq_true rfl) (fun vz9 Mz9 qz9 => ?_) (fun Ez9 Mz9 qz9 => ?_)
              · obtain ⟨M25, eMz9⟩ : ∃ M25, M25 = Mz9 := ⟨_, rfl⟩; subst eMz9
                obtain ⟨v26, hxz9, h⟩ := qz9
                cases hxz9
                exact j_iret hX hM eX7_limits_71 rfl h
              · obtain ⟨v26, hxz9, h⟩ := qz9
                cases hxz9
            · replace h := h.2 c10
              refine j_aload_n hX eX7_limits_40 0 rfl ?_
              refine j_iconst (v := (3 : Int32)) hX eX7_limits_41 (by decide) ?_
              obtain ⟨t29, h⟩ := h
              refine j_callV (a := a0) (q := (RX7, TX7, 17)) (r' := rX7_fails) (As := [.int (3 : Int32)]) (rest := []) (d1 := d) hX eX7_limits_42 mm_LiftGroupModel_90 rfl t29 (by decide) rfl h rfl (Nat.le_refl _) (Nat.zero_le _) (Nat.zero_le _) (Nat.le_of_ble_eq_true rfl) (fun vz9 Mz9 qz9 => ?_) (fun Ez9 Mz9 qz9 => ?_)
              · obtain ⟨M27, eMz9⟩ : ∃ M27, M27 = Mz9 := ⟨_, rfl⟩; subst eMz9
                obtain ⟨v28, hxz9, h⟩ := qz9
                cases hxz9
                exact j_iret hX hM eX7_limits_45 rfl h
              · obtain ⟨v28, hxz9, h⟩ := qz9
                cases hxz9
          · obtain ⟨v8, hxz9, h⟩ := qz9
            cases hxz9
        · replace h := h.1 c6
          refine j_aload_n hX eX7_limits_25 0 rfl ?_
          refine j_iconst (v := (2 : Int32)) hX eX7_limits_26 (by decide) ?_
          obtain ⟨t32, h⟩ := h
          refine j_callV (a := a0) (q := (RX7, TX7, 17)) (r' := rX7_fails) (As := [.int (2 : Int32)]) (rest := []) (d1 := d) hX eX7_limits_27 mm_LiftGroupModel_90 rfl t32 (by decide) rfl h rfl (Nat.le_refl _) (Nat.zero_le _) (Nat.zero_le _) (Nat.le_of_ble_eq_true rfl) (fun vz9 Mz9 qz9 => ?_) (fun Ez9 Mz9 qz9 => ?_)
          · obtain ⟨M30, eMz9⟩ : ∃ M30, M30 = Mz9 := ⟨_, rfl⟩; subst eMz9
            obtain ⟨v31, hxz9, h⟩ := qz9
            cases hxz9
            exact j_iret hX hM eX7_limits_30 rfl h
          · obtain ⟨v31, hxz9, h⟩ := qz9
            cases hxz9
      · obtain ⟨v5, hxz9, h⟩ := qz9
        cases hxz9
    · replace h := h.1 c3
      refine j_aload_n hX eX7_limits_7 0 rfl ?_
      refine j_iconst (v := (1 : Int32)) hX eX7_limits_8 (by decide) ?_
      obtain ⟨t35, h⟩ := h
      refine j_callV (a := a0) (q := (RX7, TX7, 17)) (r' := rX7_fails) (As := [.int (1 : Int32)]) (rest := []) (d1 := d) hX eX7_limits_9 mm_LiftGroupModel_90 rfl t35 (by decide) rfl h rfl (Nat.le_refl _) (Nat.zero_le _) (Nat.zero_le _) (Nat.le_of_ble_eq_true rfl) (fun vz9 Mz9 qz9 => ?_) (fun Ez9 Mz9 qz9 => ?_)
      · obtain ⟨M33, eMz9⟩ : ∃ M33, M33 = Mz9 := ⟨_, rfl⟩; subst eMz9
        obtain ⟨v34, hxz9, h⟩ := qz9
        cases hxz9
        exact j_iret hX hM eX7_limits_12 rfl h
      · obtain ⟨v34, hxz9, h⟩ := qz9
        cases hxz9
  · obtain ⟨v2, hxz9, h⟩ := qz9
    cases hxz9

set_option maxHeartbeats 4000000 in
set_option maxRecDepth 20000 in
theorem vX7_setCapacity_0 {X : am_Cx} {G : am_Gx} {d : Nat} {Q : am_Q} (hX : am_ok X rX7_setCapacity G (d + 1)) (hM : am_me X rX7_setCapacity Q) {bc bs : Nat}  {a0 : Nat} {a1 : Int32} {a2 : Int32} {M : am_Hp} (h : hp_T M (a0) = 8 ∧ (am_CT G d rX7_begin [.ref a0] M 0 0 (fun oz9 M1 => oz9 = .inl none ∧ (hp_T M1 (a0) = 8 ∧ (am_CT G d rX7_limits [.ref a0, .int a1, .int a2] M1 0 0 (fun oz9 M4 => ∃ v5 : Int32, oz9 = .inl (some (.int v5)) ∧ (hp_T M4 (a0) = 8 ∧ (am_CT G d rX7_kept [.ref a0, .int v5] M4 0 0 (fun oz9 M7 => ∃ v8 : Int32, oz9 = .inl (some (.int v8)) ∧ (Q (.inl (some (.int v8))) M7)))))))))) : am_J X 0 [(0, .ref a0), (1, .int a1), (2, .int a2)] [] M bc bs := by
  refine j_aload_n hX eX7_setCapacity_0 0 rfl ?_
  obtain ⟨t3, h⟩ := h
  refine j_callV (a := a0) (q := (RX7, TX7, 17)) (r' := rX7_begin) (As := []) (rest := []) (d1 := d) hX eX7_setCapacity_1 mm_LiftGroupModel_100 rfl t3 (by decide) rfl h rfl (Nat.le_refl _) (Nat.zero_le _) (Nat.zero_le _) (Nat.le_of_ble_eq_true rfl) (fun vz9 Mz9 qz9 => ?_) (fun Ez9 Mz9 qz9 => ?_)
  · obtain ⟨M1, eMz9⟩ : ∃ M1, M1 = Mz9 := ⟨_, rfl⟩; subst eMz9
    obtain ⟨hxz9, h⟩ := qz9
    cases hxz9
    refine j_aload_n hX eX7_setCapacity_4 0 rfl ?_
    refine j_aload_n hX eX7_setCapacity_5 0 rfl ?_
    refine j_iload_n hX eX7_setCapacity_6 1 rfl ?_
    refine j_iload_n hX eX7_setCapacity_7 2 rfl ?_
    obtain ⟨t6, h⟩ := h
    refine j_callV (a := a0) (q := (RX7, TX7, 17)) (r' := rX7_limits) (As := [.int a1, .int a2]) (rest := [.ref a0]) (d1 := d) hX eX7_setCapacity_8 mm_LiftGroupModel_131 rfl t6 (by decide) rfl h rfl (Nat.le_refl _) (Nat.zero_le _) (Nat.zero_le _) (Nat.le_of_ble_eq_true rfl) (fun vz9 Mz9 qz9 => ?_) (fun Ez9 Mz9 qz9 => ?_)
    · obtain ⟨M4, eMz9⟩ : ∃ M4, M4 = Mz9 := ⟨_, rfl⟩; subst eMz9
      obtain ⟨v5, hxz9, h⟩ := qz9
      cases hxz9
      obtain ⟨t9, h⟩ := h
      refine j_callV (a := a0) (q := (RX7, TX7, 17)) (r' := rX7_kept) (As := [.int v5]) (rest := []) (d1 := d) hX eX7_setCapacity_11 mm_LiftGroupModel_107 rfl t9 (by decide) rfl h rfl (Nat.le_refl _) (Nat.zero_le _) (Nat.zero_le _) (Nat.le_of_ble_eq_true rfl) (fun vz9 Mz9 qz9 => ?_) (fun Ez9 Mz9 qz9 => ?_)
      · obtain ⟨M7, eMz9⟩ : ∃ M7, M7 = Mz9 := ⟨_, rfl⟩; subst eMz9
        obtain ⟨v8, hxz9, h⟩ := qz9
        cases hxz9
        exact j_iret hX hM eX7_setCapacity_14 rfl h
      · obtain ⟨v8, hxz9, h⟩ := qz9
        cases hxz9
    · obtain ⟨v5, hxz9, h⟩ := qz9
      cases hxz9
  · obtain ⟨hxz9, h⟩ := qz9
    cases hxz9

set_option maxHeartbeats 4000000 in
set_option maxRecDepth 20000 in
theorem vX7_logs_0 {X : am_Cx} {G : am_Gx} {d : Nat} {Q : am_Q} (hX : am_ok X rX7_logs G (d + 1)) (hM : am_me X rX7_logs Q) {bc bs : Nat}  {a0 : Nat} {a1 : Int32} {a2 : Int32} {M : am_Hp} (h : hp_T M (a0) = 8 ∧ (hp_R M 140 a0 ≠ 0 ∧ (∀ p3 : Nat, p3 = hp_R M 140 a0 → (hp_T M (p3) = 22 ∧ (vp_in (3 : Int32) (hp_N M p3) ∧ (∀ v6 : Int32, v6 = ((hp_E M p3 ((3 : Int32)).toNatClampNeg) - (hp_E M p3 ((3 : Int32)).toNatClampNeg) / (10 : Int32) * (10 : Int32)) → (hp_R M 140 a0 ≠ 0 ∧ (∀ p8 : Nat, p8 = hp_R M 140 a0 → (hp_R M 140 a0 ≠ 0 ∧ (∀ p10 : Nat, p10 = hp_R M 140 a0 → (hp_T M (p10) = 22 ∧ (vp_in ((27 : Int32) + a1) (hp_N M p10) ∧ (hp_T M (p8) = 22 ∧ (vp_in ((111 : Int32) + v6) (hp_N M p8) ∧ (∀ M15 : am_Hp, M15 = hp_sE M p8 (((111 : Int32) + v6)).toNatClampNeg (hp_E M p10 (((27 : Int32) + a1)).toNatClampNeg) → (hp_R M15 140 a0 ≠ 0 ∧ (∀ p21 : Nat, p21 = hp_R M15 140 a0 → (hp_T M15 (p21) = 22 ∧ (vp_in ((121 : Int32) + v6) (hp_N M15 p21) ∧ (∀ M24 : am_Hp, M24 = hp_sE M15 p21 (((121 : Int32) + v6)).toNatClampNeg a2 → (hp_R M24 140 a0 ≠ 0 ∧ (∀ p31 : Nat, p31 = hp_R M24 140 a0 → (hp_R M24 140 a0 ≠ 0 ∧ (∀ p33 : Nat, p33 = hp_R M24 140 a0 → (hp_T M24 (p33) = 22 ∧ (vp_in ((75 : Int32) + a1) (hp_N M24 p33) ∧ (hp_T M24 (p31) = 22 ∧ (vp_in ((131 : Int32) + v6) (hp_N M24 p31) ∧ (∀ M38 : am_Hp, M38 = hp_sE M24 p31 (((131 : Int32) + v6)).toNatClampNeg (hp_E M24 p33 (((75 : Int32) + a1)).toNatClampNeg) → (hp_R M38 140 a0 ≠ 0 ∧ (∀ p47 : Nat, p47 = hp_R M38 140 a0 → (hp_T M38 (p47) = 22 ∧ (vp_in (4 : Int32) (hp_N M38 p47) ∧ (hp_R M38 140 a0 ≠ 0 ∧ (∀ p51 : Nat, p51 = hp_R M38 140 a0 → (hp_T M38 (p51) = 22 ∧ (vp_in ((75 : Int32) + a1) (hp_N M38 p51) ∧ (vp_in (4 : Int32) (hp_N M38 p47) ∧ (∀ M55 : am_Hp, M55 = hp_sE M38 p47 ((4 : Int32)).toNatClampNeg ((hp_E M38 p47 ((4 : Int32)).toNatClampNeg) + (hp_E M38 p51 (((75 : Int32) + a1)).toNatClampNeg)) → (hp_R M55 140 a0 ≠ 0 ∧ (∀ p66 : Nat, p66 = hp_R M55 140 a0 → (hp_T M55 (p66) = 22 ∧ (vp_in (3 : Int32) (hp_N M55 p66) ∧ (vp_in (3 : Int32) (hp_N M55 p66) ∧ (∀ M70 : am_Hp, M70 = hp_sE M55 p66 ((3 : Int32)).toNatClampNeg ((hp_E M55 p66 ((3 : Int32)).toNatClampNeg) + (1 : Int32)) → (Q (.inl none) M70)))))))))))))))))))))))))))))))))))))))))))))) : am_J X 0 [(0, .ref a0), (1, .int a1), (2, .int a2)] [] M bc bs := by
  refine j_aload_n hX eX7_logs_0 0 rfl ?_
  obtain ⟨t1, h⟩ := h
  obtain ⟨z2, h⟩ := h
  refine j_getR hX eX7_logs_1 ff_LiftGroupModel_7 rfl t1 (by decide) z2 ?_
  refine j_nmR (fun p3 ep3 => ?_)
  replace h := h p3 ep3
  refine j_iconst (v := (3 : Int32)) hX eX7_logs_4 (by decide) ?_
  obtain ⟨t4, h⟩ := h
  obtain ⟨i5, h⟩ := h
  refine j_iald hX eX7_logs_5 t4 i5 ?_
  refine j_bipush (v := (10 : Int32)) hX eX7_logs_6 (by decide) ?_
  refine j_irem hX eX7_logs_8 (by decide) ?_
  refine j_nmI (fun v6 ev6 => ?_)
  replace h := h v6 ev6
  refine j_istore_n (lv' := [(3, .int v6), (0, .ref a0), (1, .int a1), (2, .int a2)]) hX eX7_logs_9 rfl (by decide) rfl ?_
  refine j_aload_n hX eX7_logs_10 1 rfl ?_
  obtain ⟨z7, h⟩ := h
  refine j_getR hX eX7_logs_11 ff_LiftGroupModel_7 rfl t1 (by decide) z7 ?_
  refine j_nmR (fun p8 ep8 => ?_)
  replace h := h p8 ep8
  refine j_bipush (v := (111 : Int32)) hX eX7_logs_14 (by decide) ?_
  refine j_iload_n hX eX7_logs_16 0 rfl ?_
  refine j_iadd hX eX7_logs_17 ?_
  refine j_aload_n hX eX7_logs_18 1 rfl ?_
  obtain ⟨z9, h⟩ := h
  refine j_getR hX eX7_logs_19 ff_LiftGroupModel_7 rfl t1 (by decide) z9 ?_
  refine j_nmR (fun p10 ep10 => ?_)
  replace h := h p10 ep10
  refine j_bipush (v := (27 : Int32)) hX eX7_logs_22 (by decide) ?_
  refine j_iload_n hX eX7_logs_24 2 rfl ?_
  refine j_iadd hX eX7_logs_25 ?_
  obtain ⟨t11, h⟩ := h
  obtain ⟨i12, h⟩ := h
  refine j_iald hX eX7_logs_26 t11 i12 ?_
  obtain ⟨t13, h⟩ := h
  obtain ⟨i14, h⟩ := h
  refine j_iast hX eX7_logs_27 t13 i14 ?_
  refine j_nmM (fun M15 eM15 => ?_)
  replace h := h M15 eM15
  have t16 : hp_T M15 (a0) = 8 := by rw [eM15]; exact t1
  have t17 : hp_T M15 (p3) = 22 := by rw [eM15]; exact t4
  have t18 : hp_T M15 (p10) = 22 := by rw [eM15]; exact t11
  have t19 : hp_T M15 (p8) = 22 := by rw [eM15]; exact t13
  refine j_aload_n hX eX7_logs_28 1 rfl ?_
  obtain ⟨z20, h⟩ := h
  refine j_getR hX eX7_logs_29 ff_LiftGroupModel_7 rfl t16 (by decide) z20 ?_
  refine j_nmR (fun p21 ep21 => ?_)
  replace h := h p21 ep21
  refine j_bipush (v := (121 : Int32)) hX eX7_logs_32 (by decide) ?_
  refine j_iload_n hX eX7_logs_34 0 rfl ?_
  refine j_iadd hX eX7_logs_35 ?_
  refine j_iload_n hX eX7_logs_36 3 rfl ?_
  obtain ⟨t22, h⟩ := h
  obtain ⟨i23, h⟩ := h
  refine j_iast hX eX7_logs_37 t22 i23 ?_
  refine j_nmM (fun M24 eM24 => ?_)
  replace h := h M24 eM24
  have t25 : hp_T M24 (a0) = 8 := by rw [eM24]; exact t16
  have t26 : hp_T M24 (p3) = 22 := by rw [eM24]; exact t17
  have t27 : hp_T M24 (p10) = 22 := by rw [eM24]; exact t18
  have t28 : hp_T M24 (p8) = 22 := by rw [eM24]; exact t19
  have t29 : hp_T M24 (p21) = 22 := by rw [eM24]; exact t22
  refine j_aload_n hX eX7_logs_38 1 rfl ?_
  obtain ⟨z30, h⟩ := h
  refine j_getR hX eX7_logs_39 ff_LiftGroupModel_7 rfl t25 (by decide) z30 ?_
  refine j_nmR (fun p31 ep31 => ?_)
  replace h := h p31 ep31
  refine j_sipush (v := (131 : Int32)) hX eX7_logs_42 (by decide) ?_
  refine j_iload_n hX eX7_logs_45 0 rfl ?_
  refine j_iadd hX eX7_logs_46 ?_
  refine j_aload_n hX eX7_logs_47 1 rfl ?_
  obtain ⟨z32, h⟩ := h
  refine j_getR hX eX7_logs_48 ff_LiftGroupModel_7 rfl t25 (by decide) z32 ?_
  refine j_nmR (fun p33 ep33 => ?_)
  replace h := h p33 ep33
  refine j_bipush (v := (75 : Int32)) hX eX7_logs_51 (by decide) ?_
  refine j_iload_n hX eX7_logs_53 2 rfl ?_
  refine j_iadd hX eX7_logs_54 ?_
  obtain ⟨t34, h⟩ := h
  obtain ⟨i35, h⟩ := h
  refine j_iald hX eX7_logs_55 t34 i35 ?_
  obtain ⟨t36, h⟩ := h
  obtain ⟨i37, h⟩ := h
  refine j_iast hX eX7_logs_56 t36 i37 ?_
  refine j_nmM (fun M38 eM38 => ?_)
  replace h := h M38 eM38
  have t39 : hp_T M38 (a0) = 8 := by rw [eM38]; exact t25
  have t40 : hp_T M38 (p3) = 22 := by rw [eM38]; exact t26
  have t41 : hp_T M38 (p10) = 22 := by rw [eM38]; exact t27
  have t42 : hp_T M38 (p8) = 22 := by rw [eM38]; exact t28
  have t43 : hp_T M38 (p21) = 22 := by rw [eM38]; exact t29
  have t44 : hp_T M38 (p33) = 22 := by rw [eM38]; exact t34
  have t45 : hp_T M38 (p31) = 22 := by rw [eM38]; exact t36
  refine j_aload_n hX eX7_logs_57 1 rfl ?_
  obtain ⟨z46, h⟩ := h
  refine j_getR hX eX7_logs_58 ff_LiftGroupModel_7 rfl t39 (by decide) z46 ?_
  refine j_nmR (fun p47 ep47 => ?_)
  replace h := h p47 ep47
  refine j_iconst (v := (4 : Int32)) hX eX7_logs_61 (by decide) ?_
  refine j_dup2 hX eX7_logs_62 rfl rfl ?_
  obtain ⟨t48, h⟩ := h
  obtain ⟨i49, h⟩ := h
  refine j_iald hX eX7_logs_63 t48 i49 ?_
  refine j_aload_n hX eX7_logs_64 1 rfl ?_
  obtain ⟨z50, h⟩ := h
  refine j_getR hX eX7_logs_65 ff_LiftGroupModel_7 rfl t39 (by decide) z50 ?_
  refine j_nmR (fun p51 ep51 => ?_)
  replace h := h p51 ep51
  refine j_bipush (v := (75 : Int32)) hX eX7_logs_68 (by decide) ?_
  refine j_iload_n hX eX7_logs_70 2 rfl ?_
  refine j_iadd hX eX7_logs_71 ?_
  obtain ⟨t52, h⟩ := h
  obtain ⟨i53, h⟩ := h
  refine j_iald hX eX7_logs_72 t52 i53 ?_
  refine j_iadd hX eX7_logs_73 ?_
  obtain ⟨i54, h⟩ := h
  refine j_iast hX eX7_logs_74 t48 i54 ?_
  refine j_nmM (fun M55 eM55 => ?_)
  replace h := h M55 eM55
  have t56 : hp_T M55 (a0) = 8 := by rw [eM55]; exact t39
  have t57 : hp_T M55 (p3) = 22 := by rw [eM55]; exact t40
  have t58 : hp_T M55 (p10) = 22 := by rw [eM55]; exact t41
  have t59 : hp_T M55 (p8) = 22 := by rw [eM55]; exact t42
  have t60 : hp_T M55 (p21) = 22 := by rw [eM55]; exact t43
  have t61 : hp_T M55 (p33) = 22 := by rw [eM55]; exact t44
  have t62 : hp_T M55 (p31) = 22 := by rw [eM55]; exact t45
  have t63 : hp_T M55 (p47) = 22 := by rw [eM55]; exact t48
  have t64 : hp_T M55 (p51) = 22 := by rw [eM55]; exact t52
  refine j_aload_n hX eX7_logs_75 1 rfl ?_
  obtain ⟨z65, h⟩ := h
  refine j_getR hX eX7_logs_76 ff_LiftGroupModel_7 rfl t56 (by decide) z65 ?_
  refine j_nmR (fun p66 ep66 => ?_)
  replace h := h p66 ep66
  refine j_iconst (v := (3 : Int32)) hX eX7_logs_79 (by decide) ?_
  refine j_dup2 hX eX7_logs_80 rfl rfl ?_
  obtain ⟨t67, h⟩ := h
  obtain ⟨i68, h⟩ := h
  refine j_iald hX eX7_logs_81 t67 i68 ?_
  refine j_iconst (v := (1 : Int32)) hX eX7_logs_82 (by decide) ?_
  refine j_iadd hX eX7_logs_83 ?_
  obtain ⟨i69, h⟩ := h
  refine j_iast hX eX7_logs_84 t67 i69 ?_
  refine j_nmM (fun M70 eM70 => ?_)
  replace h := h M70 eM70
  have t71 : hp_T M70 (a0) = 8 := by rw [eM70]; exact t56
  have t72 : hp_T M70 (p3) = 22 := by rw [eM70]; exact t57
  have t73 : hp_T M70 (p10) = 22 := by rw [eM70]; exact t58
  have t74 : hp_T M70 (p8) = 22 := by rw [eM70]; exact t59
  have t75 : hp_T M70 (p21) = 22 := by rw [eM70]; exact t60
  have t76 : hp_T M70 (p33) = 22 := by rw [eM70]; exact t61
  have t77 : hp_T M70 (p31) = 22 := by rw [eM70]; exact t62
  have t78 : hp_T M70 (p47) = 22 := by rw [eM70]; exact t63
  have t79 : hp_T M70 (p51) = 22 := by rw [eM70]; exact t64
  have t80 : hp_T M70 (p66) = 22 := by rw [eM70]; exact t67
  exact j_vret hX hM eX7_logs_85 rfl h

set_option maxHeartbeats 4000000 in
set_option maxRecDepth 20000 in
theorem vX7_alight_0 {X : am_Cx} {G : am_Gx} {d : Nat} {Q : am_Q} (hX : am_ok X rX7_alight G (d + 1)) (hM : am_me X rX7_alight Q) {bc bs : Nat} (R2 : Nat → Int32 → Int32 → am_Hp → Prop) (k2 : ∀ (x0 : Nat) (x1 : Int32) (x2 : Int32) (M : am_Hp), R2 x0 x1 x2 M → am_J X 2 [(0, .ref x0), (1, .int x1), (2, .int x2)] [] M bc bs) {a0 : Nat} {a1 : Int32} {M : am_Hp} (h : R2 a0 a1 (0 : Int32) M) : am_J X 0 [(0, .ref a0), (1, .int a1)] [] M bc bs := by
  refine j_iconst (v := (0 : Int32)) hX eX7_alight_0 (by decide) ?_
  refine j_istore_n (lv' := [(2, .int (0 : Int32)), (0, .ref a0), (1, .int a1)]) hX eX7_alight_1 rfl (by decide) rfl ?_
  exact j_sub [1, 2, 0] rfl (k2 _ _ _ _ h)
set_option maxHeartbeats 4000000 in
set_option maxRecDepth 20000 in
theorem vX7_alight_2 {X : am_Cx} {G : am_Gx} {d : Nat} {Q : am_Q} (hX : am_ok X rX7_alight G (d + 1)) (hM : am_me X rX7_alight Q) {bc bs : Nat} (R2 : Nat → Int32 → Int32 → am_Hp → Prop) (k2 : ∀ (x0 : Nat) (x1 : Int32) (x2 : Int32) (M : am_Hp), R2 x0 x1 x2 M → am_J X 2 [(0, .ref x0), (1, .int x1), (2, .int x2)] [] M bc bs) {a0 : Nat} {a1 : Int32} {a2 : Int32} {M : am_Hp} (h : hp_T M (a0) = 8 ∧ (hp_R M 140 a0 ≠ 0 ∧ (∀ p3 : Nat, p3 = hp_R M 140 a0 → (hp_T M (p3) = 22 ∧ (vp_in (1 : Int32) (hp_N M p3) ∧ ((((hp_E M p3 ((1 : Int32)).toNatClampNeg) ≤ a2) → (Q (.inl none) M)) ∧ (¬ ((hp_E M p3 ((1 : Int32)).toNatClampNeg) ≤ a2) → (am_CT G d rX7_isIn [.ref a0, .int a2, .int a1] M 0 0 (fun oz9 M7 => ∃ v8 : Int32, oz9 = .inl (some (.int v8)) ∧ (((v8 = 0) → (∀ v10 : Int32, v10 = a2 + (1 : Int32) → (R2 a0 a1 v10 M7))) ∧ (¬ (v8 = 0) → (hp_T M7 (a0) = 8 ∧ (hp_R M7 140 a0 ≠ 0 ∧ (∀ p13 : Nat, p13 = hp_R M7 140 a0 → (hp_T M7 (p13) = 22 ∧ (vp_in ((51 : Int32) + a2) (hp_N M7 p13) ∧ (hp_R M7 140 a0 ≠ 0 ∧ (∀ p17 : Nat, p17 = hp_R M7 140 a0 → (hp_T M7 (p17) = 22 ∧ (vp_in ((9 : Int32) + a1) (hp_N M7 p17) ∧ ((((hp_E M7 p13 (((51 : Int32) + a2)).toNatClampNeg) = (hp_E M7 p17 (((9 : Int32) + a1)).toNatClampNeg)) → (am_CT G d rX7_logs [.ref a0, .int a2, .int a1] M7 0 0 (fun oz9 M22 => oz9 = .inl none ∧ (hp_T M22 (a0) = 8 ∧ (am_CT G d rX7_drops [.ref a0, .int a2] M22 0 0 (fun oz9 M24 => oz9 = .inl none ∧ (R2 a0 a1 a2 M24))))))) ∧ (¬ ((hp_E M7 p13 (((51 : Int32) + a2)).toNatClampNeg) = (hp_E M7 p17 (((9 : Int32) + a1)).toNatClampNeg)) → (∀ v21 : Int32, v21 = a2 + (1 : Int32) → (R2 a0 a1 v21 M7)))))))))))))))))))))))) : am_J X 2 [(0, .ref a0), (1, .int a1), (2, .int a2)] [] M bc bs := by
  refine j_iload_n hX eX7_alight_2 2 rfl ?_
  refine j_aload_n hX eX7_alight_3 0 rfl ?_
  obtain ⟨t1, h⟩ := h
  obtain ⟨z2, h⟩ := h
  refine j_getR hX eX7_alight_4 ff_LiftGroupModel_7 rfl t1 (by decide) z2 ?_
  refine j_nmR (fun p3 ep3 => ?_)
  replace h := h p3 ep3
  refine j_iconst (v := (1 : Int32)) hX eX7_alight_7 (by decide) ?_
  obtain ⟨t4, h⟩ := h
  obtain ⟨i5, h⟩ := h
  refine j_iald hX eX7_alight_8 t4 i5 ?_
  refine j_icmp_ge hX 62 eX7_alight_9 (by decide) (fun c6 => ?_) (fun c6 => ?_)
  · replace h := h.1 c6
    exact j_vret hX hM eX7_alight_62 rfl h
  · replace h := h.2 c6
    refine j_aload_n hX eX7_alight_12 0 rfl ?_
    refine j_iload_n hX eX7_alight_13 2 rfl ?_
    refine j_iload_n hX eX7_alight_14 1 rfl ?_
    refine j_callV (a := a0) (q := (RX7, TX7, 17)) (r' := rX7_isIn) (As := [.int a2, .int a1]) (rest := []) (d1 := d) hX eX7_alight_15 mm_LiftGroupModel_56 rfl t1 (by decide) rfl h rfl (Nat.le_refl _) (Nat.zero_le _) (Nat.zero_le _) (Nat.le_of_ble_eq_true rfl) (fun vz9 Mz9 qz9 => ?_) (fun Ez9 Mz9 qz9 => ?_)
    · obtain ⟨M7, eMz9⟩ : ∃ M7, M7 = Mz9 := ⟨_, rfl⟩; subst eMz9
      obtain ⟨v8, hxz9, h⟩ := qz9
      cases hxz9
      refine j_if_eq hX 56 eX7_alight_18 (by decide) (fun c9 => ?_) (fun c9 => ?_)
      · replace h := h.1 c9
        obtain ⟨v10, ev10⟩ : ∃ v10 : Int32, v10 = a2 + (1 : Int32) := ⟨_, rfl⟩
        replace h := h v10 ev10
        refine j_iinc (v := v10) (lv' := [(2, .int v10), (0, .ref a0), (1, .int a1)]) hX eX7_alight_56 2 rfl (by rw [ev10]; rfl) (by decide) rfl ?_
        refine j_goto hX 2 eX7_alight_59 (by decide) ?_
        exact j_sub [1, 2, 0] rfl (k2 _ _ _ _ h)
      · replace h := h.2 c9
        refine j_aload_n hX eX7_alight_21 0 rfl ?_
        obtain ⟨t11, h⟩ := h
        obtain ⟨z12, h⟩ := h
        refine j_getR hX eX7_alight_22 ff_LiftGroupModel_7 rfl t11 (by decide) z12 ?_
        refine j_nmR (fun p13 ep13 => ?_)
        replace h := h p13 ep13
        refine j_bipush (v := (51 : Int32)) hX eX7_alight_25 (by decide) ?_
        refine j_iload_n hX eX7_alight_27 2 rfl ?_
        refine j_iadd hX eX7_alight_28 ?_
        obtain ⟨t14, h⟩ := h
        obtain ⟨i15, h⟩ := h
        refine j_iald hX eX7_alight_29 t14 i15 ?_
        refine j_aload_n hX eX7_alight_30 0 rfl ?_
        obtain ⟨z16, h⟩ := h
        refine j_getR hX eX7_alight_31 ff_LiftGroupModel_7 rfl t11 (by decide) z16 ?_
        refine j_nmR (fun p17 ep17 => ?_)
        replace h := h p17 ep17
        refine j_bipush (v := (9 : Int32)) hX eX7_alight_34 (by decide) ?_
        refine j_iload_n hX eX7_alight_36 1 rfl ?_
        refine j_iadd hX eX7_alight_37 ?_
        obtain ⟨t18, h⟩ := h
        obtain ⟨i19, h⟩ := h
        refine j_iald hX eX7_alight_38 t18 i19 ?_
        refine j_icmp_ne hX 56 eX7_alight_39 (by decide) (fun c20 => ?_) (fun c20 => ?_)
        · replace h := h.2 c20
          obtain ⟨v21, ev21⟩ : ∃ v21 : Int32, v21 = a2 + (1 : Int32) := ⟨_, rfl⟩
          replace h := h v21 ev21
          refine j_iinc (v := v21) (lv' := [(2, .int v21), (0, .ref a0), (1, .int a1)]) hX eX7_alight_56 2 rfl (by rw [ev21]; rfl) (by decide) rfl ?_
          refine j_goto hX 2 eX7_alight_59 (by decide) ?_
          exact j_sub [1, 2, 0] rfl (k2 _ _ _ _ h)
        · replace h := h.1 c20
          refine j_aload_n hX eX7_alight_42 0 rfl ?_
          refine j_iload_n hX eX7_alight_43 2 rfl ?_
          refine j_iload_n hX eX7_alight_44 1 rfl ?_
          refine j_callV (a := a0) (q := (RX7, TX7, 17)) (r' := rX7_logs) (As := [.int a2, .int a1]) (rest := []) (d1 := d) hX eX7_alight_45 mm_LiftGroupModel_134 rfl t11 (by decide) rfl h rfl (Nat.le_refl _) (Nat.zero_le _) (Nat.zero_le _) (Nat.le_of_ble_eq_true rfl) (fun vz9 Mz9 qz9 => ?_) (fun Ez9 Mz9 qz9 => ?_)
          · obtain ⟨M22, eMz9⟩ : ∃ M22, M22 = Mz9 := ⟨_, rfl⟩; subst eMz9
            obtain ⟨hxz9, h⟩ := qz9
            cases hxz9
            refine j_aload_n hX eX7_alight_48 0 rfl ?_
            refine j_iload_n hX eX7_alight_49 2 rfl ?_
            obtain ⟨t26, h⟩ := h
            refine j_callV (a := a0) (q := (RX7, TX7, 17)) (r' := rX7_drops) (As := [.int a2]) (rest := []) (d1 := d) hX eX7_alight_50 mm_LiftGroupModel_113 rfl t26 (by decide) rfl h rfl (Nat.le_refl _) (Nat.zero_le _) (Nat.zero_le _) (Nat.le_of_ble_eq_true rfl) (fun vz9 Mz9 qz9 => ?_) (fun Ez9 Mz9 qz9 => ?_)
            · obtain ⟨M24, eMz9⟩ : ∃ M24, M24 = Mz9 := ⟨_, rfl⟩; subst eMz9
              obtain ⟨hxz9, h⟩ := qz9
              cases hxz9
              refine j_goto hX 2 eX7_alight_53 (by decide) ?_
              exact j_sub [0, 1, 2] rfl (k2 _ _ _ _ h)
            · obtain ⟨hxz9, h⟩ := qz9
              cases hxz9
          · obtain ⟨hxz9, h⟩ := qz9
            cases hxz9
    · obtain ⟨v8, hxz9, h⟩ := qz9
      cases hxz9

set_option maxHeartbeats 4000000 in
set_option maxRecDepth 20000 in
theorem vX7_board_0 {X : am_Cx} {G : am_Gx} {d : Nat} {Q : am_Q} (hX : am_ok X rX7_board G (d + 1)) (hM : am_me X rX7_board Q) {bc bs : Nat} (R2 : Nat → Int32 → Int32 → am_Hp → Prop) (k2 : ∀ (x0 : Nat) (x1 : Int32) (x2 : Int32) (M : am_Hp), R2 x0 x1 x2 M → am_J X 2 [(0, .ref x0), (1, .int x1), (2, .int x2)] [] M bc bs) {a0 : Nat} {a1 : Int32} {M : am_Hp} (h : R2 a0 a1 (0 : Int32) M) : am_J X 0 [(0, .ref a0), (1, .int a1)] [] M bc bs := by
  refine j_iconst (v := (0 : Int32)) hX eX7_board_0 (by decide) ?_
  refine j_istore_n (lv' := [(2, .int (0 : Int32)), (0, .ref a0), (1, .int a1)]) hX eX7_board_1 rfl (by decide) rfl ?_
  exact j_sub [1, 2, 0] rfl (k2 _ _ _ _ h)
set_option maxHeartbeats 4000000 in
set_option maxRecDepth 20000 in
theorem vX7_board_2 {X : am_Cx} {G : am_Gx} {d : Nat} {Q : am_Q} (hX : am_ok X rX7_board G (d + 1)) (hM : am_me X rX7_board Q) {bc bs : Nat} (R2 : Nat → Int32 → Int32 → am_Hp → Prop) (k2 : ∀ (x0 : Nat) (x1 : Int32) (x2 : Int32) (M : am_Hp), R2 x0 x1 x2 M → am_J X 2 [(0, .ref x0), (1, .int x1), (2, .int x2)] [] M bc bs) {a0 : Nat} {a1 : Int32} {a2 : Int32} {M : am_Hp} (h : hp_T M (a0) = 8 ∧ (hp_R M 140 a0 ≠ 0 ∧ (∀ p3 : Nat, p3 = hp_R M 140 a0 → (hp_T M (p3) = 22 ∧ (vp_in (1 : Int32) (hp_N M p3) ∧ ((((hp_E M p3 ((1 : Int32)).toNatClampNeg) ≤ a2) → (Q (.inl none) M)) ∧ (¬ ((hp_E M p3 ((1 : Int32)).toNatClampNeg) ≤ a2) → (am_CT G d rX7_awaits [.ref a0, .int a2, .int a1] M 0 0 (fun oz9 M7 => ∃ v8 : Int32, oz9 = .inl (some (.int v8)) ∧ (((v8 = 0) → (∀ v10 : Int32, v10 = a2 + (1 : Int32) → (R2 a0 a1 v10 M7))) ∧ (¬ (v8 = 0) → (hp_T M7 (a0) = 8 ∧ (hp_R M7 140 a0 ≠ 0 ∧ (∀ p13 : Nat, p13 = hp_R M7 140 a0 → (hp_T M7 (p13) = 22 ∧ (vp_in ((39 : Int32) + a2) (hp_N M7 p13) ∧ (hp_R M7 140 a0 ≠ 0 ∧ (∀ p17 : Nat, p17 = hp_R M7 140 a0 → (hp_T M7 (p17) = 22 ∧ (vp_in ((9 : Int32) + a1) (hp_N M7 p17) ∧ ((((hp_E M7 p13 (((39 : Int32) + a2)).toNatClampNeg) = (hp_E M7 p17 (((9 : Int32) + a1)).toNatClampNeg)) → (am_CT G d rX7_loadOf [.ref a0, .int a1] M7 0 0 (fun oz9 M22 => ∃ v23 : Int32, oz9 = .inl (some (.int v23)) ∧ (hp_T M22 (a0) = 8 ∧ (hp_R M22 140 a0 ≠ 0 ∧ (∀ p26 : Nat, p26 = hp_R M22 140 a0 → (hp_T M22 (p26) = 22 ∧ (vp_in ((63 : Int32) + a2) (hp_N M22 p26) ∧ (hp_R M22 140 a0 ≠ 0 ∧ (∀ p30 : Nat, p30 = hp_R M22 140 a0 → (hp_T M22 (p30) = 22 ∧ (vp_in ((15 : Int32) + a1) (hp_N M22 p30) ∧ ((((hp_E M22 p30 (((15 : Int32) + a1)).toNatClampNeg) < (v23 + (hp_E M22 p26 (((63 : Int32) + a2)).toNatClampNeg))) → (hp_R M22 140 a0 ≠ 0 ∧ (∀ p35 : Nat, p35 = hp_R M22 140 a0 → ((((0 : Int32) = 0) → (hp_T M22 (p35) = 22 ∧ (vp_in ((99 : Int32) + a2) (hp_N M22 p35) ∧ (∀ M39 : am_Hp, M39 = hp_sE M22 p35 (((99 : Int32) + a2)).toNatClampNeg (0 : Int32) → (hp_R M39 140 a0 ≠ 0 ∧ (∀ p45 : Nat, p45 = hp_R M39 140 a0 → ((((0 : Int32) = 0) → (hp_T M39 (p45) = 22 ∧ (vp_in ((87 : Int32) + a2) (hp_N M39 p45) ∧ (∀ M49 : am_Hp, M49 = hp_sE M39 p45 (((87 : Int32) + a2)).toNatClampNeg (0 : Int32) → (∀ v55 : Int32, v55 = a2 + (1 : Int32) → (R2 a0 a1 v55 M49)))))) ∧ (¬ ((0 : Int32) = 0) → (hp_T M39 (p45) = 22 ∧ (vp_in ((87 : Int32) + a2) (hp_N M39 p45) ∧ (∀ M58 : am_Hp, M58 = hp_sE M39 p45 (((87 : Int32) + a2)).toNatClampNeg (a1 + (1 : Int32)) → (∀ v64 : Int32, v64 = a2 + (1 : Int32) → (R2 a0 a1 v64 M58))))))))))))) ∧ (¬ ((0 : Int32) = 0) → (hp_T M22 (p35) = 22 ∧ (vp_in ((99 : Int32) + a2) (hp_N M22 p35) ∧ (∀ M67 : am_Hp, M67 = hp_sE M22 p35 (((99 : Int32) + a2)).toNatClampNeg (1 : Int32) → (hp_R M67 140 a0 ≠ 0 ∧ (∀ p73 : Nat, p73 = hp_R M67 140 a0 → ((((0 : Int32) = 0) → (hp_T M67 (p73) = 22 ∧ (vp_in ((87 : Int32) + a2) (hp_N M67 p73) ∧ (∀ M77 : am_Hp, M77 = hp_sE M67 p73 (((87 : Int32) + a2)).toNatClampNeg (0 : Int32) → (∀ v83 : Int32, v83 = a2 + (1 : Int32) → (R2 a0 a1 v83 M77)))))) ∧ (¬ ((0 : Int32) = 0) → (hp_T M67 (p73) = 22 ∧ (vp_in ((87 : Int32) + a2) (hp_N M67 p73) ∧ (∀ M86 : am_Hp, M86 = hp_sE M67 p73 (((87 : Int32) + a2)).toNatClampNeg (a1 + (1 : Int32)) → (∀ v92 : Int32, v92 = a2 + (1 : Int32) → (R2 a0 a1 v92 M86))))))))))))))))) ∧ (¬ ((hp_E M22 p30 (((15 : Int32) + a1)).toNatClampNeg) < (v23 + (hp_E M22 p26 (((63 : Int32) + a2)).toNatClampNeg))) → (hp_R M22 140 a0 ≠ 0 ∧ (∀ p94 : Nat, p94 = hp_R M22 140 a0 → ((((1 : Int32) = 0) → (hp_T M22 (p94) = 22 ∧ (vp_in ((99 : Int32) + a2) (hp_N M22 p94) ∧ (∀ M98 : am_Hp, M98 = hp_sE M22 p94 (((99 : Int32) + a2)).toNatClampNeg (0 : Int32) → (hp_R M98 140 a0 ≠ 0 ∧ (∀ p104 : Nat, p104 = hp_R M98 140 a0 → ((((1 : Int32) = 0) → (hp_T M98 (p104) = 22 ∧ (vp_in ((87 : Int32) + a2) (hp_N M98 p104) ∧ (∀ M108 : am_Hp, M108 = hp_sE M98 p104 (((87 : Int32) + a2)).toNatClampNeg (0 : Int32) → (∀ v114 : Int32, v114 = a2 + (1 : Int32) → (R2 a0 a1 v114 M108)))))) ∧ (¬ ((1 : Int32) = 0) → (hp_T M98 (p104) = 22 ∧ (vp_in ((87 : Int32) + a2) (hp_N M98 p104) ∧ (∀ M117 : am_Hp, M117 = hp_sE M98 p104 (((87 : Int32) + a2)).toNatClampNeg (a1 + (1 : Int32)) → (∀ v123 : Int32, v123 = a2 + (1 : Int32) → (R2 a0 a1 v123 M117))))))))))))) ∧ (¬ ((1 : Int32) = 0) → (hp_T M22 (p94) = 22 ∧ (vp_in ((99 : Int32) + a2) (hp_N M22 p94) ∧ (∀ M126 : am_Hp, M126 = hp_sE M22 p94 (((99 : Int32) + a2)).toNatClampNeg (1 : Int32) → (hp_R M126 140 a0 ≠ 0 ∧ (∀ p132 : Nat, p132 = hp_R M126 140 a0 → ((((1 : Int32) = 0) → (hp_T M126 (p132) = 22 ∧ (vp_in ((87 : Int32) + a2) (hp_N M126 p132) ∧ (∀ M136 : am_Hp, M136 = hp_sE M126 p132 (((87 : Int32) + a2)).toNatClampNeg (0 : Int32) → (∀ v142 : Int32, v142 = a2 + (1 : Int32) → (R2 a0 a1 v142 M136)))))) ∧ (¬ ((1 : Int32) = 0) → (hp_T M126 (p132) = 22 ∧ (vp_in ((87 : Int32) + a2) (hp_N M126 p132) ∧ (∀ M145 : am_Hp, M145 = hp_sE M126 p132 (((87 : Int32) + a2)).toNatClampNeg (a1 + (1 : Int32)) → (∀ v151 : Int32, v151 = a2 + (1 : Int32) → (R2 a0 a1 v151 M145)))))))))))))))))))))))))))))) ∧ (¬ ((hp_E M7 p13 (((39 : Int32) + a2)).toNatClampNeg) = (hp_E M7 p17 (((9 : Int32) + a1)).toNatClampNeg)) → (∀ v21 : Int32, v21 = a2 + (1 : Int32) → (R2 a0 a1 v21 M7)))))))))))))))))))))))) : am_J X 2 [(0, .ref a0), (1, .int a1), (2, .int a2)] [] M bc bs := by
  refine j_iload_n hX eX7_board_2 2 rfl ?_
  refine j_aload_n hX eX7_board_3 0 rfl ?_
  obtain ⟨t1, h⟩ := h
  obtain ⟨z2, h⟩ := h
  refine j_getR hX eX7_board_4 ff_LiftGroupModel_7 rfl t1 (by decide) z2 ?_
  refine j_nmR (fun p3 ep3 => ?_)
  replace h := h p3 ep3
  refine j_iconst (v := (1 : Int32)) hX eX7_board_7 (by decide) ?_
  obtain ⟨t4, h⟩ := h
  obtain ⟨i5, h⟩ := h
  refine j_iald hX eX7_board_8 t4 i5 ?_
  refine j_icmp_ge hX 119 eX7_board_9 (by decide) (fun c6 => ?_) (fun c6 => ?_)
  · replace h := h.1 c6
    exact j_vret hX hM eX7_board_119 rfl h
  · replace h := h.2 c6
    refine j_aload_n hX eX7_board_12 0 rfl ?_
    refine j_iload_n hX eX7_board_13 2 rfl ?_
    refine j_iload_n hX eX7_board_14 1 rfl ?_
    refine j_callV (a := a0) (q := (RX7, TX7, 17)) (r' := rX7_awaits) (As := [.int a2, .int a1]) (rest := []) (d1 := d) hX eX7_board_15 mm_LiftGroupModel_60 rfl t1 (by decide) rfl h rfl (Nat.le_refl _) (Nat.zero_le _) (Nat.zero_le _) (Nat.le_of_ble_eq_true rfl) (fun vz9 Mz9 qz9 => ?_) (fun Ez9 Mz9 qz9 => ?_)
    · obtain ⟨M7, eMz9⟩ : ∃ M7, M7 = Mz9 := ⟨_, rfl⟩; subst eMz9
      obtain ⟨v8, hxz9, h⟩ := qz9
      cases hxz9
      refine j_if_eq hX 113 eX7_board_18 (by decide) (fun c9 => ?_) (fun c9 => ?_)
      · replace h := h.1 c9
        obtain ⟨v10, ev10⟩ : ∃ v10 : Int32, v10 = a2 + (1 : Int32) := ⟨_, rfl⟩
        replace h := h v10 ev10
        refine j_iinc (v := v10) (lv' := [(2, .int v10), (0, .ref a0), (1, .int a1)]) hX eX7_board_113 2 rfl (by rw [ev10]; rfl) (by decide) rfl ?_
        refine j_goto hX 2 eX7_board_116 (by decide) ?_
        exact j_sub [1, 2, 0] rfl (k2 _ _ _ _ h)
      · replace h := h.2 c9
        refine j_aload_n hX eX7_board_21 0 rfl ?_
        obtain ⟨t11, h⟩ := h
        obtain ⟨z12, h⟩ := h
        refine j_getR hX eX7_board_22 ff_LiftGroupModel_7 rfl t11 (by decide) z12 ?_
        refine j_nmR (fun p13 ep13 => ?_)
        replace h := h p13 ep13
        refine j_bipush (v := (39 : Int32)) hX eX7_board_25 (by decide) ?_
        refine j_iload_n hX eX7_board_27 2 rfl ?_
        refine j_iadd hX eX7_board_28 ?_
        obtain ⟨t14, h⟩ := h
        obtain ⟨i15, h⟩ := h
        refine j_iald hX eX7_board_29 t14 i15 ?_
        refine j_aload_n hX eX7_board_30 0 rfl ?_
        obtain ⟨z16, h⟩ := h
        refine j_getR hX eX7_board_31 ff_LiftGroupModel_7 rfl t11 (by decide) z16 ?_
        refine j_nmR (fun p17 ep17 => ?_)
        replace h := h p17 ep17
        refine j_bipush (v := (9 : Int32)) hX eX7_board_34 (by decide) ?_
        refine j_iload_n hX eX7_board_36 1 rfl ?_
        refine j_iadd hX eX7_board_37 ?_
        obtain ⟨t18, h⟩ := h
        obtain ⟨i19, h⟩ := h
        refine j_iald hX eX7_board_38 t18 i19 ?_
        refine j_icmp_ne hX 113 eX7_board_39 (by decide) (fun c20 => ?_) (fun c20 => ?_)
        · replace h := h.2 c20
          obtain ⟨v21, ev21⟩ : ∃ v21 : Int32, v21 = a2 + (1 : Int32) := ⟨_, rfl⟩
          replace h := h v21 ev21
          refine j_iinc (v := v21) (lv' := [(2, .int v21), (0, .ref a0), (1, .int a1)]) hX eX7_board_113 2 rfl (by rw [ev21]; rfl) (by decide) rfl ?_
          refine j_goto hX 2 eX7_board_116 (by decide) ?_
          exact j_sub [1, 2, 0] rfl (k2 _ _ _ _ h)
        · replace h := h.1 c20
          refine j_aload_n hX eX7_board_42 0 rfl ?_
          refine j_iload_n hX eX7_board_43 1 rfl ?_
          refine j_callV (a := a0) (q := (RX7, TX7, 17)) (r' := rX7_loadOf) (As := [.int a1]) (rest := []) (d1 := d) hX eX7_board_44 mm_LiftGroupModel_81 rfl t11 (by decide) rfl h rfl (Nat.le_refl _) (Nat.zero_le _) (Nat.zero_le _) (Nat.le_of_ble_eq_true rfl) (fun vz9 Mz9 qz9 => ?_) (fun Ez9 Mz9 qz9 => ?_)
          · obtain ⟨M22, eMz9⟩ : ∃ M22, M22 = Mz9 := ⟨_, rfl⟩; subst eMz9
            obtain ⟨v23, hxz9, h⟩ := qz9
            cases hxz9
            refine j_aload_n hX eX7_board_47 0 rfl ?_
            obtain ⟨t24, h⟩ := h
            obtain ⟨z25, h⟩ := h
            refine j_getR hX eX7_board_48 ff_LiftGroupModel_7 rfl t24 (by decide) z25 ?_
            refine j_nmR (fun p26 ep26 => ?_)
            replace h := h p26 ep26
            refine j_bipush (v := (63 : Int32)) hX eX7_board_51 (by decide) ?_
            refine j_iload_n hX eX7_board_53 2 rfl ?_
            refine j_iadd hX eX7_board_54 ?_
            obtain ⟨t27, h⟩ := h
            obtain ⟨i28, h⟩ := h
            refine j_iald hX eX7_board_55 t27 i28 ?_
            refine j_iadd hX eX7_board_56 ?_
            refine j_aload_n hX eX7_board_57 0 rfl ?_
            obtain ⟨z29, h⟩ := h
            refine j_getR hX eX7_board_58 ff_LiftGroupModel_7 rfl t24 (by decide) z29 ?_
            refine j_nmR (fun p30 ep30 => ?_)
            replace h := h p30 ep30
            refine j_bipush (v := (15 : Int32)) hX eX7_board_61 (by decide) ?_
            refine j_iload_n hX eX7_board_63 1 rfl ?_
            refine j_iadd hX eX7_board_64 ?_
            obtain ⟨t31, h⟩ := h
            obtain ⟨i32, h⟩ := h
            refine j_iald hX eX7_board_65 t31 i32 ?_
            refine j_icmp_gt hX 73 eX7_board_66 (by decide) (fun c33 => ?_) (fun c33 => ?_)
            · replace h := h.1 c33
              refine j_iconst (v := (0 : Int32)) hX eX7_board_73 (by decide) ?_
              refine j_istore_n (lv' := [(3, .int (0 : Int32)), (0, .ref a0), (1, .int a1), (2, .int a2)]) hX eX7_board_74 rfl (by decide) rfl ?_
              refine j_aload_n hX eX7_board_75 1 rfl ?_
              obtain ⟨z34, h⟩ := h
              refine j_getR hX eX7_board_76 ff_LiftGroupModel_7 rfl t24 (by decide) z34 ?_
              refine j_nmR (fun p35 ep35 => ?_)
              replace h := h p35 ep35
              refine j_bipush (v := (99 : Int32)) hX eX7_board_79 (by decide) ?_
              refine j_iload_n hX eX7_board_81 3 rfl ?_
              refine j_iadd hX eX7_board_82 ?_
              refine j_iload_n hX eX7_board_83 0 rfl ?_
              refine j_if_eq hX 91 eX7_board_84 (by decide) (fun c36 => ?_) (fun c36 => ?_)
              · replace h := h.1 c36
                refine j_iconst (v := (0 : Int32)) hX eX7_board_91 (by decide) ?_
                obtain ⟨t37, h⟩ := h
                obtain ⟨i38, h⟩ := h
                refine j_iast hX eX7_board_92 t37 i38 ?_
                refine j_nmM (fun M39 eM39 => ?_)
                replace h := h M39 eM39
                have t40 : hp_T M39 (a0) = 8 := by rw [eM39]; exact t24
                have t41 : hp_T M39 (p26) = 22 := by rw [eM39]; exact t27
                have t42 : hp_T M39 (p30) = 22 := by rw [eM39]; exact t31
                have t43 : hp_T M39 (p35) = 22 := by rw [eM39]; exact t37
                refine j_aload_n hX eX7_board_93 1 rfl ?_
                obtain ⟨z44, h⟩ := h
                refine j_getR hX eX7_board_94 ff_LiftGroupModel_7 rfl t40 (by decide) z44 ?_
                refine j_nmR (fun p45 ep45 => ?_)
                replace h := h p45 ep45
                refine j_bipush (v := (87 : Int32)) hX eX7_board_97 (by decide) ?_
                refine j_iload_n hX eX7_board_99 3 rfl ?_
                refine j_iadd hX eX7_board_100 ?_
                refine j_iload_n hX eX7_board_101 0 rfl ?_
                refine j_if_eq hX 111 eX7_board_102 (by decide) (fun c46 => ?_) (fun c46 => ?_)
                · replace h := h.1 c46
                  refine j_iconst (v := (0 : Int32)) hX eX7_board_111 (by decide) ?_
                  obtain ⟨t47, h⟩ := h
                  obtain ⟨i48, h⟩ := h
                  refine j_iast hX eX7_board_112 t47 i48 ?_
                  refine j_nmM (fun M49 eM49 => ?_)
                  replace h := h M49 eM49
                  have t50 : hp_T M49 (a0) = 8 := by rw [eM49]; exact t40
                  have t51 : hp_T M49 (p26) = 22 := by rw [eM49]; exact t41
                  have t52 : hp_T M49 (p30) = 22 := by rw [eM49]; exact t42
                  have t53 : hp_T M49 (p35) = 22 := by rw [eM49]; exact t43
                  have t54 : hp_T M49 (p45) = 22 := by rw [eM49]; exact t47
                  obtain ⟨v55, ev55⟩ : ∃ v55 : Int32, v55 = a2 + (1 : Int32) := ⟨_, rfl⟩
                  replace h := h v55 ev55
                  refine j_iinc (v := v55) (lv' := [(2, .int v55), (3, .int (0 : Int32)), (0, .ref a0), (1, .int a1)]) hX eX7_board_113 3 rfl (by rw [ev55]; rfl) (by decide) rfl ?_
                  refine j_goto hX 2 eX7_board_116 (by decide) ?_
                  exact j_sub [2, 3, 0] rfl (k2 _ _ _ _ h)
                · replace h := h.2 c46
                  refine j_iload_n hX eX7_board_105 2 rfl ?_
                  refine j_iconst (v := (1 : Int32)) hX eX7_board_106 (by decide) ?_
                  refine j_iadd hX eX7_board_107 ?_
                  refine j_goto hX 112 eX7_board_108 (by decide) ?_
                  obtain ⟨t56, h⟩ := h
                  obtain ⟨i57, h⟩ := h
                  refine j_iast hX eX7_board_112 t56 i57 ?_
                  refine j_nmM (fun M58 eM58 => ?_)
                  replace h := h M58 eM58
                  have t59 : hp_T M58 (a0) = 8 := by rw [eM58]; exact t40
                  have t60 : hp_T M58 (p26) = 22 := by rw [eM58]; exact t41
                  have t61 : hp_T M58 (p30) = 22 := by rw [eM58]; exact t42
                  have t62 : hp_T M58 (p35) = 22 := by rw [eM58]; exact t43
                  have t63 : hp_T M58 (p45) = 22 := by rw [eM58]; exact t56
                  obtain ⟨v64, ev64⟩ : ∃ v64 : Int32, v64 = a2 + (1 : Int32) := ⟨_, rfl⟩
                  replace h := h v64 ev64
                  refine j_iinc (v := v64) (lv' := [(2, .int v64), (3, .int (0 : Int32)), (0, .ref a0), (1, .int a1)]) hX eX7_board_113 3 rfl (by rw [ev64]; rfl) (by decide) rfl ?_
                  refine j_goto hX 2 eX7_board_116 (by decide) ?_
                  exact j_sub [2, 3, 0] rfl (k2 _ _ _ _ h)
              · replace h := h.2 c36
                refine j_iconst (v := (1 : Int32)) hX eX7_board_87 (by decide) ?_
                refine j_goto hX 92 eX7_board_88 (by decide) ?_
                obtain ⟨t65, h⟩ := h
                obtain ⟨i66, h⟩ := h
                refine j_iast hX eX7_board_92 t65 i66 ?_
                refine j_nmM (fun M67 eM67 => ?_)
                replace h := h M67 eM67
                have t68 : hp_T M67 (a0) = 8 := by rw [eM67]; exact t24
                have t69 : hp_T M67 (p26) = 22 := by rw [eM67]; exact t27
                have t70 : hp_T M67 (p30) = 22 := by rw [eM67]; exact t31
                have t71 : hp_T M67 (p35) = 22 := by rw [eM67]; exact t65
                refine j_aload_n hX eX7_board_93 1 rfl ?_
                obtain ⟨z72, h⟩ := h
                refine j_getR hX eX7_board_94 ff_LiftGroupModel_7 rfl t68 (by decide) z72 ?_
                refine j_nmR (fun p73 ep73 => ?_)
                replace h := h p73 ep73
                refine j_bipush (v := (87 : Int32)) hX eX7_board_97 (by decide) ?_
                refine j_iload_n hX eX7_board_99 3 rfl ?_
                refine j_iadd hX eX7_board_100 ?_
                refine j_iload_n hX eX7_board_101 0 rfl ?_
                refine j_if_eq hX 111 eX7_board_102 (by decide) (fun c74 => ?_) (fun c74 => ?_)
                · replace h := h.1 c74
                  refine j_iconst (v := (0 : Int32)) hX eX7_board_111 (by decide) ?_
                  obtain ⟨t75, h⟩ := h
                  obtain ⟨i76, h⟩ := h
                  refine j_iast hX eX7_board_112 t75 i76 ?_
                  refine j_nmM (fun M77 eM77 => ?_)
                  replace h := h M77 eM77
                  have t78 : hp_T M77 (a0) = 8 := by rw [eM77]; exact t68
                  have t79 : hp_T M77 (p26) = 22 := by rw [eM77]; exact t69
                  have t80 : hp_T M77 (p30) = 22 := by rw [eM77]; exact t70
                  have t81 : hp_T M77 (p35) = 22 := by rw [eM77]; exact t71
                  have t82 : hp_T M77 (p73) = 22 := by rw [eM77]; exact t75
                  obtain ⟨v83, ev83⟩ : ∃ v83 : Int32, v83 = a2 + (1 : Int32) := ⟨_, rfl⟩
                  replace h := h v83 ev83
                  refine j_iinc (v := v83) (lv' := [(2, .int v83), (3, .int (0 : Int32)), (0, .ref a0), (1, .int a1)]) hX eX7_board_113 3 rfl (by rw [ev83]; rfl) (by decide) rfl ?_
                  refine j_goto hX 2 eX7_board_116 (by decide) ?_
                  exact j_sub [2, 3, 0] rfl (k2 _ _ _ _ h)
                · replace h := h.2 c74
                  refine j_iload_n hX eX7_board_105 2 rfl ?_
                  refine j_iconst (v := (1 : Int32)) hX eX7_board_106 (by decide) ?_
                  refine j_iadd hX eX7_board_107 ?_
                  refine j_goto hX 112 eX7_board_108 (by decide) ?_
                  obtain ⟨t84, h⟩ := h
                  obtain ⟨i85, h⟩ := h
                  refine j_iast hX eX7_board_112 t84 i85 ?_
                  refine j_nmM (fun M86 eM86 => ?_)
                  replace h := h M86 eM86
                  have t87 : hp_T M86 (a0) = 8 := by rw [eM86]; exact t68
                  have t88 : hp_T M86 (p26) = 22 := by rw [eM86]; exact t69
                  have t89 : hp_T M86 (p30) = 22 := by rw [eM86]; exact t70
                  have t90 : hp_T M86 (p35) = 22 := by rw [eM86]; exact t71
                  have t91 : hp_T M86 (p73) = 22 := by rw [eM86]; exact t84
                  obtain ⟨v92, ev92⟩ : ∃ v92 : Int32, v92 = a2 + (1 : Int32) := ⟨_, rfl⟩
                  replace h := h v92 ev92
                  refine j_iinc (v := v92) (lv' := [(2, .int v92), (3, .int (0 : Int32)), (0, .ref a0), (1, .int a1)]) hX eX7_board_113 3 rfl (by rw [ev92]; rfl) (by decide) rfl ?_
                  refine j_goto hX 2 eX7_board_116 (by decide) ?_
                  exact j_sub [2, 3, 0] rfl (k2 _ _ _ _ h)
            · replace h := h.2 c33
              refine j_iconst (v := (1 : Int32)) hX eX7_board_69 (by decide) ?_
              refine j_goto hX 74 eX7_board_70 (by decide) ?_
              refine j_istore_n (lv' := [(3, .int (1 : Int32)), (0, .ref a0), (1, .int a1), (2, .int a2)]) hX eX7_board_74 rfl (by decide) rfl ?_
              refine j_aload_n hX eX7_board_75 1 rfl ?_
              obtain ⟨z93, h⟩ := h
              refine j_getR hX eX7_board_76 ff_LiftGroupModel_7 rfl t24 (by decide) z93 ?_
              refine j_nmR (fun p94 ep94 => ?_)
              replace h := h p94 ep94
              refine j_bipush (v := (99 : Int32)) hX eX7_board_79 (by decide) ?_
              refine j_iload_n hX eX7_board_81 3 rfl ?_
              refine j_iadd hX eX7_board_82 ?_
              refine j_iload_n hX eX7_board_83 0 rfl ?_
              refine j_if_eq hX 91 eX7_board_84 (by decide) (fun c95 => ?_) (fun c95 => ?_)
              · replace h := h.1 c95
                refine j_iconst (v := (0 : Int32)) hX eX7_board_91 (by decide) ?_
                obtain ⟨t96, h⟩ := h
                obtain ⟨i97, h⟩ := h
                refine j_iast hX eX7_board_92 t96 i97 ?_
                refine j_nmM (fun M98 eM98 => ?_)
                replace h := h M98 eM98
                have t99 : hp_T M98 (a0) = 8 := by rw [eM98]; exact t24
                have t100 : hp_T M98 (p26) = 22 := by rw [eM98]; exact t27
                have t101 : hp_T M98 (p30) = 22 := by rw [eM98]; exact t31
                have t102 : hp_T M98 (p94) = 22 := by rw [eM98]; exact t96
                refine j_aload_n hX eX7_board_93 1 rfl ?_
                obtain ⟨z103, h⟩ := h
                refine j_getR hX eX7_board_94 ff_LiftGroupModel_7 rfl t99 (by decide) z103 ?_
                refine j_nmR (fun p104 ep104 => ?_)
                replace h := h p104 ep104
                refine j_bipush (v := (87 : Int32)) hX eX7_board_97 (by decide) ?_
                refine j_iload_n hX eX7_board_99 3 rfl ?_
                refine j_iadd hX eX7_board_100 ?_
                refine j_iload_n hX eX7_board_101 0 rfl ?_
                refine j_if_eq hX 111 eX7_board_102 (by decide) (fun c105 => ?_) (fun c105 => ?_)
                · replace h := h.1 c105
                  refine j_iconst (v := (0 : Int32)) hX eX7_board_111 (by decide) ?_
                  obtain ⟨t106, h⟩ := h
                  obtain ⟨i107, h⟩ := h
                  refine j_iast hX eX7_board_112 t106 i107 ?_
                  refine j_nmM (fun M108 eM108 => ?_)
                  replace h := h M108 eM108
                  have t109 : hp_T M108 (a0) = 8 := by rw [eM108]; exact t99
                  have t110 : hp_T M108 (p26) = 22 := by rw [eM108]; exact t100
                  have t111 : hp_T M108 (p30) = 22 := by rw [eM108]; exact t101
                  have t112 : hp_T M108 (p94) = 22 := by rw [eM108]; exact t102
                  have t113 : hp_T M108 (p104) = 22 := by rw [eM108]; exact t106
                  obtain ⟨v114, ev114⟩ : ∃ v114 : Int32, v114 = a2 + (1 : Int32) := ⟨_, rfl⟩
                  replace h := h v114 ev114
                  refine j_iinc (v := v114) (lv' := [(2, .int v114), (3, .int (1 : Int32)), (0, .ref a0), (1, .int a1)]) hX eX7_board_113 3 rfl (by rw [ev114]; rfl) (by decide) rfl ?_
                  refine j_goto hX 2 eX7_board_116 (by decide) ?_
                  exact j_sub [2, 3, 0] rfl (k2 _ _ _ _ h)
                · replace h := h.2 c105
                  refine j_iload_n hX eX7_board_105 2 rfl ?_
                  refine j_iconst (v := (1 : Int32)) hX eX7_board_106 (by decide) ?_
                  refine j_iadd hX eX7_board_107 ?_
                  refine j_goto hX 112 eX7_board_108 (by decide) ?_
                  obtain ⟨t115, h⟩ := h
                  obtain ⟨i116, h⟩ := h
                  refine j_iast hX eX7_board_112 t115 i116 ?_
                  refine j_nmM (fun M117 eM117 => ?_)
                  replace h := h M117 eM117
                  have t118 : hp_T M117 (a0) = 8 := by rw [eM117]; exact t99
                  have t119 : hp_T M117 (p26) = 22 := by rw [eM117]; exact t100
                  have t120 : hp_T M117 (p30) = 22 := by rw [eM117]; exact t101
                  have t121 : hp_T M117 (p94) = 22 := by rw [eM117]; exact t102
                  have t122 : hp_T M117 (p104) = 22 := by rw [eM117]; exact t115
                  obtain ⟨v123, ev123⟩ : ∃ v123 : Int32, v123 = a2 + (1 : Int32) := ⟨_, rfl⟩
                  replace h := h v123 ev123
                  refine j_iinc (v := v123) (lv' := [(2, .int v123), (3, .int (1 : Int32)), (0, .ref a0), (1, .int a1)]) hX eX7_board_113 3 rfl (by rw [ev123]; rfl) (by decide) rfl ?_
                  refine j_goto hX 2 eX7_board_116 (by decide) ?_
                  exact j_sub [2, 3, 0] rfl (k2 _ _ _ _ h)
              · replace h := h.2 c95
                refine j_iconst (v := (1 : Int32)) hX eX7_board_87 (by decide) ?_
                refine j_goto hX 92 eX7_board_88 (by decide) ?_
                obtain ⟨t124, h⟩ := h
                obtain ⟨i125, h⟩ := h
                refine j_iast hX eX7_board_92 t124 i125 ?_
                refine j_nmM (fun M126 eM126 => ?_)
                replace h := h M126 eM126
                have t127 : hp_T M126 (a0) = 8 := by rw [eM126]; exact t24
                have t128 : hp_T M126 (p26) = 22 := by rw [eM126]; exact t27
                have t129 : hp_T M126 (p30) = 22 := by rw [eM126]; exact t31
                have t130 : hp_T M126 (p94) = 22 := by rw [eM126]; exact t124
                refine j_aload_n hX eX7_board_93 1 rfl ?_
                obtain ⟨z131, h⟩ := h
                refine j_getR hX eX7_board_94 ff_LiftGroupModel_7 rfl t127 (by decide) z131 ?_
                refine j_nmR (fun p132 ep132 => ?_)
                replace h := h p132 ep132
                refine j_bipush (v := (87 : Int32)) hX eX7_board_97 (by decide) ?_
                refine j_iload_n hX eX7_board_99 3 rfl ?_
                refine j_iadd hX eX7_board_100 ?_
                refine j_iload_n hX eX7_board_101 0 rfl ?_
                refine j_if_eq hX 111 eX7_board_102 (by decide) (fun c133 => ?_) (fun c133 => ?_)
                · replace h := h.1 c133
                  refine j_iconst (v := (0 : Int32)) hX eX7_board_111 (by decide) ?_
                  obtain ⟨t134, h⟩ := h
                  obtain ⟨i135, h⟩ := h
                  refine j_iast hX eX7_board_112 t134 i135 ?_
                  refine j_nmM (fun M136 eM136 => ?_)
                  replace h := h M136 eM136
                  have t137 : hp_T M136 (a0) = 8 := by rw [eM136]; exact t127
                  have t138 : hp_T M136 (p26) = 22 := by rw [eM136]; exact t128
                  have t139 : hp_T M136 (p30) = 22 := by rw [eM136]; exact t129
                  have t140 : hp_T M136 (p94) = 22 := by rw [eM136]; exact t130
                  have t141 : hp_T M136 (p132) = 22 := by rw [eM136]; exact t134
                  obtain ⟨v142, ev142⟩ : ∃ v142 : Int32, v142 = a2 + (1 : Int32) := ⟨_, rfl⟩
                  replace h := h v142 ev142
                  refine j_iinc (v := v142) (lv' := [(2, .int v142), (3, .int (1 : Int32)), (0, .ref a0), (1, .int a1)]) hX eX7_board_113 3 rfl (by rw [ev142]; rfl) (by decide) rfl ?_
                  refine j_goto hX 2 eX7_board_116 (by decide) ?_
                  exact j_sub [2, 3, 0] rfl (k2 _ _ _ _ h)
                · replace h := h.2 c133
                  refine j_iload_n hX eX7_board_105 2 rfl ?_
                  refine j_iconst (v := (1 : Int32)) hX eX7_board_106 (by decide) ?_
                  refine j_iadd hX eX7_board_107 ?_
                  refine j_goto hX 112 eX7_board_108 (by decide) ?_
                  obtain ⟨t143, h⟩ := h
                  obtain ⟨i144, h⟩ := h
                  refine j_iast hX eX7_board_112 t143 i144 ?_
                  refine j_nmM (fun M145 eM145 => ?_)
                  replace h := h M145 eM145
                  have t146 : hp_T M145 (a0) = 8 := by rw [eM145]; exact t127
                  have t147 : hp_T M145 (p26) = 22 := by rw [eM145]; exact t128
                  have t148 : hp_T M145 (p30) = 22 := by rw [eM145]; exact t129
                  have t149 : hp_T M145 (p94) = 22 := by rw [eM145]; exact t130
                  have t150 : hp_T M145 (p132) = 22 := by rw [eM145]; exact t143
                  obtain ⟨v151, ev151⟩ : ∃ v151 : Int32, v151 = a2 + (1 : Int32) := ⟨_, rfl⟩
                  replace h := h v151 ev151
                  refine j_iinc (v := v151) (lv' := [(2, .int v151), (3, .int (1 : Int32)), (0, .ref a0), (1, .int a1)]) hX eX7_board_113 3 rfl (by rw [ev151]; rfl) (by decide) rfl ?_
                  refine j_goto hX 2 eX7_board_116 (by decide) ?_
                  exact j_sub [2, 3, 0] rfl (k2 _ _ _ _ h)
          · obtain ⟨v23, hxz9, h⟩ := qz9
            cases hxz9
    · obtain ⟨v8, hxz9, h⟩ := qz9
      cases hxz9

set_option maxHeartbeats 4000000 in
set_option maxRecDepth 20000 in
theorem vX7_chosen_0 {X : am_Cx} {G : am_Gx} {d : Nat} {Q : am_Q} (hX : am_ok X rX7_chosen G (d + 1)) (hM : am_me X rX7_chosen Q) {bc bs : Nat}  {a0 : Nat} {a1 : Int32} {M : am_Hp} (h : hp_T M (a0) = 8 ∧ (am_CT G d rX7_nearest [.ref a0, .int a1, .int (1 : Int32)] M 0 0 (fun oz9 M1 => ∃ v2 : Int32, oz9 = .inl (some (.int v2)) ∧ (hp_T M1 (a0) = 8 ∧ (am_CT G d rX7_nearest [.ref a0, .int a1, .int (-1 : Int32)] M1 0 0 (fun oz9 M4 => ∃ v5 : Int32, oz9 = .inl (some (.int v5)) ∧ (hp_T M4 (a0) = 8 ∧ (hp_R M4 140 a0 ≠ 0 ∧ (∀ p9 : Nat, p9 = hp_R M4 140 a0 → (hp_T M4 (p9) = 22 ∧ (vp_in ((12 : Int32) + a1) (hp_N M4 p9) ∧ (∀ v12 : Int32, v12 = (hp_E M4 p9 (((12 : Int32) + a1)).toNatClampNeg) → (((v2 = 0) → (((v2 ≤ 0) → (((v5 ≤ 0) → (Q (.inl (some (.int (0 : Int32)))) M4)) ∧ (¬ (v5 ≤ 0) → (Q (.inl (some (.int (-1 : Int32)))) M4)))) ∧ (¬ (v2 ≤ 0) → (Q (.inl (some (.int (1 : Int32)))) M4)))) ∧ (¬ (v2 = 0) → (((v5 = 0) → (((v2 ≤ 0) → (((v5 ≤ 0) → (Q (.inl (some (.int (0 : Int32)))) M4)) ∧ (¬ (v5 ≤ 0) → (Q (.inl (some (.int (-1 : Int32)))) M4)))) ∧ (¬ (v2 ≤ 0) → (Q (.inl (some (.int (1 : Int32)))) M4)))) ∧ (¬ (v5 = 0) → (((v12 = 0) → (((v5 < v2) → (Q (.inl (some (.int (-1 : Int32)))) M4)) ∧ (¬ (v5 < v2) → (Q (.inl (some (.int (1 : Int32)))) M4)))) ∧ (¬ (v12 = 0) → (Q (.inl (some (.int v12))) M4))))))))))))))))))) : am_J X 0 [(0, .ref a0), (1, .int a1)] [] M bc bs := by
  refine j_aload_n hX eX7_chosen_0 0 rfl ?_
  refine j_iload_n hX eX7_chosen_1 1 rfl ?_
  refine j_iconst (v := (1 : Int32)) hX eX7_chosen_2 (by decide) ?_
  obtain ⟨t3, h⟩ := h
  refine j_callV (a := a0) (q := (RX7, TX7, 17)) (r' := rX7_nearest) (As := [.int a1, .int (1 : Int32)]) (rest := []) (d1 := d) hX eX7_chosen_3 mm_LiftGroupModel_138 rfl t3 (by decide) rfl h rfl (Nat.le_refl _) (Nat.zero_le _) (Nat.zero_le _) (Nat.le_of_ble_eq_true rfl) (fun vz9 Mz9 qz9 => ?_) (fun Ez9 Mz9 qz9 => ?_)
  · obtain ⟨M1, eMz9⟩ : ∃ M1, M1 = Mz9 := ⟨_, rfl⟩; subst eMz9
    obtain ⟨v2, hxz9, h⟩ := qz9
    cases hxz9
    refine j_istore_n (lv' := [(2, .int v2), (0, .ref a0), (1, .int a1)]) hX eX7_chosen_6 rfl (by decide) rfl ?_
    refine j_aload_n hX eX7_chosen_7 1 rfl ?_
    refine j_iload_n hX eX7_chosen_8 2 rfl ?_
    refine j_iconst (v := (-1 : Int32)) hX eX7_chosen_9 (by decide) ?_
    obtain ⟨t6, h⟩ := h
    refine j_callV (a := a0) (q := (RX7, TX7, 17)) (r' := rX7_nearest) (As := [.int a1, .int (-1 : Int32)]) (rest := []) (d1 := d) hX eX7_chosen_10 mm_LiftGroupModel_138 rfl t6 (by decide) rfl h rfl (Nat.le_refl _) (Nat.zero_le _) (Nat.zero_le _) (Nat.le_of_ble_eq_true rfl) (fun vz9 Mz9 qz9 => ?_) (fun Ez9 Mz9 qz9 => ?_)
    · obtain ⟨M4, eMz9⟩ : ∃ M4, M4 = Mz9 := ⟨_, rfl⟩; subst eMz9
      obtain ⟨v5, hxz9, h⟩ := qz9
      cases hxz9
      refine j_istore_n (lv' := [(3, .int v5), (2, .int v2), (0, .ref a0), (1, .int a1)]) hX eX7_chosen_13 rfl (by decide) rfl ?_
      refine j_aload_n hX eX7_chosen_14 2 rfl ?_
      obtain ⟨t7, h⟩ := h
      obtain ⟨z8, h⟩ := h
      refine j_getR hX eX7_chosen_15 ff_LiftGroupModel_7 rfl t7 (by decide) z8 ?_
      refine j_nmR (fun p9 ep9 => ?_)
      replace h := h p9 ep9
      refine j_bipush (v := (12 : Int32)) hX eX7_chosen_18 (by decide) ?_
      refine j_iload_n hX eX7_chosen_20 3 rfl ?_
      refine j_iadd hX eX7_chosen_21 ?_
      obtain ⟨t10, h⟩ := h
      obtain ⟨i11, h⟩ := h
      refine j_iald hX eX7_chosen_22 t10 i11 ?_
      refine j_nmI (fun v12 ev12 => ?_)
      replace h := h v12 ev12
      refine j_istore (lv' := [(4, .int v12), (3, .int v5), (2, .int v2), (0, .ref a0), (1, .int a1)]) hX eX7_chosen_23 (by decide) rfl ?_
      refine j_iload_n hX eX7_chosen_25 2 rfl ?_
      refine j_if_eq hX 33 eX7_chosen_26 (by decide) (fun c13 => ?_) (fun c13 => ?_)
      · replace h := h.1 c13
        refine j_iload_n hX eX7_chosen_33 2 rfl ?_
        refine j_if_le hX 41 eX7_chosen_34 (by decide) (fun c14 => ?_) (fun c14 => ?_)
        · replace h := h.1 c14
          refine j_iload_n hX eX7_chosen_41 1 rfl ?_
          refine j_if_le hX 49 eX7_chosen_42 (by decide) (fun c15 => ?_) (fun c15 => ?_)
          · replace h := h.1 c15
            refine j_iconst (v := (0 : Int32)) hX eX7_chosen_49 (by decide) ?_
            exact j_iret hX hM eX7_chosen_50 rfl h
          · replace h := h.2 c15
            refine j_iconst (v := (-1 : Int32)) hX eX7_chosen_45 (by decide) ?_
            refine j_goto hX 50 eX7_chosen_46 (by decide) ?_
            exact j_iret hX hM eX7_chosen_50 rfl h
        · replace h := h.2 c14
          refine j_iconst (v := (1 : Int32)) hX eX7_chosen_37 (by decide) ?_
          refine j_goto hX 50 eX7_chosen_38 (by decide) ?_
          exact j_iret hX hM eX7_chosen_50 rfl h
      · replace h := h.2 c13
        refine j_iload_n hX eX7_chosen_29 1 rfl ?_
        refine j_if_ne hX 51 eX7_chosen_30 (by decide) (fun c16 => ?_) (fun c16 => ?_)
        · replace h := h.2 c16
          refine j_iload hX eX7_chosen_51 0 rfl ?_
          refine j_if_eq hX 61 eX7_chosen_53 (by decide) (fun c17 => ?_) (fun c17 => ?_)
          · replace h := h.1 c17
            refine j_iload_n hX eX7_chosen_61 2 rfl ?_
            refine j_iload_n hX eX7_chosen_62 1 rfl ?_
            refine j_icmp_gt hX 70 eX7_chosen_63 (by decide) (fun c18 => ?_) (fun c18 => ?_)
            · replace h := h.1 c18
              refine j_iconst (v := (-1 : Int32)) hX eX7_chosen_70 (by decide) ?_
              exact j_iret hX hM eX7_chosen_71 rfl h
            · replace h := h.2 c18
              refine j_iconst (v := (1 : Int32)) hX eX7_chosen_66 (by decide) ?_
              refine j_goto hX 71 eX7_chosen_67 (by decide) ?_
              exact j_iret hX hM eX7_chosen_71 rfl h
          · replace h := h.2 c17
            refine j_iload hX eX7_chosen_56 0 rfl ?_
            refine j_goto hX 71 eX7_chosen_58 (by decide) ?_
            exact j_iret hX hM eX7_chosen_71 rfl h
        · replace h := h.1 c16
          refine j_iload_n hX eX7_chosen_33 2 rfl ?_
          refine j_if_le hX 41 eX7_chosen_34 (by decide) (fun c19 => ?_) (fun c19 => ?_)
          · replace h := h.1 c19
            refine j_iload_n hX eX7_chosen_41 1 rfl ?_
            refine j_if_le hX 49 eX7_chosen_42 (by decide) (fun c20 => ?_) (fun c20 => ?_)
            · replace h := h.1 c20
              refine j_iconst (v := (0 : Int32)) hX eX7_chosen_49 (by decide) ?_
              exact j_iret hX hM eX7_chosen_50 rfl h
            · replace h := h.2 c20
              refine j_iconst (v := (-1 : Int32)) hX eX7_chosen_45 (by decide) ?_
              refine j_goto hX 50 eX7_chosen_46 (by decide) ?_
              exact j_iret hX hM eX7_chosen_50 rfl h
          · replace h := h.2 c19
            refine j_iconst (v := (1 : Int32)) hX eX7_chosen_37 (by decide) ?_
            refine j_goto hX 50 eX7_chosen_38 (by decide) ?_
            exact j_iret hX hM eX7_chosen_50 rfl h
    · obtain ⟨v5, hxz9, h⟩ := qz9
      cases hxz9
  · obtain ⟨v2, hxz9, h⟩ := qz9
    cases hxz9

set_option maxHeartbeats 4000000 in
set_option maxRecDepth 20000 in
theorem vX7_moves_0 {X : am_Cx} {G : am_Gx} {d : Nat} {Q : am_Q} (hX : am_ok X rX7_moves G (d + 1)) (hM : am_me X rX7_moves Q) {bc bs : Nat}  {a0 : Nat} {a1 : Int32} {M : am_Hp} (h : hp_T M (a0) = 8 ∧ (am_CT G d rX7_chosen [.ref a0, .int a1] M 0 0 (fun oz9 M1 => ∃ v2 : Int32, oz9 = .inl (some (.int v2)) ∧ (hp_T M1 (a0) = 8 ∧ (hp_R M1 140 a0 ≠ 0 ∧ (∀ p6 : Nat, p6 = hp_R M1 140 a0 → (hp_T M1 (p6) = 22 ∧ (vp_in ((12 : Int32) + a1) (hp_N M1 p6) ∧ (∀ M9 : am_Hp, M9 = hp_sE M1 p6 (((12 : Int32) + a1)).toNatClampNeg v2 → (hp_R M9 140 a0 ≠ 0 ∧ (∀ p13 : Nat, p13 = hp_R M9 140 a0 → (hp_T M9 (p13) = 22 ∧ (vp_in ((9 : Int32) + a1) (hp_N M9 p13) ∧ (vp_in ((9 : Int32) + a1) (hp_N M9 p13) ∧ (∀ M17 : am_Hp, M17 = hp_sE M9 p13 (((9 : Int32) + a1)).toNatClampNeg ((hp_E M9 p13 (((9 : Int32) + a1)).toNatClampNeg) + v2) → (((v2 = (1 : Int32)) → (hp_R M17 140 a0 ≠ 0 ∧ (∀ p45 : Nat, p45 = hp_R M17 140 a0 → (hp_T M17 (p45) = 22 ∧ (vp_in ((24 : Int32) + a1) (hp_N M17 p45) ∧ (am_CT G d rX7_loadOf [.ref a0, .int a1] M17 0 0 (fun oz9 M48 => ∃ v49 : Int32, oz9 = .inl (some (.int v49)) ∧ (hp_T M48 (p45) = 22 ∧ (vp_in ((24 : Int32) + a1) (hp_N M48 p45) ∧ (∀ M52 : am_Hp, M52 = hp_sE M48 p45 (((24 : Int32) + a1)).toNatClampNeg ((hp_E M17 p45 (((24 : Int32) + a1)).toNatClampNeg) + ((2 : Int32) + (v49 / (100 : Int32)))) → (hp_T M52 (a0) = 8 ∧ (hp_R M52 140 a0 ≠ 0 ∧ (∀ p56 : Nat, p56 = hp_R M52 140 a0 → (hp_T M52 (p56) = 22 ∧ (vp_in (8 : Int32) (hp_N M52 p56) ∧ (am_CT G d rX7_loadOf [.ref a0, .int a1] M52 0 0 (fun oz9 M59 => ∃ v60 : Int32, oz9 = .inl (some (.int v60)) ∧ (hp_T M59 (p56) = 22 ∧ (vp_in (8 : Int32) (hp_N M59 p56) ∧ (∀ M63 : am_Hp, M63 = hp_sE M59 p56 ((8 : Int32)).toNatClampNeg ((hp_E M52 p56 ((8 : Int32)).toNatClampNeg) + (v60 / (100 : Int32))) → (hp_T M63 (a0) = 8 ∧ (hp_R M63 140 a0 ≠ 0 ∧ (∀ p67 : Nat, p67 = hp_R M63 140 a0 → (hp_T M63 (p67) = 22 ∧ (vp_in (5 : Int32) (hp_N M63 p67) ∧ (vp_in (5 : Int32) (hp_N M63 p67) ∧ (∀ M71 : am_Hp, M71 = hp_sE M63 p67 ((5 : Int32)).toNatClampNeg ((hp_E M63 p67 ((5 : Int32)).toNatClampNeg) + (1 : Int32)) → (((v2 = (-1 : Int32)) → (hp_R M71 140 a0 ≠ 0 ∧ (∀ p77 : Nat, p77 = hp_R M71 140 a0 → (hp_T M71 (p77) = 22 ∧ (vp_in ((24 : Int32) + a1) (hp_N M71 p77) ∧ (vp_in ((24 : Int32) + a1) (hp_N M71 p77) ∧ (∀ M81 : am_Hp, M81 = hp_sE M71 p77 (((24 : Int32) + a1)).toNatClampNeg ((hp_E M71 p77 (((24 : Int32) + a1)).toNatClampNeg) + (1 : Int32)) → (hp_R M81 140 a0 ≠ 0 ∧ (∀ p87 : Nat, p87 = hp_R M81 140 a0 → (hp_T M81 (p87) = 22 ∧ (vp_in (6 : Int32) (hp_N M81 p87) ∧ (vp_in (6 : Int32) (hp_N M81 p87) ∧ (∀ M91 : am_Hp, M91 = hp_sE M81 p87 ((6 : Int32)).toNatClampNeg ((hp_E M81 p87 ((6 : Int32)).toNatClampNeg) + (1 : Int32)) → (Q (.inl none) M91)))))))))))))) ∧ (¬ (v2 = (-1 : Int32)) → (Q (.inl none) M71)))))))))))))))))))))))))))))) ∧ (¬ (v2 = (1 : Int32)) → (((v2 = (-1 : Int32)) → (hp_R M17 140 a0 ≠ 0 ∧ (∀ p24 : Nat, p24 = hp_R M17 140 a0 → (hp_T M17 (p24) = 22 ∧ (vp_in ((24 : Int32) + a1) (hp_N M17 p24) ∧ (vp_in ((24 : Int32) + a1) (hp_N M17 p24) ∧ (∀ M28 : am_Hp, M28 = hp_sE M17 p24 (((24 : Int32) + a1)).toNatClampNeg ((hp_E M17 p24 (((24 : Int32) + a1)).toNatClampNeg) + (1 : Int32)) → (hp_R M28 140 a0 ≠ 0 ∧ (∀ p34 : Nat, p34 = hp_R M28 140 a0 → (hp_T M28 (p34) = 22 ∧ (vp_in (6 : Int32) (hp_N M28 p34) ∧ (vp_in (6 : Int32) (hp_N M28 p34) ∧ (∀ M38 : am_Hp, M38 = hp_sE M28 p34 ((6 : Int32)).toNatClampNeg ((hp_E M28 p34 ((6 : Int32)).toNatClampNeg) + (1 : Int32)) → (Q (.inl none) M38)))))))))))))) ∧ (¬ (v2 = (-1 : Int32)) → (Q (.inl none) M17)))))))))))))))))))) : am_J X 0 [(0, .ref a0), (1, .int a1)] [] M bc bs := by
  refine j_aload_n hX eX7_moves_0 0 rfl ?_
  refine j_iload_n hX eX7_moves_1 1 rfl ?_
  obtain ⟨t3, h⟩ := h
  refine j_callV (a := a0) (q := (RX7, TX7, 17)) (r' := rX7_chosen) (As := [.int a1]) (rest := []) (d1 := d) hX eX7_moves_2 mm_LiftGroupModel_141 rfl t3 (by decide) rfl h rfl (Nat.le_refl _) (Nat.zero_le _) (Nat.zero_le _) (Nat.le_of_ble_eq_true rfl) (fun vz9 Mz9 qz9 => ?_) (fun Ez9 Mz9 qz9 => ?_)
  · obtain ⟨M1, eMz9⟩ : ∃ M1, M1 = Mz9 := ⟨_, rfl⟩; subst eMz9
    obtain ⟨v2, hxz9, h⟩ := qz9
    cases hxz9
    refine j_istore_n (lv' := [(2, .int v2), (0, .ref a0), (1, .int a1)]) hX eX7_moves_5 rfl (by decide) rfl ?_
    refine j_aload_n hX eX7_moves_6 1 rfl ?_
    obtain ⟨t4, h⟩ := h
    obtain ⟨z5, h⟩ := h
    refine j_getR hX eX7_moves_7 ff_LiftGroupModel_7 rfl t4 (by decide) z5 ?_
    refine j_nmR (fun p6 ep6 => ?_)
    replace h := h p6 ep6
    refine j_bipush (v := (12 : Int32)) hX eX7_moves_10 (by decide) ?_
    refine j_iload_n hX eX7_moves_12 2 rfl ?_
    refine j_iadd hX eX7_moves_13 ?_
    refine j_iload_n hX eX7_moves_14 0 rfl ?_
    obtain ⟨t7, h⟩ := h
    obtain ⟨i8, h⟩ := h
    refine j_iast hX eX7_moves_15 t7 i8 ?_
    refine j_nmM (fun M9 eM9 => ?_)
    replace h := h M9 eM9
    have t10 : hp_T M9 (a0) = 8 := by rw [eM9]; exact t4
    have t11 : hp_T M9 (p6) = 22 := by rw [eM9]; exact t7
    refine j_aload_n hX eX7_moves_16 1 rfl ?_
    obtain ⟨z12, h⟩ := h
    refine j_getR hX eX7_moves_17 ff_LiftGroupModel_7 rfl t10 (by decide) z12 ?_
    refine j_nmR (fun p13 ep13 => ?_)
    replace h := h p13 ep13
    refine j_bipush (v := (9 : Int32)) hX eX7_moves_20 (by decide) ?_
    refine j_iload_n hX eX7_moves_22 2 rfl ?_
    refine j_iadd hX eX7_moves_23 ?_
    refine j_dup2 hX eX7_moves_24 rfl rfl ?_
    obtain ⟨t14, h⟩ := h
    obtain ⟨i15, h⟩ := h
    refine j_iald hX eX7_moves_25 t14 i15 ?_
    refine j_iload_n hX eX7_moves_26 0 rfl ?_
    refine j_iadd hX eX7_moves_27 ?_
    obtain ⟨i16, h⟩ := h
    refine j_iast hX eX7_moves_28 t14 i16 ?_
    refine j_nmM (fun M17 eM17 => ?_)
    replace h := h M17 eM17
    have t18 : hp_T M17 (a0) = 8 := by rw [eM17]; exact t10
    have t19 : hp_T M17 (p6) = 22 := by rw [eM17]; exact t11
    have t20 : hp_T M17 (p13) = 22 := by rw [eM17]; exact t14
    refine j_iload_n hX eX7_moves_29 0 rfl ?_
    refine j_iconst (v := (1 : Int32)) hX eX7_moves_30 (by decide) ?_
    refine j_icmp_ne hX 84 eX7_moves_31 (by decide) (fun c21 => ?_) (fun c21 => ?_)
    · replace h := h.2 c21
      refine j_iload_n hX eX7_moves_84 0 rfl ?_
      refine j_iconst (v := (-1 : Int32)) hX eX7_moves_85 (by decide) ?_
      refine j_icmp_ne hX 113 eX7_moves_86 (by decide) (fun c22 => ?_) (fun c22 => ?_)
      · replace h := h.2 c22
        exact j_vret hX hM eX7_moves_113 rfl h
      · replace h := h.1 c22
        refine j_aload_n hX eX7_moves_89 1 rfl ?_
        obtain ⟨z23, h⟩ := h
        refine j_getR hX eX7_moves_90 ff_LiftGroupModel_7 rfl t18 (by decide) z23 ?_
        refine j_nmR (fun p24 ep24 => ?_)
        replace h := h p24 ep24
        refine j_bipush (v := (24 : Int32)) hX eX7_moves_93 (by decide) ?_
        refine j_iload_n hX eX7_moves_95 2 rfl ?_
        refine j_iadd hX eX7_moves_96 ?_
        refine j_dup2 hX eX7_moves_97 rfl rfl ?_
        obtain ⟨t25, h⟩ := h
        obtain ⟨i26, h⟩ := h
        refine j_iald hX eX7_moves_98 t25 i26 ?_
        refine j_iconst (v := (1 : Int32)) hX eX7_moves_99 (by decide) ?_
        refine j_iadd hX eX7_moves_100 ?_
        obtain ⟨i27, h⟩ := h
        refine j_iast hX eX7_moves_101 t25 i27 ?_
        refine j_nmM (fun M28 eM28 => ?_)
        replace h := h M28 eM28
        have t29 : hp_T M28 (a0) = 8 := by rw [eM28]; exact t18
        have t30 : hp_T M28 (p6) = 22 := by rw [eM28]; exact t19
        have t31 : hp_T M28 (p13) = 22 := by rw [eM28]; exact t20
        have t32 : hp_T M28 (p24) = 22 := by rw [eM28]; exact t25
        refine j_aload_n hX eX7_moves_102 1 rfl ?_
        obtain ⟨z33, h⟩ := h
        refine j_getR hX eX7_moves_103 ff_LiftGroupModel_7 rfl t29 (by decide) z33 ?_
        refine j_nmR (fun p34 ep34 => ?_)
        replace h := h p34 ep34
        refine j_bipush (v := (6 : Int32)) hX eX7_moves_106 (by decide) ?_
        refine j_dup2 hX eX7_moves_108 rfl rfl ?_
        obtain ⟨t35, h⟩ := h
        obtain ⟨i36, h⟩ := h
        refine j_iald hX eX7_moves_109 t35 i36 ?_
        refine j_iconst (v := (1 : Int32)) hX eX7_moves_110 (by decide) ?_
        refine j_iadd hX eX7_moves_111 ?_
        obtain ⟨i37, h⟩ := h
        refine j_iast hX eX7_moves_112 t35 i37 ?_
        refine j_nmM (fun M38 eM38 => ?_)
        replace h := h M38 eM38
        have t39 : hp_T M38 (a0) = 8 := by rw [eM38]; exact t29
        have t40 : hp_T M38 (p6) = 22 := by rw [eM38]; exact t30
        have t41 : hp_T M38 (p13) = 22 := by rw [eM38]; exact t31
        have t42 : hp_T M38 (p24) = 22 := by rw [eM38]; exact t32
        have t43 : hp_T M38 (p34) = 22 := by rw [eM38]; exact t35
        exact j_vret hX hM eX7_moves_113 rfl h
    · replace h := h.1 c21
      refine j_aload_n hX eX7_moves_34 1 rfl ?_
      obtain ⟨z44, h⟩ := h
      refine j_getR hX eX7_moves_35 ff_LiftGroupModel_7 rfl t18 (by decide) z44 ?_
      refine j_nmR (fun p45 ep45 => ?_)
      replace h := h p45 ep45
      refine j_bipush (v := (24 : Int32)) hX eX7_moves_38 (by decide) ?_
      refine j_iload_n hX eX7_moves_40 2 rfl ?_
      refine j_iadd hX eX7_moves_41 ?_
      refine j_dup2 hX eX7_moves_42 rfl rfl ?_
      obtain ⟨t46, h⟩ := h
      obtain ⟨i47, h⟩ := h
      refine j_iald hX eX7_moves_43 t46 i47 ?_
      refine j_iconst (v := (2 : Int32)) hX eX7_moves_44 (by decide) ?_
      refine j_aload_n hX eX7_moves_45 1 rfl ?_
      refine j_iload_n hX eX7_moves_46 2 rfl ?_
      refine j_callV (a := a0) (q := (RX7, TX7, 17)) (r' := rX7_loadOf) (As := [.int a1]) (rest := [.int (2 : Int32), .int (hp_E M17 p45 (((24 : Int32) + a1)).toNatClampNeg), .int ((24 : Int32) + a1), .ref p45]) (d1 := d) hX eX7_moves_47 mm_LiftGroupModel_81 rfl t18 (by decide) rfl h rfl (Nat.le_refl _) (Nat.zero_le _) (Nat.zero_le _) (Nat.le_of_ble_eq_true rfl) (fun vz9 Mz9 qz9 => ?_) (fun Ez9 Mz9 qz9 => ?_)
      · obtain ⟨M48, eMz9⟩ : ∃ M48, M48 = Mz9 := ⟨_, rfl⟩; subst eMz9
        obtain ⟨v49, hxz9, h⟩ := qz9
        cases hxz9
        refine j_bipush (v := (100 : Int32)) hX eX7_moves_50 (by decide) ?_
        refine j_idiv hX eX7_moves_52 (by decide) ?_
        refine j_iadd hX eX7_moves_53 ?_
        refine j_iadd hX eX7_moves_54 ?_
        obtain ⟨t50, h⟩ := h
        obtain ⟨i51, h⟩ := h
        refine j_iast hX eX7_moves_55 t50 i51 ?_
        refine j_nmM (fun M52 eM52 => ?_)
        replace h := h M52 eM52
        have t53 : hp_T M52 (p45) = 22 := by rw [eM52]; exact t50
        refine j_aload_n hX eX7_moves_56 1 rfl ?_
        obtain ⟨t54, h⟩ := h
        obtain ⟨z55, h⟩ := h
        refine j_getR hX eX7_moves_57 ff_LiftGroupModel_7 rfl t54 (by decide) z55 ?_
        refine j_nmR (fun p56 ep56 => ?_)
        replace h := h p56 ep56
        refine j_bipush (v := (8 : Int32)) hX eX7_moves_60 (by decide) ?_
        refine j_dup2 hX eX7_moves_62 rfl rfl ?_
        obtain ⟨t57, h⟩ := h
        obtain ⟨i58, h⟩ := h
        refine j_iald hX eX7_moves_63 t57 i58 ?_
        refine j_aload_n hX eX7_moves_64 1 rfl ?_
        refine j_iload_n hX eX7_moves_65 2 rfl ?_
        refine j_callV (a := a0) (q := (RX7, TX7, 17)) (r' := rX7_loadOf) (As := [.int a1]) (rest := [.int (hp_E M52 p56 ((8 : Int32)).toNatClampNeg), .int (8 : Int32), .ref p56]) (d1 := d) hX eX7_moves_66 mm_LiftGroupModel_81 rfl t54 (by decide) rfl h rfl (Nat.le_refl _) (Nat.zero_le _) (Nat.zero_le _) (Nat.le_of_ble_eq_true rfl) (fun vz9 Mz9 qz9 => ?_) (fun Ez9 Mz9 qz9 => ?_)
        · obtain ⟨M59, eMz9⟩ : ∃ M59, M59 = Mz9 := ⟨_, rfl⟩; subst eMz9
          obtain ⟨v60, hxz9, h⟩ := qz9
          cases hxz9
          refine j_bipush (v := (100 : Int32)) hX eX7_moves_69 (by decide) ?_
          refine j_idiv hX eX7_moves_71 (by decide) ?_
          refine j_iadd hX eX7_moves_72 ?_
          obtain ⟨t61, h⟩ := h
          obtain ⟨i62, h⟩ := h
          refine j_iast hX eX7_moves_73 t61 i62 ?_
          refine j_nmM (fun M63 eM63 => ?_)
          replace h := h M63 eM63
          have t64 : hp_T M63 (p56) = 22 := by rw [eM63]; exact t61
          refine j_aload_n hX eX7_moves_74 1 rfl ?_
          obtain ⟨t65, h⟩ := h
          obtain ⟨z66, h⟩ := h
          refine j_getR hX eX7_moves_75 ff_LiftGroupModel_7 rfl t65 (by decide) z66 ?_
          refine j_nmR (fun p67 ep67 => ?_)
          replace h := h p67 ep67
          refine j_iconst (v := (5 : Int32)) hX eX7_moves_78 (by decide) ?_
          refine j_dup2 hX eX7_moves_79 rfl rfl ?_
          obtain ⟨t68, h⟩ := h
          obtain ⟨i69, h⟩ := h
          refine j_iald hX eX7_moves_80 t68 i69 ?_
          refine j_iconst (v := (1 : Int32)) hX eX7_moves_81 (by decide) ?_
          refine j_iadd hX eX7_moves_82 ?_
          obtain ⟨i70, h⟩ := h
          refine j_iast hX eX7_moves_83 t68 i70 ?_
          refine j_nmM (fun M71 eM71 => ?_)
          replace h := h M71 eM71
          have t72 : hp_T M71 (p56) = 22 := by rw [eM71]; exact t64
          have t73 : hp_T M71 (a0) = 8 := by rw [eM71]; exact t65
          have t74 : hp_T M71 (p67) = 22 := by rw [eM71]; exact t68
          refine j_iload_n hX eX7_moves_84 0 rfl ?_
          refine j_iconst (v := (-1 : Int32)) hX eX7_moves_85 (by decide) ?_
          refine j_icmp_ne hX 113 eX7_moves_86 (by decide) (fun c75 => ?_) (fun c75 => ?_)
          · replace h := h.2 c75
            exact j_vret hX hM eX7_moves_113 rfl h
          · replace h := h.1 c75
            refine j_aload_n hX eX7_moves_89 1 rfl ?_
            obtain ⟨z76, h⟩ := h
            refine j_getR hX eX7_moves_90 ff_LiftGroupModel_7 rfl t73 (by decide) z76 ?_
            refine j_nmR (fun p77 ep77 => ?_)
            replace h := h p77 ep77
            refine j_bipush (v := (24 : Int32)) hX eX7_moves_93 (by decide) ?_
            refine j_iload_n hX eX7_moves_95 2 rfl ?_
            refine j_iadd hX eX7_moves_96 ?_
            refine j_dup2 hX eX7_moves_97 rfl rfl ?_
            obtain ⟨t78, h⟩ := h
            obtain ⟨i79, h⟩ := h
            refine j_iald hX eX7_moves_98 t78 i79 ?_
            refine j_iconst (v := (1 : Int32)) hX eX7_moves_99 (by decide) ?_
            refine j_iadd hX eX7_moves_100 ?_
            obtain ⟨i80, h⟩ := h
            refine j_iast hX eX7_moves_101 t78 i80 ?_
            refine j_nmM (fun M81 eM81 => ?_)
            replace h := h M81 eM81
            have t82 : hp_T M81 (p56) = 22 := by rw [eM81]; exact t72
            have t83 : hp_T M81 (a0) = 8 := by rw [eM81]; exact t73
            have t84 : hp_T M81 (p67) = 22 := by rw [eM81]; exact t74
            have t85 : hp_T M81 (p77) = 22 := by rw [eM81]; exact t78
            refine j_aload_n hX eX7_moves_102 1 rfl ?_
            obtain ⟨z86, h⟩ := h
            refine j_getR hX eX7_moves_103 ff_LiftGroupModel_7 rfl t83 (by decide) z86 ?_
            refine j_nmR (fun p87 ep87 => ?_)
            replace h := h p87 ep87
            refine j_bipush (v := (6 : Int32)) hX eX7_moves_106 (by decide) ?_
            refine j_dup2 hX eX7_moves_108 rfl rfl ?_
            obtain ⟨t88, h⟩ := h
            obtain ⟨i89, h⟩ := h
            refine j_iald hX eX7_moves_109 t88 i89 ?_
            refine j_iconst (v := (1 : Int32)) hX eX7_moves_110 (by decide) ?_
            refine j_iadd hX eX7_moves_111 ?_
            obtain ⟨i90, h⟩ := h
            refine j_iast hX eX7_moves_112 t88 i90 ?_
            refine j_nmM (fun M91 eM91 => ?_)
            replace h := h M91 eM91
            have t92 : hp_T M91 (p56) = 22 := by rw [eM91]; exact t82
            have t93 : hp_T M91 (a0) = 8 := by rw [eM91]; exact t83
            have t94 : hp_T M91 (p67) = 22 := by rw [eM91]; exact t84
            have t95 : hp_T M91 (p77) = 22 := by rw [eM91]; exact t85
            have t96 : hp_T M91 (p87) = 22 := by rw [eM91]; exact t88
            exact j_vret hX hM eX7_moves_113 rfl h
        · obtain ⟨v60, hxz9, h⟩ := qz9
          cases hxz9
      · obtain ⟨v49, hxz9, h⟩ := qz9
        cases hxz9
  · obtain ⟨v2, hxz9, h⟩ := qz9
    cases hxz9

set_option maxHeartbeats 4000000 in
set_option maxRecDepth 20000 in
theorem vX7_acts_0 {X : am_Cx} {G : am_Gx} {d : Nat} {Q : am_Q} (hX : am_ok X rX7_acts G (d + 1)) (hM : am_me X rX7_acts Q) {bc bs : Nat}  {a0 : Nat} {a1 : Int32} {M : am_Hp} (h : hp_T M (a0) = 8 ∧ (hp_R M 140 a0 ≠ 0 ∧ (∀ p3 : Nat, p3 = hp_R M 140 a0 → (hp_T M (p3) = 22 ∧ (vp_in ((18 : Int32) + a1) (hp_N M p3) ∧ ((((hp_E M p3 (((18 : Int32) + a1)).toNatClampNeg) ≤ 0) → (hp_R M 140 a0 ≠ 0 ∧ (∀ p8 : Nat, p8 = hp_R M 140 a0 → (hp_T M (p8) = 22 ∧ (vp_in ((9 : Int32) + a1) (hp_N M p8) ∧ (am_CT G d rX7_stopsAt [.ref a0, .int a1, .int (hp_E M p8 (((9 : Int32) + a1)).toNatClampNeg)] M 0 0 (fun oz9 M11 => ∃ v12 : Int32, oz9 = .inl (some (.int v12)) ∧ (((v12 = 0) → (hp_T M11 (a0) = 8 ∧ (am_CT G d rX7_moves [.ref a0, .int a1] M11 0 0 (fun oz9 M14 => oz9 = .inl none ∧ (Q (.inl none) M14))))) ∧ (¬ (v12 = 0) → (hp_T M11 (a0) = 8 ∧ (hp_R M11 140 a0 ≠ 0 ∧ (∀ p19 : Nat, p19 = hp_R M11 140 a0 → (hp_T M11 (p19) = 22 ∧ (vp_in ((18 : Int32) + a1) (hp_N M11 p19) ∧ (∀ M22 : am_Hp, M22 = hp_sE M11 p19 (((18 : Int32) + a1)).toNatClampNeg (2 : Int32) → (hp_R M22 140 a0 ≠ 0 ∧ (∀ p26 : Nat, p26 = hp_R M22 140 a0 → (hp_T M22 (p26) = 22 ∧ (vp_in ((24 : Int32) + a1) (hp_N M22 p26) ∧ (vp_in ((24 : Int32) + a1) (hp_N M22 p26) ∧ (∀ M30 : am_Hp, M30 = hp_sE M22 p26 (((24 : Int32) + a1)).toNatClampNeg ((hp_E M22 p26 (((24 : Int32) + a1)).toNatClampNeg) + (1 : Int32)) → (hp_R M30 140 a0 ≠ 0 ∧ (∀ p35 : Nat, p35 = hp_R M30 140 a0 → (hp_T M30 (p35) = 22 ∧ (vp_in (7 : Int32) (hp_N M30 p35) ∧ (vp_in (7 : Int32) (hp_N M30 p35) ∧ (∀ M39 : am_Hp, M39 = hp_sE M30 p35 ((7 : Int32)).toNatClampNeg ((hp_E M30 p35 ((7 : Int32)).toNatClampNeg) + (1 : Int32)) → (am_CT G d rX7_alight [.ref a0, .int a1] M39 0 0 (fun oz9 M44 => oz9 = .inl none ∧ (hp_T M44 (a0) = 8 ∧ (am_CT G d rX7_board [.ref a0, .int a1] M44 0 0 (fun oz9 M46 => oz9 = .inl none ∧ (Q (.inl none) M46))))))))))))))))))))))))))))))))) ∧ (¬ ((hp_E M p3 (((18 : Int32) + a1)).toNatClampNeg) ≤ 0) → (hp_R M 140 a0 ≠ 0 ∧ (∀ p50 : Nat, p50 = hp_R M 140 a0 → (hp_T M (p50) = 22 ∧ (vp_in ((18 : Int32) + a1) (hp_N M p50) ∧ (vp_in ((18 : Int32) + a1) (hp_N M p50) ∧ (∀ M54 : am_Hp, M54 = hp_sE M p50 (((18 : Int32) + a1)).toNatClampNeg ((hp_E M p50 (((18 : Int32) + a1)).toNatClampNeg) - (1 : Int32)) → (Q (.inl none) M54)))))))))))))) : am_J X 0 [(0, .ref a0), (1, .int a1)] [] M bc bs := by
  refine j_aload_n hX eX7_acts_0 0 rfl ?_
  obtain ⟨t1, h⟩ := h
  obtain ⟨z2, h⟩ := h
  refine j_getR hX eX7_acts_1 ff_LiftGroupModel_7 rfl t1 (by decide) z2 ?_
  refine j_nmR (fun p3 ep3 => ?_)
  replace h := h p3 ep3
  refine j_bipush (v := (18 : Int32)) hX eX7_acts_4 (by decide) ?_
  refine j_iload_n hX eX7_acts_6 1 rfl ?_
  refine j_iadd hX eX7_acts_7 ?_
  obtain ⟨t4, h⟩ := h
  obtain ⟨i5, h⟩ := h
  refine j_iald hX eX7_acts_8 t4 i5 ?_
  refine j_if_le hX 28 eX7_acts_9 (by decide) (fun c6 => ?_) (fun c6 => ?_)
  · replace h := h.1 c6
    refine j_aload_n hX eX7_acts_28 0 rfl ?_
    refine j_iload_n hX eX7_acts_29 1 rfl ?_
    refine j_aload_n hX eX7_acts_30 0 rfl ?_
    obtain ⟨z7, h⟩ := h
    refine j_getR hX eX7_acts_31 ff_LiftGroupModel_7 rfl t1 (by decide) z7 ?_
    refine j_nmR (fun p8 ep8 => ?_)
    replace h := h p8 ep8
    refine j_bipush (v := (9 : Int32)) hX eX7_acts_34 (by decide) ?_
    refine j_iload_n hX eX7_acts_36 1 rfl ?_
    refine j_iadd hX eX7_acts_37 ?_
    obtain ⟨t9, h⟩ := h
    obtain ⟨i10, h⟩ := h
    refine j_iald hX eX7_acts_38 t9 i10 ?_
    refine j_callV (a := a0) (q := (RX7, TX7, 17)) (r' := rX7_stopsAt) (As := [.int a1, .int (hp_E M p8 (((9 : Int32) + a1)).toNatClampNeg)]) (rest := []) (d1 := d) hX eX7_acts_39 mm_LiftGroupModel_67 rfl t1 (by decide) rfl h rfl (Nat.le_refl _) (Nat.zero_le _) (Nat.zero_le _) (Nat.le_of_ble_eq_true rfl) (fun vz9 Mz9 qz9 => ?_) (fun Ez9 Mz9 qz9 => ?_)
    · obtain ⟨M11, eMz9⟩ : ∃ M11, M11 = Mz9 := ⟨_, rfl⟩; subst eMz9
      obtain ⟨v12, hxz9, h⟩ := qz9
      cases hxz9
      refine j_if_eq hX 92 eX7_acts_42 (by decide) (fun c13 => ?_) (fun c13 => ?_)
      · replace h := h.1 c13
        refine j_aload_n hX eX7_acts_92 0 rfl ?_
        refine j_iload_n hX eX7_acts_93 1 rfl ?_
        obtain ⟨t16, h⟩ := h
        refine j_callV (a := a0) (q := (RX7, TX7, 17)) (r' := rX7_moves) (As := [.int a1]) (rest := []) (d1 := d) hX eX7_acts_94 mm_LiftGroupModel_150 rfl t16 (by decide) rfl h rfl (Nat.le_refl _) (Nat.zero_le _) (Nat.zero_le _) (Nat.le_of_ble_eq_true rfl) (fun vz9 Mz9 qz9 => ?_) (fun Ez9 Mz9 qz9 => ?_)
        · obtain ⟨M14, eMz9⟩ : ∃ M14, M14 = Mz9 := ⟨_, rfl⟩; subst eMz9
          obtain ⟨hxz9, h⟩ := qz9
          cases hxz9
          exact j_vret hX hM eX7_acts_97 rfl h
        · obtain ⟨hxz9, h⟩ := qz9
          cases hxz9
      · replace h := h.2 c13
        refine j_aload_n hX eX7_acts_45 0 rfl ?_
        obtain ⟨t17, h⟩ := h
        obtain ⟨z18, h⟩ := h
        refine j_getR hX eX7_acts_46 ff_LiftGroupModel_7 rfl t17 (by decide) z18 ?_
        refine j_nmR (fun p19 ep19 => ?_)
        replace h := h p19 ep19
        refine j_bipush (v := (18 : Int32)) hX eX7_acts_49 (by decide) ?_
        refine j_iload_n hX eX7_acts_51 1 rfl ?_
        refine j_iadd hX eX7_acts_52 ?_
        refine j_iconst (v := (2 : Int32)) hX eX7_acts_53 (by decide) ?_
        obtain ⟨t20, h⟩ := h
        obtain ⟨i21, h⟩ := h
        refine j_iast hX eX7_acts_54 t20 i21 ?_
        refine j_nmM (fun M22 eM22 => ?_)
        replace h := h M22 eM22
        have t23 : hp_T M22 (a0) = 8 := by rw [eM22]; exact t17
        have t24 : hp_T M22 (p19) = 22 := by rw [eM22]; exact t20
        refine j_aload_n hX eX7_acts_55 0 rfl ?_
        obtain ⟨z25, h⟩ := h
        refine j_getR hX eX7_acts_56 ff_LiftGroupModel_7 rfl t23 (by decide) z25 ?_
        refine j_nmR (fun p26 ep26 => ?_)
        replace h := h p26 ep26
        refine j_bipush (v := (24 : Int32)) hX eX7_acts_59 (by decide) ?_
        refine j_iload_n hX eX7_acts_61 1 rfl ?_
        refine j_iadd hX eX7_acts_62 ?_
        refine j_dup2 hX eX7_acts_63 rfl rfl ?_
        obtain ⟨t27, h⟩ := h
        obtain ⟨i28, h⟩ := h
        refine j_iald hX eX7_acts_64 t27 i28 ?_
        refine j_iconst (v := (1 : Int32)) hX eX7_acts_65 (by decide) ?_
        refine j_iadd hX eX7_acts_66 ?_
        obtain ⟨i29, h⟩ := h
        refine j_iast hX eX7_acts_67 t27 i29 ?_
        refine j_nmM (fun M30 eM30 => ?_)
        replace h := h M30 eM30
        have t31 : hp_T M30 (a0) = 8 := by rw [eM30]; exact t23
        have t32 : hp_T M30 (p19) = 22 := by rw [eM30]; exact t24
        have t33 : hp_T M30 (p26) = 22 := by rw [eM30]; exact t27
        refine j_aload_n hX eX7_acts_68 0 rfl ?_
        obtain ⟨z34, h⟩ := h
        refine j_getR hX eX7_acts_69 ff_LiftGroupModel_7 rfl t31 (by decide) z34 ?_
        refine j_nmR (fun p35 ep35 => ?_)
        replace h := h p35 ep35
        refine j_bipush (v := (7 : Int32)) hX eX7_acts_72 (by decide) ?_
        refine j_dup2 hX eX7_acts_74 rfl rfl ?_
        obtain ⟨t36, h⟩ := h
        obtain ⟨i37, h⟩ := h
        refine j_iald hX eX7_acts_75 t36 i37 ?_
        refine j_iconst (v := (1 : Int32)) hX eX7_acts_76 (by decide) ?_
        refine j_iadd hX eX7_acts_77 ?_
        obtain ⟨i38, h⟩ := h
        refine j_iast hX eX7_acts_78 t36 i38 ?_
        refine j_nmM (fun M39 eM39 => ?_)
        replace h := h M39 eM39
        have t40 : hp_T M39 (a0) = 8 := by rw [eM39]; exact t31
        have t41 : hp_T M39 (p19) = 22 := by rw [eM39]; exact t32
        have t42 : hp_T M39 (p26) = 22 := by rw [eM39]; exact t33
        have t43 : hp_T M39 (p35) = 22 := by rw [eM39]; exact t36
        refine j_aload_n hX eX7_acts_79 0 rfl ?_
        refine j_iload_n hX eX7_acts_80 1 rfl ?_
        refine j_callV (a := a0) (q := (RX7, TX7, 17)) (r' := rX7_alight) (As := [.int a1]) (rest := []) (d1 := d) hX eX7_acts_81 mm_LiftGroupModel_144 rfl t40 (by decide) rfl h rfl (Nat.le_refl _) (Nat.zero_le _) (Nat.zero_le _) (Nat.le_of_ble_eq_true rfl) (fun vz9 Mz9 qz9 => ?_) (fun Ez9 Mz9 qz9 => ?_)
        · obtain ⟨M44, eMz9⟩ : ∃ M44, M44 = Mz9 := ⟨_, rfl⟩; subst eMz9
          obtain ⟨hxz9, h⟩ := qz9
          cases hxz9
          refine j_aload_n hX eX7_acts_84 0 rfl ?_
          refine j_iload_n hX eX7_acts_85 1 rfl ?_
          obtain ⟨t48, h⟩ := h
          refine j_callV (a := a0) (q := (RX7, TX7, 17)) (r' := rX7_board) (As := [.int a1]) (rest := []) (d1 := d) hX eX7_acts_86 mm_LiftGroupModel_147 rfl t48 (by decide) rfl h rfl (Nat.le_refl _) (Nat.zero_le _) (Nat.zero_le _) (Nat.le_of_ble_eq_true rfl) (fun vz9 Mz9 qz9 => ?_) (fun Ez9 Mz9 qz9 => ?_)
          · obtain ⟨M46, eMz9⟩ : ∃ M46, M46 = Mz9 := ⟨_, rfl⟩; subst eMz9
            obtain ⟨hxz9, h⟩ := qz9
            cases hxz9
            refine j_goto hX 97 eX7_acts_89 (by decide) ?_
            exact j_vret hX hM eX7_acts_97 rfl h
          · obtain ⟨hxz9, h⟩ := qz9
            cases hxz9
        · obtain ⟨hxz9, h⟩ := qz9
          cases hxz9
    · obtain ⟨v12, hxz9, h⟩ := qz9
      cases hxz9
  · replace h := h.2 c6
    refine j_aload_n hX eX7_acts_12 0 rfl ?_
    obtain ⟨z49, h⟩ := h
    refine j_getR hX eX7_acts_13 ff_LiftGroupModel_7 rfl t1 (by decide) z49 ?_
    refine j_nmR (fun p50 ep50 => ?_)
    replace h := h p50 ep50
    refine j_bipush (v := (18 : Int32)) hX eX7_acts_16 (by decide) ?_
    refine j_iload_n hX eX7_acts_18 1 rfl ?_
    refine j_iadd hX eX7_acts_19 ?_
    refine j_dup2 hX eX7_acts_20 rfl rfl ?_
    obtain ⟨t51, h⟩ := h
    obtain ⟨i52, h⟩ := h
    refine j_iald hX eX7_acts_21 t51 i52 ?_
    refine j_iconst (v := (1 : Int32)) hX eX7_acts_22 (by decide) ?_
    refine j_isub hX eX7_acts_23 ?_
    obtain ⟨i53, h⟩ := h
    refine j_iast hX eX7_acts_24 t51 i53 ?_
    refine j_nmM (fun M54 eM54 => ?_)
    replace h := h M54 eM54
    have t55 : hp_T M54 (a0) = 8 := by rw [eM54]; exact t1
    have t56 : hp_T M54 (p3) = 22 := by rw [eM54]; exact t4
    have t57 : hp_T M54 (p50) = 22 := by rw [eM54]; exact t51
    refine j_goto hX 97 eX7_acts_25 (by decide) ?_
    exact j_vret hX hM eX7_acts_97 rfl h

set_option maxHeartbeats 4000000 in
set_option maxRecDepth 20000 in
theorem vX7_step_0 {X : am_Cx} {G : am_Gx} {d : Nat} {Q : am_Q} (hX : am_ok X rX7_step G (d + 1)) (hM : am_me X rX7_step Q) {bc bs : Nat} (R12 : Nat → Int32 → am_Hp → Prop) (k12 : ∀ (x0 : Nat) (x1 : Int32) (M : am_Hp), R12 x0 x1 M → am_J X 12 [(0, .ref x0), (1, .int x1)] [] M bc bs) {a0 : Nat} {M : am_Hp} (h : hp_T M (a0) = 8 ∧ (hp_R M 140 a0 ≠ 0 ∧ (∀ p3 : Nat, p3 = hp_R M 140 a0 → (hp_T M (p3) = 22 ∧ (vp_in (0 : Int32) (hp_N M p3) ∧ (vp_in (0 : Int32) (hp_N M p3) ∧ (∀ M7 : am_Hp, M7 = hp_sE M p3 ((0 : Int32)).toNatClampNeg ((hp_E M p3 ((0 : Int32)).toNatClampNeg) + (1 : Int32)) → (R12 a0 (0 : Int32) M7)))))))) : am_J X 0 [(0, .ref a0)] [] M bc bs := by
  refine j_aload_n hX eX7_step_0 0 rfl ?_
  obtain ⟨t1, h⟩ := h
  obtain ⟨z2, h⟩ := h
  refine j_getR hX eX7_step_1 ff_LiftGroupModel_7 rfl t1 (by decide) z2 ?_
  refine j_nmR (fun p3 ep3 => ?_)
  replace h := h p3 ep3
  refine j_iconst (v := (0 : Int32)) hX eX7_step_4 (by decide) ?_
  refine j_dup2 hX eX7_step_5 rfl rfl ?_
  obtain ⟨t4, h⟩ := h
  obtain ⟨i5, h⟩ := h
  refine j_iald hX eX7_step_6 t4 i5 ?_
  refine j_iconst (v := (1 : Int32)) hX eX7_step_7 (by decide) ?_
  refine j_iadd hX eX7_step_8 ?_
  obtain ⟨i6, h⟩ := h
  refine j_iast hX eX7_step_9 t4 i6 ?_
  refine j_nmM (fun M7 eM7 => ?_)
  replace h := h M7 eM7
  have t8 : hp_T M7 (a0) = 8 := by rw [eM7]; exact t1
  have t9 : hp_T M7 (p3) = 22 := by rw [eM7]; exact t4
  refine j_iconst (v := (0 : Int32)) hX eX7_step_10 (by decide) ?_
  refine j_istore_n (lv' := [(1, .int (0 : Int32)), (0, .ref a0)]) hX eX7_step_11 rfl (by decide) rfl ?_
  exact j_sub [1, 0] rfl (k12 _ _ _ h)
set_option maxHeartbeats 4000000 in
set_option maxRecDepth 20000 in
theorem vX7_step_12 {X : am_Cx} {G : am_Gx} {d : Nat} {Q : am_Q} (hX : am_ok X rX7_step G (d + 1)) (hM : am_me X rX7_step Q) {bc bs : Nat} (R12 : Nat → Int32 → am_Hp → Prop) (k12 : ∀ (x0 : Nat) (x1 : Int32) (M : am_Hp), R12 x0 x1 M → am_J X 12 [(0, .ref x0), (1, .int x1)] [] M bc bs) (R47 : Nat → Int32 → am_Hp → Prop) (k47 : ∀ (x0 : Nat) (x1 : Int32) (M : am_Hp), R47 x0 x1 M → am_J X 47 [(0, .ref x0), (1, .int x1)] [] M bc bs) {a0 : Nat} {a1 : Int32} {M : am_Hp} (h : hp_T M (a0) = 8 ∧ (hp_R M 140 a0 ≠ 0 ∧ (∀ p3 : Nat, p3 = hp_R M 140 a0 → (hp_T M (p3) = 22 ∧ (vp_in (1 : Int32) (hp_N M p3) ∧ ((((hp_E M p3 ((1 : Int32)).toNatClampNeg) ≤ a1) → (R47 a0 (0 : Int32) M)) ∧ (¬ ((hp_E M p3 ((1 : Int32)).toNatClampNeg) ≤ a1) → (hp_R M 140 a0 ≠ 0 ∧ (∀ p8 : Nat, p8 = hp_R M 140 a0 → (hp_T M (p8) = 22 ∧ (vp_in ((87 : Int32) + a1) (hp_N M p8) ∧ ((((hp_E M p8 (((87 : Int32) + a1)).toNatClampNeg) = 0) → (am_CT G d rX7_assigns [.ref a0, .int a1] M 0 0 (fun oz9 M13 => oz9 = .inl none ∧ (∀ v15 : Int32, v15 = a1 + (1 : Int32) → (R12 a0 v15 M13))))) ∧ (¬ ((hp_E M p8 (((87 : Int32) + a1)).toNatClampNeg) = 0) → (∀ v12 : Int32, v12 = a1 + (1 : Int32) → (R12 a0 v12 M))))))))))))))) : am_J X 12 [(0, .ref a0), (1, .int a1)] [] M bc bs := by
  refine j_iload_n hX eX7_step_12 1 rfl ?_
  refine j_aload_n hX eX7_step_13 0 rfl ?_
  obtain ⟨t1, h⟩ := h
  obtain ⟨z2, h⟩ := h
  refine j_getR hX eX7_step_14 ff_LiftGroupModel_7 rfl t1 (by decide) z2 ?_
  refine j_nmR (fun p3 ep3 => ?_)
  replace h := h p3 ep3
  refine j_iconst (v := (1 : Int32)) hX eX7_step_17 (by decide) ?_
  obtain ⟨t4, h⟩ := h
  obtain ⟨i5, h⟩ := h
  refine j_iald hX eX7_step_18 t4 i5 ?_
  refine j_icmp_ge hX 45 eX7_step_19 (by decide) (fun c6 => ?_) (fun c6 => ?_)
  · replace h := h.1 c6
    refine j_iconst (v := (0 : Int32)) hX eX7_step_45 (by decide) ?_
    refine j_istore_n (lv' := [(1, .int (0 : Int32)), (0, .ref a0)]) hX eX7_step_46 rfl (by decide) rfl ?_
    exact j_sub [1, 0] rfl (k47 _ _ _ h)
  · replace h := h.2 c6
    refine j_aload_n hX eX7_step_22 0 rfl ?_
    obtain ⟨z7, h⟩ := h
    refine j_getR hX eX7_step_23 ff_LiftGroupModel_7 rfl t1 (by decide) z7 ?_
    refine j_nmR (fun p8 ep8 => ?_)
    replace h := h p8 ep8
    refine j_bipush (v := (87 : Int32)) hX eX7_step_26 (by decide) ?_
    refine j_iload_n hX eX7_step_28 1 rfl ?_
    refine j_iadd hX eX7_step_29 ?_
    obtain ⟨t9, h⟩ := h
    obtain ⟨i10, h⟩ := h
    refine j_iald hX eX7_step_30 t9 i10 ?_
    refine j_if_ne hX 39 eX7_step_31 (by decide) (fun c11 => ?_) (fun c11 => ?_)
    · replace h := h.2 c11
      obtain ⟨v12, ev12⟩ : ∃ v12 : Int32, v12 = a1 + (1 : Int32) := ⟨_, rfl⟩
      replace h := h v12 ev12
      refine j_iinc (v := v12) (lv' := [(1, .int v12), (0, .ref a0)]) hX eX7_step_39 1 rfl (by rw [ev12]; rfl) (by decide) rfl ?_
      refine j_goto hX 12 eX7_step_42 (by decide) ?_
      exact j_sub [1, 0] rfl (k12 _ _ _ h)
    · replace h := h.1 c11
      refine j_aload_n hX eX7_step_34 0 rfl ?_
      refine j_iload_n hX eX7_step_35 1 rfl ?_
      refine j_callV (a := a0) (q := (RX7, TX7, 17)) (r' := rX7_assigns) (As := [.int a1]) (rest := []) (d1 := d) hX eX7_step_36 mm_LiftGroupModel_93 rfl t1 (by decide) rfl h rfl (Nat.le_refl _) (Nat.zero_le _) (Nat.zero_le _) (Nat.le_of_ble_eq_true rfl) (fun vz9 Mz9 qz9 => ?_) (fun Ez9 Mz9 qz9 => ?_)
      · obtain ⟨M13, eMz9⟩ : ∃ M13, M13 = Mz9 := ⟨_, rfl⟩; subst eMz9
        obtain ⟨hxz9, h⟩ := qz9
        cases hxz9
        obtain ⟨v15, ev15⟩ : ∃ v15 : Int32, v15 = a1 + (1 : Int32) := ⟨_, rfl⟩
        replace h := h v15 ev15
        refine j_iinc (v := v15) (lv' := [(1, .int v15), (0, .ref a0)]) hX eX7_step_39 1 rfl (by rw [ev15]; rfl) (by decide) rfl ?_
        refine j_goto hX 12 eX7_step_42 (by decide) ?_
        exact j_sub [1, 0] rfl (k12 _ _ _ h)
      · obtain ⟨hxz9, h⟩ := qz9
        cases hxz9
set_option maxHeartbeats 4000000 in
set_option maxRecDepth 20000 in
theorem vX7_step_47 {X : am_Cx} {G : am_Gx} {d : Nat} {Q : am_Q} (hX : am_ok X rX7_step G (d + 1)) (hM : am_me X rX7_step Q) {bc bs : Nat} (R47 : Nat → Int32 → am_Hp → Prop) (k47 : ∀ (x0 : Nat) (x1 : Int32) (M : am_Hp), R47 x0 x1 M → am_J X 47 [(0, .ref x0), (1, .int x1)] [] M bc bs) (R88 : Nat → Int32 → am_Hp → Prop) (k88 : ∀ (x0 : Nat) (x1 : Int32) (M : am_Hp), R88 x0 x1 M → am_J X 88 [(0, .ref x0), (1, .int x1)] [] M bc bs) {a0 : Nat} {a1 : Int32} {M : am_Hp} (h : hp_T M (a0) = 8 ∧ (hp_R M 140 a0 ≠ 0 ∧ (∀ p3 : Nat, p3 = hp_R M 140 a0 → (hp_T M (p3) = 22 ∧ (vp_in (1 : Int32) (hp_N M p3) ∧ ((((hp_E M p3 ((1 : Int32)).toNatClampNeg) ≤ a1) → (R88 a0 (0 : Int32) M)) ∧ (¬ ((hp_E M p3 ((1 : Int32)).toNatClampNeg) ≤ a1) → (hp_R M 140 a0 ≠ 0 ∧ (∀ p8 : Nat, p8 = hp_R M 140 a0 → (hp_T M (p8) = 22 ∧ (vp_in ((75 : Int32) + a1) (hp_N M p8) ∧ (hp_R M 140 a0 ≠ 0 ∧ (∀ p12 : Nat, p12 = hp_R M 140 a0 → (hp_T M (p12) = 22 ∧ (vp_in ((99 : Int32) + a1) (hp_N M p12) ∧ (vp_in ((75 : Int32) + a1) (hp_N M p8) ∧ (∀ M16 : am_Hp, M16 = hp_sE M p8 (((75 : Int32) + a1)).toNatClampNeg ((hp_E M p8 (((75 : Int32) + a1)).toNatClampNeg) + ((1 : Int32) - (hp_E M p12 (((99 : Int32) + a1)).toNatClampNeg))) → (∀ v21 : Int32, v21 = a1 + (1 : Int32) → (R47 a0 v21 M16))))))))))))))))))) : am_J X 47 [(0, .ref a0), (1, .int a1)] [] M bc bs := by
  refine j_iload_n hX eX7_step_47 1 rfl ?_
  refine j_aload_n hX eX7_step_48 0 rfl ?_
  obtain ⟨t1, h⟩ := h
  obtain ⟨z2, h⟩ := h
  refine j_getR hX eX7_step_49 ff_LiftGroupModel_7 rfl t1 (by decide) z2 ?_
  refine j_nmR (fun p3 ep3 => ?_)
  replace h := h p3 ep3
  refine j_iconst (v := (1 : Int32)) hX eX7_step_52 (by decide) ?_
  obtain ⟨t4, h⟩ := h
  obtain ⟨i5, h⟩ := h
  refine j_iald hX eX7_step_53 t4 i5 ?_
  refine j_icmp_ge hX 86 eX7_step_54 (by decide) (fun c6 => ?_) (fun c6 => ?_)
  · replace h := h.1 c6
    refine j_iconst (v := (0 : Int32)) hX eX7_step_86 (by decide) ?_
    refine j_istore_n (lv' := [(1, .int (0 : Int32)), (0, .ref a0)]) hX eX7_step_87 rfl (by decide) rfl ?_
    exact j_sub [1, 0] rfl (k88 _ _ _ h)
  · replace h := h.2 c6
    refine j_aload_n hX eX7_step_57 0 rfl ?_
    obtain ⟨z7, h⟩ := h
    refine j_getR hX eX7_step_58 ff_LiftGroupModel_7 rfl t1 (by decide) z7 ?_
    refine j_nmR (fun p8 ep8 => ?_)
    replace h := h p8 ep8
    refine j_bipush (v := (75 : Int32)) hX eX7_step_61 (by decide) ?_
    refine j_iload_n hX eX7_step_63 1 rfl ?_
    refine j_iadd hX eX7_step_64 ?_
    refine j_dup2 hX eX7_step_65 rfl rfl ?_
    obtain ⟨t9, h⟩ := h
    obtain ⟨i10, h⟩ := h
    refine j_iald hX eX7_step_66 t9 i10 ?_
    refine j_iconst (v := (1 : Int32)) hX eX7_step_67 (by decide) ?_
    refine j_aload_n hX eX7_step_68 0 rfl ?_
    obtain ⟨z11, h⟩ := h
    refine j_getR hX eX7_step_69 ff_LiftGroupModel_7 rfl t1 (by decide) z11 ?_
    refine j_nmR (fun p12 ep12 => ?_)
    replace h := h p12 ep12
    refine j_bipush (v := (99 : Int32)) hX eX7_step_72 (by decide) ?_
    refine j_iload_n hX eX7_step_74 1 rfl ?_
    refine j_iadd hX eX7_step_75 ?_
    obtain ⟨t13, h⟩ := h
    obtain ⟨i14, h⟩ := h
    refine j_iald hX eX7_step_76 t13 i14 ?_
    refine j_isub hX eX7_step_77 ?_
    refine j_iadd hX eX7_step_78 ?_
    obtain ⟨i15, h⟩ := h
    refine j_iast hX eX7_step_79 t9 i15 ?_
    refine j_nmM (fun M16 eM16 => ?_)
    replace h := h M16 eM16
    have t17 : hp_T M16 (a0) = 8 := by rw [eM16]; exact t1
    have t18 : hp_T M16 (p3) = 22 := by rw [eM16]; exact t4
    have t19 : hp_T M16 (p8) = 22 := by rw [eM16]; exact t9
    have t20 : hp_T M16 (p12) = 22 := by rw [eM16]; exact t13
    obtain ⟨v21, ev21⟩ : ∃ v21 : Int32, v21 = a1 + (1 : Int32) := ⟨_, rfl⟩
    replace h := h v21 ev21
    refine j_iinc (v := v21) (lv' := [(1, .int v21), (0, .ref a0)]) hX eX7_step_80 1 rfl (by rw [ev21]; rfl) (by decide) rfl ?_
    refine j_goto hX 47 eX7_step_83 (by decide) ?_
    exact j_sub [1, 0] rfl (k47 _ _ _ h)
set_option maxHeartbeats 4000000 in
set_option maxRecDepth 20000 in
theorem vX7_step_88 {X : am_Cx} {G : am_Gx} {d : Nat} {Q : am_Q} (hX : am_ok X rX7_step G (d + 1)) (hM : am_me X rX7_step Q) {bc bs : Nat} (R88 : Nat → Int32 → am_Hp → Prop) (k88 : ∀ (x0 : Nat) (x1 : Int32) (M : am_Hp), R88 x0 x1 M → am_J X 88 [(0, .ref x0), (1, .int x1)] [] M bc bs) {a0 : Nat} {a1 : Int32} {M : am_Hp} (h : (((3 : Int32) ≤ a1) → (Q (.inl none) M)) ∧ (¬ ((3 : Int32) ≤ a1) → (hp_T M (a0) = 8 ∧ (hp_R M 140 a0 ≠ 0 ∧ (∀ p4 : Nat, p4 = hp_R M 140 a0 → (hp_T M (p4) = 22 ∧ (vp_in ((21 : Int32) + a1) (hp_N M p4) ∧ ((((hp_E M p4 (((21 : Int32) + a1)).toNatClampNeg) = 0) → (am_CT G d rX7_acts [.ref a0, .int a1] M 0 0 (fun oz9 M9 => oz9 = .inl none ∧ (∀ v11 : Int32, v11 = a1 + (1 : Int32) → (R88 a0 v11 M9))))) ∧ (¬ ((hp_E M p4 (((21 : Int32) + a1)).toNatClampNeg) = 0) → (∀ v8 : Int32, v8 = a1 + (1 : Int32) → (R88 a0 v8 M))))))))))) : am_J X 88 [(0, .ref a0), (1, .int a1)] [] M bc bs := by
  refine j_iload_n hX eX7_step_88 1 rfl ?_
  refine j_iconst (v := (3 : Int32)) hX eX7_step_89 (by decide) ?_
  refine j_icmp_ge hX 116 eX7_step_90 (by decide) (fun c1 => ?_) (fun c1 => ?_)
  · replace h := h.1 c1
    exact j_vret hX hM eX7_step_116 rfl h
  · replace h := h.2 c1
    refine j_aload_n hX eX7_step_93 0 rfl ?_
    obtain ⟨t2, h⟩ := h
    obtain ⟨z3, h⟩ := h
    refine j_getR hX eX7_step_94 ff_LiftGroupModel_7 rfl t2 (by decide) z3 ?_
    refine j_nmR (fun p4 ep4 => ?_)
    replace h := h p4 ep4
    refine j_bipush (v := (21 : Int32)) hX eX7_step_97 (by decide) ?_
    refine j_iload_n hX eX7_step_99 1 rfl ?_
    refine j_iadd hX eX7_step_100 ?_
    obtain ⟨t5, h⟩ := h
    obtain ⟨i6, h⟩ := h
    refine j_iald hX eX7_step_101 t5 i6 ?_
    refine j_if_ne hX 110 eX7_step_102 (by decide) (fun c7 => ?_) (fun c7 => ?_)
    · replace h := h.2 c7
      obtain ⟨v8, ev8⟩ : ∃ v8 : Int32, v8 = a1 + (1 : Int32) := ⟨_, rfl⟩
      replace h := h v8 ev8
      refine j_iinc (v := v8) (lv' := [(1, .int v8), (0, .ref a0)]) hX eX7_step_110 1 rfl (by rw [ev8]; rfl) (by decide) rfl ?_
      refine j_goto hX 88 eX7_step_113 (by decide) ?_
      exact j_sub [1, 0] rfl (k88 _ _ _ h)
    · replace h := h.1 c7
      refine j_aload_n hX eX7_step_105 0 rfl ?_
      refine j_iload_n hX eX7_step_106 1 rfl ?_
      refine j_callV (a := a0) (q := (RX7, TX7, 17)) (r' := rX7_acts) (As := [.int a1]) (rest := []) (d1 := d) hX eX7_step_107 mm_LiftGroupModel_153 rfl t2 (by decide) rfl h rfl (Nat.le_refl _) (Nat.zero_le _) (Nat.zero_le _) (Nat.le_of_ble_eq_true rfl) (fun vz9 Mz9 qz9 => ?_) (fun Ez9 Mz9 qz9 => ?_)
      · obtain ⟨M9, eMz9⟩ : ∃ M9, M9 = Mz9 := ⟨_, rfl⟩; subst eMz9
        obtain ⟨hxz9, h⟩ := qz9
        cases hxz9
        obtain ⟨v11, ev11⟩ : ∃ v11 : Int32, v11 = a1 + (1 : Int32) := ⟨_, rfl⟩
        replace h := h v11 ev11
        refine j_iinc (v := v11) (lv' := [(1, .int v11), (0, .ref a0)]) hX eX7_step_110 1 rfl (by rw [ev11]; rfl) (by decide) rfl ?_
        refine j_goto hX 88 eX7_step_113 (by decide) ?_
        exact j_sub [1, 0] rfl (k88 _ _ _ h)
      · obtain ⟨hxz9, h⟩ := qz9
        cases hxz9

set_option maxHeartbeats 4000000 in
set_option maxRecDepth 20000 in
theorem vX7_advances_0 {X : am_Cx} {G : am_Gx} {d : Nat} {Q : am_Q} (hX : am_ok X rX7_advances G (d + 1)) (hM : am_me X rX7_advances Q) {bc bs : Nat} (R25 : Nat → Int32 → Int32 → Int32 → am_Hp → Prop) (k25 : ∀ (x0 : Nat) (x1 : Int32) (x2 : Int32) (x3 : Int32) (M : am_Hp), R25 x0 x1 x2 x3 M → am_J X 25 [(0, .ref x0), (1, .int x1), (2, .int x2), (3, .int x3)] [] M bc bs) {a0 : Nat} {a1 : Int32} {M : am_Hp} (h : am_CT G d rX7_in [.int a1, .int (1 : Int32), .int (30 : Int32)] M 0 0 (fun oz9 M1 => ∃ v2 : Int32, oz9 = .inl (some (.int v2)) ∧ (((v2 = 0) → (hp_T M1 (a0) = 8 ∧ (am_CT G d rX7_fails [.ref a0, .int (1 : Int32)] M1 0 0 (fun oz9 M10 => ∃ v11 : Int32, oz9 = .inl (some (.int v11)) ∧ (Q (.inl (some (.int v11))) M10))))) ∧ (¬ (v2 = 0) → (hp_T M1 (a0) = 8 ∧ (hp_R M1 140 a0 ≠ 0 ∧ (∀ p6 : Nat, p6 = hp_R M1 140 a0 → (hp_T M1 (p6) = 22 ∧ (vp_in (3 : Int32) (hp_N M1 p6) ∧ (∀ v9 : Int32, v9 = (hp_E M1 p6 ((3 : Int32)).toNatClampNeg) → (R25 a0 a1 v9 (0 : Int32) M1))))))))))) : am_J X 0 [(0, .ref a0), (1, .int a1)] [] M bc bs := by
  refine j_iload_n hX eX7_advances_0 1 rfl ?_
  refine j_iconst (v := (1 : Int32)) hX eX7_advances_1 (by decide) ?_
  refine j_bipush (v := (30 : Int32)) hX eX7_advances_2 (by decide) ?_
  refine j_callS (r' := rX7_in) (As := [.int a1, .int (1 : Int32), .int (30 : Int32)]) (rest := []) (d1 := d) hX eX7_advances_4 mm_LiftGroupModel_52 rfl rfl h rfl (Nat.le_refl _) (Nat.zero_le _) (Nat.zero_le _) (Nat.le_of_ble_eq_true rfl) (fun vz9 Mz9 qz9 => ?_) (fun Ez9 Mz9 qz9 => ?_)
  · obtain ⟨M1, eMz9⟩ : ∃ M1, M1 = Mz9 := ⟨_, rfl⟩; subst eMz9
    obtain ⟨v2, hxz9, h⟩ := qz9
    cases hxz9
    refine j_if_ne hX 16 eX7_advances_7 (by decide) (fun c3 => ?_) (fun c3 => ?_)
    · replace h := h.2 c3
      refine j_aload_n hX eX7_advances_16 0 rfl ?_
      obtain ⟨t4, h⟩ := h
      obtain ⟨z5, h⟩ := h
      refine j_getR hX eX7_advances_17 ff_LiftGroupModel_7 rfl t4 (by decide) z5 ?_
      refine j_nmR (fun p6 ep6 => ?_)
      replace h := h p6 ep6
      refine j_iconst (v := (3 : Int32)) hX eX7_advances_20 (by decide) ?_
      obtain ⟨t7, h⟩ := h
      obtain ⟨i8, h⟩ := h
      refine j_iald hX eX7_advances_21 t7 i8 ?_
      refine j_nmI (fun v9 ev9 => ?_)
      replace h := h v9 ev9
      refine j_istore_n (lv' := [(2, .int v9), (0, .ref a0), (1, .int a1)]) hX eX7_advances_22 rfl (by decide) rfl ?_
      refine j_iconst (v := (0 : Int32)) hX eX7_advances_23 (by decide) ?_
      refine j_istore_n (lv' := [(3, .int (0 : Int32)), (2, .int v9), (0, .ref a0), (1, .int a1)]) hX eX7_advances_24 rfl (by decide) rfl ?_
      exact j_sub [2, 3, 1, 0] rfl (k25 _ _ _ _ _ h)
    · replace h := h.1 c3
      refine j_aload_n hX eX7_advances_10 0 rfl ?_
      refine j_iconst (v := (1 : Int32)) hX eX7_advances_11 (by decide) ?_
      obtain ⟨t12, h⟩ := h
      refine j_callV (a := a0) (q := (RX7, TX7, 17)) (r' := rX7_fails) (As := [.int (1 : Int32)]) (rest := []) (d1 := d) hX eX7_advances_12 mm_LiftGroupModel_90 rfl t12 (by decide) rfl h rfl (Nat.le_refl _) (Nat.zero_le _) (Nat.zero_le _) (Nat.le_of_ble_eq_true rfl) (fun vz9 Mz9 qz9 => ?_) (fun Ez9 Mz9 qz9 => ?_)
      · obtain ⟨M10, eMz9⟩ : ∃ M10, M10 = Mz9 := ⟨_, rfl⟩; subst eMz9
        obtain ⟨v11, hxz9, h⟩ := qz9
        cases hxz9
        exact j_iret hX hM eX7_advances_15 rfl h
      · obtain ⟨v11, hxz9, h⟩ := qz9
        cases hxz9
  · obtain ⟨v2, hxz9, h⟩ := qz9
    cases hxz9
set_option maxHeartbeats 4000000 in
set_option maxRecDepth 20000 in
theorem vX7_advances_25 {X : am_Cx} {G : am_Gx} {d : Nat} {Q : am_Q} (hX : am_ok X rX7_advances G (d + 1)) (hM : am_me X rX7_advances Q) {bc bs : Nat} (R25 : Nat → Int32 → Int32 → Int32 → am_Hp → Prop) (k25 : ∀ (x0 : Nat) (x1 : Int32) (x2 : Int32) (x3 : Int32) (M : am_Hp), R25 x0 x1 x2 x3 M → am_J X 25 [(0, .ref x0), (1, .int x1), (2, .int x2), (3, .int x3)] [] M bc bs) {a0 : Nat} {a1 : Int32} {a2 : Int32} {a3 : Int32} {M : am_Hp} (h : ((a1 ≤ a3) → (hp_T M (a0) = 8 ∧ (hp_R M 140 a0 ≠ 0 ∧ (∀ p4 : Nat, p4 = hp_R M 140 a0 → (hp_T M (p4) = 22 ∧ (vp_in (3 : Int32) (hp_N M p4) ∧ (am_CT G d rX7_done [.ref a0, .int ((hp_E M p4 ((3 : Int32)).toNatClampNeg) - a2)] M 0 0 (fun oz9 M7 => ∃ v8 : Int32, oz9 = .inl (some (.int v8)) ∧ (Q (.inl (some (.int v8))) M7))))))))) ∧ (¬ (a1 ≤ a3) → (hp_T M (a0) = 8 ∧ (am_CT G d rX7_step [.ref a0] M 0 0 (fun oz9 M9 => oz9 = .inl none ∧ (∀ v12 : Int32, v12 = a3 + (1 : Int32) → (R25 a0 a1 a2 v12 M9))))))) : am_J X 25 [(0, .ref a0), (1, .int a1), (2, .int a2), (3, .int a3)] [] M bc bs := by
  refine j_iload_n hX eX7_advances_25 3 rfl ?_
  refine j_iload_n hX eX7_advances_26 1 rfl ?_
  refine j_icmp_ge hX 40 eX7_advances_27 (by decide) (fun c1 => ?_) (fun c1 => ?_)
  · replace h := h.1 c1
    refine j_aload_n hX eX7_advances_40 0 rfl ?_
    refine j_aload_n hX eX7_advances_41 0 rfl ?_
    obtain ⟨t2, h⟩ := h
    obtain ⟨z3, h⟩ := h
    refine j_getR hX eX7_advances_42 ff_LiftGroupModel_7 rfl t2 (by decide) z3 ?_
    refine j_nmR (fun p4 ep4 => ?_)
    replace h := h p4 ep4
    refine j_iconst (v := (3 : Int32)) hX eX7_advances_45 (by decide) ?_
    obtain ⟨t5, h⟩ := h
    obtain ⟨i6, h⟩ := h
    refine j_iald hX eX7_advances_46 t5 i6 ?_
    refine j_iload_n hX eX7_advances_47 2 rfl ?_
    refine j_isub hX eX7_advances_48 ?_
    refine j_callV (a := a0) (q := (RX7, TX7, 17)) (r' := rX7_done) (As := [.int ((hp_E M p4 ((3 : Int32)).toNatClampNeg) - a2)]) (rest := []) (d1 := d) hX eX7_advances_49 mm_LiftGroupModel_97 rfl t2 (by decide) rfl h rfl (Nat.le_refl _) (Nat.zero_le _) (Nat.zero_le _) (Nat.le_of_ble_eq_true rfl) (fun vz9 Mz9 qz9 => ?_) (fun Ez9 Mz9 qz9 => ?_)
    · obtain ⟨M7, eMz9⟩ : ∃ M7, M7 = Mz9 := ⟨_, rfl⟩; subst eMz9
      obtain ⟨v8, hxz9, h⟩ := qz9
      cases hxz9
      exact j_iret hX hM eX7_advances_52 rfl h
    · obtain ⟨v8, hxz9, h⟩ := qz9
      cases hxz9
  · replace h := h.2 c1
    refine j_aload_n hX eX7_advances_30 0 rfl ?_
    obtain ⟨t11, h⟩ := h
    refine j_callV (a := a0) (q := (RX7, TX7, 17)) (r' := rX7_step) (As := []) (rest := []) (d1 := d) hX eX7_advances_31 mm_LiftGroupModel_156 rfl t11 (by decide) rfl h rfl (Nat.le_refl _) (Nat.zero_le _) (Nat.zero_le _) (Nat.le_of_ble_eq_true rfl) (fun vz9 Mz9 qz9 => ?_) (fun Ez9 Mz9 qz9 => ?_)
    · obtain ⟨M9, eMz9⟩ : ∃ M9, M9 = Mz9 := ⟨_, rfl⟩; subst eMz9
      obtain ⟨hxz9, h⟩ := qz9
      cases hxz9
      obtain ⟨v12, ev12⟩ : ∃ v12 : Int32, v12 = a3 + (1 : Int32) := ⟨_, rfl⟩
      replace h := h v12 ev12
      refine j_iinc (v := v12) (lv' := [(3, .int v12), (0, .ref a0), (1, .int a1), (2, .int a2)]) hX eX7_advances_34 3 rfl (by rw [ev12]; rfl) (by decide) rfl ?_
      refine j_goto hX 25 eX7_advances_37 (by decide) ?_
      exact j_sub [1, 2, 3, 0] rfl (k25 _ _ _ _ _ h)
    · obtain ⟨hxz9, h⟩ := qz9
      cases hxz9

set_option maxHeartbeats 4000000 in
set_option maxRecDepth 20000 in
theorem vX7_advance_0 {X : am_Cx} {G : am_Gx} {d : Nat} {Q : am_Q} (hX : am_ok X rX7_advance G (d + 1)) (hM : am_me X rX7_advance Q) {bc bs : Nat}  {a0 : Nat} {a1 : Int32} {M : am_Hp} (h : hp_T M (a0) = 8 ∧ (am_CT G d rX7_begin [.ref a0] M 0 0 (fun oz9 M1 => oz9 = .inl none ∧ (hp_T M1 (a0) = 8 ∧ (am_CT G d rX7_advances [.ref a0, .int a1] M1 0 0 (fun oz9 M4 => ∃ v5 : Int32, oz9 = .inl (some (.int v5)) ∧ (hp_T M4 (a0) = 8 ∧ (am_CT G d rX7_kept [.ref a0, .int v5] M4 0 0 (fun oz9 M7 => ∃ v8 : Int32, oz9 = .inl (some (.int v8)) ∧ (Q (.inl (some (.int v8))) M7)))))))))) : am_J X 0 [(0, .ref a0), (1, .int a1)] [] M bc bs := by
  refine j_aload_n hX eX7_advance_0 0 rfl ?_
  obtain ⟨t3, h⟩ := h
  refine j_callV (a := a0) (q := (RX7, TX7, 17)) (r' := rX7_begin) (As := []) (rest := []) (d1 := d) hX eX7_advance_1 mm_LiftGroupModel_100 rfl t3 (by decide) rfl h rfl (Nat.le_refl _) (Nat.zero_le _) (Nat.zero_le _) (Nat.le_of_ble_eq_true rfl) (fun vz9 Mz9 qz9 => ?_) (fun Ez9 Mz9 qz9 => ?_)
  · obtain ⟨M1, eMz9⟩ : ∃ M1, M1 = Mz9 := ⟨_, rfl⟩; subst eMz9
    obtain ⟨hxz9, h⟩ := qz9
    cases hxz9
    refine j_aload_n hX eX7_advance_4 0 rfl ?_
    refine j_aload_n hX eX7_advance_5 0 rfl ?_
    refine j_iload_n hX eX7_advance_6 1 rfl ?_
    obtain ⟨t6, h⟩ := h
    refine j_callV (a := a0) (q := (RX7, TX7, 17)) (r' := rX7_advances) (As := [.int a1]) (rest := [.ref a0]) (d1 := d) hX eX7_advance_7 mm_LiftGroupModel_159 rfl t6 (by decide) rfl h rfl (Nat.le_refl _) (Nat.zero_le _) (Nat.zero_le _) (Nat.le_of_ble_eq_true rfl) (fun vz9 Mz9 qz9 => ?_) (fun Ez9 Mz9 qz9 => ?_)
    · obtain ⟨M4, eMz9⟩ : ∃ M4, M4 = Mz9 := ⟨_, rfl⟩; subst eMz9
      obtain ⟨v5, hxz9, h⟩ := qz9
      cases hxz9
      obtain ⟨t9, h⟩ := h
      refine j_callV (a := a0) (q := (RX7, TX7, 17)) (r' := rX7_kept) (As := [.int v5]) (rest := []) (d1 := d) hX eX7_advance_10 mm_LiftGroupModel_107 rfl t9 (by decide) rfl h rfl (Nat.le_refl _) (Nat.zero_le _) (Nat.zero_le _) (Nat.le_of_ble_eq_true rfl) (fun vz9 Mz9 qz9 => ?_) (fun Ez9 Mz9 qz9 => ?_)
      · obtain ⟨M7, eMz9⟩ : ∃ M7, M7 = Mz9 := ⟨_, rfl⟩; subst eMz9
        obtain ⟨v8, hxz9, h⟩ := qz9
        cases hxz9
        exact j_iret hX hM eX7_advance_13 rfl h
      · obtain ⟨v8, hxz9, h⟩ := qz9
        cases hxz9
    · obtain ⟨v5, hxz9, h⟩ := qz9
      cases hxz9
  · obtain ⟨hxz9, h⟩ := qz9
    cases hxz9

set_option maxHeartbeats 4000000 in
set_option maxRecDepth 20000 in
theorem vX7_time_0 {X : am_Cx} {G : am_Gx} {d : Nat} {Q : am_Q} (hX : am_ok X rX7_time G (d + 1)) (hM : am_me X rX7_time Q) {bc bs : Nat}  {a0 : Nat} {M : am_Hp} (h : hp_T M (a0) = 8 ∧ (hp_R M 140 a0 ≠ 0 ∧ (∀ p3 : Nat, p3 = hp_R M 140 a0 → (hp_T M (p3) = 22 ∧ (vp_in (0 : Int32) (hp_N M p3) ∧ (am_CT G d rX7_done [.ref a0, .int (hp_E M p3 ((0 : Int32)).toNatClampNeg)] M 0 0 (fun oz9 M6 => ∃ v7 : Int32, oz9 = .inl (some (.int v7)) ∧ (Q (.inl (some (.int v7))) M6)))))))) : am_J X 0 [(0, .ref a0)] [] M bc bs := by
  refine j_aload_n hX eX7_time_0 0 rfl ?_
  refine j_aload_n hX eX7_time_1 0 rfl ?_
  obtain ⟨t1, h⟩ := h
  obtain ⟨z2, h⟩ := h
  refine j_getR hX eX7_time_2 ff_LiftGroupModel_7 rfl t1 (by decide) z2 ?_
  refine j_nmR (fun p3 ep3 => ?_)
  replace h := h p3 ep3
  refine j_iconst (v := (0 : Int32)) hX eX7_time_5 (by decide) ?_
  obtain ⟨t4, h⟩ := h
  obtain ⟨i5, h⟩ := h
  refine j_iald hX eX7_time_6 t4 i5 ?_
  refine j_callV (a := a0) (q := (RX7, TX7, 17)) (r' := rX7_done) (As := [.int (hp_E M p3 ((0 : Int32)).toNatClampNeg)]) (rest := []) (d1 := d) hX eX7_time_7 mm_LiftGroupModel_97 rfl t1 (by decide) rfl h rfl (Nat.le_refl _) (Nat.zero_le _) (Nat.zero_le _) (Nat.le_of_ble_eq_true rfl) (fun vz9 Mz9 qz9 => ?_) (fun Ez9 Mz9 qz9 => ?_)
  · obtain ⟨M6, eMz9⟩ : ∃ M6, M6 = Mz9 := ⟨_, rfl⟩; subst eMz9
    obtain ⟨v7, hxz9, h⟩ := qz9
    cases hxz9
    exact j_iret hX hM eX7_time_10 rfl h
  · obtain ⟨v7, hxz9, h⟩ := qz9
    cases hxz9

set_option maxHeartbeats 4000000 in
set_option maxRecDepth 20000 in
theorem vX7_carNumber_0 {X : am_Cx} {G : am_Gx} {d : Nat} {Q : am_Q} (hX : am_ok X rX7_carNumber G (d + 1)) (hM : am_me X rX7_carNumber Q) {bc bs : Nat}  {a0 : Nat} {a1 : Int32} {a2 : Int32} {M : am_Hp} (h : am_CT G d rX7_isCar [.int a2] M 0 0 (fun oz9 M1 => ∃ v2 : Int32, oz9 = .inl (some (.int v2)) ∧ (((v2 = 0) → (hp_T M1 (a0) = 8 ∧ (am_CT G d rX7_fails [.ref a0, .int (1 : Int32)] M1 0 0 (fun oz9 M4 => ∃ v5 : Int32, oz9 = .inl (some (.int v5)) ∧ (Q (.inl (some (.int v5))) M4))))) ∧ (¬ (v2 = 0) → (hp_T M1 (a0) = 8 ∧ (hp_R M1 140 a0 ≠ 0 ∧ (∀ p9 : Nat, p9 = hp_R M1 140 a0 → (hp_T M1 (p9) = 22 ∧ (vp_in (a1 + a2) (hp_N M1 p9) ∧ (am_CT G d rX7_done [.ref a0, .int (hp_E M1 p9 ((a1 + a2)).toNatClampNeg)] M1 0 0 (fun oz9 M12 => ∃ v13 : Int32, oz9 = .inl (some (.int v13)) ∧ (Q (.inl (some (.int v13))) M12)))))))))))) : am_J X 0 [(0, .ref a0), (1, .int a1), (2, .int a2)] [] M bc bs := by
  refine j_iload_n hX eX7_carNumber_0 2 rfl ?_
  refine j_callS (r' := rX7_isCar) (As := [.int a2]) (rest := []) (d1 := d) hX eX7_carNumber_1 mm_LiftGroupModel_119 rfl rfl h rfl (Nat.le_refl _) (Nat.zero_le _) (Nat.zero_le _) (Nat.le_of_ble_eq_true rfl) (fun vz9 Mz9 qz9 => ?_) (fun Ez9 Mz9 qz9 => ?_)
  · obtain ⟨M1, eMz9⟩ : ∃ M1, M1 = Mz9 := ⟨_, rfl⟩; subst eMz9
    obtain ⟨v2, hxz9, h⟩ := qz9
    cases hxz9
    refine j_if_eq hX 22 eX7_carNumber_4 (by decide) (fun c3 => ?_) (fun c3 => ?_)
    · replace h := h.1 c3
      refine j_aload_n hX eX7_carNumber_22 0 rfl ?_
      refine j_iconst (v := (1 : Int32)) hX eX7_carNumber_23 (by decide) ?_
      obtain ⟨t6, h⟩ := h
      refine j_callV (a := a0) (q := (RX7, TX7, 17)) (r' := rX7_fails) (As := [.int (1 : Int32)]) (rest := []) (d1 := d) hX eX7_carNumber_24 mm_LiftGroupModel_90 rfl t6 (by decide) rfl h rfl (Nat.le_refl _) (Nat.zero_le _) (Nat.zero_le _) (Nat.le_of_ble_eq_true rfl) (fun vz9 Mz9 qz9 => ?_) (fun Ez9 Mz9 qz9 => ?_)
      · obtain ⟨M4, eMz9⟩ : ∃ M4, M4 = Mz9 := ⟨_, rfl⟩; subst eMz9
        obtain ⟨v5, hxz9, h⟩ := qz9
        cases hxz9
        exact j_iret hX hM eX7_carNumber_27 rfl h
      · obtain ⟨v5, hxz9, h⟩ := qz9
        cases hxz9
    · replace h := h.2 c3
      refine j_aload_n hX eX7_carNumber_7 0 rfl ?_
      refine j_aload_n hX eX7_carNumber_8 0 rfl ?_
      obtain ⟨t7, h⟩ := h
      obtain ⟨z8, h⟩ := h
      refine j_getR hX eX7_carNumber_9 ff_LiftGroupModel_7 rfl t7 (by decide) z8 ?_
      refine j_nmR (fun p9 ep9 => ?_)
      replace h := h p9 ep9
      refine j_iload_n hX eX7_carNumber_12 1 rfl ?_
      refine j_iload_n hX eX7_carNumber_13 2 rfl ?_
      refine j_iadd hX eX7_carNumber_14 ?_
      obtain ⟨t10, h⟩ := h
      obtain ⟨i11, h⟩ := h
      refine j_iald hX eX7_carNumber_15 t10 i11 ?_
      refine j_callV (a := a0) (q := (RX7, TX7, 17)) (r' := rX7_done) (As := [.int (hp_E M1 p9 ((a1 + a2)).toNatClampNeg)]) (rest := []) (d1 := d) hX eX7_carNumber_16 mm_LiftGroupModel_97 rfl t7 (by decide) rfl h rfl (Nat.le_refl _) (Nat.zero_le _) (Nat.zero_le _) (Nat.le_of_ble_eq_true rfl) (fun vz9 Mz9 qz9 => ?_) (fun Ez9 Mz9 qz9 => ?_)
      · obtain ⟨M12, eMz9⟩ : ∃ M12, M12 = Mz9 := ⟨_, rfl⟩; subst eMz9
        obtain ⟨v13, hxz9, h⟩ := qz9
        cases hxz9
        refine j_goto hX 27 eX7_carNumber_19 (by decide) ?_
        exact j_iret hX hM eX7_carNumber_27 rfl h
      · obtain ⟨v13, hxz9, h⟩ := qz9
        cases hxz9
  · obtain ⟨v2, hxz9, h⟩ := qz9
    cases hxz9

set_option maxHeartbeats 4000000 in
set_option maxRecDepth 20000 in
theorem vX7_floor_0 {X : am_Cx} {G : am_Gx} {d : Nat} {Q : am_Q} (hX : am_ok X rX7_floor G (d + 1)) (hM : am_me X rX7_floor Q) {bc bs : Nat}  {a0 : Nat} {a1 : Int32} {M : am_Hp} (h : hp_T M (a0) = 8 ∧ (am_CT G d rX7_carNumber [.ref a0, .int (9 : Int32), .int a1] M 0 0 (fun oz9 M1 => ∃ v2 : Int32, oz9 = .inl (some (.int v2)) ∧ (Q (.inl (some (.int v2))) M1)))) : am_J X 0 [(0, .ref a0), (1, .int a1)] [] M bc bs := by
  refine j_aload_n hX eX7_floor_0 0 rfl ?_
  refine j_bipush (v := (9 : Int32)) hX eX7_floor_1 (by decide) ?_
  refine j_iload_n hX eX7_floor_3 1 rfl ?_
  obtain ⟨t3, h⟩ := h
  refine j_callV (a := a0) (q := (RX7, TX7, 17)) (r' := rX7_carNumber) (As := [.int (9 : Int32), .int a1]) (rest := []) (d1 := d) hX eX7_floor_4 mm_LiftGroupModel_162 rfl t3 (by decide) rfl h rfl (Nat.le_refl _) (Nat.zero_le _) (Nat.zero_le _) (Nat.le_of_ble_eq_true rfl) (fun vz9 Mz9 qz9 => ?_) (fun Ez9 Mz9 qz9 => ?_)
  · obtain ⟨M1, eMz9⟩ : ∃ M1, M1 = Mz9 := ⟨_, rfl⟩; subst eMz9
    obtain ⟨v2, hxz9, h⟩ := qz9
    cases hxz9
    exact j_iret hX hM eX7_floor_7 rfl h
  · obtain ⟨v2, hxz9, h⟩ := qz9
    cases hxz9

set_option maxHeartbeats 4000000 in
set_option maxRecDepth 20000 in
theorem vX7_direction_0 {X : am_Cx} {G : am_Gx} {d : Nat} {Q : am_Q} (hX : am_ok X rX7_direction G (d + 1)) (hM : am_me X rX7_direction Q) {bc bs : Nat}  {a0 : Nat} {a1 : Int32} {M : am_Hp} (h : hp_T M (a0) = 8 ∧ (am_CT G d rX7_carNumber [.ref a0, .int (12 : Int32), .int a1] M 0 0 (fun oz9 M1 => ∃ v2 : Int32, oz9 = .inl (some (.int v2)) ∧ (Q (.inl (some (.int v2))) M1)))) : am_J X 0 [(0, .ref a0), (1, .int a1)] [] M bc bs := by
  refine j_aload_n hX eX7_direction_0 0 rfl ?_
  refine j_bipush (v := (12 : Int32)) hX eX7_direction_1 (by decide) ?_
  refine j_iload_n hX eX7_direction_3 1 rfl ?_
  obtain ⟨t3, h⟩ := h
  refine j_callV (a := a0) (q := (RX7, TX7, 17)) (r' := rX7_carNumber) (As := [.int (12 : Int32), .int a1]) (rest := []) (d1 := d) hX eX7_direction_4 mm_LiftGroupModel_162 rfl t3 (by decide) rfl h rfl (Nat.le_refl _) (Nat.zero_le _) (Nat.zero_le _) (Nat.le_of_ble_eq_true rfl) (fun vz9 Mz9 qz9 => ?_) (fun Ez9 Mz9 qz9 => ?_)
  · obtain ⟨M1, eMz9⟩ : ∃ M1, M1 = Mz9 := ⟨_, rfl⟩; subst eMz9
    obtain ⟨v2, hxz9, h⟩ := qz9
    cases hxz9
    exact j_iret hX hM eX7_direction_7 rfl h
  · obtain ⟨v2, hxz9, h⟩ := qz9
    cases hxz9

set_option maxHeartbeats 4000000 in
set_option maxRecDepth 20000 in
theorem vX7_capacity_0 {X : am_Cx} {G : am_Gx} {d : Nat} {Q : am_Q} (hX : am_ok X rX7_capacity G (d + 1)) (hM : am_me X rX7_capacity Q) {bc bs : Nat}  {a0 : Nat} {a1 : Int32} {M : am_Hp} (h : hp_T M (a0) = 8 ∧ (am_CT G d rX7_carNumber [.ref a0, .int (15 : Int32), .int a1] M 0 0 (fun oz9 M1 => ∃ v2 : Int32, oz9 = .inl (some (.int v2)) ∧ (Q (.inl (some (.int v2))) M1)))) : am_J X 0 [(0, .ref a0), (1, .int a1)] [] M bc bs := by
  refine j_aload_n hX eX7_capacity_0 0 rfl ?_
  refine j_bipush (v := (15 : Int32)) hX eX7_capacity_1 (by decide) ?_
  refine j_iload_n hX eX7_capacity_3 1 rfl ?_
  obtain ⟨t3, h⟩ := h
  refine j_callV (a := a0) (q := (RX7, TX7, 17)) (r' := rX7_carNumber) (As := [.int (15 : Int32), .int a1]) (rest := []) (d1 := d) hX eX7_capacity_4 mm_LiftGroupModel_162 rfl t3 (by decide) rfl h rfl (Nat.le_refl _) (Nat.zero_le _) (Nat.zero_le _) (Nat.le_of_ble_eq_true rfl) (fun vz9 Mz9 qz9 => ?_) (fun Ez9 Mz9 qz9 => ?_)
  · obtain ⟨M1, eMz9⟩ : ∃ M1, M1 = Mz9 := ⟨_, rfl⟩; subst eMz9
    obtain ⟨v2, hxz9, h⟩ := qz9
    cases hxz9
    exact j_iret hX hM eX7_capacity_7 rfl h
  · obtain ⟨v2, hxz9, h⟩ := qz9
    cases hxz9

set_option maxHeartbeats 4000000 in
set_option maxRecDepth 20000 in
theorem vX7_load_0 {X : am_Cx} {G : am_Gx} {d : Nat} {Q : am_Q} (hX : am_ok X rX7_load G (d + 1)) (hM : am_me X rX7_load Q) {bc bs : Nat}  {a0 : Nat} {a1 : Int32} {M : am_Hp} (h : am_CT G d rX7_isCar [.int a1] M 0 0 (fun oz9 M1 => ∃ v2 : Int32, oz9 = .inl (some (.int v2)) ∧ (((v2 = 0) → (hp_T M1 (a0) = 8 ∧ (am_CT G d rX7_fails [.ref a0, .int (1 : Int32)] M1 0 0 (fun oz9 M4 => ∃ v5 : Int32, oz9 = .inl (some (.int v5)) ∧ (Q (.inl (some (.int v5))) M4))))) ∧ (¬ (v2 = 0) → (hp_T M1 (a0) = 8 ∧ (am_CT G d rX7_loadOf [.ref a0, .int a1] M1 0 0 (fun oz9 M7 => ∃ v8 : Int32, oz9 = .inl (some (.int v8)) ∧ (hp_T M7 (a0) = 8 ∧ (am_CT G d rX7_done [.ref a0, .int v8] M7 0 0 (fun oz9 M10 => ∃ v11 : Int32, oz9 = .inl (some (.int v11)) ∧ (Q (.inl (some (.int v11))) M10))))))))))) : am_J X 0 [(0, .ref a0), (1, .int a1)] [] M bc bs := by
  refine j_iload_n hX eX7_load_0 1 rfl ?_
  refine j_callS (r' := rX7_isCar) (As := [.int a1]) (rest := []) (d1 := d) hX eX7_load_1 mm_LiftGroupModel_119 rfl rfl h rfl (Nat.le_refl _) (Nat.zero_le _) (Nat.zero_le _) (Nat.le_of_ble_eq_true rfl) (fun vz9 Mz9 qz9 => ?_) (fun Ez9 Mz9 qz9 => ?_)
  · obtain ⟨M1, eMz9⟩ : ∃ M1, M1 = Mz9 := ⟨_, rfl⟩; subst eMz9
    obtain ⟨v2, hxz9, h⟩ := qz9
    cases hxz9
    refine j_if_eq hX 19 eX7_load_4 (by decide) (fun c3 => ?_) (fun c3 => ?_)
    · replace h := h.1 c3
      refine j_aload_n hX eX7_load_19 0 rfl ?_
      refine j_iconst (v := (1 : Int32)) hX eX7_load_20 (by decide) ?_
      obtain ⟨t6, h⟩ := h
      refine j_callV (a := a0) (q := (RX7, TX7, 17)) (r' := rX7_fails) (As := [.int (1 : Int32)]) (rest := []) (d1 := d) hX eX7_load_21 mm_LiftGroupModel_90 rfl t6 (by decide) rfl h rfl (Nat.le_refl _) (Nat.zero_le _) (Nat.zero_le _) (Nat.le_of_ble_eq_true rfl) (fun vz9 Mz9 qz9 => ?_) (fun Ez9 Mz9 qz9 => ?_)
      · obtain ⟨M4, eMz9⟩ : ∃ M4, M4 = Mz9 := ⟨_, rfl⟩; subst eMz9
        obtain ⟨v5, hxz9, h⟩ := qz9
        cases hxz9
        exact j_iret hX hM eX7_load_24 rfl h
      · obtain ⟨v5, hxz9, h⟩ := qz9
        cases hxz9
    · replace h := h.2 c3
      refine j_aload_n hX eX7_load_7 0 rfl ?_
      refine j_aload_n hX eX7_load_8 0 rfl ?_
      refine j_iload_n hX eX7_load_9 1 rfl ?_
      obtain ⟨t9, h⟩ := h
      refine j_callV (a := a0) (q := (RX7, TX7, 17)) (r' := rX7_loadOf) (As := [.int a1]) (rest := [.ref a0]) (d1 := d) hX eX7_load_10 mm_LiftGroupModel_81 rfl t9 (by decide) rfl h rfl (Nat.le_refl _) (Nat.zero_le _) (Nat.zero_le _) (Nat.le_of_ble_eq_true rfl) (fun vz9 Mz9 qz9 => ?_) (fun Ez9 Mz9 qz9 => ?_)
      · obtain ⟨M7, eMz9⟩ : ∃ M7, M7 = Mz9 := ⟨_, rfl⟩; subst eMz9
        obtain ⟨v8, hxz9, h⟩ := qz9
        cases hxz9
        obtain ⟨t12, h⟩ := h
        refine j_callV (a := a0) (q := (RX7, TX7, 17)) (r' := rX7_done) (As := [.int v8]) (rest := []) (d1 := d) hX eX7_load_13 mm_LiftGroupModel_97 rfl t12 (by decide) rfl h rfl (Nat.le_refl _) (Nat.zero_le _) (Nat.zero_le _) (Nat.le_of_ble_eq_true rfl) (fun vz9 Mz9 qz9 => ?_) (fun Ez9 Mz9 qz9 => ?_)
        · obtain ⟨M10, eMz9⟩ : ∃ M10, M10 = Mz9 := ⟨_, rfl⟩; subst eMz9
          obtain ⟨v11, hxz9, h⟩ := qz9
          cases hxz9
          refine j_goto hX 24 eX7_load_16 (by decide) ?_
          exact j_iret hX hM eX7_load_24 rfl h
        · obtain ⟨v11, hxz9, h⟩ := qz9
          cases hxz9
      · obtain ⟨v8, hxz9, h⟩ := qz9
        cases hxz9
  · obtain ⟨v2, hxz9, h⟩ := qz9
    cases hxz9

set_option maxHeartbeats 4000000 in
set_option maxRecDepth 20000 in
theorem vX7_passengersIn_0 {X : am_Cx} {G : am_Gx} {d : Nat} {Q : am_Q} (hX : am_ok X rX7_passengersIn G (d + 1)) (hM : am_me X rX7_passengersIn Q) {bc bs : Nat}  {a0 : Nat} {a1 : Int32} {M : am_Hp} (h : am_CT G d rX7_isCar [.int a1] M 0 0 (fun oz9 M1 => ∃ v2 : Int32, oz9 = .inl (some (.int v2)) ∧ (((v2 = 0) → (hp_T M1 (a0) = 8 ∧ (am_CT G d rX7_fails [.ref a0, .int (1 : Int32)] M1 0 0 (fun oz9 M4 => ∃ v5 : Int32, oz9 = .inl (some (.int v5)) ∧ (Q (.inl (some (.int v5))) M4))))) ∧ (¬ (v2 = 0) → (hp_T M1 (a0) = 8 ∧ (am_CT G d rX7_inside [.ref a0, .int a1] M1 0 0 (fun oz9 M7 => ∃ v8 : Int32, oz9 = .inl (some (.int v8)) ∧ (hp_T M7 (a0) = 8 ∧ (am_CT G d rX7_done [.ref a0, .int v8] M7 0 0 (fun oz9 M10 => ∃ v11 : Int32, oz9 = .inl (some (.int v11)) ∧ (Q (.inl (some (.int v11))) M10))))))))))) : am_J X 0 [(0, .ref a0), (1, .int a1)] [] M bc bs := by
  refine j_iload_n hX eX7_passengersIn_0 1 rfl ?_
  refine j_callS (r' := rX7_isCar) (As := [.int a1]) (rest := []) (d1 := d) hX eX7_passengersIn_1 mm_LiftGroupModel_119 rfl rfl h rfl (Nat.le_refl _) (Nat.zero_le _) (Nat.zero_le _) (Nat.le_of_ble_eq_true rfl) (fun vz9 Mz9 qz9 => ?_) (fun Ez9 Mz9 qz9 => ?_)
  · obtain ⟨M1, eMz9⟩ : ∃ M1, M1 = Mz9 := ⟨_, rfl⟩; subst eMz9
    obtain ⟨v2, hxz9, h⟩ := qz9
    cases hxz9
    refine j_if_eq hX 19 eX7_passengersIn_4 (by decide) (fun c3 => ?_) (fun c3 => ?_)
    · replace h := h.1 c3
      refine j_aload_n hX eX7_passengersIn_19 0 rfl ?_
      refine j_iconst (v := (1 : Int32)) hX eX7_passengersIn_20 (by decide) ?_
      obtain ⟨t6, h⟩ := h
      refine j_callV (a := a0) (q := (RX7, TX7, 17)) (r' := rX7_fails) (As := [.int (1 : Int32)]) (rest := []) (d1 := d) hX eX7_passengersIn_21 mm_LiftGroupModel_90 rfl t6 (by decide) rfl h rfl (Nat.le_refl _) (Nat.zero_le _) (Nat.zero_le _) (Nat.le_of_ble_eq_true rfl) (fun vz9 Mz9 qz9 => ?_) (fun Ez9 Mz9 qz9 => ?_)
      · obtain ⟨M4, eMz9⟩ : ∃ M4, M4 = Mz9 := ⟨_, rfl⟩; subst eMz9
        obtain ⟨v5, hxz9, h⟩ := qz9
        cases hxz9
        exact j_iret hX hM eX7_passengersIn_24 rfl h
      · obtain ⟨v5, hxz9, h⟩ := qz9
        cases hxz9
    · replace h := h.2 c3
      refine j_aload_n hX eX7_passengersIn_7 0 rfl ?_
      refine j_aload_n hX eX7_passengersIn_8 0 rfl ?_
      refine j_iload_n hX eX7_passengersIn_9 1 rfl ?_
      obtain ⟨t9, h⟩ := h
      refine j_callV (a := a0) (q := (RX7, TX7, 17)) (r' := rX7_inside) (As := [.int a1]) (rest := [.ref a0]) (d1 := d) hX eX7_passengersIn_10 mm_LiftGroupModel_74 rfl t9 (by decide) rfl h rfl (Nat.le_refl _) (Nat.zero_le _) (Nat.zero_le _) (Nat.le_of_ble_eq_true rfl) (fun vz9 Mz9 qz9 => ?_) (fun Ez9 Mz9 qz9 => ?_)
      · obtain ⟨M7, eMz9⟩ : ∃ M7, M7 = Mz9 := ⟨_, rfl⟩; subst eMz9
        obtain ⟨v8, hxz9, h⟩ := qz9
        cases hxz9
        obtain ⟨t12, h⟩ := h
        refine j_callV (a := a0) (q := (RX7, TX7, 17)) (r' := rX7_done) (As := [.int v8]) (rest := []) (d1 := d) hX eX7_passengersIn_13 mm_LiftGroupModel_97 rfl t12 (by decide) rfl h rfl (Nat.le_refl _) (Nat.zero_le _) (Nat.zero_le _) (Nat.le_of_ble_eq_true rfl) (fun vz9 Mz9 qz9 => ?_) (fun Ez9 Mz9 qz9 => ?_)
        · obtain ⟨M10, eMz9⟩ : ∃ M10, M10 = Mz9 := ⟨_, rfl⟩; subst eMz9
          obtain ⟨v11, hxz9, h⟩ := qz9
          cases hxz9
          refine j_goto hX 24 eX7_passengersIn_16 (by decide) ?_
          exact j_iret hX hM eX7_passengersIn_24 rfl h
        · obtain ⟨v11, hxz9, h⟩ := qz9
          cases hxz9
      · obtain ⟨v8, hxz9, h⟩ := qz9
        cases hxz9
  · obtain ⟨v2, hxz9, h⟩ := qz9
    cases hxz9

set_option maxHeartbeats 4000000 in
set_option maxRecDepth 20000 in
theorem vX7_assignedTo_0 {X : am_Cx} {G : am_Gx} {d : Nat} {Q : am_Q} (hX : am_ok X rX7_assignedTo G (d + 1)) (hM : am_me X rX7_assignedTo Q) {bc bs : Nat} (R17 : Nat → Int32 → Int32 → Int32 → am_Hp → Prop) (k17 : ∀ (x0 : Nat) (x1 : Int32) (x2 : Int32) (x3 : Int32) (M : am_Hp), R17 x0 x1 x2 x3 M → am_J X 17 [(0, .ref x0), (1, .int x1), (2, .int x2), (3, .int x3)] [] M bc bs) {a0 : Nat} {a1 : Int32} {M : am_Hp} (h : am_CT G d rX7_isCar [.int a1] M 0 0 (fun oz9 M1 => ∃ v2 : Int32, oz9 = .inl (some (.int v2)) ∧ (((v2 = 0) → (hp_T M1 (a0) = 8 ∧ (am_CT G d rX7_fails [.ref a0, .int (1 : Int32)] M1 0 0 (fun oz9 M4 => ∃ v5 : Int32, oz9 = .inl (some (.int v5)) ∧ (Q (.inl (some (.int v5))) M4))))) ∧ (¬ (v2 = 0) → (R17 a0 a1 (0 : Int32) (0 : Int32) M1))))) : am_J X 0 [(0, .ref a0), (1, .int a1)] [] M bc bs := by
  refine j_iload_n hX eX7_assignedTo_0 1 rfl ?_
  refine j_callS (r' := rX7_isCar) (As := [.int a1]) (rest := []) (d1 := d) hX eX7_assignedTo_1 mm_LiftGroupModel_119 rfl rfl h rfl (Nat.le_refl _) (Nat.zero_le _) (Nat.zero_le _) (Nat.le_of_ble_eq_true rfl) (fun vz9 Mz9 qz9 => ?_) (fun Ez9 Mz9 qz9 => ?_)
  · obtain ⟨M1, eMz9⟩ : ∃ M1, M1 = Mz9 := ⟨_, rfl⟩; subst eMz9
    obtain ⟨v2, hxz9, h⟩ := qz9
    cases hxz9
    refine j_if_ne hX 13 eX7_assignedTo_4 (by decide) (fun c3 => ?_) (fun c3 => ?_)
    · replace h := h.2 c3
      refine j_iconst (v := (0 : Int32)) hX eX7_assignedTo_13 (by decide) ?_
      refine j_istore_n (lv' := [(2, .int (0 : Int32)), (0, .ref a0), (1, .int a1)]) hX eX7_assignedTo_14 rfl (by decide) rfl ?_
      refine j_iconst (v := (0 : Int32)) hX eX7_assignedTo_15 (by decide) ?_
      refine j_istore_n (lv' := [(3, .int (0 : Int32)), (2, .int (0 : Int32)), (0, .ref a0), (1, .int a1)]) hX eX7_assignedTo_16 rfl (by decide) rfl ?_
      exact j_sub [2, 3, 1, 0] rfl (k17 _ _ _ _ _ h)
    · replace h := h.1 c3
      refine j_aload_n hX eX7_assignedTo_7 0 rfl ?_
      refine j_iconst (v := (1 : Int32)) hX eX7_assignedTo_8 (by decide) ?_
      obtain ⟨t6, h⟩ := h
      refine j_callV (a := a0) (q := (RX7, TX7, 17)) (r' := rX7_fails) (As := [.int (1 : Int32)]) (rest := []) (d1 := d) hX eX7_assignedTo_9 mm_LiftGroupModel_90 rfl t6 (by decide) rfl h rfl (Nat.le_refl _) (Nat.zero_le _) (Nat.zero_le _) (Nat.le_of_ble_eq_true rfl) (fun vz9 Mz9 qz9 => ?_) (fun Ez9 Mz9 qz9 => ?_)
      · obtain ⟨M4, eMz9⟩ : ∃ M4, M4 = Mz9 := ⟨_, rfl⟩; subst eMz9
        obtain ⟨v5, hxz9, h⟩ := qz9
        cases hxz9
        exact j_iret hX hM eX7_assignedTo_12 rfl h
      · obtain ⟨v5, hxz9, h⟩ := qz9
        cases hxz9
  · obtain ⟨v2, hxz9, h⟩ := qz9
    cases hxz9
set_option maxHeartbeats 4000000 in
set_option maxRecDepth 20000 in
theorem vX7_assignedTo_17 {X : am_Cx} {G : am_Gx} {d : Nat} {Q : am_Q} (hX : am_ok X rX7_assignedTo G (d + 1)) (hM : am_me X rX7_assignedTo Q) {bc bs : Nat} (R17 : Nat → Int32 → Int32 → Int32 → am_Hp → Prop) (k17 : ∀ (x0 : Nat) (x1 : Int32) (x2 : Int32) (x3 : Int32) (M : am_Hp), R17 x0 x1 x2 x3 M → am_J X 17 [(0, .ref x0), (1, .int x1), (2, .int x2), (3, .int x3)] [] M bc bs) {a0 : Nat} {a1 : Int32} {a2 : Int32} {a3 : Int32} {M : am_Hp} (h : hp_T M (a0) = 8 ∧ (hp_R M 140 a0 ≠ 0 ∧ (∀ p3 : Nat, p3 = hp_R M 140 a0 → (hp_T M (p3) = 22 ∧ (vp_in (1 : Int32) (hp_N M p3) ∧ ((((hp_E M p3 ((1 : Int32)).toNatClampNeg) ≤ a3) → (am_CT G d rX7_done [.ref a0, .int a2] M 0 0 (fun oz9 M7 => ∃ v8 : Int32, oz9 = .inl (some (.int v8)) ∧ (Q (.inl (some (.int v8))) M7)))) ∧ (¬ ((hp_E M p3 ((1 : Int32)).toNatClampNeg) ≤ a3) → (am_CT G d rX7_awaits [.ref a0, .int a3, .int a1] M 0 0 (fun oz9 M9 => ∃ v10 : Int32, oz9 = .inl (some (.int v10)) ∧ (((v10 = 0) → (∀ v12 : Int32, v12 = (a2 + (0 : Int32)) → (∀ v13 : Int32, v13 = a3 + (1 : Int32) → (R17 a0 a1 v12 v13 M9)))) ∧ (¬ (v10 = 0) → (∀ v14 : Int32, v14 = (a2 + (1 : Int32)) → (∀ v15 : Int32, v15 = a3 + (1 : Int32) → (R17 a0 a1 v14 v15 M9)))))))))))))) : am_J X 17 [(0, .ref a0), (1, .int a1), (2, .int a2), (3, .int a3)] [] M bc bs := by
  refine j_iload_n hX eX7_assignedTo_17 3 rfl ?_
  refine j_aload_n hX eX7_assignedTo_18 0 rfl ?_
  obtain ⟨t1, h⟩ := h
  obtain ⟨z2, h⟩ := h
  refine j_getR hX eX7_assignedTo_19 ff_LiftGroupModel_7 rfl t1 (by decide) z2 ?_
  refine j_nmR (fun p3 ep3 => ?_)
  replace h := h p3 ep3
  refine j_iconst (v := (1 : Int32)) hX eX7_assignedTo_22 (by decide) ?_
  obtain ⟨t4, h⟩ := h
  obtain ⟨i5, h⟩ := h
  refine j_iald hX eX7_assignedTo_23 t4 i5 ?_
  refine j_icmp_ge hX 50 eX7_assignedTo_24 (by decide) (fun c6 => ?_) (fun c6 => ?_)
  · replace h := h.1 c6
    refine j_aload_n hX eX7_assignedTo_50 0 rfl ?_
    refine j_iload_n hX eX7_assignedTo_51 2 rfl ?_
    refine j_callV (a := a0) (q := (RX7, TX7, 17)) (r' := rX7_done) (As := [.int a2]) (rest := []) (d1 := d) hX eX7_assignedTo_52 mm_LiftGroupModel_97 rfl t1 (by decide) rfl h rfl (Nat.le_refl _) (Nat.zero_le _) (Nat.zero_le _) (Nat.le_of_ble_eq_true rfl) (fun vz9 Mz9 qz9 => ?_) (fun Ez9 Mz9 qz9 => ?_)
    · obtain ⟨M7, eMz9⟩ : ∃ M7, M7 = Mz9 := ⟨_, rfl⟩; subst eMz9
      obtain ⟨v8, hxz9, h⟩ := qz9
      cases hxz9
      exact j_iret hX hM eX7_assignedTo_55 rfl h
    · obtain ⟨v8, hxz9, h⟩ := qz9
      cases hxz9
  · replace h := h.2 c6
    refine j_iload_n hX eX7_assignedTo_27 2 rfl ?_
    refine j_aload_n hX eX7_assignedTo_28 0 rfl ?_
    refine j_iload_n hX eX7_assignedTo_29 3 rfl ?_
    refine j_iload_n hX eX7_assignedTo_30 1 rfl ?_
    refine j_callV (a := a0) (q := (RX7, TX7, 17)) (r' := rX7_awaits) (As := [.int a3, .int a1]) (rest := [.int a2]) (d1 := d) hX eX7_assignedTo_31 mm_LiftGroupModel_60 rfl t1 (by decide) rfl h rfl (Nat.le_refl _) (Nat.zero_le _) (Nat.zero_le _) (Nat.le_of_ble_eq_true rfl) (fun vz9 Mz9 qz9 => ?_) (fun Ez9 Mz9 qz9 => ?_)
    · obtain ⟨M9, eMz9⟩ : ∃ M9, M9 = Mz9 := ⟨_, rfl⟩; subst eMz9
      obtain ⟨v10, hxz9, h⟩ := qz9
      cases hxz9
      refine j_if_eq hX 41 eX7_assignedTo_34 (by decide) (fun c11 => ?_) (fun c11 => ?_)
      · replace h := h.1 c11
        refine j_iconst (v := (0 : Int32)) hX eX7_assignedTo_41 (by decide) ?_
        refine j_iadd hX eX7_assignedTo_42 ?_
        refine j_nmI (fun v12 ev12 => ?_)
        replace h := h v12 ev12
        refine j_istore_n (lv' := [(2, .int v12), (0, .ref a0), (1, .int a1), (3, .int a3)]) hX eX7_assignedTo_43 rfl (by decide) rfl ?_
        obtain ⟨v13, ev13⟩ : ∃ v13 : Int32, v13 = a3 + (1 : Int32) := ⟨_, rfl⟩
        replace h := h v13 ev13
        refine j_iinc (v := v13) (lv' := [(3, .int v13), (2, .int v12), (0, .ref a0), (1, .int a1)]) hX eX7_assignedTo_44 3 rfl (by rw [ev13]; rfl) (by decide) rfl ?_
        refine j_goto hX 17 eX7_assignedTo_47 (by decide) ?_
        exact j_sub [2, 3, 1, 0] rfl (k17 _ _ _ _ _ h)
      · replace h := h.2 c11
        refine j_iconst (v := (1 : Int32)) hX eX7_assignedTo_37 (by decide) ?_
        refine j_goto hX 42 eX7_assignedTo_38 (by decide) ?_
        refine j_iadd hX eX7_assignedTo_42 ?_
        refine j_nmI (fun v14 ev14 => ?_)
        replace h := h v14 ev14
        refine j_istore_n (lv' := [(2, .int v14), (0, .ref a0), (1, .int a1), (3, .int a3)]) hX eX7_assignedTo_43 rfl (by decide) rfl ?_
        obtain ⟨v15, ev15⟩ : ∃ v15 : Int32, v15 = a3 + (1 : Int32) := ⟨_, rfl⟩
        replace h := h v15 ev15
        refine j_iinc (v := v15) (lv' := [(3, .int v15), (2, .int v14), (0, .ref a0), (1, .int a1)]) hX eX7_assignedTo_44 3 rfl (by rw [ev15]; rfl) (by decide) rfl ?_
        refine j_goto hX 17 eX7_assignedTo_47 (by decide) ?_
        exact j_sub [2, 3, 1, 0] rfl (k17 _ _ _ _ _ h)
    · obtain ⟨v10, hxz9, h⟩ := qz9
      cases hxz9

set_option maxHeartbeats 4000000 in
set_option maxRecDepth 20000 in
theorem vX7_doorSteps_0 {X : am_Cx} {G : am_Gx} {d : Nat} {Q : am_Q} (hX : am_ok X rX7_doorSteps G (d + 1)) (hM : am_me X rX7_doorSteps Q) {bc bs : Nat}  {a0 : Nat} {a1 : Int32} {M : am_Hp} (h : hp_T M (a0) = 8 ∧ (am_CT G d rX7_carNumber [.ref a0, .int (18 : Int32), .int a1] M 0 0 (fun oz9 M1 => ∃ v2 : Int32, oz9 = .inl (some (.int v2)) ∧ (Q (.inl (some (.int v2))) M1)))) : am_J X 0 [(0, .ref a0), (1, .int a1)] [] M bc bs := by
  refine j_aload_n hX eX7_doorSteps_0 0 rfl ?_
  refine j_bipush (v := (18 : Int32)) hX eX7_doorSteps_1 (by decide) ?_
  refine j_iload_n hX eX7_doorSteps_3 1 rfl ?_
  obtain ⟨t3, h⟩ := h
  refine j_callV (a := a0) (q := (RX7, TX7, 17)) (r' := rX7_carNumber) (As := [.int (18 : Int32), .int a1]) (rest := []) (d1 := d) hX eX7_doorSteps_4 mm_LiftGroupModel_162 rfl t3 (by decide) rfl h rfl (Nat.le_refl _) (Nat.zero_le _) (Nat.zero_le _) (Nat.le_of_ble_eq_true rfl) (fun vz9 Mz9 qz9 => ?_) (fun Ez9 Mz9 qz9 => ?_)
  · obtain ⟨M1, eMz9⟩ : ∃ M1, M1 = Mz9 := ⟨_, rfl⟩; subst eMz9
    obtain ⟨v2, hxz9, h⟩ := qz9
    cases hxz9
    exact j_iret hX hM eX7_doorSteps_7 rfl h
  · obtain ⟨v2, hxz9, h⟩ := qz9
    cases hxz9

set_option maxHeartbeats 4000000 in
set_option maxRecDepth 20000 in
theorem vX7_isInService_0 {X : am_Cx} {G : am_Gx} {d : Nat} {Q : am_Q} (hX : am_ok X rX7_isInService G (d + 1)) (hM : am_me X rX7_isInService Q) {bc bs : Nat}  {a0 : Nat} {a1 : Int32} {M : am_Hp} (h : am_CT G d rX7_isCar [.int a1] M 0 0 (fun oz9 M1 => ∃ v2 : Int32, oz9 = .inl (some (.int v2)) ∧ (((v2 = 0) → (hp_T M1 (a0) = 8 ∧ (∀ M5 : am_Hp, M5 = hp_sI M1 153 a0 (1 : Int32) → ((((hp_I M5 153 a0) = 0) → (hp_R M5 140 a0 ≠ 0 ∧ (∀ p9 : Nat, p9 = hp_R M5 140 a0 → (hp_T M5 (p9) = 22 ∧ (vp_in ((21 : Int32) + a1) (hp_N M5 p9) ∧ ((((hp_E M5 p9 (((21 : Int32) + a1)).toNatClampNeg) = 0) → (Q (.inl (some (.int (1 : Int32)))) M5)) ∧ (¬ ((hp_E M5 p9 (((21 : Int32) + a1)).toNatClampNeg) = 0) → (Q (.inl (some (.int (0 : Int32)))) M5)))))))) ∧ (¬ ((hp_I M5 153 a0) = 0) → (Q (.inl (some (.int (0 : Int32)))) M5)))))) ∧ (¬ (v2 = 0) → (hp_T M1 (a0) = 8 ∧ (∀ M14 : am_Hp, M14 = hp_sI M1 153 a0 (0 : Int32) → ((((hp_I M14 153 a0) = 0) → (hp_R M14 140 a0 ≠ 0 ∧ (∀ p18 : Nat, p18 = hp_R M14 140 a0 → (hp_T M14 (p18) = 22 ∧ (vp_in ((21 : Int32) + a1) (hp_N M14 p18) ∧ ((((hp_E M14 p18 (((21 : Int32) + a1)).toNatClampNeg) = 0) → (Q (.inl (some (.int (1 : Int32)))) M14)) ∧ (¬ ((hp_E M14 p18 (((21 : Int32) + a1)).toNatClampNeg) = 0) → (Q (.inl (some (.int (0 : Int32)))) M14)))))))) ∧ (¬ ((hp_I M14 153 a0) = 0) → (Q (.inl (some (.int (0 : Int32)))) M14))))))))) : am_J X 0 [(0, .ref a0), (1, .int a1)] [] M bc bs := by
  refine j_aload_n hX eX7_isInService_0 0 rfl ?_
  refine j_iload_n hX eX7_isInService_1 1 rfl ?_
  refine j_callS (r' := rX7_isCar) (As := [.int a1]) (rest := [.ref a0]) (d1 := d) hX eX7_isInService_2 mm_LiftGroupModel_119 rfl rfl h rfl (Nat.le_refl _) (Nat.zero_le _) (Nat.zero_le _) (Nat.le_of_ble_eq_true rfl) (fun vz9 Mz9 qz9 => ?_) (fun Ez9 Mz9 qz9 => ?_)
  · obtain ⟨M1, eMz9⟩ : ∃ M1, M1 = Mz9 := ⟨_, rfl⟩; subst eMz9
    obtain ⟨v2, hxz9, h⟩ := qz9
    cases hxz9
    refine j_if_eq hX 12 eX7_isInService_5 (by decide) (fun c3 => ?_) (fun c3 => ?_)
    · replace h := h.1 c3
      refine j_iconst (v := (1 : Int32)) hX eX7_isInService_12 (by decide) ?_
      obtain ⟨t4, h⟩ := h
      refine j_putI (ty := .int) hX eX7_isInService_13 ff_LiftGroupModel_42 rfl t4 (by decide) pp_7_13 rfl rfl ?_
      refine j_nmM (fun M5 eM5 => ?_)
      replace h := h M5 eM5
      have t6 : hp_T M5 (a0) = 8 := by rw [eM5]; exact t4
      refine j_aload_n hX eX7_isInService_16 0 rfl ?_
      refine j_getI hX eX7_isInService_17 ff_LiftGroupModel_42 rfl t6 (by decide) ?_
      refine j_if_ne hX 39 eX7_isInService_20 (by decide) (fun c7 => ?_) (fun c7 => ?_)
      · replace h := h.2 c7
        refine j_iconst (v := (0 : Int32)) hX eX7_isInService_39 (by decide) ?_
        exact j_zret hX hM eX7_isInService_40 rfl (by decide) h
      · replace h := h.1 c7
        refine j_aload_n hX eX7_isInService_23 0 rfl ?_
        obtain ⟨z8, h⟩ := h
        refine j_getR hX eX7_isInService_24 ff_LiftGroupModel_7 rfl t6 (by decide) z8 ?_
        refine j_nmR (fun p9 ep9 => ?_)
        replace h := h p9 ep9
        refine j_bipush (v := (21 : Int32)) hX eX7_isInService_27 (by decide) ?_
        refine j_iload_n hX eX7_isInService_29 1 rfl ?_
        refine j_iadd hX eX7_isInService_30 ?_
        obtain ⟨t10, h⟩ := h
        obtain ⟨i11, h⟩ := h
        refine j_iald hX eX7_isInService_31 t10 i11 ?_
        refine j_if_ne hX 39 eX7_isInService_32 (by decide) (fun c12 => ?_) (fun c12 => ?_)
        · replace h := h.2 c12
          refine j_iconst (v := (0 : Int32)) hX eX7_isInService_39 (by decide) ?_
          exact j_zret hX hM eX7_isInService_40 rfl (by decide) h
        · replace h := h.1 c12
          refine j_iconst (v := (1 : Int32)) hX eX7_isInService_35 (by decide) ?_
          refine j_goto hX 40 eX7_isInService_36 (by decide) ?_
          exact j_zret hX hM eX7_isInService_40 rfl (by decide) h
    · replace h := h.2 c3
      refine j_iconst (v := (0 : Int32)) hX eX7_isInService_8 (by decide) ?_
      refine j_goto hX 13 eX7_isInService_9 (by decide) ?_
      obtain ⟨t13, h⟩ := h
      refine j_putI (ty := .int) hX eX7_isInService_13 ff_LiftGroupModel_42 rfl t13 (by decide) pp_7_13 rfl rfl ?_
      refine j_nmM (fun M14 eM14 => ?_)
      replace h := h M14 eM14
      have t15 : hp_T M14 (a0) = 8 := by rw [eM14]; exact t13
      refine j_aload_n hX eX7_isInService_16 0 rfl ?_
      refine j_getI hX eX7_isInService_17 ff_LiftGroupModel_42 rfl t15 (by decide) ?_
      refine j_if_ne hX 39 eX7_isInService_20 (by decide) (fun c16 => ?_) (fun c16 => ?_)
      · replace h := h.2 c16
        refine j_iconst (v := (0 : Int32)) hX eX7_isInService_39 (by decide) ?_
        exact j_zret hX hM eX7_isInService_40 rfl (by decide) h
      · replace h := h.1 c16
        refine j_aload_n hX eX7_isInService_23 0 rfl ?_
        obtain ⟨z17, h⟩ := h
        refine j_getR hX eX7_isInService_24 ff_LiftGroupModel_7 rfl t15 (by decide) z17 ?_
        refine j_nmR (fun p18 ep18 => ?_)
        replace h := h p18 ep18
        refine j_bipush (v := (21 : Int32)) hX eX7_isInService_27 (by decide) ?_
        refine j_iload_n hX eX7_isInService_29 1 rfl ?_
        refine j_iadd hX eX7_isInService_30 ?_
        obtain ⟨t19, h⟩ := h
        obtain ⟨i20, h⟩ := h
        refine j_iald hX eX7_isInService_31 t19 i20 ?_
        refine j_if_ne hX 39 eX7_isInService_32 (by decide) (fun c21 => ?_) (fun c21 => ?_)
        · replace h := h.2 c21
          refine j_iconst (v := (0 : Int32)) hX eX7_isInService_39 (by decide) ?_
          exact j_zret hX hM eX7_isInService_40 rfl (by decide) h
        · replace h := h.1 c21
          refine j_iconst (v := (1 : Int32)) hX eX7_isInService_35 (by decide) ?_
          refine j_goto hX 40 eX7_isInService_36 (by decide) ?_
          exact j_zret hX hM eX7_isInService_40 rfl (by decide) h
  · obtain ⟨v2, hxz9, h⟩ := qz9
    cases hxz9

set_option maxHeartbeats 4000000 in
set_option maxRecDepth 20000 in
theorem vX7_energy_0 {X : am_Cx} {G : am_Gx} {d : Nat} {Q : am_Q} (hX : am_ok X rX7_energy G (d + 1)) (hM : am_me X rX7_energy Q) {bc bs : Nat}  {a0 : Nat} {a1 : Int32} {M : am_Hp} (h : hp_T M (a0) = 8 ∧ (am_CT G d rX7_carNumber [.ref a0, .int (24 : Int32), .int a1] M 0 0 (fun oz9 M1 => ∃ v2 : Int32, oz9 = .inl (some (.int v2)) ∧ (Q (.inl (some (.int v2))) M1)))) : am_J X 0 [(0, .ref a0), (1, .int a1)] [] M bc bs := by
  refine j_aload_n hX eX7_energy_0 0 rfl ?_
  refine j_bipush (v := (24 : Int32)) hX eX7_energy_1 (by decide) ?_
  refine j_iload_n hX eX7_energy_3 1 rfl ?_
  obtain ⟨t3, h⟩ := h
  refine j_callV (a := a0) (q := (RX7, TX7, 17)) (r' := rX7_carNumber) (As := [.int (24 : Int32), .int a1]) (rest := []) (d1 := d) hX eX7_energy_4 mm_LiftGroupModel_162 rfl t3 (by decide) rfl h rfl (Nat.le_refl _) (Nat.zero_le _) (Nat.zero_le _) (Nat.le_of_ble_eq_true rfl) (fun vz9 Mz9 qz9 => ?_) (fun Ez9 Mz9 qz9 => ?_)
  · obtain ⟨M1, eMz9⟩ : ∃ M1, M1 = Mz9 := ⟨_, rfl⟩; subst eMz9
    obtain ⟨v2, hxz9, h⟩ := qz9
    cases hxz9
    exact j_iret hX hM eX7_energy_7 rfl h
  · obtain ⟨v2, hxz9, h⟩ := qz9
    cases hxz9

set_option maxHeartbeats 4000000 in
set_option maxRecDepth 20000 in
theorem vX7_isStop_0 {X : am_Cx} {G : am_Gx} {d : Nat} {Q : am_Q} (hX : am_ok X rX7_isStop G (d + 1)) (hM : am_me X rX7_isStop Q) {bc bs : Nat}  {a0 : Nat} {a1 : Int32} {a2 : Int32} {M : am_Hp} (h : am_CT G d rX7_isCar [.int a1] M 0 0 (fun oz9 M1 => ∃ v2 : Int32, oz9 = .inl (some (.int v2)) ∧ (((v2 = 0) → (hp_T M1 (a0) = 8 ∧ (∀ M22 : am_Hp, M22 = hp_sI M1 153 a0 (1 : Int32) → ((((hp_I M22 153 a0) = 0) → (am_CT G d rX7_stopsAt [.ref a0, .int a1, .int a2] M22 0 0 (fun oz9 M25 => ∃ v26 : Int32, oz9 = .inl (some (.int v26)) ∧ (((v26 = 0) → (Q (.inl (some (.int (0 : Int32)))) M25)) ∧ (¬ (v26 = 0) → (Q (.inl (some (.int (1 : Int32)))) M25)))))) ∧ (¬ ((hp_I M22 153 a0) = 0) → (Q (.inl (some (.int (0 : Int32)))) M22)))))) ∧ (¬ (v2 = 0) → (am_CT G d rX7_isFloor [.int a2] M1 0 0 (fun oz9 M4 => ∃ v5 : Int32, oz9 = .inl (some (.int v5)) ∧ (((v5 = 0) → (hp_T M4 (a0) = 8 ∧ (∀ M15 : am_Hp, M15 = hp_sI M4 153 a0 (2 : Int32) → ((((hp_I M15 153 a0) = 0) → (am_CT G d rX7_stopsAt [.ref a0, .int a1, .int a2] M15 0 0 (fun oz9 M18 => ∃ v19 : Int32, oz9 = .inl (some (.int v19)) ∧ (((v19 = 0) → (Q (.inl (some (.int (0 : Int32)))) M18)) ∧ (¬ (v19 = 0) → (Q (.inl (some (.int (1 : Int32)))) M18)))))) ∧ (¬ ((hp_I M15 153 a0) = 0) → (Q (.inl (some (.int (0 : Int32)))) M15)))))) ∧ (¬ (v5 = 0) → (hp_T M4 (a0) = 8 ∧ (∀ M8 : am_Hp, M8 = hp_sI M4 153 a0 (0 : Int32) → ((((hp_I M8 153 a0) = 0) → (am_CT G d rX7_stopsAt [.ref a0, .int a1, .int a2] M8 0 0 (fun oz9 M11 => ∃ v12 : Int32, oz9 = .inl (some (.int v12)) ∧ (((v12 = 0) → (Q (.inl (some (.int (0 : Int32)))) M11)) ∧ (¬ (v12 = 0) → (Q (.inl (some (.int (1 : Int32)))) M11)))))) ∧ (¬ ((hp_I M8 153 a0) = 0) → (Q (.inl (some (.int (0 : Int32)))) M8))))))))))))) : am_J X 0 [(0, .ref a0), (1, .int a1), (2, .int a2)] [] M bc bs := by
  refine j_aload_n hX eX7_isStop_0 0 rfl ?_
  refine j_iload_n hX eX7_isStop_1 1 rfl ?_
  refine j_callS (r' := rX7_isCar) (As := [.int a1]) (rest := [.ref a0]) (d1 := d) hX eX7_isStop_2 mm_LiftGroupModel_119 rfl rfl h rfl (Nat.le_refl _) (Nat.zero_le _) (Nat.zero_le _) (Nat.le_of_ble_eq_true rfl) (fun vz9 Mz9 qz9 => ?_) (fun Ez9 Mz9 qz9 => ?_)
  · obtain ⟨M1, eMz9⟩ : ∃ M1, M1 = Mz9 := ⟨_, rfl⟩; subst eMz9
    obtain ⟨v2, hxz9, h⟩ := qz9
    cases hxz9
    refine j_if_ne hX 12 eX7_isStop_5 (by decide) (fun c3 => ?_) (fun c3 => ?_)
    · replace h := h.2 c3
      refine j_iload_n hX eX7_isStop_12 2 rfl ?_
      refine j_callS (r' := rX7_isFloor) (As := [.int a2]) (rest := [.ref a0]) (d1 := d) hX eX7_isStop_13 mm_LiftGroupModel_63 rfl rfl h rfl (Nat.le_refl _) (Nat.zero_le _) (Nat.zero_le _) (Nat.le_of_ble_eq_true rfl) (fun vz9 Mz9 qz9 => ?_) (fun Ez9 Mz9 qz9 => ?_)
      · obtain ⟨M4, eMz9⟩ : ∃ M4, M4 = Mz9 := ⟨_, rfl⟩; subst eMz9
        obtain ⟨v5, hxz9, h⟩ := qz9
        cases hxz9
        refine j_if_ne hX 23 eX7_isStop_16 (by decide) (fun c6 => ?_) (fun c6 => ?_)
        · replace h := h.2 c6
          refine j_iconst (v := (0 : Int32)) hX eX7_isStop_23 (by decide) ?_
          obtain ⟨t7, h⟩ := h
          refine j_putI (ty := .int) hX eX7_isStop_24 ff_LiftGroupModel_42 rfl t7 (by decide) pp_7_13 rfl rfl ?_
          refine j_nmM (fun M8 eM8 => ?_)
          replace h := h M8 eM8
          have t9 : hp_T M8 (a0) = 8 := by rw [eM8]; exact t7
          refine j_aload_n hX eX7_isStop_27 0 rfl ?_
          refine j_getI hX eX7_isStop_28 ff_LiftGroupModel_42 rfl t9 (by decide) ?_
          refine j_if_ne hX 47 eX7_isStop_31 (by decide) (fun c10 => ?_) (fun c10 => ?_)
          · replace h := h.2 c10
            refine j_iconst (v := (0 : Int32)) hX eX7_isStop_47 (by decide) ?_
            exact j_zret hX hM eX7_isStop_48 rfl (by decide) h
          · replace h := h.1 c10
            refine j_aload_n hX eX7_isStop_34 0 rfl ?_
            refine j_iload_n hX eX7_isStop_35 1 rfl ?_
            refine j_iload_n hX eX7_isStop_36 2 rfl ?_
            refine j_callV (a := a0) (q := (RX7, TX7, 17)) (r' := rX7_stopsAt) (As := [.int a1, .int a2]) (rest := []) (d1 := d) hX eX7_isStop_37 mm_LiftGroupModel_67 rfl t9 (by decide) rfl h rfl (Nat.le_refl _) (Nat.zero_le _) (Nat.zero_le _) (Nat.le_of_ble_eq_true rfl) (fun vz9 Mz9 qz9 => ?_) (fun Ez9 Mz9 qz9 => ?_)
            · obtain ⟨M11, eMz9⟩ : ∃ M11, M11 = Mz9 := ⟨_, rfl⟩; subst eMz9
              obtain ⟨v12, hxz9, h⟩ := qz9
              cases hxz9
              refine j_if_eq hX 47 eX7_isStop_40 (by decide) (fun c13 => ?_) (fun c13 => ?_)
              · replace h := h.1 c13
                refine j_iconst (v := (0 : Int32)) hX eX7_isStop_47 (by decide) ?_
                exact j_zret hX hM eX7_isStop_48 rfl (by decide) h
              · replace h := h.2 c13
                refine j_iconst (v := (1 : Int32)) hX eX7_isStop_43 (by decide) ?_
                refine j_goto hX 48 eX7_isStop_44 (by decide) ?_
                exact j_zret hX hM eX7_isStop_48 rfl (by decide) h
            · obtain ⟨v12, hxz9, h⟩ := qz9
              cases hxz9
        · replace h := h.1 c6
          refine j_iconst (v := (2 : Int32)) hX eX7_isStop_19 (by decide) ?_
          refine j_goto hX 24 eX7_isStop_20 (by decide) ?_
          obtain ⟨t14, h⟩ := h
          refine j_putI (ty := .int) hX eX7_isStop_24 ff_LiftGroupModel_42 rfl t14 (by decide) pp_7_13 rfl rfl ?_
          refine j_nmM (fun M15 eM15 => ?_)
          replace h := h M15 eM15
          have t16 : hp_T M15 (a0) = 8 := by rw [eM15]; exact t14
          refine j_aload_n hX eX7_isStop_27 0 rfl ?_
          refine j_getI hX eX7_isStop_28 ff_LiftGroupModel_42 rfl t16 (by decide) ?_
          refine j_if_ne hX 47 eX7_isStop_31 (by decide) (fun c17 => ?_) (fun c17 => ?_)
          · replace h := h.2 c17
            refine j_iconst (v := (0 : Int32)) hX eX7_isStop_47 (by decide) ?_
            exact j_zret hX hM eX7_isStop_48 rfl (by decide) h
          · replace h := h.1 c17
            refine j_aload_n hX eX7_isStop_34 0 rfl ?_
            refine j_iload_n hX eX7_isStop_35 1 rfl ?_
            refine j_iload_n hX eX7_isStop_36 2 rfl ?_
            refine j_callV (a := a0) (q := (RX7, TX7, 17)) (r' := rX7_stopsAt) (As := [.int a1, .int a2]) (rest := []) (d1 := d) hX eX7_isStop_37 mm_LiftGroupModel_67 rfl t16 (by decide) rfl h rfl (Nat.le_refl _) (Nat.zero_le _) (Nat.zero_le _) (Nat.le_of_ble_eq_true rfl) (fun vz9 Mz9 qz9 => ?_) (fun Ez9 Mz9 qz9 => ?_)
            · obtain ⟨M18, eMz9⟩ : ∃ M18, M18 = Mz9 := ⟨_, rfl⟩; subst eMz9
              obtain ⟨v19, hxz9, h⟩ := qz9
              cases hxz9
              refine j_if_eq hX 47 eX7_isStop_40 (by decide) (fun c20 => ?_) (fun c20 => ?_)
              · replace h := h.1 c20
                refine j_iconst (v := (0 : Int32)) hX eX7_isStop_47 (by decide) ?_
                exact j_zret hX hM eX7_isStop_48 rfl (by decide) h
              · replace h := h.2 c20
                refine j_iconst (v := (1 : Int32)) hX eX7_isStop_43 (by decide) ?_
                refine j_goto hX 48 eX7_isStop_44 (by decide) ?_
                exact j_zret hX hM eX7_isStop_48 rfl (by decide) h
            · obtain ⟨v19, hxz9, h⟩ := qz9
              cases hxz9
      · obtain ⟨v5, hxz9, h⟩ := qz9
        cases hxz9
    · replace h := h.1 c3
      refine j_iconst (v := (1 : Int32)) hX eX7_isStop_8 (by decide) ?_
      refine j_goto hX 24 eX7_isStop_9 (by decide) ?_
      obtain ⟨t21, h⟩ := h
      refine j_putI (ty := .int) hX eX7_isStop_24 ff_LiftGroupModel_42 rfl t21 (by decide) pp_7_13 rfl rfl ?_
      refine j_nmM (fun M22 eM22 => ?_)
      replace h := h M22 eM22
      have t23 : hp_T M22 (a0) = 8 := by rw [eM22]; exact t21
      refine j_aload_n hX eX7_isStop_27 0 rfl ?_
      refine j_getI hX eX7_isStop_28 ff_LiftGroupModel_42 rfl t23 (by decide) ?_
      refine j_if_ne hX 47 eX7_isStop_31 (by decide) (fun c24 => ?_) (fun c24 => ?_)
      · replace h := h.2 c24
        refine j_iconst (v := (0 : Int32)) hX eX7_isStop_47 (by decide) ?_
        exact j_zret hX hM eX7_isStop_48 rfl (by decide) h
      · replace h := h.1 c24
        refine j_aload_n hX eX7_isStop_34 0 rfl ?_
        refine j_iload_n hX eX7_isStop_35 1 rfl ?_
        refine j_iload_n hX eX7_isStop_36 2 rfl ?_
        refine j_callV (a := a0) (q := (RX7, TX7, 17)) (r' := rX7_stopsAt) (As := [.int a1, .int a2]) (rest := []) (d1 := d) hX eX7_isStop_37 mm_LiftGroupModel_67 rfl t23 (by decide) rfl h rfl (Nat.le_refl _) (Nat.zero_le _) (Nat.zero_le _) (Nat.le_of_ble_eq_true rfl) (fun vz9 Mz9 qz9 => ?_) (fun Ez9 Mz9 qz9 => ?_)
        · obtain ⟨M25, eMz9⟩ : ∃ M25, M25 = Mz9 := ⟨_, rfl⟩; subst eMz9
          obtain ⟨v26, hxz9, h⟩ := qz9
          cases hxz9
          refine j_if_eq hX 47 eX7_isStop_40 (by decide) (fun c27 => ?_) (fun c27 => ?_)
          · replace h := h.1 c27
            refine j_iconst (v := (0 : Int32)) hX eX7_isStop_47 (by decide) ?_
            exact j_zret hX hM eX7_isStop_48 rfl (by decide) h
          · replace h := h.2 c27
            refine j_iconst (v := (1 : Int32)) hX eX7_isStop_43 (by decide) ?_
            refine j_goto hX 48 eX7_isStop_44 (by decide) ?_
            exact j_zret hX hM eX7_isStop_48 rfl (by decide) h
        · obtain ⟨v26, hxz9, h⟩ := qz9
          cases hxz9
  · obtain ⟨v2, hxz9, h⟩ := qz9
    cases hxz9

set_option maxHeartbeats 4000000 in
set_option maxRecDepth 20000 in
theorem vX7_countStops_0 {X : am_Cx} {G : am_Gx} {d : Nat} {Q : am_Q} (hX : am_ok X rX7_countStops G (d + 1)) (hM : am_me X rX7_countStops Q) {bc bs : Nat} (R4 : Nat → Int32 → Int32 → Int32 → am_Hp → Prop) (k4 : ∀ (x0 : Nat) (x1 : Int32) (x2 : Int32) (x3 : Int32) (M : am_Hp), R4 x0 x1 x2 x3 M → am_J X 4 [(0, .ref x0), (1, .int x1), (2, .int x2), (3, .int x3)] [] M bc bs) {a0 : Nat} {a1 : Int32} {M : am_Hp} (h : R4 a0 a1 (0 : Int32) (0 : Int32) M) : am_J X 0 [(0, .ref a0), (1, .int a1)] [] M bc bs := by
  refine j_iconst (v := (0 : Int32)) hX eX7_countStops_0 (by decide) ?_
  refine j_istore_n (lv' := [(2, .int (0 : Int32)), (0, .ref a0), (1, .int a1)]) hX eX7_countStops_1 rfl (by decide) rfl ?_
  refine j_iconst (v := (0 : Int32)) hX eX7_countStops_2 (by decide) ?_
  refine j_istore_n (lv' := [(3, .int (0 : Int32)), (2, .int (0 : Int32)), (0, .ref a0), (1, .int a1)]) hX eX7_countStops_3 rfl (by decide) rfl ?_
  exact j_sub [2, 3, 1, 0] rfl (k4 _ _ _ _ _ h)
set_option maxHeartbeats 4000000 in
set_option maxRecDepth 20000 in
theorem vX7_countStops_4 {X : am_Cx} {G : am_Gx} {d : Nat} {Q : am_Q} (hX : am_ok X rX7_countStops G (d + 1)) (hM : am_me X rX7_countStops Q) {bc bs : Nat} (R4 : Nat → Int32 → Int32 → Int32 → am_Hp → Prop) (k4 : ∀ (x0 : Nat) (x1 : Int32) (x2 : Int32) (x3 : Int32) (M : am_Hp), R4 x0 x1 x2 x3 M → am_J X 4 [(0, .ref x0), (1, .int x1), (2, .int x2), (3, .int x3)] [] M bc bs) {a0 : Nat} {a1 : Int32} {a2 : Int32} {a3 : Int32} {M : am_Hp} (h : (((10 : Int32) ≤ a3) → (Q (.inl (some (.int a2))) M)) ∧ (¬ ((10 : Int32) ≤ a3) → (hp_T M (a0) = 8 ∧ (am_CT G d rX7_stopsAt [.ref a0, .int a1, .int a3] M 0 0 (fun oz9 M2 => ∃ v3 : Int32, oz9 = .inl (some (.int v3)) ∧ (((v3 = 0) → (∀ v6 : Int32, v6 = (a2 + (0 : Int32)) → (∀ v7 : Int32, v7 = a3 + (1 : Int32) → (R4 a0 a1 v6 v7 M2)))) ∧ (¬ (v3 = 0) → (∀ v8 : Int32, v8 = (a2 + (1 : Int32)) → (∀ v9 : Int32, v9 = a3 + (1 : Int32) → (R4 a0 a1 v8 v9 M2)))))))))) : am_J X 4 [(0, .ref a0), (1, .int a1), (2, .int a2), (3, .int a3)] [] M bc bs := by
  refine j_iload_n hX eX7_countStops_4 3 rfl ?_
  refine j_bipush (v := (10 : Int32)) hX eX7_countStops_5 (by decide) ?_
  refine j_icmp_ge hX 33 eX7_countStops_7 (by decide) (fun c1 => ?_) (fun c1 => ?_)
  · replace h := h.1 c1
    refine j_iload_n hX eX7_countStops_33 2 rfl ?_
    exact j_iret hX hM eX7_countStops_34 rfl h
  · replace h := h.2 c1
    refine j_iload_n hX eX7_countStops_10 2 rfl ?_
    refine j_aload_n hX eX7_countStops_11 0 rfl ?_
    refine j_iload_n hX eX7_countStops_12 1 rfl ?_
    refine j_iload_n hX eX7_countStops_13 3 rfl ?_
    obtain ⟨t4, h⟩ := h
    refine j_callV (a := a0) (q := (RX7, TX7, 17)) (r' := rX7_stopsAt) (As := [.int a1, .int a3]) (rest := [.int a2]) (d1 := d) hX eX7_countStops_14 mm_LiftGroupModel_67 rfl t4 (by decide) rfl h rfl (Nat.le_refl _) (Nat.zero_le _) (Nat.zero_le _) (Nat.le_of_ble_eq_true rfl) (fun vz9 Mz9 qz9 => ?_) (fun Ez9 Mz9 qz9 => ?_)
    · obtain ⟨M2, eMz9⟩ : ∃ M2, M2 = Mz9 := ⟨_, rfl⟩; subst eMz9
      obtain ⟨v3, hxz9, h⟩ := qz9
      cases hxz9
      refine j_if_eq hX 24 eX7_countStops_17 (by decide) (fun c5 => ?_) (fun c5 => ?_)
      · replace h := h.1 c5
        refine j_iconst (v := (0 : Int32)) hX eX7_countStops_24 (by decide) ?_
        refine j_iadd hX eX7_countStops_25 ?_
        refine j_nmI (fun v6 ev6 => ?_)
        replace h := h v6 ev6
        refine j_istore_n (lv' := [(2, .int v6), (0, .ref a0), (1, .int a1), (3, .int a3)]) hX eX7_countStops_26 rfl (by decide) rfl ?_
        obtain ⟨v7, ev7⟩ : ∃ v7 : Int32, v7 = a3 + (1 : Int32) := ⟨_, rfl⟩
        replace h := h v7 ev7
        refine j_iinc (v := v7) (lv' := [(3, .int v7), (2, .int v6), (0, .ref a0), (1, .int a1)]) hX eX7_countStops_27 3 rfl (by rw [ev7]; rfl) (by decide) rfl ?_
        refine j_goto hX 4 eX7_countStops_30 (by decide) ?_
        exact j_sub [2, 3, 1, 0] rfl (k4 _ _ _ _ _ h)
      · replace h := h.2 c5
        refine j_iconst (v := (1 : Int32)) hX eX7_countStops_20 (by decide) ?_
        refine j_goto hX 25 eX7_countStops_21 (by decide) ?_
        refine j_iadd hX eX7_countStops_25 ?_
        refine j_nmI (fun v8 ev8 => ?_)
        replace h := h v8 ev8
        refine j_istore_n (lv' := [(2, .int v8), (0, .ref a0), (1, .int a1), (3, .int a3)]) hX eX7_countStops_26 rfl (by decide) rfl ?_
        obtain ⟨v9, ev9⟩ : ∃ v9 : Int32, v9 = a3 + (1 : Int32) := ⟨_, rfl⟩
        replace h := h v9 ev9
        refine j_iinc (v := v9) (lv' := [(3, .int v9), (2, .int v8), (0, .ref a0), (1, .int a1)]) hX eX7_countStops_27 3 rfl (by rw [ev9]; rfl) (by decide) rfl ?_
        refine j_goto hX 4 eX7_countStops_30 (by decide) ?_
        exact j_sub [2, 3, 1, 0] rfl (k4 _ _ _ _ _ h)
    · obtain ⟨v3, hxz9, h⟩ := qz9
      cases hxz9

set_option maxHeartbeats 4000000 in
set_option maxRecDepth 20000 in
theorem vX7_stopCount_0 {X : am_Cx} {G : am_Gx} {d : Nat} {Q : am_Q} (hX : am_ok X rX7_stopCount G (d + 1)) (hM : am_me X rX7_stopCount Q) {bc bs : Nat}  {a0 : Nat} {a1 : Int32} {M : am_Hp} (h : am_CT G d rX7_isCar [.int a1] M 0 0 (fun oz9 M1 => ∃ v2 : Int32, oz9 = .inl (some (.int v2)) ∧ (((v2 = 0) → (hp_T M1 (a0) = 8 ∧ (am_CT G d rX7_fails [.ref a0, .int (1 : Int32)] M1 0 0 (fun oz9 M4 => ∃ v5 : Int32, oz9 = .inl (some (.int v5)) ∧ (Q (.inl (some (.int v5))) M4))))) ∧ (¬ (v2 = 0) → (hp_T M1 (a0) = 8 ∧ (am_CT G d rX7_countStops [.ref a0, .int a1] M1 0 0 (fun oz9 M7 => ∃ v8 : Int32, oz9 = .inl (some (.int v8)) ∧ (hp_T M7 (a0) = 8 ∧ (am_CT G d rX7_done [.ref a0, .int v8] M7 0 0 (fun oz9 M10 => ∃ v11 : Int32, oz9 = .inl (some (.int v11)) ∧ (Q (.inl (some (.int v11))) M10))))))))))) : am_J X 0 [(0, .ref a0), (1, .int a1)] [] M bc bs := by
  refine j_iload_n hX eX7_stopCount_0 1 rfl ?_
  refine j_callS (r' := rX7_isCar) (As := [.int a1]) (rest := []) (d1 := d) hX eX7_stopCount_1 mm_LiftGroupModel_119 rfl rfl h rfl (Nat.le_refl _) (Nat.zero_le _) (Nat.zero_le _) (Nat.le_of_ble_eq_true rfl) (fun vz9 Mz9 qz9 => ?_) (fun Ez9 Mz9 qz9 => ?_)
  · obtain ⟨M1, eMz9⟩ : ∃ M1, M1 = Mz9 := ⟨_, rfl⟩; subst eMz9
    obtain ⟨v2, hxz9, h⟩ := qz9
    cases hxz9
    refine j_if_eq hX 19 eX7_stopCount_4 (by decide) (fun c3 => ?_) (fun c3 => ?_)
    · replace h := h.1 c3
      refine j_aload_n hX eX7_stopCount_19 0 rfl ?_
      refine j_iconst (v := (1 : Int32)) hX eX7_stopCount_20 (by decide) ?_
      obtain ⟨t6, h⟩ := h
      refine j_callV (a := a0) (q := (RX7, TX7, 17)) (r' := rX7_fails) (As := [.int (1 : Int32)]) (rest := []) (d1 := d) hX eX7_stopCount_21 mm_LiftGroupModel_90 rfl t6 (by decide) rfl h rfl (Nat.le_refl _) (Nat.zero_le _) (Nat.zero_le _) (Nat.le_of_ble_eq_true rfl) (fun vz9 Mz9 qz9 => ?_) (fun Ez9 Mz9 qz9 => ?_)
      · obtain ⟨M4, eMz9⟩ : ∃ M4, M4 = Mz9 := ⟨_, rfl⟩; subst eMz9
        obtain ⟨v5, hxz9, h⟩ := qz9
        cases hxz9
        exact j_iret hX hM eX7_stopCount_24 rfl h
      · obtain ⟨v5, hxz9, h⟩ := qz9
        cases hxz9
    · replace h := h.2 c3
      refine j_aload_n hX eX7_stopCount_7 0 rfl ?_
      refine j_aload_n hX eX7_stopCount_8 0 rfl ?_
      refine j_iload_n hX eX7_stopCount_9 1 rfl ?_
      obtain ⟨t9, h⟩ := h
      refine j_callV (a := a0) (q := (RX7, TX7, 17)) (r' := rX7_countStops) (As := [.int a1]) (rest := [.ref a0]) (d1 := d) hX eX7_stopCount_10 mm_LiftGroupModel_165 rfl t9 (by decide) rfl h rfl (Nat.le_refl _) (Nat.zero_le _) (Nat.zero_le _) (Nat.le_of_ble_eq_true rfl) (fun vz9 Mz9 qz9 => ?_) (fun Ez9 Mz9 qz9 => ?_)
      · obtain ⟨M7, eMz9⟩ : ∃ M7, M7 = Mz9 := ⟨_, rfl⟩; subst eMz9
        obtain ⟨v8, hxz9, h⟩ := qz9
        cases hxz9
        obtain ⟨t12, h⟩ := h
        refine j_callV (a := a0) (q := (RX7, TX7, 17)) (r' := rX7_done) (As := [.int v8]) (rest := []) (d1 := d) hX eX7_stopCount_13 mm_LiftGroupModel_97 rfl t12 (by decide) rfl h rfl (Nat.le_refl _) (Nat.zero_le _) (Nat.zero_le _) (Nat.le_of_ble_eq_true rfl) (fun vz9 Mz9 qz9 => ?_) (fun Ez9 Mz9 qz9 => ?_)
        · obtain ⟨M10, eMz9⟩ : ∃ M10, M10 = Mz9 := ⟨_, rfl⟩; subst eMz9
          obtain ⟨v11, hxz9, h⟩ := qz9
          cases hxz9
          refine j_goto hX 24 eX7_stopCount_16 (by decide) ?_
          exact j_iret hX hM eX7_stopCount_24 rfl h
        · obtain ⟨v11, hxz9, h⟩ := qz9
          cases hxz9
      · obtain ⟨v8, hxz9, h⟩ := qz9
        cases hxz9
  · obtain ⟨v2, hxz9, h⟩ := qz9
    cases hxz9

set_option maxHeartbeats 4000000 in
set_option maxRecDepth 20000 in
theorem vX7_nextStop_0 {X : am_Cx} {G : am_Gx} {d : Nat} {Q : am_Q} (hX : am_ok X rX7_nextStop G (d + 1)) (hM : am_me X rX7_nextStop Q) {bc bs : Nat}  {a0 : Nat} {a1 : Int32} {M : am_Hp} (h : am_CT G d rX7_isCar [.int a1] M 0 0 (fun oz9 M1 => ∃ v2 : Int32, oz9 = .inl (some (.int v2)) ∧ (((v2 = 0) → (hp_T M1 (a0) = 8 ∧ (am_CT G d rX7_fails [.ref a0, .int (1 : Int32)] M1 0 0 (fun oz9 M32 => ∃ v33 : Int32, oz9 = .inl (some (.int v33)) ∧ (Q (.inl (some (.int v33))) M32))))) ∧ (¬ (v2 = 0) → (hp_T M1 (a0) = 8 ∧ (am_CT G d rX7_countStops [.ref a0, .int a1] M1 0 0 (fun oz9 M4 => ∃ v5 : Int32, oz9 = .inl (some (.int v5)) ∧ (((v5 = 0) → (hp_T M4 (a0) = 8 ∧ (am_CT G d rX7_fails [.ref a0, .int (2 : Int32)] M4 0 0 (fun oz9 M29 => ∃ v30 : Int32, oz9 = .inl (some (.int v30)) ∧ (Q (.inl (some (.int v30))) M29))))) ∧ (¬ (v5 = 0) → (hp_T M4 (a0) = 8 ∧ (hp_R M4 140 a0 ≠ 0 ∧ (∀ p10 : Nat, p10 = hp_R M4 140 a0 → (hp_T M4 (p10) = 22 ∧ (vp_in ((9 : Int32) + a1) (hp_N M4 p10) ∧ (∀ v13 : Int32, v13 = (hp_E M4 p10 (((9 : Int32) + a1)).toNatClampNeg) → (am_CT G d rX7_chosen [.ref a0, .int a1] M4 0 0 (fun oz9 M14 => ∃ v15 : Int32, oz9 = .inl (some (.int v15)) ∧ (hp_T M14 (a0) = 8 ∧ (am_CT G d rX7_stopsAt [.ref a0, .int a1, .int v13] M14 0 0 (fun oz9 M16 => ∃ v17 : Int32, oz9 = .inl (some (.int v17)) ∧ (((v17 = 0) → (hp_T M16 (a0) = 8 ∧ (am_CT G d rX7_nearest [.ref a0, .int a1, .int v15] M16 0 0 (fun oz9 M20 => ∃ v21 : Int32, oz9 = .inl (some (.int v21)) ∧ (hp_T M20 (a0) = 8 ∧ (am_CT G d rX7_done [.ref a0, .int (v13 + (v15 * v21))] M20 0 0 (fun oz9 M23 => ∃ v24 : Int32, oz9 = .inl (some (.int v24)) ∧ (Q (.inl (some (.int v24))) M23)))))))) ∧ (¬ (v17 = 0) → (hp_T M16 (a0) = 8 ∧ (am_CT G d rX7_done [.ref a0, .int v13] M16 0 0 (fun oz9 M26 => ∃ v27 : Int32, oz9 = .inl (some (.int v27)) ∧ (Q (.inl (some (.int v27))) M26)))))))))))))))))))))))))) : am_J X 0 [(0, .ref a0), (1, .int a1)] [] M bc bs := by
  refine j_iload_n hX eX7_nextStop_0 1 rfl ?_
  refine j_callS (r' := rX7_isCar) (As := [.int a1]) (rest := []) (d1 := d) hX eX7_nextStop_1 mm_LiftGroupModel_119 rfl rfl h rfl (Nat.le_refl _) (Nat.zero_le _) (Nat.zero_le _) (Nat.le_of_ble_eq_true rfl) (fun vz9 Mz9 qz9 => ?_) (fun Ez9 Mz9 qz9 => ?_)
  · obtain ⟨M1, eMz9⟩ : ∃ M1, M1 = Mz9 := ⟨_, rfl⟩; subst eMz9
    obtain ⟨v2, hxz9, h⟩ := qz9
    cases hxz9
    refine j_if_ne hX 13 eX7_nextStop_4 (by decide) (fun c3 => ?_) (fun c3 => ?_)
    · replace h := h.2 c3
      refine j_aload_n hX eX7_nextStop_13 0 rfl ?_
      refine j_iload_n hX eX7_nextStop_14 1 rfl ?_
      obtain ⟨t6, h⟩ := h
      refine j_callV (a := a0) (q := (RX7, TX7, 17)) (r' := rX7_countStops) (As := [.int a1]) (rest := []) (d1 := d) hX eX7_nextStop_15 mm_LiftGroupModel_165 rfl t6 (by decide) rfl h rfl (Nat.le_refl _) (Nat.zero_le _) (Nat.zero_le _) (Nat.le_of_ble_eq_true rfl) (fun vz9 Mz9 qz9 => ?_) (fun Ez9 Mz9 qz9 => ?_)
      · obtain ⟨M4, eMz9⟩ : ∃ M4, M4 = Mz9 := ⟨_, rfl⟩; subst eMz9
        obtain ⟨v5, hxz9, h⟩ := qz9
        cases hxz9
        refine j_if_ne hX 27 eX7_nextStop_18 (by decide) (fun c7 => ?_) (fun c7 => ?_)
        · replace h := h.2 c7
          refine j_aload_n hX eX7_nextStop_27 0 rfl ?_
          obtain ⟨t8, h⟩ := h
          obtain ⟨z9, h⟩ := h
          refine j_getR hX eX7_nextStop_28 ff_LiftGroupModel_7 rfl t8 (by decide) z9 ?_
          refine j_nmR (fun p10 ep10 => ?_)
          replace h := h p10 ep10
          refine j_bipush (v := (9 : Int32)) hX eX7_nextStop_31 (by decide) ?_
          refine j_iload_n hX eX7_nextStop_33 1 rfl ?_
          refine j_iadd hX eX7_nextStop_34 ?_
          obtain ⟨t11, h⟩ := h
          obtain ⟨i12, h⟩ := h
          refine j_iald hX eX7_nextStop_35 t11 i12 ?_
          refine j_nmI (fun v13 ev13 => ?_)
          replace h := h v13 ev13
          refine j_istore_n (lv' := [(2, .int v13), (0, .ref a0), (1, .int a1)]) hX eX7_nextStop_36 rfl (by decide) rfl ?_
          refine j_aload_n hX eX7_nextStop_37 1 rfl ?_
          refine j_iload_n hX eX7_nextStop_38 2 rfl ?_
          refine j_callV (a := a0) (q := (RX7, TX7, 17)) (r' := rX7_chosen) (As := [.int a1]) (rest := []) (d1 := d) hX eX7_nextStop_39 mm_LiftGroupModel_141 rfl t8 (by decide) rfl h rfl (Nat.le_refl _) (Nat.zero_le _) (Nat.zero_le _) (Nat.le_of_ble_eq_true rfl) (fun vz9 Mz9 qz9 => ?_) (fun Ez9 Mz9 qz9 => ?_)
          · obtain ⟨M14, eMz9⟩ : ∃ M14, M14 = Mz9 := ⟨_, rfl⟩; subst eMz9
            obtain ⟨v15, hxz9, h⟩ := qz9
            cases hxz9
            refine j_istore_n (lv' := [(3, .int v15), (2, .int v13), (0, .ref a0), (1, .int a1)]) hX eX7_nextStop_42 rfl (by decide) rfl ?_
            refine j_aload_n hX eX7_nextStop_43 2 rfl ?_
            refine j_aload_n hX eX7_nextStop_44 2 rfl ?_
            refine j_iload_n hX eX7_nextStop_45 3 rfl ?_
            refine j_iload_n hX eX7_nextStop_46 1 rfl ?_
            obtain ⟨t18, h⟩ := h
            refine j_callV (a := a0) (q := (RX7, TX7, 17)) (r' := rX7_stopsAt) (As := [.int a1, .int v13]) (rest := [.ref a0]) (d1 := d) hX eX7_nextStop_47 mm_LiftGroupModel_67 rfl t18 (by decide) rfl h rfl (Nat.le_refl _) (Nat.zero_le _) (Nat.zero_le _) (Nat.le_of_ble_eq_true rfl) (fun vz9 Mz9 qz9 => ?_) (fun Ez9 Mz9 qz9 => ?_)
            · obtain ⟨M16, eMz9⟩ : ∃ M16, M16 = Mz9 := ⟨_, rfl⟩; subst eMz9
              obtain ⟨v17, hxz9, h⟩ := qz9
              cases hxz9
              refine j_if_eq hX 57 eX7_nextStop_50 (by decide) (fun c19 => ?_) (fun c19 => ?_)
              · replace h := h.1 c19
                refine j_iload_n hX eX7_nextStop_57 1 rfl ?_
                refine j_iload_n hX eX7_nextStop_58 0 rfl ?_
                refine j_aload_n hX eX7_nextStop_59 2 rfl ?_
                refine j_iload_n hX eX7_nextStop_60 3 rfl ?_
                refine j_iload_n hX eX7_nextStop_61 0 rfl ?_
                obtain ⟨t22, h⟩ := h
                refine j_callV (a := a0) (q := (RX7, TX7, 17)) (r' := rX7_nearest) (As := [.int a1, .int v15]) (rest := [.int v15, .int v13, .ref a0]) (d1 := d) hX eX7_nextStop_62 mm_LiftGroupModel_138 rfl t22 (by decide) rfl h rfl (Nat.le_refl _) (Nat.zero_le _) (Nat.zero_le _) (Nat.le_of_ble_eq_true rfl) (fun vz9 Mz9 qz9 => ?_) (fun Ez9 Mz9 qz9 => ?_)
                · obtain ⟨M20, eMz9⟩ : ∃ M20, M20 = Mz9 := ⟨_, rfl⟩; subst eMz9
                  obtain ⟨v21, hxz9, h⟩ := qz9
                  cases hxz9
                  refine j_imul hX eX7_nextStop_65 ?_
                  refine j_iadd hX eX7_nextStop_66 ?_
                  obtain ⟨t25, h⟩ := h
                  refine j_callV (a := a0) (q := (RX7, TX7, 17)) (r' := rX7_done) (As := [.int (v13 + (v15 * v21))]) (rest := []) (d1 := d) hX eX7_nextStop_67 mm_LiftGroupModel_97 rfl t25 (by decide) rfl h rfl (Nat.le_refl _) (Nat.zero_le _) (Nat.zero_le _) (Nat.le_of_ble_eq_true rfl) (fun vz9 Mz9 qz9 => ?_) (fun Ez9 Mz9 qz9 => ?_)
                  · obtain ⟨M23, eMz9⟩ : ∃ M23, M23 = Mz9 := ⟨_, rfl⟩; subst eMz9
                    obtain ⟨v24, hxz9, h⟩ := qz9
                    cases hxz9
                    exact j_iret hX hM eX7_nextStop_70 rfl h
                  · obtain ⟨v24, hxz9, h⟩ := qz9
                    cases hxz9
                · obtain ⟨v21, hxz9, h⟩ := qz9
                  cases hxz9
              · replace h := h.2 c19
                refine j_iload_n hX eX7_nextStop_53 1 rfl ?_
                refine j_goto hX 67 eX7_nextStop_54 (by decide) ?_
                obtain ⟨t28, h⟩ := h
                refine j_callV (a := a0) (q := (RX7, TX7, 17)) (r' := rX7_done) (As := [.int v13]) (rest := []) (d1 := d) hX eX7_nextStop_67 mm_LiftGroupModel_97 rfl t28 (by decide) rfl h rfl (Nat.le_refl _) (Nat.zero_le _) (Nat.zero_le _) (Nat.le_of_ble_eq_true rfl) (fun vz9 Mz9 qz9 => ?_) (fun Ez9 Mz9 qz9 => ?_)
                · obtain ⟨M26, eMz9⟩ : ∃ M26, M26 = Mz9 := ⟨_, rfl⟩; subst eMz9
                  obtain ⟨v27, hxz9, h⟩ := qz9
                  cases hxz9
                  exact j_iret hX hM eX7_nextStop_70 rfl h
                · obtain ⟨v27, hxz9, h⟩ := qz9
                  cases hxz9
            · obtain ⟨v17, hxz9, h⟩ := qz9
              cases hxz9
          · obtain ⟨v15, hxz9, h⟩ := qz9
            cases hxz9
        · replace h := h.1 c7
          refine j_aload_n hX eX7_nextStop_21 0 rfl ?_
          refine j_iconst (v := (2 : Int32)) hX eX7_nextStop_22 (by decide) ?_
          obtain ⟨t31, h⟩ := h
          refine j_callV (a := a0) (q := (RX7, TX7, 17)) (r' := rX7_fails) (As := [.int (2 : Int32)]) (rest := []) (d1 := d) hX eX7_nextStop_23 mm_LiftGroupModel_90 rfl t31 (by decide) rfl h rfl (Nat.le_refl _) (Nat.zero_le _) (Nat.zero_le _) (Nat.le_of_ble_eq_true rfl) (fun vz9 Mz9 qz9 => ?_) (fun Ez9 Mz9 qz9 => ?_)
          · obtain ⟨M29, eMz9⟩ : ∃ M29, M29 = Mz9 := ⟨_, rfl⟩; subst eMz9
            obtain ⟨v30, hxz9, h⟩ := qz9
            cases hxz9
            exact j_iret hX hM eX7_nextStop_26 rfl h
          · obtain ⟨v30, hxz9, h⟩ := qz9
            cases hxz9
      · obtain ⟨v5, hxz9, h⟩ := qz9
        cases hxz9
    · replace h := h.1 c3
      refine j_aload_n hX eX7_nextStop_7 0 rfl ?_
      refine j_iconst (v := (1 : Int32)) hX eX7_nextStop_8 (by decide) ?_
      obtain ⟨t34, h⟩ := h
      refine j_callV (a := a0) (q := (RX7, TX7, 17)) (r' := rX7_fails) (As := [.int (1 : Int32)]) (rest := []) (d1 := d) hX eX7_nextStop_9 mm_LiftGroupModel_90 rfl t34 (by decide) rfl h rfl (Nat.le_refl _) (Nat.zero_le _) (Nat.zero_le _) (Nat.le_of_ble_eq_true rfl) (fun vz9 Mz9 qz9 => ?_) (fun Ez9 Mz9 qz9 => ?_)
      · obtain ⟨M32, eMz9⟩ : ∃ M32, M32 = Mz9 := ⟨_, rfl⟩; subst eMz9
        obtain ⟨v33, hxz9, h⟩ := qz9
        cases hxz9
        exact j_iret hX hM eX7_nextStop_12 rfl h
      · obtain ⟨v33, hxz9, h⟩ := qz9
        cases hxz9
  · obtain ⟨v2, hxz9, h⟩ := qz9
    cases hxz9

set_option maxHeartbeats 4000000 in
set_option maxRecDepth 20000 in
theorem vX7_passengerCount_0 {X : am_Cx} {G : am_Gx} {d : Nat} {Q : am_Q} (hX : am_ok X rX7_passengerCount G (d + 1)) (hM : am_me X rX7_passengerCount Q) {bc bs : Nat}  {a0 : Nat} {M : am_Hp} (h : hp_T M (a0) = 8 ∧ (hp_R M 140 a0 ≠ 0 ∧ (∀ p3 : Nat, p3 = hp_R M 140 a0 → (hp_T M (p3) = 22 ∧ (vp_in (1 : Int32) (hp_N M p3) ∧ (am_CT G d rX7_done [.ref a0, .int (hp_E M p3 ((1 : Int32)).toNatClampNeg)] M 0 0 (fun oz9 M6 => ∃ v7 : Int32, oz9 = .inl (some (.int v7)) ∧ (Q (.inl (some (.int v7))) M6)))))))) : am_J X 0 [(0, .ref a0)] [] M bc bs := by
  refine j_aload_n hX eX7_passengerCount_0 0 rfl ?_
  refine j_aload_n hX eX7_passengerCount_1 0 rfl ?_
  obtain ⟨t1, h⟩ := h
  obtain ⟨z2, h⟩ := h
  refine j_getR hX eX7_passengerCount_2 ff_LiftGroupModel_7 rfl t1 (by decide) z2 ?_
  refine j_nmR (fun p3 ep3 => ?_)
  replace h := h p3 ep3
  refine j_iconst (v := (1 : Int32)) hX eX7_passengerCount_5 (by decide) ?_
  obtain ⟨t4, h⟩ := h
  obtain ⟨i5, h⟩ := h
  refine j_iald hX eX7_passengerCount_6 t4 i5 ?_
  refine j_callV (a := a0) (q := (RX7, TX7, 17)) (r' := rX7_done) (As := [.int (hp_E M p3 ((1 : Int32)).toNatClampNeg)]) (rest := []) (d1 := d) hX eX7_passengerCount_7 mm_LiftGroupModel_97 rfl t1 (by decide) rfl h rfl (Nat.le_refl _) (Nat.zero_le _) (Nat.zero_le _) (Nat.le_of_ble_eq_true rfl) (fun vz9 Mz9 qz9 => ?_) (fun Ez9 Mz9 qz9 => ?_)
  · obtain ⟨M6, eMz9⟩ : ∃ M6, M6 = Mz9 := ⟨_, rfl⟩; subst eMz9
    obtain ⟨v7, hxz9, h⟩ := qz9
    cases hxz9
    exact j_iret hX hM eX7_passengerCount_10 rfl h
  · obtain ⟨v7, hxz9, h⟩ := qz9
    cases hxz9

set_option maxHeartbeats 4000000 in
set_option maxRecDepth 20000 in
theorem vX7_passengerNumber_0 {X : am_Cx} {G : am_Gx} {d : Nat} {Q : am_Q} (hX : am_ok X rX7_passengerNumber G (d + 1)) (hM : am_me X rX7_passengerNumber Q) {bc bs : Nat}  {a0 : Nat} {a1 : Int32} {a2 : Int32} {M : am_Hp} (h : hp_T M (a0) = 8 ∧ (am_CT G d rX7_isPassenger [.ref a0, .int a2] M 0 0 (fun oz9 M1 => ∃ v2 : Int32, oz9 = .inl (some (.int v2)) ∧ (((v2 = 0) → (hp_T M1 (a0) = 8 ∧ (am_CT G d rX7_fails [.ref a0, .int (1 : Int32)] M1 0 0 (fun oz9 M5 => ∃ v6 : Int32, oz9 = .inl (some (.int v6)) ∧ (Q (.inl (some (.int v6))) M5))))) ∧ (¬ (v2 = 0) → (hp_T M1 (a0) = 8 ∧ (hp_R M1 140 a0 ≠ 0 ∧ (∀ p10 : Nat, p10 = hp_R M1 140 a0 → (hp_T M1 (p10) = 22 ∧ (vp_in (a1 + a2) (hp_N M1 p10) ∧ (am_CT G d rX7_done [.ref a0, .int (hp_E M1 p10 ((a1 + a2)).toNatClampNeg)] M1 0 0 (fun oz9 M13 => ∃ v14 : Int32, oz9 = .inl (some (.int v14)) ∧ (Q (.inl (some (.int v14))) M13))))))))))))) : am_J X 0 [(0, .ref a0), (1, .int a1), (2, .int a2)] [] M bc bs := by
  refine j_aload_n hX eX7_passengerNumber_0 0 rfl ?_
  refine j_iload_n hX eX7_passengerNumber_1 2 rfl ?_
  obtain ⟨t3, h⟩ := h
  refine j_callV (a := a0) (q := (RX7, TX7, 17)) (r' := rX7_isPassenger) (As := [.int a2]) (rest := []) (d1 := d) hX eX7_passengerNumber_2 mm_LiftGroupModel_110 rfl t3 (by decide) rfl h rfl (Nat.le_refl _) (Nat.zero_le _) (Nat.zero_le _) (Nat.le_of_ble_eq_true rfl) (fun vz9 Mz9 qz9 => ?_) (fun Ez9 Mz9 qz9 => ?_)
  · obtain ⟨M1, eMz9⟩ : ∃ M1, M1 = Mz9 := ⟨_, rfl⟩; subst eMz9
    obtain ⟨v2, hxz9, h⟩ := qz9
    cases hxz9
    refine j_if_eq hX 23 eX7_passengerNumber_5 (by decide) (fun c4 => ?_) (fun c4 => ?_)
    · replace h := h.1 c4
      refine j_aload_n hX eX7_passengerNumber_23 0 rfl ?_
      refine j_iconst (v := (1 : Int32)) hX eX7_passengerNumber_24 (by decide) ?_
      obtain ⟨t7, h⟩ := h
      refine j_callV (a := a0) (q := (RX7, TX7, 17)) (r' := rX7_fails) (As := [.int (1 : Int32)]) (rest := []) (d1 := d) hX eX7_passengerNumber_25 mm_LiftGroupModel_90 rfl t7 (by decide) rfl h rfl (Nat.le_refl _) (Nat.zero_le _) (Nat.zero_le _) (Nat.le_of_ble_eq_true rfl) (fun vz9 Mz9 qz9 => ?_) (fun Ez9 Mz9 qz9 => ?_)
      · obtain ⟨M5, eMz9⟩ : ∃ M5, M5 = Mz9 := ⟨_, rfl⟩; subst eMz9
        obtain ⟨v6, hxz9, h⟩ := qz9
        cases hxz9
        exact j_iret hX hM eX7_passengerNumber_28 rfl h
      · obtain ⟨v6, hxz9, h⟩ := qz9
        cases hxz9
    · replace h := h.2 c4
      refine j_aload_n hX eX7_passengerNumber_8 0 rfl ?_
      refine j_aload_n hX eX7_passengerNumber_9 0 rfl ?_
      obtain ⟨t8, h⟩ := h
      obtain ⟨z9, h⟩ := h
      refine j_getR hX eX7_passengerNumber_10 ff_LiftGroupModel_7 rfl t8 (by decide) z9 ?_
      refine j_nmR (fun p10 ep10 => ?_)
      replace h := h p10 ep10
      refine j_iload_n hX eX7_passengerNumber_13 1 rfl ?_
      refine j_iload_n hX eX7_passengerNumber_14 2 rfl ?_
      refine j_iadd hX eX7_passengerNumber_15 ?_
      obtain ⟨t11, h⟩ := h
      obtain ⟨i12, h⟩ := h
      refine j_iald hX eX7_passengerNumber_16 t11 i12 ?_
      refine j_callV (a := a0) (q := (RX7, TX7, 17)) (r' := rX7_done) (As := [.int (hp_E M1 p10 ((a1 + a2)).toNatClampNeg)]) (rest := []) (d1 := d) hX eX7_passengerNumber_17 mm_LiftGroupModel_97 rfl t8 (by decide) rfl h rfl (Nat.le_refl _) (Nat.zero_le _) (Nat.zero_le _) (Nat.le_of_ble_eq_true rfl) (fun vz9 Mz9 qz9 => ?_) (fun Ez9 Mz9 qz9 => ?_)
      · obtain ⟨M13, eMz9⟩ : ∃ M13, M13 = Mz9 := ⟨_, rfl⟩; subst eMz9
        obtain ⟨v14, hxz9, h⟩ := qz9
        cases hxz9
        refine j_goto hX 28 eX7_passengerNumber_20 (by decide) ?_
        exact j_iret hX hM eX7_passengerNumber_28 rfl h
      · obtain ⟨v14, hxz9, h⟩ := qz9
        cases hxz9
  · obtain ⟨v2, hxz9, h⟩ := qz9
    cases hxz9

set_option maxHeartbeats 4000000 in
set_option maxRecDepth 20000 in
theorem vX7_number_0 {X : am_Cx} {G : am_Gx} {d : Nat} {Q : am_Q} (hX : am_ok X rX7_number G (d + 1)) (hM : am_me X rX7_number Q) {bc bs : Nat}  {a0 : Nat} {a1 : Int32} {M : am_Hp} (h : hp_T M (a0) = 8 ∧ (am_CT G d rX7_passengerNumber [.ref a0, .int (27 : Int32), .int a1] M 0 0 (fun oz9 M1 => ∃ v2 : Int32, oz9 = .inl (some (.int v2)) ∧ (Q (.inl (some (.int v2))) M1)))) : am_J X 0 [(0, .ref a0), (1, .int a1)] [] M bc bs := by
  refine j_aload_n hX eX7_number_0 0 rfl ?_
  refine j_bipush (v := (27 : Int32)) hX eX7_number_1 (by decide) ?_
  refine j_iload_n hX eX7_number_3 1 rfl ?_
  obtain ⟨t3, h⟩ := h
  refine j_callV (a := a0) (q := (RX7, TX7, 17)) (r' := rX7_passengerNumber) (As := [.int (27 : Int32), .int a1]) (rest := []) (d1 := d) hX eX7_number_4 mm_LiftGroupModel_168 rfl t3 (by decide) rfl h rfl (Nat.le_refl _) (Nat.zero_le _) (Nat.zero_le _) (Nat.le_of_ble_eq_true rfl) (fun vz9 Mz9 qz9 => ?_) (fun Ez9 Mz9 qz9 => ?_)
  · obtain ⟨M1, eMz9⟩ : ∃ M1, M1 = Mz9 := ⟨_, rfl⟩; subst eMz9
    obtain ⟨v2, hxz9, h⟩ := qz9
    cases hxz9
    exact j_iret hX hM eX7_number_7 rfl h
  · obtain ⟨v2, hxz9, h⟩ := qz9
    cases hxz9

set_option maxHeartbeats 4000000 in
set_option maxRecDepth 20000 in
theorem vX7_start_0 {X : am_Cx} {G : am_Gx} {d : Nat} {Q : am_Q} (hX : am_ok X rX7_start G (d + 1)) (hM : am_me X rX7_start Q) {bc bs : Nat}  {a0 : Nat} {a1 : Int32} {M : am_Hp} (h : hp_T M (a0) = 8 ∧ (am_CT G d rX7_passengerNumber [.ref a0, .int (39 : Int32), .int a1] M 0 0 (fun oz9 M1 => ∃ v2 : Int32, oz9 = .inl (some (.int v2)) ∧ (Q (.inl (some (.int v2))) M1)))) : am_J X 0 [(0, .ref a0), (1, .int a1)] [] M bc bs := by
  refine j_aload_n hX eX7_start_0 0 rfl ?_
  refine j_bipush (v := (39 : Int32)) hX eX7_start_1 (by decide) ?_
  refine j_iload_n hX eX7_start_3 1 rfl ?_
  obtain ⟨t3, h⟩ := h
  refine j_callV (a := a0) (q := (RX7, TX7, 17)) (r' := rX7_passengerNumber) (As := [.int (39 : Int32), .int a1]) (rest := []) (d1 := d) hX eX7_start_4 mm_LiftGroupModel_168 rfl t3 (by decide) rfl h rfl (Nat.le_refl _) (Nat.zero_le _) (Nat.zero_le _) (Nat.le_of_ble_eq_true rfl) (fun vz9 Mz9 qz9 => ?_) (fun Ez9 Mz9 qz9 => ?_)
  · obtain ⟨M1, eMz9⟩ : ∃ M1, M1 = Mz9 := ⟨_, rfl⟩; subst eMz9
    obtain ⟨v2, hxz9, h⟩ := qz9
    cases hxz9
    exact j_iret hX hM eX7_start_7 rfl h
  · obtain ⟨v2, hxz9, h⟩ := qz9
    cases hxz9

set_option maxHeartbeats 4000000 in
set_option maxRecDepth 20000 in
theorem vX7_destination_0 {X : am_Cx} {G : am_Gx} {d : Nat} {Q : am_Q} (hX : am_ok X rX7_destination G (d + 1)) (hM : am_me X rX7_destination Q) {bc bs : Nat}  {a0 : Nat} {a1 : Int32} {M : am_Hp} (h : hp_T M (a0) = 8 ∧ (am_CT G d rX7_passengerNumber [.ref a0, .int (51 : Int32), .int a1] M 0 0 (fun oz9 M1 => ∃ v2 : Int32, oz9 = .inl (some (.int v2)) ∧ (Q (.inl (some (.int v2))) M1)))) : am_J X 0 [(0, .ref a0), (1, .int a1)] [] M bc bs := by
  refine j_aload_n hX eX7_destination_0 0 rfl ?_
  refine j_bipush (v := (51 : Int32)) hX eX7_destination_1 (by decide) ?_
  refine j_iload_n hX eX7_destination_3 1 rfl ?_
  obtain ⟨t3, h⟩ := h
  refine j_callV (a := a0) (q := (RX7, TX7, 17)) (r' := rX7_passengerNumber) (As := [.int (51 : Int32), .int a1]) (rest := []) (d1 := d) hX eX7_destination_4 mm_LiftGroupModel_168 rfl t3 (by decide) rfl h rfl (Nat.le_refl _) (Nat.zero_le _) (Nat.zero_le _) (Nat.le_of_ble_eq_true rfl) (fun vz9 Mz9 qz9 => ?_) (fun Ez9 Mz9 qz9 => ?_)
  · obtain ⟨M1, eMz9⟩ : ∃ M1, M1 = Mz9 := ⟨_, rfl⟩; subst eMz9
    obtain ⟨v2, hxz9, h⟩ := qz9
    cases hxz9
    exact j_iret hX hM eX7_destination_7 rfl h
  · obtain ⟨v2, hxz9, h⟩ := qz9
    cases hxz9

set_option maxHeartbeats 4000000 in
set_option maxRecDepth 20000 in
theorem vX7_weight_0 {X : am_Cx} {G : am_Gx} {d : Nat} {Q : am_Q} (hX : am_ok X rX7_weight G (d + 1)) (hM : am_me X rX7_weight Q) {bc bs : Nat}  {a0 : Nat} {a1 : Int32} {M : am_Hp} (h : hp_T M (a0) = 8 ∧ (am_CT G d rX7_passengerNumber [.ref a0, .int (63 : Int32), .int a1] M 0 0 (fun oz9 M1 => ∃ v2 : Int32, oz9 = .inl (some (.int v2)) ∧ (Q (.inl (some (.int v2))) M1)))) : am_J X 0 [(0, .ref a0), (1, .int a1)] [] M bc bs := by
  refine j_aload_n hX eX7_weight_0 0 rfl ?_
  refine j_bipush (v := (63 : Int32)) hX eX7_weight_1 (by decide) ?_
  refine j_iload_n hX eX7_weight_3 1 rfl ?_
  obtain ⟨t3, h⟩ := h
  refine j_callV (a := a0) (q := (RX7, TX7, 17)) (r' := rX7_passengerNumber) (As := [.int (63 : Int32), .int a1]) (rest := []) (d1 := d) hX eX7_weight_4 mm_LiftGroupModel_168 rfl t3 (by decide) rfl h rfl (Nat.le_refl _) (Nat.zero_le _) (Nat.zero_le _) (Nat.le_of_ble_eq_true rfl) (fun vz9 Mz9 qz9 => ?_) (fun Ez9 Mz9 qz9 => ?_)
  · obtain ⟨M1, eMz9⟩ : ∃ M1, M1 = Mz9 := ⟨_, rfl⟩; subst eMz9
    obtain ⟨v2, hxz9, h⟩ := qz9
    cases hxz9
    exact j_iret hX hM eX7_weight_7 rfl h
  · obtain ⟨v2, hxz9, h⟩ := qz9
    cases hxz9

set_option maxHeartbeats 4000000 in
set_option maxRecDepth 20000 in
theorem vX7_waitingTime_0 {X : am_Cx} {G : am_Gx} {d : Nat} {Q : am_Q} (hX : am_ok X rX7_waitingTime G (d + 1)) (hM : am_me X rX7_waitingTime Q) {bc bs : Nat}  {a0 : Nat} {a1 : Int32} {M : am_Hp} (h : hp_T M (a0) = 8 ∧ (am_CT G d rX7_passengerNumber [.ref a0, .int (75 : Int32), .int a1] M 0 0 (fun oz9 M1 => ∃ v2 : Int32, oz9 = .inl (some (.int v2)) ∧ (Q (.inl (some (.int v2))) M1)))) : am_J X 0 [(0, .ref a0), (1, .int a1)] [] M bc bs := by
  refine j_aload_n hX eX7_waitingTime_0 0 rfl ?_
  refine j_bipush (v := (75 : Int32)) hX eX7_waitingTime_1 (by decide) ?_
  refine j_iload_n hX eX7_waitingTime_3 1 rfl ?_
  obtain ⟨t3, h⟩ := h
  refine j_callV (a := a0) (q := (RX7, TX7, 17)) (r' := rX7_passengerNumber) (As := [.int (75 : Int32), .int a1]) (rest := []) (d1 := d) hX eX7_waitingTime_4 mm_LiftGroupModel_168 rfl t3 (by decide) rfl h rfl (Nat.le_refl _) (Nat.zero_le _) (Nat.zero_le _) (Nat.le_of_ble_eq_true rfl) (fun vz9 Mz9 qz9 => ?_) (fun Ez9 Mz9 qz9 => ?_)
  · obtain ⟨M1, eMz9⟩ : ∃ M1, M1 = Mz9 := ⟨_, rfl⟩; subst eMz9
    obtain ⟨v2, hxz9, h⟩ := qz9
    cases hxz9
    exact j_iret hX hM eX7_waitingTime_7 rfl h
  · obtain ⟨v2, hxz9, h⟩ := qz9
    cases hxz9

set_option maxHeartbeats 4000000 in
set_option maxRecDepth 20000 in
theorem vX7_isInCar_0 {X : am_Cx} {G : am_Gx} {d : Nat} {Q : am_Q} (hX : am_ok X rX7_isInCar G (d + 1)) (hM : am_me X rX7_isInCar Q) {bc bs : Nat}  {a0 : Nat} {a1 : Int32} {M : am_Hp} (h : hp_T M (a0) = 8 ∧ (am_CT G d rX7_passengerNumber [.ref a0, .int (99 : Int32), .int a1] M 0 0 (fun oz9 M1 => ∃ v2 : Int32, oz9 = .inl (some (.int v2)) ∧ (((v2 = (1 : Int32)) → (Q (.inl (some (.int (1 : Int32)))) M1)) ∧ (¬ (v2 = (1 : Int32)) → (Q (.inl (some (.int (0 : Int32)))) M1)))))) : am_J X 0 [(0, .ref a0), (1, .int a1)] [] M bc bs := by
  refine j_aload_n hX eX7_isInCar_0 0 rfl ?_
  refine j_bipush (v := (99 : Int32)) hX eX7_isInCar_1 (by decide) ?_
  refine j_iload_n hX eX7_isInCar_3 1 rfl ?_
  obtain ⟨t3, h⟩ := h
  refine j_callV (a := a0) (q := (RX7, TX7, 17)) (r' := rX7_passengerNumber) (As := [.int (99 : Int32), .int a1]) (rest := []) (d1 := d) hX eX7_isInCar_4 mm_LiftGroupModel_168 rfl t3 (by decide) rfl h rfl (Nat.le_refl _) (Nat.zero_le _) (Nat.zero_le _) (Nat.le_of_ble_eq_true rfl) (fun vz9 Mz9 qz9 => ?_) (fun Ez9 Mz9 qz9 => ?_)
  · obtain ⟨M1, eMz9⟩ : ∃ M1, M1 = Mz9 := ⟨_, rfl⟩; subst eMz9
    obtain ⟨v2, hxz9, h⟩ := qz9
    cases hxz9
    refine j_iconst (v := (1 : Int32)) hX eX7_isInCar_7 (by decide) ?_
    refine j_icmp_ne hX 15 eX7_isInCar_8 (by decide) (fun c4 => ?_) (fun c4 => ?_)
    · replace h := h.2 c4
      refine j_iconst (v := (0 : Int32)) hX eX7_isInCar_15 (by decide) ?_
      exact j_zret hX hM eX7_isInCar_16 rfl (by decide) h
    · replace h := h.1 c4
      refine j_iconst (v := (1 : Int32)) hX eX7_isInCar_11 (by decide) ?_
      refine j_goto hX 16 eX7_isInCar_12 (by decide) ?_
      exact j_zret hX hM eX7_isInCar_16 rfl (by decide) h
  · obtain ⟨v2, hxz9, h⟩ := qz9
    cases hxz9

set_option maxHeartbeats 4000000 in
set_option maxRecDepth 20000 in
theorem vX7_carOf_0 {X : am_Cx} {G : am_Gx} {d : Nat} {Q : am_Q} (hX : am_ok X rX7_carOf G (d + 1)) (hM : am_me X rX7_carOf Q) {bc bs : Nat}  {a0 : Nat} {a1 : Int32} {M : am_Hp} (h : hp_T M (a0) = 8 ∧ (am_CT G d rX7_isPassenger [.ref a0, .int a1] M 0 0 (fun oz9 M1 => ∃ v2 : Int32, oz9 = .inl (some (.int v2)) ∧ (((v2 = 0) → (hp_T M1 (a0) = 8 ∧ (am_CT G d rX7_fails [.ref a0, .int (1 : Int32)] M1 0 0 (fun oz9 M19 => ∃ v20 : Int32, oz9 = .inl (some (.int v20)) ∧ (Q (.inl (some (.int v20))) M19))))) ∧ (¬ (v2 = 0) → (hp_T M1 (a0) = 8 ∧ (hp_R M1 140 a0 ≠ 0 ∧ (∀ p7 : Nat, p7 = hp_R M1 140 a0 → (hp_T M1 (p7) = 22 ∧ (vp_in ((87 : Int32) + a1) (hp_N M1 p7) ∧ ((((hp_E M1 p7 (((87 : Int32) + a1)).toNatClampNeg) = 0) → (am_CT G d rX7_fails [.ref a0, .int (2 : Int32)] M1 0 0 (fun oz9 M17 => ∃ v18 : Int32, oz9 = .inl (some (.int v18)) ∧ (Q (.inl (some (.int v18))) M17)))) ∧ (¬ ((hp_E M1 p7 (((87 : Int32) + a1)).toNatClampNeg) = 0) → (hp_R M1 140 a0 ≠ 0 ∧ (∀ p12 : Nat, p12 = hp_R M1 140 a0 → (hp_T M1 (p12) = 22 ∧ (vp_in ((87 : Int32) + a1) (hp_N M1 p12) ∧ (am_CT G d rX7_done [.ref a0, .int ((hp_E M1 p12 (((87 : Int32) + a1)).toNatClampNeg) - (1 : Int32))] M1 0 0 (fun oz9 M15 => ∃ v16 : Int32, oz9 = .inl (some (.int v16)) ∧ (Q (.inl (some (.int v16))) M15))))))))))))))))))) : am_J X 0 [(0, .ref a0), (1, .int a1)] [] M bc bs := by
  refine j_aload_n hX eX7_carOf_0 0 rfl ?_
  refine j_iload_n hX eX7_carOf_1 1 rfl ?_
  obtain ⟨t3, h⟩ := h
  refine j_callV (a := a0) (q := (RX7, TX7, 17)) (r' := rX7_isPassenger) (As := [.int a1]) (rest := []) (d1 := d) hX eX7_carOf_2 mm_LiftGroupModel_110 rfl t3 (by decide) rfl h rfl (Nat.le_refl _) (Nat.zero_le _) (Nat.zero_le _) (Nat.le_of_ble_eq_true rfl) (fun vz9 Mz9 qz9 => ?_) (fun Ez9 Mz9 qz9 => ?_)
  · obtain ⟨M1, eMz9⟩ : ∃ M1, M1 = Mz9 := ⟨_, rfl⟩; subst eMz9
    obtain ⟨v2, hxz9, h⟩ := qz9
    cases hxz9
    refine j_if_ne hX 14 eX7_carOf_5 (by decide) (fun c4 => ?_) (fun c4 => ?_)
    · replace h := h.2 c4
      refine j_aload_n hX eX7_carOf_14 0 rfl ?_
      obtain ⟨t5, h⟩ := h
      obtain ⟨z6, h⟩ := h
      refine j_getR hX eX7_carOf_15 ff_LiftGroupModel_7 rfl t5 (by decide) z6 ?_
      refine j_nmR (fun p7 ep7 => ?_)
      replace h := h p7 ep7
      refine j_bipush (v := (87 : Int32)) hX eX7_carOf_18 (by decide) ?_
      refine j_iload_n hX eX7_carOf_20 1 rfl ?_
      refine j_iadd hX eX7_carOf_21 ?_
      obtain ⟨t8, h⟩ := h
      obtain ⟨i9, h⟩ := h
      refine j_iald hX eX7_carOf_22 t8 i9 ?_
      refine j_if_ne hX 34 eX7_carOf_23 (by decide) (fun c10 => ?_) (fun c10 => ?_)
      · replace h := h.2 c10
        refine j_aload_n hX eX7_carOf_34 0 rfl ?_
        refine j_aload_n hX eX7_carOf_35 0 rfl ?_
        obtain ⟨z11, h⟩ := h
        refine j_getR hX eX7_carOf_36 ff_LiftGroupModel_7 rfl t5 (by decide) z11 ?_
        refine j_nmR (fun p12 ep12 => ?_)
        replace h := h p12 ep12
        refine j_bipush (v := (87 : Int32)) hX eX7_carOf_39 (by decide) ?_
        refine j_iload_n hX eX7_carOf_41 1 rfl ?_
        refine j_iadd hX eX7_carOf_42 ?_
        obtain ⟨t13, h⟩ := h
        obtain ⟨i14, h⟩ := h
        refine j_iald hX eX7_carOf_43 t13 i14 ?_
        refine j_iconst (v := (1 : Int32)) hX eX7_carOf_44 (by decide) ?_
        refine j_isub hX eX7_carOf_45 ?_
        refine j_callV (a := a0) (q := (RX7, TX7, 17)) (r' := rX7_done) (As := [.int ((hp_E M1 p12 (((87 : Int32) + a1)).toNatClampNeg) - (1 : Int32))]) (rest := []) (d1 := d) hX eX7_carOf_46 mm_LiftGroupModel_97 rfl t5 (by decide) rfl h rfl (Nat.le_refl _) (Nat.zero_le _) (Nat.zero_le _) (Nat.le_of_ble_eq_true rfl) (fun vz9 Mz9 qz9 => ?_) (fun Ez9 Mz9 qz9 => ?_)
        · obtain ⟨M15, eMz9⟩ : ∃ M15, M15 = Mz9 := ⟨_, rfl⟩; subst eMz9
          obtain ⟨v16, hxz9, h⟩ := qz9
          cases hxz9
          exact j_iret hX hM eX7_carOf_49 rfl h
        · obtain ⟨v16, hxz9, h⟩ := qz9
          cases hxz9
      · replace h := h.1 c10
        refine j_aload_n hX eX7_carOf_26 0 rfl ?_
        refine j_iconst (v := (2 : Int32)) hX eX7_carOf_27 (by decide) ?_
        refine j_callV (a := a0) (q := (RX7, TX7, 17)) (r' := rX7_fails) (As := [.int (2 : Int32)]) (rest := []) (d1 := d) hX eX7_carOf_28 mm_LiftGroupModel_90 rfl t5 (by decide) rfl h rfl (Nat.le_refl _) (Nat.zero_le _) (Nat.zero_le _) (Nat.le_of_ble_eq_true rfl) (fun vz9 Mz9 qz9 => ?_) (fun Ez9 Mz9 qz9 => ?_)
        · obtain ⟨M17, eMz9⟩ : ∃ M17, M17 = Mz9 := ⟨_, rfl⟩; subst eMz9
          obtain ⟨v18, hxz9, h⟩ := qz9
          cases hxz9
          refine j_goto hX 49 eX7_carOf_31 (by decide) ?_
          exact j_iret hX hM eX7_carOf_49 rfl h
        · obtain ⟨v18, hxz9, h⟩ := qz9
          cases hxz9
    · replace h := h.1 c4
      refine j_aload_n hX eX7_carOf_8 0 rfl ?_
      refine j_iconst (v := (1 : Int32)) hX eX7_carOf_9 (by decide) ?_
      obtain ⟨t21, h⟩ := h
      refine j_callV (a := a0) (q := (RX7, TX7, 17)) (r' := rX7_fails) (As := [.int (1 : Int32)]) (rest := []) (d1 := d) hX eX7_carOf_10 mm_LiftGroupModel_90 rfl t21 (by decide) rfl h rfl (Nat.le_refl _) (Nat.zero_le _) (Nat.zero_le _) (Nat.le_of_ble_eq_true rfl) (fun vz9 Mz9 qz9 => ?_) (fun Ez9 Mz9 qz9 => ?_)
      · obtain ⟨M19, eMz9⟩ : ∃ M19, M19 = Mz9 := ⟨_, rfl⟩; subst eMz9
        obtain ⟨v20, hxz9, h⟩ := qz9
        cases hxz9
        exact j_iret hX hM eX7_carOf_13 rfl h
      · obtain ⟨v20, hxz9, h⟩ := qz9
        cases hxz9
  · obtain ⟨v2, hxz9, h⟩ := qz9
    cases hxz9

set_option maxHeartbeats 4000000 in
set_option maxRecDepth 20000 in
theorem vX7_waitingOn_0 {X : am_Cx} {G : am_Gx} {d : Nat} {Q : am_Q} (hX : am_ok X rX7_waitingOn G (d + 1)) (hM : am_me X rX7_waitingOn Q) {bc bs : Nat} (R4 : Nat → Int32 → Int32 → Int32 → am_Hp → Prop) (k4 : ∀ (x0 : Nat) (x1 : Int32) (x2 : Int32) (x3 : Int32) (M : am_Hp), R4 x0 x1 x2 x3 M → am_J X 4 [(0, .ref x0), (1, .int x1), (2, .int x2), (3, .int x3)] [] M bc bs) {a0 : Nat} {a1 : Int32} {M : am_Hp} (h : R4 a0 a1 (0 : Int32) (0 : Int32) M) : am_J X 0 [(0, .ref a0), (1, .int a1)] [] M bc bs := by
  refine j_iconst (v := (0 : Int32)) hX eX7_waitingOn_0 (by decide) ?_
  refine j_istore_n (lv' := [(2, .int (0 : Int32)), (0, .ref a0), (1, .int a1)]) hX eX7_waitingOn_1 rfl (by decide) rfl ?_
  refine j_iconst (v := (0 : Int32)) hX eX7_waitingOn_2 (by decide) ?_
  refine j_istore_n (lv' := [(3, .int (0 : Int32)), (2, .int (0 : Int32)), (0, .ref a0), (1, .int a1)]) hX eX7_waitingOn_3 rfl (by decide) rfl ?_
  exact j_sub [2, 3, 1, 0] rfl (k4 _ _ _ _ _ h)
set_option maxHeartbeats 4000000 in
set_option maxRecDepth 20000 in
theorem vX7_waitingOn_4 {X : am_Cx} {G : am_Gx} {d : Nat} {Q : am_Q} (hX : am_ok X rX7_waitingOn G (d + 1)) (hM : am_me X rX7_waitingOn Q) {bc bs : Nat} (R4 : Nat → Int32 → Int32 → Int32 → am_Hp → Prop) (k4 : ∀ (x0 : Nat) (x1 : Int32) (x2 : Int32) (x3 : Int32) (M : am_Hp), R4 x0 x1 x2 x3 M → am_J X 4 [(0, .ref x0), (1, .int x1), (2, .int x2), (3, .int x3)] [] M bc bs) {a0 : Nat} {a1 : Int32} {a2 : Int32} {a3 : Int32} {M : am_Hp} (h : hp_T M (a0) = 8 ∧ (hp_R M 140 a0 ≠ 0 ∧ (∀ p3 : Nat, p3 = hp_R M 140 a0 → (hp_T M (p3) = 22 ∧ (vp_in (1 : Int32) (hp_N M p3) ∧ ((((hp_E M p3 ((1 : Int32)).toNatClampNeg) ≤ a3) → (Q (.inl (some (.int a2))) M)) ∧ (¬ ((hp_E M p3 ((1 : Int32)).toNatClampNeg) ≤ a3) → (hp_R M 140 a0 ≠ 0 ∧ (∀ p8 : Nat, p8 = hp_R M 140 a0 → (hp_T M (p8) = 22 ∧ (vp_in ((99 : Int32) + a3) (hp_N M p8) ∧ ((((hp_E M p8 (((99 : Int32) + a3)).toNatClampNeg) = 0) → (hp_R M 140 a0 ≠ 0 ∧ (∀ p15 : Nat, p15 = hp_R M 140 a0 → (hp_T M (p15) = 22 ∧ (vp_in ((39 : Int32) + a3) (hp_N M p15) ∧ ((((hp_E M p15 (((39 : Int32) + a3)).toNatClampNeg) = a1) → (∀ v21 : Int32, v21 = (a2 + (1 : Int32)) → (∀ v22 : Int32, v22 = a3 + (1 : Int32) → (R4 a0 a1 v21 v22 M)))) ∧ (¬ ((hp_E M p15 (((39 : Int32) + a3)).toNatClampNeg) = a1) → (∀ v19 : Int32, v19 = (a2 + (0 : Int32)) → (∀ v20 : Int32, v20 = a3 + (1 : Int32) → (R4 a0 a1 v19 v20 M)))))))))) ∧ (¬ ((hp_E M p8 (((99 : Int32) + a3)).toNatClampNeg) = 0) → (∀ v12 : Int32, v12 = (a2 + (0 : Int32)) → (∀ v13 : Int32, v13 = a3 + (1 : Int32) → (R4 a0 a1 v12 v13 M)))))))))))))))) : am_J X 4 [(0, .ref a0), (1, .int a1), (2, .int a2), (3, .int a3)] [] M bc bs := by
  refine j_iload_n hX eX7_waitingOn_4 3 rfl ?_
  refine j_aload_n hX eX7_waitingOn_5 0 rfl ?_
  obtain ⟨t1, h⟩ := h
  obtain ⟨z2, h⟩ := h
  refine j_getR hX eX7_waitingOn_6 ff_LiftGroupModel_7 rfl t1 (by decide) z2 ?_
  refine j_nmR (fun p3 ep3 => ?_)
  replace h := h p3 ep3
  refine j_iconst (v := (1 : Int32)) hX eX7_waitingOn_9 (by decide) ?_
  obtain ⟨t4, h⟩ := h
  obtain ⟨i5, h⟩ := h
  refine j_iald hX eX7_waitingOn_10 t4 i5 ?_
  refine j_icmp_ge hX 53 eX7_waitingOn_11 (by decide) (fun c6 => ?_) (fun c6 => ?_)
  · replace h := h.1 c6
    refine j_iload_n hX eX7_waitingOn_53 2 rfl ?_
    exact j_iret hX hM eX7_waitingOn_54 rfl h
  · replace h := h.2 c6
    refine j_iload_n hX eX7_waitingOn_14 2 rfl ?_
    refine j_aload_n hX eX7_waitingOn_15 0 rfl ?_
    obtain ⟨z7, h⟩ := h
    refine j_getR hX eX7_waitingOn_16 ff_LiftGroupModel_7 rfl t1 (by decide) z7 ?_
    refine j_nmR (fun p8 ep8 => ?_)
    replace h := h p8 ep8
    refine j_bipush (v := (99 : Int32)) hX eX7_waitingOn_19 (by decide) ?_
    refine j_iload_n hX eX7_waitingOn_21 3 rfl ?_
    refine j_iadd hX eX7_waitingOn_22 ?_
    obtain ⟨t9, h⟩ := h
    obtain ⟨i10, h⟩ := h
    refine j_iald hX eX7_waitingOn_23 t9 i10 ?_
    refine j_if_ne hX 44 eX7_waitingOn_24 (by decide) (fun c11 => ?_) (fun c11 => ?_)
    · replace h := h.2 c11
      refine j_iconst (v := (0 : Int32)) hX eX7_waitingOn_44 (by decide) ?_
      refine j_iadd hX eX7_waitingOn_45 ?_
      refine j_nmI (fun v12 ev12 => ?_)
      replace h := h v12 ev12
      refine j_istore_n (lv' := [(2, .int v12), (0, .ref a0), (1, .int a1), (3, .int a3)]) hX eX7_waitingOn_46 rfl (by decide) rfl ?_
      obtain ⟨v13, ev13⟩ : ∃ v13 : Int32, v13 = a3 + (1 : Int32) := ⟨_, rfl⟩
      replace h := h v13 ev13
      refine j_iinc (v := v13) (lv' := [(3, .int v13), (2, .int v12), (0, .ref a0), (1, .int a1)]) hX eX7_waitingOn_47 3 rfl (by rw [ev13]; rfl) (by decide) rfl ?_
      refine j_goto hX 4 eX7_waitingOn_50 (by decide) ?_
      exact j_sub [2, 3, 1, 0] rfl (k4 _ _ _ _ _ h)
    · replace h := h.1 c11
      refine j_aload_n hX eX7_waitingOn_27 0 rfl ?_
      obtain ⟨z14, h⟩ := h
      refine j_getR hX eX7_waitingOn_28 ff_LiftGroupModel_7 rfl t1 (by decide) z14 ?_
      refine j_nmR (fun p15 ep15 => ?_)
      replace h := h p15 ep15
      refine j_bipush (v := (39 : Int32)) hX eX7_waitingOn_31 (by decide) ?_
      refine j_iload_n hX eX7_waitingOn_33 3 rfl ?_
      refine j_iadd hX eX7_waitingOn_34 ?_
      obtain ⟨t16, h⟩ := h
      obtain ⟨i17, h⟩ := h
      refine j_iald hX eX7_waitingOn_35 t16 i17 ?_
      refine j_iload_n hX eX7_waitingOn_36 1 rfl ?_
      refine j_icmp_ne hX 44 eX7_waitingOn_37 (by decide) (fun c18 => ?_) (fun c18 => ?_)
      · replace h := h.2 c18
        refine j_iconst (v := (0 : Int32)) hX eX7_waitingOn_44 (by decide) ?_
        refine j_iadd hX eX7_waitingOn_45 ?_
        refine j_nmI (fun v19 ev19 => ?_)
        replace h := h v19 ev19
        refine j_istore_n (lv' := [(2, .int v19), (0, .ref a0), (1, .int a1), (3, .int a3)]) hX eX7_waitingOn_46 rfl (by decide) rfl ?_
        obtain ⟨v20, ev20⟩ : ∃ v20 : Int32, v20 = a3 + (1 : Int32) := ⟨_, rfl⟩
        replace h := h v20 ev20
        refine j_iinc (v := v20) (lv' := [(3, .int v20), (2, .int v19), (0, .ref a0), (1, .int a1)]) hX eX7_waitingOn_47 3 rfl (by rw [ev20]; rfl) (by decide) rfl ?_
        refine j_goto hX 4 eX7_waitingOn_50 (by decide) ?_
        exact j_sub [2, 3, 1, 0] rfl (k4 _ _ _ _ _ h)
      · replace h := h.1 c18
        refine j_iconst (v := (1 : Int32)) hX eX7_waitingOn_40 (by decide) ?_
        refine j_goto hX 45 eX7_waitingOn_41 (by decide) ?_
        refine j_iadd hX eX7_waitingOn_45 ?_
        refine j_nmI (fun v21 ev21 => ?_)
        replace h := h v21 ev21
        refine j_istore_n (lv' := [(2, .int v21), (0, .ref a0), (1, .int a1), (3, .int a3)]) hX eX7_waitingOn_46 rfl (by decide) rfl ?_
        obtain ⟨v22, ev22⟩ : ∃ v22 : Int32, v22 = a3 + (1 : Int32) := ⟨_, rfl⟩
        replace h := h v22 ev22
        refine j_iinc (v := v22) (lv' := [(3, .int v22), (2, .int v21), (0, .ref a0), (1, .int a1)]) hX eX7_waitingOn_47 3 rfl (by rw [ev22]; rfl) (by decide) rfl ?_
        refine j_goto hX 4 eX7_waitingOn_50 (by decide) ?_
        exact j_sub [2, 3, 1, 0] rfl (k4 _ _ _ _ _ h)

set_option maxHeartbeats 4000000 in
set_option maxRecDepth 20000 in
theorem vX7_waitingAt_0 {X : am_Cx} {G : am_Gx} {d : Nat} {Q : am_Q} (hX : am_ok X rX7_waitingAt G (d + 1)) (hM : am_me X rX7_waitingAt Q) {bc bs : Nat}  {a0 : Nat} {a1 : Int32} {M : am_Hp} (h : am_CT G d rX7_isFloor [.int a1] M 0 0 (fun oz9 M1 => ∃ v2 : Int32, oz9 = .inl (some (.int v2)) ∧ (((v2 = 0) → (hp_T M1 (a0) = 8 ∧ (am_CT G d rX7_fails [.ref a0, .int (1 : Int32)] M1 0 0 (fun oz9 M4 => ∃ v5 : Int32, oz9 = .inl (some (.int v5)) ∧ (Q (.inl (some (.int v5))) M4))))) ∧ (¬ (v2 = 0) → (hp_T M1 (a0) = 8 ∧ (am_CT G d rX7_waitingOn [.ref a0, .int a1] M1 0 0 (fun oz9 M7 => ∃ v8 : Int32, oz9 = .inl (some (.int v8)) ∧ (hp_T M7 (a0) = 8 ∧ (am_CT G d rX7_done [.ref a0, .int v8] M7 0 0 (fun oz9 M10 => ∃ v11 : Int32, oz9 = .inl (some (.int v11)) ∧ (Q (.inl (some (.int v11))) M10))))))))))) : am_J X 0 [(0, .ref a0), (1, .int a1)] [] M bc bs := by
  refine j_iload_n hX eX7_waitingAt_0 1 rfl ?_
  refine j_callS (r' := rX7_isFloor) (As := [.int a1]) (rest := []) (d1 := d) hX eX7_waitingAt_1 mm_LiftGroupModel_63 rfl rfl h rfl (Nat.le_refl _) (Nat.zero_le _) (Nat.zero_le _) (Nat.le_of_ble_eq_true rfl) (fun vz9 Mz9 qz9 => ?_) (fun Ez9 Mz9 qz9 => ?_)
  · obtain ⟨M1, eMz9⟩ : ∃ M1, M1 = Mz9 := ⟨_, rfl⟩; subst eMz9
    obtain ⟨v2, hxz9, h⟩ := qz9
    cases hxz9
    refine j_if_eq hX 19 eX7_waitingAt_4 (by decide) (fun c3 => ?_) (fun c3 => ?_)
    · replace h := h.1 c3
      refine j_aload_n hX eX7_waitingAt_19 0 rfl ?_
      refine j_iconst (v := (1 : Int32)) hX eX7_waitingAt_20 (by decide) ?_
      obtain ⟨t6, h⟩ := h
      refine j_callV (a := a0) (q := (RX7, TX7, 17)) (r' := rX7_fails) (As := [.int (1 : Int32)]) (rest := []) (d1 := d) hX eX7_waitingAt_21 mm_LiftGroupModel_90 rfl t6 (by decide) rfl h rfl (Nat.le_refl _) (Nat.zero_le _) (Nat.zero_le _) (Nat.le_of_ble_eq_true rfl) (fun vz9 Mz9 qz9 => ?_) (fun Ez9 Mz9 qz9 => ?_)
      · obtain ⟨M4, eMz9⟩ : ∃ M4, M4 = Mz9 := ⟨_, rfl⟩; subst eMz9
        obtain ⟨v5, hxz9, h⟩ := qz9
        cases hxz9
        exact j_iret hX hM eX7_waitingAt_24 rfl h
      · obtain ⟨v5, hxz9, h⟩ := qz9
        cases hxz9
    · replace h := h.2 c3
      refine j_aload_n hX eX7_waitingAt_7 0 rfl ?_
      refine j_aload_n hX eX7_waitingAt_8 0 rfl ?_
      refine j_iload_n hX eX7_waitingAt_9 1 rfl ?_
      obtain ⟨t9, h⟩ := h
      refine j_callV (a := a0) (q := (RX7, TX7, 17)) (r' := rX7_waitingOn) (As := [.int a1]) (rest := [.ref a0]) (d1 := d) hX eX7_waitingAt_10 mm_LiftGroupModel_171 rfl t9 (by decide) rfl h rfl (Nat.le_refl _) (Nat.zero_le _) (Nat.zero_le _) (Nat.le_of_ble_eq_true rfl) (fun vz9 Mz9 qz9 => ?_) (fun Ez9 Mz9 qz9 => ?_)
      · obtain ⟨M7, eMz9⟩ : ∃ M7, M7 = Mz9 := ⟨_, rfl⟩; subst eMz9
        obtain ⟨v8, hxz9, h⟩ := qz9
        cases hxz9
        obtain ⟨t12, h⟩ := h
        refine j_callV (a := a0) (q := (RX7, TX7, 17)) (r' := rX7_done) (As := [.int v8]) (rest := []) (d1 := d) hX eX7_waitingAt_13 mm_LiftGroupModel_97 rfl t12 (by decide) rfl h rfl (Nat.le_refl _) (Nat.zero_le _) (Nat.zero_le _) (Nat.le_of_ble_eq_true rfl) (fun vz9 Mz9 qz9 => ?_) (fun Ez9 Mz9 qz9 => ?_)
        · obtain ⟨M10, eMz9⟩ : ∃ M10, M10 = Mz9 := ⟨_, rfl⟩; subst eMz9
          obtain ⟨v11, hxz9, h⟩ := qz9
          cases hxz9
          refine j_goto hX 24 eX7_waitingAt_16 (by decide) ?_
          exact j_iret hX hM eX7_waitingAt_24 rfl h
        · obtain ⟨v11, hxz9, h⟩ := qz9
          cases hxz9
      · obtain ⟨v8, hxz9, h⟩ := qz9
        cases hxz9
  · obtain ⟨v2, hxz9, h⟩ := qz9
    cases hxz9

set_option maxHeartbeats 4000000 in
set_option maxRecDepth 20000 in
theorem vX7_estimate_0 {X : am_Cx} {G : am_Gx} {d : Nat} {Q : am_Q} (hX : am_ok X rX7_estimate G (d + 1)) (hM : am_me X rX7_estimate Q) {bc bs : Nat}  {a0 : Nat} {a1 : Int32} {a2 : Int32} {M : am_Hp} (h : am_CT G d rX7_isCar [.int a1] M 0 0 (fun oz9 M1 => ∃ v2 : Int32, oz9 = .inl (some (.int v2)) ∧ (((v2 = 0) → (hp_T M1 (a0) = 8 ∧ (am_CT G d rX7_fails [.ref a0, .int (1 : Int32)] M1 0 0 (fun oz9 M16 => ∃ v17 : Int32, oz9 = .inl (some (.int v17)) ∧ (Q (.inl (some (.int v17))) M16))))) ∧ (¬ (v2 = 0) → (am_CT G d rX7_isFloor [.int a2] M1 0 0 (fun oz9 M4 => ∃ v5 : Int32, oz9 = .inl (some (.int v5)) ∧ (((v5 = 0) → (hp_T M4 (a0) = 8 ∧ (am_CT G d rX7_fails [.ref a0, .int (2 : Int32)] M4 0 0 (fun oz9 M7 => ∃ v8 : Int32, oz9 = .inl (some (.int v8)) ∧ (Q (.inl (some (.int v8))) M7))))) ∧ (¬ (v5 = 0) → (hp_T M4 (a0) = 8 ∧ (am_CT G d rX7_estimated [.ref a0, .int a1, .int a2] M4 0 0 (fun oz9 M10 => ∃ v11 : Int32, oz9 = .inl (some (.int v11)) ∧ (hp_T M10 (a0) = 8 ∧ (am_CT G d rX7_done [.ref a0, .int v11] M10 0 0 (fun oz9 M13 => ∃ v14 : Int32, oz9 = .inl (some (.int v14)) ∧ (Q (.inl (some (.int v14))) M13))))))))))))))) : am_J X 0 [(0, .ref a0), (1, .int a1), (2, .int a2)] [] M bc bs := by
  refine j_iload_n hX eX7_estimate_0 1 rfl ?_
  refine j_callS (r' := rX7_isCar) (As := [.int a1]) (rest := []) (d1 := d) hX eX7_estimate_1 mm_LiftGroupModel_119 rfl rfl h rfl (Nat.le_refl _) (Nat.zero_le _) (Nat.zero_le _) (Nat.le_of_ble_eq_true rfl) (fun vz9 Mz9 qz9 => ?_) (fun Ez9 Mz9 qz9 => ?_)
  · obtain ⟨M1, eMz9⟩ : ∃ M1, M1 = Mz9 := ⟨_, rfl⟩; subst eMz9
    obtain ⟨v2, hxz9, h⟩ := qz9
    cases hxz9
    refine j_if_ne hX 13 eX7_estimate_4 (by decide) (fun c3 => ?_) (fun c3 => ?_)
    · replace h := h.2 c3
      refine j_iload_n hX eX7_estimate_13 2 rfl ?_
      refine j_callS (r' := rX7_isFloor) (As := [.int a2]) (rest := []) (d1 := d) hX eX7_estimate_14 mm_LiftGroupModel_63 rfl rfl h rfl (Nat.le_refl _) (Nat.zero_le _) (Nat.zero_le _) (Nat.le_of_ble_eq_true rfl) (fun vz9 Mz9 qz9 => ?_) (fun Ez9 Mz9 qz9 => ?_)
      · obtain ⟨M4, eMz9⟩ : ∃ M4, M4 = Mz9 := ⟨_, rfl⟩; subst eMz9
        obtain ⟨v5, hxz9, h⟩ := qz9
        cases hxz9
        refine j_if_eq hX 33 eX7_estimate_17 (by decide) (fun c6 => ?_) (fun c6 => ?_)
        · replace h := h.1 c6
          refine j_aload_n hX eX7_estimate_33 0 rfl ?_
          refine j_iconst (v := (2 : Int32)) hX eX7_estimate_34 (by decide) ?_
          obtain ⟨t9, h⟩ := h
          refine j_callV (a := a0) (q := (RX7, TX7, 17)) (r' := rX7_fails) (As := [.int (2 : Int32)]) (rest := []) (d1 := d) hX eX7_estimate_35 mm_LiftGroupModel_90 rfl t9 (by decide) rfl h rfl (Nat.le_refl _) (Nat.zero_le _) (Nat.zero_le _) (Nat.le_of_ble_eq_true rfl) (fun vz9 Mz9 qz9 => ?_) (fun Ez9 Mz9 qz9 => ?_)
          · obtain ⟨M7, eMz9⟩ : ∃ M7, M7 = Mz9 := ⟨_, rfl⟩; subst eMz9
            obtain ⟨v8, hxz9, h⟩ := qz9
            cases hxz9
            exact j_iret hX hM eX7_estimate_38 rfl h
          · obtain ⟨v8, hxz9, h⟩ := qz9
            cases hxz9
        · replace h := h.2 c6
          refine j_aload_n hX eX7_estimate_20 0 rfl ?_
          refine j_aload_n hX eX7_estimate_21 0 rfl ?_
          refine j_iload_n hX eX7_estimate_22 1 rfl ?_
          refine j_iload_n hX eX7_estimate_23 2 rfl ?_
          obtain ⟨t12, h⟩ := h
          refine j_callV (a := a0) (q := (RX7, TX7, 17)) (r' := rX7_estimated) (As := [.int a1, .int a2]) (rest := [.ref a0]) (d1 := d) hX eX7_estimate_24 mm_LiftGroupModel_84 rfl t12 (by decide) rfl h rfl (Nat.le_refl _) (Nat.zero_le _) (Nat.zero_le _) (Nat.le_of_ble_eq_true rfl) (fun vz9 Mz9 qz9 => ?_) (fun Ez9 Mz9 qz9 => ?_)
          · obtain ⟨M10, eMz9⟩ : ∃ M10, M10 = Mz9 := ⟨_, rfl⟩; subst eMz9
            obtain ⟨v11, hxz9, h⟩ := qz9
            cases hxz9
            obtain ⟨t15, h⟩ := h
            refine j_callV (a := a0) (q := (RX7, TX7, 17)) (r' := rX7_done) (As := [.int v11]) (rest := []) (d1 := d) hX eX7_estimate_27 mm_LiftGroupModel_97 rfl t15 (by decide) rfl h rfl (Nat.le_refl _) (Nat.zero_le _) (Nat.zero_le _) (Nat.le_of_ble_eq_true rfl) (fun vz9 Mz9 qz9 => ?_) (fun Ez9 Mz9 qz9 => ?_)
            · obtain ⟨M13, eMz9⟩ : ∃ M13, M13 = Mz9 := ⟨_, rfl⟩; subst eMz9
              obtain ⟨v14, hxz9, h⟩ := qz9
              cases hxz9
              refine j_goto hX 38 eX7_estimate_30 (by decide) ?_
              exact j_iret hX hM eX7_estimate_38 rfl h
            · obtain ⟨v14, hxz9, h⟩ := qz9
              cases hxz9
          · obtain ⟨v11, hxz9, h⟩ := qz9
            cases hxz9
      · obtain ⟨v5, hxz9, h⟩ := qz9
        cases hxz9
    · replace h := h.1 c3
      refine j_aload_n hX eX7_estimate_7 0 rfl ?_
      refine j_iconst (v := (1 : Int32)) hX eX7_estimate_8 (by decide) ?_
      obtain ⟨t18, h⟩ := h
      refine j_callV (a := a0) (q := (RX7, TX7, 17)) (r' := rX7_fails) (As := [.int (1 : Int32)]) (rest := []) (d1 := d) hX eX7_estimate_9 mm_LiftGroupModel_90 rfl t18 (by decide) rfl h rfl (Nat.le_refl _) (Nat.zero_le _) (Nat.zero_le _) (Nat.le_of_ble_eq_true rfl) (fun vz9 Mz9 qz9 => ?_) (fun Ez9 Mz9 qz9 => ?_)
      · obtain ⟨M16, eMz9⟩ : ∃ M16, M16 = Mz9 := ⟨_, rfl⟩; subst eMz9
        obtain ⟨v17, hxz9, h⟩ := qz9
        cases hxz9
        exact j_iret hX hM eX7_estimate_12 rfl h
      · obtain ⟨v17, hxz9, h⟩ := qz9
        cases hxz9
  · obtain ⟨v2, hxz9, h⟩ := qz9
    cases hxz9

set_option maxHeartbeats 4000000 in
set_option maxRecDepth 20000 in
theorem vX7_estimateByWalk_0 {X : am_Cx} {G : am_Gx} {d : Nat} {Q : am_Q} (hX : am_ok X rX7_estimateByWalk G (d + 1)) (hM : am_me X rX7_estimateByWalk Q) {bc bs : Nat}  {a0 : Nat} {a1 : Int32} {a2 : Int32} {M : am_Hp} (h : hp_T M (a0) = 8 ∧ (am_CT G d rX7_estimate [.ref a0, .int a1, .int a2] M 0 0 (fun oz9 M1 => ∃ v2 : Int32, oz9 = .inl (some (.int v2)) ∧ (Q (.inl (some (.int v2))) M1)))) : am_J X 0 [(0, .ref a0), (1, .int a1), (2, .int a2)] [] M bc bs := by
  refine j_aload_n hX eX7_estimateByWalk_0 0 rfl ?_
  refine j_iload_n hX eX7_estimateByWalk_1 1 rfl ?_
  refine j_iload_n hX eX7_estimateByWalk_2 2 rfl ?_
  obtain ⟨t3, h⟩ := h
  refine j_callV (a := a0) (q := (RX7, TX7, 17)) (r' := rX7_estimate) (As := [.int a1, .int a2]) (rest := []) (d1 := d) hX eX7_estimateByWalk_3 mm_LiftGroupModel_174 rfl t3 (by decide) rfl h rfl (Nat.le_refl _) (Nat.zero_le _) (Nat.zero_le _) (Nat.le_of_ble_eq_true rfl) (fun vz9 Mz9 qz9 => ?_) (fun Ez9 Mz9 qz9 => ?_)
  · obtain ⟨M1, eMz9⟩ : ∃ M1, M1 = Mz9 := ⟨_, rfl⟩; subst eMz9
    obtain ⟨v2, hxz9, h⟩ := qz9
    cases hxz9
    exact j_iret hX hM eX7_estimateByWalk_6 rfl h
  · obtain ⟨v2, hxz9, h⟩ := qz9
    cases hxz9

set_option maxHeartbeats 4000000 in
set_option maxRecDepth 20000 in
theorem vX7_bestCar_0 {X : am_Cx} {G : am_Gx} {d : Nat} {Q : am_Q} (hX : am_ok X rX7_bestCar G (d + 1)) (hM : am_me X rX7_bestCar Q) {bc bs : Nat}  {a0 : Nat} {a1 : Int32} {a2 : Int32} {M : am_Hp} (h : am_CT G d rX7_isFloor [.int a1] M 0 0 (fun oz9 M1 => ∃ v2 : Int32, oz9 = .inl (some (.int v2)) ∧ (((v2 = 0) → (hp_T M1 (a0) = 8 ∧ (am_CT G d rX7_fails [.ref a0, .int (1 : Int32)] M1 0 0 (fun oz9 M4 => ∃ v5 : Int32, oz9 = .inl (some (.int v5)) ∧ (Q (.inl (some (.int v5))) M4))))) ∧ (¬ (v2 = 0) → (am_CT G d rX7_in [.int a2, .int (10 : Int32), .int (150 : Int32)] M1 0 0 (fun oz9 M7 => ∃ v8 : Int32, oz9 = .inl (some (.int v8)) ∧ (((v8 = 0) → (hp_T M7 (a0) = 8 ∧ (am_CT G d rX7_fails [.ref a0, .int (1 : Int32)] M7 0 0 (fun oz9 M20 => ∃ v21 : Int32, oz9 = .inl (some (.int v21)) ∧ (Q (.inl (some (.int v21))) M20))))) ∧ (¬ (v8 = 0) → (hp_T M7 (a0) = 8 ∧ (am_CT G d rX7_best [.ref a0, .int a1, .int a2] M7 0 0 (fun oz9 M10 => ∃ v11 : Int32, oz9 = .inl (some (.int v11)) ∧ (((v11 = (-1 : Int32)) → (hp_T M10 (a0) = 8 ∧ (am_CT G d rX7_fails [.ref a0, .int (2 : Int32)] M10 0 0 (fun oz9 M17 => ∃ v18 : Int32, oz9 = .inl (some (.int v18)) ∧ (Q (.inl (some (.int v18))) M17))))) ∧ (¬ (v11 = (-1 : Int32)) → (hp_T M10 (a0) = 8 ∧ (am_CT G d rX7_done [.ref a0, .int v11] M10 0 0 (fun oz9 M14 => ∃ v15 : Int32, oz9 = .inl (some (.int v15)) ∧ (Q (.inl (some (.int v15))) M14))))))))))))))))) : am_J X 0 [(0, .ref a0), (1, .int a1), (2, .int a2)] [] M bc bs := by
  refine j_iload_n hX eX7_bestCar_0 1 rfl ?_
  refine j_callS (r' := rX7_isFloor) (As := [.int a1]) (rest := []) (d1 := d) hX eX7_bestCar_1 mm_LiftGroupModel_63 rfl rfl h rfl (Nat.le_refl _) (Nat.zero_le _) (Nat.zero_le _) (Nat.le_of_ble_eq_true rfl) (fun vz9 Mz9 qz9 => ?_) (fun Ez9 Mz9 qz9 => ?_)
  · obtain ⟨M1, eMz9⟩ : ∃ M1, M1 = Mz9 := ⟨_, rfl⟩; subst eMz9
    obtain ⟨v2, hxz9, h⟩ := qz9
    cases hxz9
    refine j_if_eq hX 19 eX7_bestCar_4 (by decide) (fun c3 => ?_) (fun c3 => ?_)
    · replace h := h.1 c3
      refine j_aload_n hX eX7_bestCar_19 0 rfl ?_
      refine j_iconst (v := (1 : Int32)) hX eX7_bestCar_20 (by decide) ?_
      obtain ⟨t6, h⟩ := h
      refine j_callV (a := a0) (q := (RX7, TX7, 17)) (r' := rX7_fails) (As := [.int (1 : Int32)]) (rest := []) (d1 := d) hX eX7_bestCar_21 mm_LiftGroupModel_90 rfl t6 (by decide) rfl h rfl (Nat.le_refl _) (Nat.zero_le _) (Nat.zero_le _) (Nat.le_of_ble_eq_true rfl) (fun vz9 Mz9 qz9 => ?_) (fun Ez9 Mz9 qz9 => ?_)
      · obtain ⟨M4, eMz9⟩ : ∃ M4, M4 = Mz9 := ⟨_, rfl⟩; subst eMz9
        obtain ⟨v5, hxz9, h⟩ := qz9
        cases hxz9
        exact j_iret hX hM eX7_bestCar_24 rfl h
      · obtain ⟨v5, hxz9, h⟩ := qz9
        cases hxz9
    · replace h := h.2 c3
      refine j_iload_n hX eX7_bestCar_7 2 rfl ?_
      refine j_bipush (v := (10 : Int32)) hX eX7_bestCar_8 (by decide) ?_
      refine j_sipush (v := (150 : Int32)) hX eX7_bestCar_10 (by decide) ?_
      refine j_callS (r' := rX7_in) (As := [.int a2, .int (10 : Int32), .int (150 : Int32)]) (rest := []) (d1 := d) hX eX7_bestCar_13 mm_LiftGroupModel_52 rfl rfl h rfl (Nat.le_refl _) (Nat.zero_le _) (Nat.zero_le _) (Nat.le_of_ble_eq_true rfl) (fun vz9 Mz9 qz9 => ?_) (fun Ez9 Mz9 qz9 => ?_)
      · obtain ⟨M7, eMz9⟩ : ∃ M7, M7 = Mz9 := ⟨_, rfl⟩; subst eMz9
        obtain ⟨v8, hxz9, h⟩ := qz9
        cases hxz9
        refine j_if_ne hX 25 eX7_bestCar_16 (by decide) (fun c9 => ?_) (fun c9 => ?_)
        · replace h := h.2 c9
          refine j_aload_n hX eX7_bestCar_25 0 rfl ?_
          refine j_iload_n hX eX7_bestCar_26 1 rfl ?_
          refine j_iload_n hX eX7_bestCar_27 2 rfl ?_
          obtain ⟨t12, h⟩ := h
          refine j_callV (a := a0) (q := (RX7, TX7, 17)) (r' := rX7_best) (As := [.int a1, .int a2]) (rest := []) (d1 := d) hX eX7_bestCar_28 mm_LiftGroupModel_87 rfl t12 (by decide) rfl h rfl (Nat.le_refl _) (Nat.zero_le _) (Nat.zero_le _) (Nat.le_of_ble_eq_true rfl) (fun vz9 Mz9 qz9 => ?_) (fun Ez9 Mz9 qz9 => ?_)
          · obtain ⟨M10, eMz9⟩ : ∃ M10, M10 = Mz9 := ⟨_, rfl⟩; subst eMz9
            obtain ⟨v11, hxz9, h⟩ := qz9
            cases hxz9
            refine j_istore_n (lv' := [(3, .int v11), (0, .ref a0), (1, .int a1), (2, .int a2)]) hX eX7_bestCar_31 rfl (by decide) rfl ?_
            refine j_iload_n hX eX7_bestCar_32 0 rfl ?_
            refine j_iconst (v := (-1 : Int32)) hX eX7_bestCar_33 (by decide) ?_
            refine j_icmp_ne hX 45 eX7_bestCar_34 (by decide) (fun c13 => ?_) (fun c13 => ?_)
            · replace h := h.2 c13
              refine j_aload_n hX eX7_bestCar_45 1 rfl ?_
              refine j_iload_n hX eX7_bestCar_46 0 rfl ?_
              obtain ⟨t16, h⟩ := h
              refine j_callV (a := a0) (q := (RX7, TX7, 17)) (r' := rX7_done) (As := [.int v11]) (rest := []) (d1 := d) hX eX7_bestCar_47 mm_LiftGroupModel_97 rfl t16 (by decide) rfl h rfl (Nat.le_refl _) (Nat.zero_le _) (Nat.zero_le _) (Nat.le_of_ble_eq_true rfl) (fun vz9 Mz9 qz9 => ?_) (fun Ez9 Mz9 qz9 => ?_)
              · obtain ⟨M14, eMz9⟩ : ∃ M14, M14 = Mz9 := ⟨_, rfl⟩; subst eMz9
                obtain ⟨v15, hxz9, h⟩ := qz9
                cases hxz9
                exact j_iret hX hM eX7_bestCar_50 rfl h
              · obtain ⟨v15, hxz9, h⟩ := qz9
                cases hxz9
            · replace h := h.1 c13
              refine j_aload_n hX eX7_bestCar_37 1 rfl ?_
              refine j_iconst (v := (2 : Int32)) hX eX7_bestCar_38 (by decide) ?_
              obtain ⟨t19, h⟩ := h
              refine j_callV (a := a0) (q := (RX7, TX7, 17)) (r' := rX7_fails) (As := [.int (2 : Int32)]) (rest := []) (d1 := d) hX eX7_bestCar_39 mm_LiftGroupModel_90 rfl t19 (by decide) rfl h rfl (Nat.le_refl _) (Nat.zero_le _) (Nat.zero_le _) (Nat.le_of_ble_eq_true rfl) (fun vz9 Mz9 qz9 => ?_) (fun Ez9 Mz9 qz9 => ?_)
              · obtain ⟨M17, eMz9⟩ : ∃ M17, M17 = Mz9 := ⟨_, rfl⟩; subst eMz9
                obtain ⟨v18, hxz9, h⟩ := qz9
                cases hxz9
                refine j_goto hX 50 eX7_bestCar_42 (by decide) ?_
                exact j_iret hX hM eX7_bestCar_50 rfl h
              · obtain ⟨v18, hxz9, h⟩ := qz9
                cases hxz9
          · obtain ⟨v11, hxz9, h⟩ := qz9
            cases hxz9
        · replace h := h.1 c9
          refine j_aload_n hX eX7_bestCar_19 0 rfl ?_
          refine j_iconst (v := (1 : Int32)) hX eX7_bestCar_20 (by decide) ?_
          obtain ⟨t22, h⟩ := h
          refine j_callV (a := a0) (q := (RX7, TX7, 17)) (r' := rX7_fails) (As := [.int (1 : Int32)]) (rest := []) (d1 := d) hX eX7_bestCar_21 mm_LiftGroupModel_90 rfl t22 (by decide) rfl h rfl (Nat.le_refl _) (Nat.zero_le _) (Nat.zero_le _) (Nat.le_of_ble_eq_true rfl) (fun vz9 Mz9 qz9 => ?_) (fun Ez9 Mz9 qz9 => ?_)
          · obtain ⟨M20, eMz9⟩ : ∃ M20, M20 = Mz9 := ⟨_, rfl⟩; subst eMz9
            obtain ⟨v21, hxz9, h⟩ := qz9
            cases hxz9
            exact j_iret hX hM eX7_bestCar_24 rfl h
          · obtain ⟨v21, hxz9, h⟩ := qz9
            cases hxz9
      · obtain ⟨v8, hxz9, h⟩ := qz9
        cases hxz9
  · obtain ⟨v2, hxz9, h⟩ := qz9
    cases hxz9

set_option maxHeartbeats 4000000 in
set_option maxRecDepth 20000 in
theorem vX7_withNumber_0 {X : am_Cx} {G : am_Gx} {d : Nat} {Q : am_Q} (hX : am_ok X rX7_withNumber G (d + 1)) (hM : am_me X rX7_withNumber Q) {bc bs : Nat} (R2 : Nat → Int32 → Int32 → am_Hp → Prop) (k2 : ∀ (x0 : Nat) (x1 : Int32) (x2 : Int32) (M : am_Hp), R2 x0 x1 x2 M → am_J X 2 [(0, .ref x0), (1, .int x1), (2, .int x2)] [] M bc bs) {a0 : Nat} {a1 : Int32} {M : am_Hp} (h : R2 a0 a1 (0 : Int32) M) : am_J X 0 [(0, .ref a0), (1, .int a1)] [] M bc bs := by
  refine j_iconst (v := (0 : Int32)) hX eX7_withNumber_0 (by decide) ?_
  refine j_istore_n (lv' := [(2, .int (0 : Int32)), (0, .ref a0), (1, .int a1)]) hX eX7_withNumber_1 rfl (by decide) rfl ?_
  exact j_sub [1, 2, 0] rfl (k2 _ _ _ _ h)
set_option maxHeartbeats 4000000 in
set_option maxRecDepth 20000 in
theorem vX7_withNumber_2 {X : am_Cx} {G : am_Gx} {d : Nat} {Q : am_Q} (hX : am_ok X rX7_withNumber G (d + 1)) (hM : am_me X rX7_withNumber Q) {bc bs : Nat} (R2 : Nat → Int32 → Int32 → am_Hp → Prop) (k2 : ∀ (x0 : Nat) (x1 : Int32) (x2 : Int32) (M : am_Hp), R2 x0 x1 x2 M → am_J X 2 [(0, .ref x0), (1, .int x1), (2, .int x2)] [] M bc bs) {a0 : Nat} {a1 : Int32} {a2 : Int32} {M : am_Hp} (h : hp_T M (a0) = 8 ∧ (hp_R M 140 a0 ≠ 0 ∧ (∀ p3 : Nat, p3 = hp_R M 140 a0 → (hp_T M (p3) = 22 ∧ (vp_in (1 : Int32) (hp_N M p3) ∧ ((((hp_E M p3 ((1 : Int32)).toNatClampNeg) ≤ a2) → (Q (.inl (some (.int (-1 : Int32)))) M)) ∧ (¬ ((hp_E M p3 ((1 : Int32)).toNatClampNeg) ≤ a2) → (hp_R M 140 a0 ≠ 0 ∧ (∀ p8 : Nat, p8 = hp_R M 140 a0 → (hp_T M (p8) = 22 ∧ (vp_in ((27 : Int32) + a2) (hp_N M p8) ∧ ((((hp_E M p8 (((27 : Int32) + a2)).toNatClampNeg) = a1) → (Q (.inl (some (.int a2))) M)) ∧ (¬ ((hp_E M p8 (((27 : Int32) + a2)).toNatClampNeg) = a1) → (∀ v12 : Int32, v12 = a2 + (1 : Int32) → (R2 a0 a1 v12 M))))))))))))))) : am_J X 2 [(0, .ref a0), (1, .int a1), (2, .int a2)] [] M bc bs := by
  refine j_iload_n hX eX7_withNumber_2 2 rfl ?_
  refine j_aload_n hX eX7_withNumber_3 0 rfl ?_
  obtain ⟨t1, h⟩ := h
  obtain ⟨z2, h⟩ := h
  refine j_getR hX eX7_withNumber_4 ff_LiftGroupModel_7 rfl t1 (by decide) z2 ?_
  refine j_nmR (fun p3 ep3 => ?_)
  replace h := h p3 ep3
  refine j_iconst (v := (1 : Int32)) hX eX7_withNumber_7 (by decide) ?_
  obtain ⟨t4, h⟩ := h
  obtain ⟨i5, h⟩ := h
  refine j_iald hX eX7_withNumber_8 t4 i5 ?_
  refine j_icmp_ge hX 33 eX7_withNumber_9 (by decide) (fun c6 => ?_) (fun c6 => ?_)
  · replace h := h.1 c6
    refine j_iconst (v := (-1 : Int32)) hX eX7_withNumber_33 (by decide) ?_
    exact j_iret hX hM eX7_withNumber_34 rfl h
  · replace h := h.2 c6
    refine j_aload_n hX eX7_withNumber_12 0 rfl ?_
    obtain ⟨z7, h⟩ := h
    refine j_getR hX eX7_withNumber_13 ff_LiftGroupModel_7 rfl t1 (by decide) z7 ?_
    refine j_nmR (fun p8 ep8 => ?_)
    replace h := h p8 ep8
    refine j_bipush (v := (27 : Int32)) hX eX7_withNumber_16 (by decide) ?_
    refine j_iload_n hX eX7_withNumber_18 2 rfl ?_
    refine j_iadd hX eX7_withNumber_19 ?_
    obtain ⟨t9, h⟩ := h
    obtain ⟨i10, h⟩ := h
    refine j_iald hX eX7_withNumber_20 t9 i10 ?_
    refine j_iload_n hX eX7_withNumber_21 1 rfl ?_
    refine j_icmp_ne hX 27 eX7_withNumber_22 (by decide) (fun c11 => ?_) (fun c11 => ?_)
    · replace h := h.2 c11
      obtain ⟨v12, ev12⟩ : ∃ v12 : Int32, v12 = a2 + (1 : Int32) := ⟨_, rfl⟩
      replace h := h v12 ev12
      refine j_iinc (v := v12) (lv' := [(2, .int v12), (0, .ref a0), (1, .int a1)]) hX eX7_withNumber_27 2 rfl (by rw [ev12]; rfl) (by decide) rfl ?_
      refine j_goto hX 2 eX7_withNumber_30 (by decide) ?_
      exact j_sub [1, 2, 0] rfl (k2 _ _ _ _ h)
    · replace h := h.1 c11
      refine j_iload_n hX eX7_withNumber_25 2 rfl ?_
      exact j_iret hX hM eX7_withNumber_26 rfl h

set_option maxHeartbeats 4000000 in
set_option maxRecDepth 20000 in
theorem vX7_isReached_0 {X : am_Cx} {G : am_Gx} {d : Nat} {Q : am_Q} (hX : am_ok X rX7_isReached G (d + 1)) (hM : am_me X rX7_isReached Q) {bc bs : Nat}  {a0 : Nat} {a1 : Int32} {a2 : Int32} {M : am_Hp} (h : hp_T M (a0) = 8 ∧ (am_CT G d rX7_withNumber [.ref a0, .int a1] M 0 0 (fun oz9 M1 => ∃ v2 : Int32, oz9 = .inl (some (.int v2)) ∧ (((v2 = (-1 : Int32)) → (Q (.inl (some (.int (1 : Int32)))) M1)) ∧ (¬ (v2 = (-1 : Int32)) → (((a2 = 0) → (Q (.inl (some (.int (0 : Int32)))) M1)) ∧ (¬ (a2 = 0) → (hp_T M1 (a0) = 8 ∧ (hp_R M1 140 a0 ≠ 0 ∧ (∀ p8 : Nat, p8 = hp_R M1 140 a0 → (hp_T M1 (p8) = 22 ∧ (vp_in ((99 : Int32) + v2) (hp_N M1 p8) ∧ ((((hp_E M1 p8 (((99 : Int32) + v2)).toNatClampNeg) = (1 : Int32)) → (Q (.inl (some (.int (1 : Int32)))) M1)) ∧ (¬ ((hp_E M1 p8 (((99 : Int32) + v2)).toNatClampNeg) = (1 : Int32)) → (Q (.inl (some (.int (0 : Int32)))) M1))))))))))))))) : am_J X 0 [(0, .ref a0), (1, .int a1), (2, .int a2)] [] M bc bs := by
  refine j_aload_n hX eX7_isReached_0 0 rfl ?_
  refine j_iload_n hX eX7_isReached_1 1 rfl ?_
  obtain ⟨t3, h⟩ := h
  refine j_callV (a := a0) (q := (RX7, TX7, 17)) (r' := rX7_withNumber) (As := [.int a1]) (rest := []) (d1 := d) hX eX7_isReached_2 mm_LiftGroupModel_177 rfl t3 (by decide) rfl h rfl (Nat.le_refl _) (Nat.zero_le _) (Nat.zero_le _) (Nat.le_of_ble_eq_true rfl) (fun vz9 Mz9 qz9 => ?_) (fun Ez9 Mz9 qz9 => ?_)
  · obtain ⟨M1, eMz9⟩ : ∃ M1, M1 = Mz9 := ⟨_, rfl⟩; subst eMz9
    obtain ⟨v2, hxz9, h⟩ := qz9
    cases hxz9
    refine j_istore_n (lv' := [(3, .int v2), (0, .ref a0), (1, .int a1), (2, .int a2)]) hX eX7_isReached_5 rfl (by decide) rfl ?_
    refine j_iload_n hX eX7_isReached_6 0 rfl ?_
    refine j_iconst (v := (-1 : Int32)) hX eX7_isReached_7 (by decide) ?_
    refine j_icmp_eq hX 28 eX7_isReached_8 (by decide) (fun c4 => ?_) (fun c4 => ?_)
    · replace h := h.1 c4
      refine j_iconst (v := (1 : Int32)) hX eX7_isReached_28 (by decide) ?_
      refine j_goto hX 33 eX7_isReached_29 (by decide) ?_
      exact j_zret hX hM eX7_isReached_33 rfl (by decide) h
    · replace h := h.2 c4
      refine j_iload_n hX eX7_isReached_11 3 rfl ?_
      refine j_if_eq hX 32 eX7_isReached_12 (by decide) (fun c5 => ?_) (fun c5 => ?_)
      · replace h := h.1 c5
        refine j_iconst (v := (0 : Int32)) hX eX7_isReached_32 (by decide) ?_
        exact j_zret hX hM eX7_isReached_33 rfl (by decide) h
      · replace h := h.2 c5
        refine j_aload_n hX eX7_isReached_15 1 rfl ?_
        obtain ⟨t6, h⟩ := h
        obtain ⟨z7, h⟩ := h
        refine j_getR hX eX7_isReached_16 ff_LiftGroupModel_7 rfl t6 (by decide) z7 ?_
        refine j_nmR (fun p8 ep8 => ?_)
        replace h := h p8 ep8
        refine j_bipush (v := (99 : Int32)) hX eX7_isReached_19 (by decide) ?_
        refine j_iload_n hX eX7_isReached_21 0 rfl ?_
        refine j_iadd hX eX7_isReached_22 ?_
        obtain ⟨t9, h⟩ := h
        obtain ⟨i10, h⟩ := h
        refine j_iald hX eX7_isReached_23 t9 i10 ?_
        refine j_iconst (v := (1 : Int32)) hX eX7_isReached_24 (by decide) ?_
        refine j_icmp_ne hX 32 eX7_isReached_25 (by decide) (fun c11 => ?_) (fun c11 => ?_)
        · replace h := h.2 c11
          refine j_iconst (v := (0 : Int32)) hX eX7_isReached_32 (by decide) ?_
          exact j_zret hX hM eX7_isReached_33 rfl (by decide) h
        · replace h := h.1 c11
          refine j_iconst (v := (1 : Int32)) hX eX7_isReached_28 (by decide) ?_
          refine j_goto hX 33 eX7_isReached_29 (by decide) ?_
          exact j_zret hX hM eX7_isReached_33 rfl (by decide) h
  · obtain ⟨v2, hxz9, h⟩ := qz9
    cases hxz9

set_option maxHeartbeats 4000000 in
set_option maxRecDepth 20000 in
theorem vX7_stepsUntil_0 {X : am_Cx} {G : am_Gx} {d : Nat} {Q : am_Q} (hX : am_ok X rX7_stepsUntil G (d + 1)) (hM : am_me X rX7_stepsUntil Q) {bc bs : Nat} (R15 : Nat → Int32 → Int32 → Int32 → am_Hp → Prop) (k15 : ∀ (x0 : Nat) (x1 : Int32) (x2 : Int32) (x3 : Int32) (M : am_Hp), R15 x0 x1 x2 x3 M → am_J X 15 [(0, .ref x0), (1, .int x1), (2, .int x2), (3, .int x3)] [] M bc bs) {a0 : Nat} {a1 : Int32} {a2 : Int32} {M : am_Hp} (h : hp_T M (a0) = 8 ∧ (hp_R M 140 a0 ≠ 0 ∧ (∀ p3 : Nat, p3 = hp_R M 140 a0 → (hp_R M 142 a0 ≠ 0 ∧ (∀ p5 : Nat, p5 = hp_R M 142 a0 → (am_CT G d rX7_copy [.ref p3, .int (0 : Int32), .ref p5, .int (0 : Int32)] M 0 0 (fun oz9 M6 => oz9 = .inl none ∧ (R15 a0 a1 a2 (0 : Int32) M6)))))))) : am_J X 0 [(0, .ref a0), (1, .int a1), (2, .int a2)] [] M bc bs := by
  refine j_aload_n hX eX7_stepsUntil_0 0 rfl ?_
  obtain ⟨t1, h⟩ := h
  obtain ⟨z2, h⟩ := h
  refine j_getR hX eX7_stepsUntil_1 ff_LiftGroupModel_7 rfl t1 (by decide) z2 ?_
  refine j_nmR (fun p3 ep3 => ?_)
  replace h := h p3 ep3
  refine j_iconst (v := (0 : Int32)) hX eX7_stepsUntil_4 (by decide) ?_
  refine j_aload_n hX eX7_stepsUntil_5 0 rfl ?_
  obtain ⟨z4, h⟩ := h
  refine j_getR hX eX7_stepsUntil_6 ff_LiftGroupModel_16 rfl t1 (by decide) z4 ?_
  refine j_nmR (fun p5 ep5 => ?_)
  replace h := h p5 ep5
  refine j_iconst (v := (0 : Int32)) hX eX7_stepsUntil_9 (by decide) ?_
  refine j_callS (r' := rX7_copy) (As := [.ref p3, .int (0 : Int32), .ref p5, .int (0 : Int32)]) (rest := []) (d1 := d) hX eX7_stepsUntil_10 mm_LiftGroupModel_45 rfl rfl h rfl (Nat.le_refl _) (Nat.zero_le _) (Nat.zero_le _) (Nat.le_of_ble_eq_true rfl) (fun vz9 Mz9 qz9 => ?_) (fun Ez9 Mz9 qz9 => ?_)
  · obtain ⟨M6, eMz9⟩ : ∃ M6, M6 = Mz9 := ⟨_, rfl⟩; subst eMz9
    obtain ⟨hxz9, h⟩ := qz9
    cases hxz9
    refine j_iconst (v := (0 : Int32)) hX eX7_stepsUntil_13 (by decide) ?_
    refine j_istore_n (lv' := [(3, .int (0 : Int32)), (0, .ref a0), (1, .int a1), (2, .int a2)]) hX eX7_stepsUntil_14 rfl (by decide) rfl ?_
    exact j_sub [1, 2, 3, 0] rfl (k15 _ _ _ _ _ h)
  · obtain ⟨hxz9, h⟩ := qz9
    cases hxz9
set_option maxHeartbeats 4000000 in
set_option maxRecDepth 20000 in
theorem vX7_stepsUntil_15 {X : am_Cx} {G : am_Gx} {d : Nat} {Q : am_Q} (hX : am_ok X rX7_stepsUntil G (d + 1)) (hM : am_me X rX7_stepsUntil Q) {bc bs : Nat} (R15 : Nat → Int32 → Int32 → Int32 → am_Hp → Prop) (k15 : ∀ (x0 : Nat) (x1 : Int32) (x2 : Int32) (x3 : Int32) (M : am_Hp), R15 x0 x1 x2 x3 M → am_J X 15 [(0, .ref x0), (1, .int x1), (2, .int x2), (3, .int x3)] [] M bc bs) {a0 : Nat} {a1 : Int32} {a2 : Int32} {a3 : Int32} {M : am_Hp} (h : (((90 : Int32) < a3) → (hp_T M (a0) = 8 ∧ (hp_R M 142 a0 ≠ 0 ∧ (∀ p4 : Nat, p4 = hp_R M 142 a0 → (hp_R M 140 a0 ≠ 0 ∧ (∀ p6 : Nat, p6 = hp_R M 140 a0 → (am_CT G d rX7_copy [.ref p4, .int (0 : Int32), .ref p6, .int (0 : Int32)] M 0 0 (fun oz9 M7 => oz9 = .inl none ∧ (((a3 ≤ (90 : Int32)) → (Q (.inl (some (.int a3))) M7)) ∧ (¬ (a3 ≤ (90 : Int32)) → (Q (.inl (some (.int (-1 : Int32)))) M7))))))))))) ∧ (¬ ((90 : Int32) < a3) → (hp_T M (a0) = 8 ∧ (am_CT G d rX7_isReached [.ref a0, .int a1, .int a2] M 0 0 (fun oz9 M10 => ∃ v11 : Int32, oz9 = .inl (some (.int v11)) ∧ (((v11 = 0) → (hp_T M10 (a0) = 8 ∧ (am_CT G d rX7_step [.ref a0] M10 0 0 (fun oz9 M22 => oz9 = .inl none ∧ (∀ v25 : Int32, v25 = a3 + (1 : Int32) → (R15 a0 a1 a2 v25 M22)))))) ∧ (¬ (v11 = 0) → (hp_T M10 (a0) = 8 ∧ (hp_R M10 142 a0 ≠ 0 ∧ (∀ p16 : Nat, p16 = hp_R M10 142 a0 → (hp_R M10 140 a0 ≠ 0 ∧ (∀ p18 : Nat, p18 = hp_R M10 140 a0 → (am_CT G d rX7_copy [.ref p16, .int (0 : Int32), .ref p18, .int (0 : Int32)] M10 0 0 (fun oz9 M19 => oz9 = .inl none ∧ (((a3 ≤ (90 : Int32)) → (Q (.inl (some (.int a3))) M19)) ∧ (¬ (a3 ≤ (90 : Int32)) → (Q (.inl (some (.int (-1 : Int32)))) M19))))))))))))))))) : am_J X 15 [(0, .ref a0), (1, .int a1), (2, .int a2), (3, .int a3)] [] M bc bs := by
  refine j_iload_n hX eX7_stepsUntil_15 3 rfl ?_
  refine j_bipush (v := (90 : Int32)) hX eX7_stepsUntil_16 (by decide) ?_
  refine j_icmp_gt hX 40 eX7_stepsUntil_18 (by decide) (fun c1 => ?_) (fun c1 => ?_)
  · replace h := h.1 c1
    refine j_aload_n hX eX7_stepsUntil_40 0 rfl ?_
    obtain ⟨t2, h⟩ := h
    obtain ⟨z3, h⟩ := h
    refine j_getR hX eX7_stepsUntil_41 ff_LiftGroupModel_16 rfl t2 (by decide) z3 ?_
    refine j_nmR (fun p4 ep4 => ?_)
    replace h := h p4 ep4
    refine j_iconst (v := (0 : Int32)) hX eX7_stepsUntil_44 (by decide) ?_
    refine j_aload_n hX eX7_stepsUntil_45 0 rfl ?_
    obtain ⟨z5, h⟩ := h
    refine j_getR hX eX7_stepsUntil_46 ff_LiftGroupModel_7 rfl t2 (by decide) z5 ?_
    refine j_nmR (fun p6 ep6 => ?_)
    replace h := h p6 ep6
    refine j_iconst (v := (0 : Int32)) hX eX7_stepsUntil_49 (by decide) ?_
    refine j_callS (r' := rX7_copy) (As := [.ref p4, .int (0 : Int32), .ref p6, .int (0 : Int32)]) (rest := []) (d1 := d) hX eX7_stepsUntil_50 mm_LiftGroupModel_45 rfl rfl h rfl (Nat.le_refl _) (Nat.zero_le _) (Nat.zero_le _) (Nat.le_of_ble_eq_true rfl) (fun vz9 Mz9 qz9 => ?_) (fun Ez9 Mz9 qz9 => ?_)
    · obtain ⟨M7, eMz9⟩ : ∃ M7, M7 = Mz9 := ⟨_, rfl⟩; subst eMz9
      obtain ⟨hxz9, h⟩ := qz9
      cases hxz9
      refine j_iload_n hX eX7_stepsUntil_53 3 rfl ?_
      refine j_bipush (v := (90 : Int32)) hX eX7_stepsUntil_54 (by decide) ?_
      refine j_icmp_le hX 63 eX7_stepsUntil_56 (by decide) (fun c9 => ?_) (fun c9 => ?_)
      · replace h := h.1 c9
        refine j_iload_n hX eX7_stepsUntil_63 3 rfl ?_
        exact j_iret hX hM eX7_stepsUntil_64 rfl h
      · replace h := h.2 c9
        refine j_iconst (v := (-1 : Int32)) hX eX7_stepsUntil_59 (by decide) ?_
        refine j_goto hX 64 eX7_stepsUntil_60 (by decide) ?_
        exact j_iret hX hM eX7_stepsUntil_64 rfl h
    · obtain ⟨hxz9, h⟩ := qz9
      cases hxz9
  · replace h := h.2 c1
    refine j_aload_n hX eX7_stepsUntil_21 0 rfl ?_
    refine j_iload_n hX eX7_stepsUntil_22 1 rfl ?_
    refine j_iload_n hX eX7_stepsUntil_23 2 rfl ?_
    obtain ⟨t12, h⟩ := h
    refine j_callV (a := a0) (q := (RX7, TX7, 17)) (r' := rX7_isReached) (As := [.int a1, .int a2]) (rest := []) (d1 := d) hX eX7_stepsUntil_24 mm_LiftGroupModel_180 rfl t12 (by decide) rfl h rfl (Nat.le_refl _) (Nat.zero_le _) (Nat.zero_le _) (Nat.le_of_ble_eq_true rfl) (fun vz9 Mz9 qz9 => ?_) (fun Ez9 Mz9 qz9 => ?_)
    · obtain ⟨M10, eMz9⟩ : ∃ M10, M10 = Mz9 := ⟨_, rfl⟩; subst eMz9
      obtain ⟨v11, hxz9, h⟩ := qz9
      cases hxz9
      refine j_if_ne hX 40 eX7_stepsUntil_27 (by decide) (fun c13 => ?_) (fun c13 => ?_)
      · replace h := h.2 c13
        refine j_aload_n hX eX7_stepsUntil_40 0 rfl ?_
        obtain ⟨t14, h⟩ := h
        obtain ⟨z15, h⟩ := h
        refine j_getR hX eX7_stepsUntil_41 ff_LiftGroupModel_16 rfl t14 (by decide) z15 ?_
        refine j_nmR (fun p16 ep16 => ?_)
        replace h := h p16 ep16
        refine j_iconst (v := (0 : Int32)) hX eX7_stepsUntil_44 (by decide) ?_
        refine j_aload_n hX eX7_stepsUntil_45 0 rfl ?_
        obtain ⟨z17, h⟩ := h
        refine j_getR hX eX7_stepsUntil_46 ff_LiftGroupModel_7 rfl t14 (by decide) z17 ?_
        refine j_nmR (fun p18 ep18 => ?_)
        replace h := h p18 ep18
        refine j_iconst (v := (0 : Int32)) hX eX7_stepsUntil_49 (by decide) ?_
        refine j_callS (r' := rX7_copy) (As := [.ref p16, .int (0 : Int32), .ref p18, .int (0 : Int32)]) (rest := []) (d1 := d) hX eX7_stepsUntil_50 mm_LiftGroupModel_45 rfl rfl h rfl (Nat.le_refl _) (Nat.zero_le _) (Nat.zero_le _) (Nat.le_of_ble_eq_true rfl) (fun vz9 Mz9 qz9 => ?_) (fun Ez9 Mz9 qz9 => ?_)
        · obtain ⟨M19, eMz9⟩ : ∃ M19, M19 = Mz9 := ⟨_, rfl⟩; subst eMz9
          obtain ⟨hxz9, h⟩ := qz9
          cases hxz9
          refine j_iload_n hX eX7_stepsUntil_53 3 rfl ?_
          refine j_bipush (v := (90 : Int32)) hX eX7_stepsUntil_54 (by decide) ?_
          refine j_icmp_le hX 63 eX7_stepsUntil_56 (by decide) (fun c21 => ?_) (fun c21 => ?_)
          · replace h := h.1 c21
            refine j_iload_n hX eX7_stepsUntil_63 3 rfl ?_
            exact j_iret hX hM eX7_stepsUntil_64 rfl h
          · replace h := h.2 c21
            refine j_iconst (v := (-1 : Int32)) hX eX7_stepsUntil_59 (by decide) ?_
            refine j_goto hX 64 eX7_stepsUntil_60 (by decide) ?_
            exact j_iret hX hM eX7_stepsUntil_64 rfl h
        · obtain ⟨hxz9, h⟩ := qz9
          cases hxz9
      · replace h := h.1 c13
        refine j_aload_n hX eX7_stepsUntil_30 0 rfl ?_
        obtain ⟨t24, h⟩ := h
        refine j_callV (a := a0) (q := (RX7, TX7, 17)) (r' := rX7_step) (As := []) (rest := []) (d1 := d) hX eX7_stepsUntil_31 mm_LiftGroupModel_156 rfl t24 (by decide) rfl h rfl (Nat.le_refl _) (Nat.zero_le _) (Nat.zero_le _) (Nat.le_of_ble_eq_true rfl) (fun vz9 Mz9 qz9 => ?_) (fun Ez9 Mz9 qz9 => ?_)
        · obtain ⟨M22, eMz9⟩ : ∃ M22, M22 = Mz9 := ⟨_, rfl⟩; subst eMz9
          obtain ⟨hxz9, h⟩ := qz9
          cases hxz9
          obtain ⟨v25, ev25⟩ : ∃ v25 : Int32, v25 = a3 + (1 : Int32) := ⟨_, rfl⟩
          replace h := h v25 ev25
          refine j_iinc (v := v25) (lv' := [(3, .int v25), (0, .ref a0), (1, .int a1), (2, .int a2)]) hX eX7_stepsUntil_34 3 rfl (by rw [ev25]; rfl) (by decide) rfl ?_
          refine j_goto hX 15 eX7_stepsUntil_37 (by decide) ?_
          exact j_sub [1, 2, 3, 0] rfl (k15 _ _ _ _ _ h)
        · obtain ⟨hxz9, h⟩ := qz9
          cases hxz9
    · obtain ⟨v11, hxz9, h⟩ := qz9
      cases hxz9

set_option maxHeartbeats 4000000 in
set_option maxRecDepth 20000 in
theorem vX7_predicted_0 {X : am_Cx} {G : am_Gx} {d : Nat} {Q : am_Q} (hX : am_ok X rX7_predicted G (d + 1)) (hM : am_me X rX7_predicted Q) {bc bs : Nat}  {a0 : Nat} {a1 : Int32} {a2 : Int32} {M : am_Hp} (h : hp_T M (a0) = 8 ∧ (am_CT G d rX7_isPassenger [.ref a0, .int a1] M 0 0 (fun oz9 M1 => ∃ v2 : Int32, oz9 = .inl (some (.int v2)) ∧ (((v2 = 0) → (hp_T M1 (a0) = 8 ∧ (am_CT G d rX7_fails [.ref a0, .int (1 : Int32)] M1 0 0 (fun oz9 M19 => ∃ v20 : Int32, oz9 = .inl (some (.int v20)) ∧ (Q (.inl (some (.int v20))) M19))))) ∧ (¬ (v2 = 0) → (hp_T M1 (a0) = 8 ∧ (hp_R M1 140 a0 ≠ 0 ∧ (∀ p7 : Nat, p7 = hp_R M1 140 a0 → (hp_T M1 (p7) = 22 ∧ (vp_in ((27 : Int32) + a1) (hp_N M1 p7) ∧ (am_CT G d rX7_stepsUntil [.ref a0, .int (hp_E M1 p7 (((27 : Int32) + a1)).toNatClampNeg), .int a2] M1 0 0 (fun oz9 M10 => ∃ v11 : Int32, oz9 = .inl (some (.int v11)) ∧ (((v11 = (-1 : Int32)) → (hp_T M10 (a0) = 8 ∧ (am_CT G d rX7_fails [.ref a0, .int (2 : Int32)] M10 0 0 (fun oz9 M16 => ∃ v17 : Int32, oz9 = .inl (some (.int v17)) ∧ (Q (.inl (some (.int v17))) M16))))) ∧ (¬ (v11 = (-1 : Int32)) → (hp_T M10 (a0) = 8 ∧ (am_CT G d rX7_done [.ref a0, .int v11] M10 0 0 (fun oz9 M13 => ∃ v14 : Int32, oz9 = .inl (some (.int v14)) ∧ (Q (.inl (some (.int v14))) M13)))))))))))))))))) : am_J X 0 [(0, .ref a0), (1, .int a1), (2, .int a2)] [] M bc bs := by
  refine j_aload_n hX eX7_predicted_0 0 rfl ?_
  refine j_iload_n hX eX7_predicted_1 1 rfl ?_
  obtain ⟨t3, h⟩ := h
  refine j_callV (a := a0) (q := (RX7, TX7, 17)) (r' := rX7_isPassenger) (As := [.int a1]) (rest := []) (d1 := d) hX eX7_predicted_2 mm_LiftGroupModel_110 rfl t3 (by decide) rfl h rfl (Nat.le_refl _) (Nat.zero_le _) (Nat.zero_le _) (Nat.le_of_ble_eq_true rfl) (fun vz9 Mz9 qz9 => ?_) (fun Ez9 Mz9 qz9 => ?_)
  · obtain ⟨M1, eMz9⟩ : ∃ M1, M1 = Mz9 := ⟨_, rfl⟩; subst eMz9
    obtain ⟨v2, hxz9, h⟩ := qz9
    cases hxz9
    refine j_if_ne hX 14 eX7_predicted_5 (by decide) (fun c4 => ?_) (fun c4 => ?_)
    · replace h := h.2 c4
      refine j_aload_n hX eX7_predicted_14 0 rfl ?_
      refine j_aload_n hX eX7_predicted_15 0 rfl ?_
      obtain ⟨t5, h⟩ := h
      obtain ⟨z6, h⟩ := h
      refine j_getR hX eX7_predicted_16 ff_LiftGroupModel_7 rfl t5 (by decide) z6 ?_
      refine j_nmR (fun p7 ep7 => ?_)
      replace h := h p7 ep7
      refine j_bipush (v := (27 : Int32)) hX eX7_predicted_19 (by decide) ?_
      refine j_iload_n hX eX7_predicted_21 1 rfl ?_
      refine j_iadd hX eX7_predicted_22 ?_
      obtain ⟨t8, h⟩ := h
      obtain ⟨i9, h⟩ := h
      refine j_iald hX eX7_predicted_23 t8 i9 ?_
      refine j_iload_n hX eX7_predicted_24 2 rfl ?_
      refine j_callV (a := a0) (q := (RX7, TX7, 17)) (r' := rX7_stepsUntil) (As := [.int (hp_E M1 p7 (((27 : Int32) + a1)).toNatClampNeg), .int a2]) (rest := []) (d1 := d) hX eX7_predicted_25 mm_LiftGroupModel_184 rfl t5 (by decide) rfl h rfl (Nat.le_refl _) (Nat.zero_le _) (Nat.zero_le _) (Nat.le_of_ble_eq_true rfl) (fun vz9 Mz9 qz9 => ?_) (fun Ez9 Mz9 qz9 => ?_)
      · obtain ⟨M10, eMz9⟩ : ∃ M10, M10 = Mz9 := ⟨_, rfl⟩; subst eMz9
        obtain ⟨v11, hxz9, h⟩ := qz9
        cases hxz9
        refine j_istore_n (lv' := [(3, .int v11), (0, .ref a0), (1, .int a1), (2, .int a2)]) hX eX7_predicted_28 rfl (by decide) rfl ?_
        refine j_iload_n hX eX7_predicted_29 0 rfl ?_
        refine j_iconst (v := (-1 : Int32)) hX eX7_predicted_30 (by decide) ?_
        refine j_icmp_ne hX 42 eX7_predicted_31 (by decide) (fun c12 => ?_) (fun c12 => ?_)
        · replace h := h.2 c12
          refine j_aload_n hX eX7_predicted_42 1 rfl ?_
          refine j_iload_n hX eX7_predicted_43 0 rfl ?_
          obtain ⟨t15, h⟩ := h
          refine j_callV (a := a0) (q := (RX7, TX7, 17)) (r' := rX7_done) (As := [.int v11]) (rest := []) (d1 := d) hX eX7_predicted_44 mm_LiftGroupModel_97 rfl t15 (by decide) rfl h rfl (Nat.le_refl _) (Nat.zero_le _) (Nat.zero_le _) (Nat.le_of_ble_eq_true rfl) (fun vz9 Mz9 qz9 => ?_) (fun Ez9 Mz9 qz9 => ?_)
          · obtain ⟨M13, eMz9⟩ : ∃ M13, M13 = Mz9 := ⟨_, rfl⟩; subst eMz9
            obtain ⟨v14, hxz9, h⟩ := qz9
            cases hxz9
            exact j_iret hX hM eX7_predicted_47 rfl h
          · obtain ⟨v14, hxz9, h⟩ := qz9
            cases hxz9
        · replace h := h.1 c12
          refine j_aload_n hX eX7_predicted_34 1 rfl ?_
          refine j_iconst (v := (2 : Int32)) hX eX7_predicted_35 (by decide) ?_
          obtain ⟨t18, h⟩ := h
          refine j_callV (a := a0) (q := (RX7, TX7, 17)) (r' := rX7_fails) (As := [.int (2 : Int32)]) (rest := []) (d1 := d) hX eX7_predicted_36 mm_LiftGroupModel_90 rfl t18 (by decide) rfl h rfl (Nat.le_refl _) (Nat.zero_le _) (Nat.zero_le _) (Nat.le_of_ble_eq_true rfl) (fun vz9 Mz9 qz9 => ?_) (fun Ez9 Mz9 qz9 => ?_)
          · obtain ⟨M16, eMz9⟩ : ∃ M16, M16 = Mz9 := ⟨_, rfl⟩; subst eMz9
            obtain ⟨v17, hxz9, h⟩ := qz9
            cases hxz9
            refine j_goto hX 47 eX7_predicted_39 (by decide) ?_
            exact j_iret hX hM eX7_predicted_47 rfl h
          · obtain ⟨v17, hxz9, h⟩ := qz9
            cases hxz9
      · obtain ⟨v11, hxz9, h⟩ := qz9
        cases hxz9
    · replace h := h.1 c4
      refine j_aload_n hX eX7_predicted_8 0 rfl ?_
      refine j_iconst (v := (1 : Int32)) hX eX7_predicted_9 (by decide) ?_
      obtain ⟨t21, h⟩ := h
      refine j_callV (a := a0) (q := (RX7, TX7, 17)) (r' := rX7_fails) (As := [.int (1 : Int32)]) (rest := []) (d1 := d) hX eX7_predicted_10 mm_LiftGroupModel_90 rfl t21 (by decide) rfl h rfl (Nat.le_refl _) (Nat.zero_le _) (Nat.zero_le _) (Nat.le_of_ble_eq_true rfl) (fun vz9 Mz9 qz9 => ?_) (fun Ez9 Mz9 qz9 => ?_)
      · obtain ⟨M19, eMz9⟩ : ∃ M19, M19 = Mz9 := ⟨_, rfl⟩; subst eMz9
        obtain ⟨v20, hxz9, h⟩ := qz9
        cases hxz9
        exact j_iret hX hM eX7_predicted_13 rfl h
      · obtain ⟨v20, hxz9, h⟩ := qz9
        cases hxz9
  · obtain ⟨v2, hxz9, h⟩ := qz9
    cases hxz9

set_option maxHeartbeats 4000000 in
set_option maxRecDepth 20000 in
theorem vX7_stepsUntilBoarding_0 {X : am_Cx} {G : am_Gx} {d : Nat} {Q : am_Q} (hX : am_ok X rX7_stepsUntilBoarding G (d + 1)) (hM : am_me X rX7_stepsUntilBoarding Q) {bc bs : Nat}  {a0 : Nat} {a1 : Int32} {M : am_Hp} (h : hp_T M (a0) = 8 ∧ (am_CT G d rX7_predicted [.ref a0, .int a1, .int (1 : Int32)] M 0 0 (fun oz9 M1 => ∃ v2 : Int32, oz9 = .inl (some (.int v2)) ∧ (Q (.inl (some (.int v2))) M1)))) : am_J X 0 [(0, .ref a0), (1, .int a1)] [] M bc bs := by
  refine j_aload_n hX eX7_stepsUntilBoarding_0 0 rfl ?_
  refine j_iload_n hX eX7_stepsUntilBoarding_1 1 rfl ?_
  refine j_iconst (v := (1 : Int32)) hX eX7_stepsUntilBoarding_2 (by decide) ?_
  obtain ⟨t3, h⟩ := h
  refine j_callV (a := a0) (q := (RX7, TX7, 17)) (r' := rX7_predicted) (As := [.int a1, .int (1 : Int32)]) (rest := []) (d1 := d) hX eX7_stepsUntilBoarding_3 mm_LiftGroupModel_188 rfl t3 (by decide) rfl h rfl (Nat.le_refl _) (Nat.zero_le _) (Nat.zero_le _) (Nat.le_of_ble_eq_true rfl) (fun vz9 Mz9 qz9 => ?_) (fun Ez9 Mz9 qz9 => ?_)
  · obtain ⟨M1, eMz9⟩ : ∃ M1, M1 = Mz9 := ⟨_, rfl⟩; subst eMz9
    obtain ⟨v2, hxz9, h⟩ := qz9
    cases hxz9
    exact j_iret hX hM eX7_stepsUntilBoarding_6 rfl h
  · obtain ⟨v2, hxz9, h⟩ := qz9
    cases hxz9

set_option maxHeartbeats 4000000 in
set_option maxRecDepth 20000 in
theorem vX7_stepsUntilArrival_0 {X : am_Cx} {G : am_Gx} {d : Nat} {Q : am_Q} (hX : am_ok X rX7_stepsUntilArrival G (d + 1)) (hM : am_me X rX7_stepsUntilArrival Q) {bc bs : Nat}  {a0 : Nat} {a1 : Int32} {M : am_Hp} (h : hp_T M (a0) = 8 ∧ (am_CT G d rX7_predicted [.ref a0, .int a1, .int (0 : Int32)] M 0 0 (fun oz9 M1 => ∃ v2 : Int32, oz9 = .inl (some (.int v2)) ∧ (Q (.inl (some (.int v2))) M1)))) : am_J X 0 [(0, .ref a0), (1, .int a1)] [] M bc bs := by
  refine j_aload_n hX eX7_stepsUntilArrival_0 0 rfl ?_
  refine j_iload_n hX eX7_stepsUntilArrival_1 1 rfl ?_
  refine j_iconst (v := (0 : Int32)) hX eX7_stepsUntilArrival_2 (by decide) ?_
  obtain ⟨t3, h⟩ := h
  refine j_callV (a := a0) (q := (RX7, TX7, 17)) (r' := rX7_predicted) (As := [.int a1, .int (0 : Int32)]) (rest := []) (d1 := d) hX eX7_stepsUntilArrival_3 mm_LiftGroupModel_188 rfl t3 (by decide) rfl h rfl (Nat.le_refl _) (Nat.zero_le _) (Nat.zero_le _) (Nat.le_of_ble_eq_true rfl) (fun vz9 Mz9 qz9 => ?_) (fun Ez9 Mz9 qz9 => ?_)
  · obtain ⟨M1, eMz9⟩ : ∃ M1, M1 = Mz9 := ⟨_, rfl⟩; subst eMz9
    obtain ⟨v2, hxz9, h⟩ := qz9
    cases hxz9
    exact j_iret hX hM eX7_stepsUntilArrival_6 rfl h
  · obtain ⟨v2, hxz9, h⟩ := qz9
    cases hxz9

set_option maxHeartbeats 4000000 in
set_option maxRecDepth 20000 in
theorem vX7_tripsWithin_0 {X : am_Cx} {G : am_Gx} {d : Nat} {Q : am_Q} (hX : am_ok X rX7_tripsWithin G (d + 1)) (hM : am_me X rX7_tripsWithin Q) {bc bs : Nat} (R31 : Nat → Int32 → Int32 → am_Hp → Prop) (k31 : ∀ (x0 : Nat) (x1 : Int32) (x2 : Int32) (M : am_Hp), R31 x0 x1 x2 M → am_J X 31 [(0, .ref x0), (1, .int x1), (2, .int x2)] [] M bc bs) {a0 : Nat} {a1 : Int32} {M : am_Hp} (h : am_CT G d rX7_in [.int a1, .int (0 : Int32), .int (90 : Int32)] M 0 0 (fun oz9 M1 => ∃ v2 : Int32, oz9 = .inl (some (.int v2)) ∧ (((v2 = 0) → (hp_T M1 (a0) = 8 ∧ (am_CT G d rX7_fails [.ref a0, .int (1 : Int32)] M1 0 0 (fun oz9 M11 => ∃ v12 : Int32, oz9 = .inl (some (.int v12)) ∧ (Q (.inl (some (.int v12))) M11))))) ∧ (¬ (v2 = 0) → (hp_T M1 (a0) = 8 ∧ (hp_R M1 140 a0 ≠ 0 ∧ (∀ p6 : Nat, p6 = hp_R M1 140 a0 → (hp_R M1 142 a0 ≠ 0 ∧ (∀ p8 : Nat, p8 = hp_R M1 142 a0 → (am_CT G d rX7_copy [.ref p6, .int (0 : Int32), .ref p8, .int (0 : Int32)] M1 0 0 (fun oz9 M9 => oz9 = .inl none ∧ (R31 a0 a1 (0 : Int32) M9)))))))))))) : am_J X 0 [(0, .ref a0), (1, .int a1)] [] M bc bs := by
  refine j_iload_n hX eX7_tripsWithin_0 1 rfl ?_
  refine j_iconst (v := (0 : Int32)) hX eX7_tripsWithin_1 (by decide) ?_
  refine j_bipush (v := (90 : Int32)) hX eX7_tripsWithin_2 (by decide) ?_
  refine j_callS (r' := rX7_in) (As := [.int a1, .int (0 : Int32), .int (90 : Int32)]) (rest := []) (d1 := d) hX eX7_tripsWithin_4 mm_LiftGroupModel_52 rfl rfl h rfl (Nat.le_refl _) (Nat.zero_le _) (Nat.zero_le _) (Nat.le_of_ble_eq_true rfl) (fun vz9 Mz9 qz9 => ?_) (fun Ez9 Mz9 qz9 => ?_)
  · obtain ⟨M1, eMz9⟩ : ∃ M1, M1 = Mz9 := ⟨_, rfl⟩; subst eMz9
    obtain ⟨v2, hxz9, h⟩ := qz9
    cases hxz9
    refine j_if_ne hX 16 eX7_tripsWithin_7 (by decide) (fun c3 => ?_) (fun c3 => ?_)
    · replace h := h.2 c3
      refine j_aload_n hX eX7_tripsWithin_16 0 rfl ?_
      obtain ⟨t4, h⟩ := h
      obtain ⟨z5, h⟩ := h
      refine j_getR hX eX7_tripsWithin_17 ff_LiftGroupModel_7 rfl t4 (by decide) z5 ?_
      refine j_nmR (fun p6 ep6 => ?_)
      replace h := h p6 ep6
      refine j_iconst (v := (0 : Int32)) hX eX7_tripsWithin_20 (by decide) ?_
      refine j_aload_n hX eX7_tripsWithin_21 0 rfl ?_
      obtain ⟨z7, h⟩ := h
      refine j_getR hX eX7_tripsWithin_22 ff_LiftGroupModel_16 rfl t4 (by decide) z7 ?_
      refine j_nmR (fun p8 ep8 => ?_)
      replace h := h p8 ep8
      refine j_iconst (v := (0 : Int32)) hX eX7_tripsWithin_25 (by decide) ?_
      refine j_callS (r' := rX7_copy) (As := [.ref p6, .int (0 : Int32), .ref p8, .int (0 : Int32)]) (rest := []) (d1 := d) hX eX7_tripsWithin_26 mm_LiftGroupModel_45 rfl rfl h rfl (Nat.le_refl _) (Nat.zero_le _) (Nat.zero_le _) (Nat.le_of_ble_eq_true rfl) (fun vz9 Mz9 qz9 => ?_) (fun Ez9 Mz9 qz9 => ?_)
      · obtain ⟨M9, eMz9⟩ : ∃ M9, M9 = Mz9 := ⟨_, rfl⟩; subst eMz9
        obtain ⟨hxz9, h⟩ := qz9
        cases hxz9
        refine j_iconst (v := (0 : Int32)) hX eX7_tripsWithin_29 (by decide) ?_
        refine j_istore_n (lv' := [(2, .int (0 : Int32)), (0, .ref a0), (1, .int a1)]) hX eX7_tripsWithin_30 rfl (by decide) rfl ?_
        exact j_sub [1, 2, 0] rfl (k31 _ _ _ _ h)
      · obtain ⟨hxz9, h⟩ := qz9
        cases hxz9
    · replace h := h.1 c3
      refine j_aload_n hX eX7_tripsWithin_10 0 rfl ?_
      refine j_iconst (v := (1 : Int32)) hX eX7_tripsWithin_11 (by decide) ?_
      obtain ⟨t13, h⟩ := h
      refine j_callV (a := a0) (q := (RX7, TX7, 17)) (r' := rX7_fails) (As := [.int (1 : Int32)]) (rest := []) (d1 := d) hX eX7_tripsWithin_12 mm_LiftGroupModel_90 rfl t13 (by decide) rfl h rfl (Nat.le_refl _) (Nat.zero_le _) (Nat.zero_le _) (Nat.le_of_ble_eq_true rfl) (fun vz9 Mz9 qz9 => ?_) (fun Ez9 Mz9 qz9 => ?_)
      · obtain ⟨M11, eMz9⟩ : ∃ M11, M11 = Mz9 := ⟨_, rfl⟩; subst eMz9
        obtain ⟨v12, hxz9, h⟩ := qz9
        cases hxz9
        exact j_iret hX hM eX7_tripsWithin_15 rfl h
      · obtain ⟨v12, hxz9, h⟩ := qz9
        cases hxz9
  · obtain ⟨v2, hxz9, h⟩ := qz9
    cases hxz9
set_option maxHeartbeats 4000000 in
set_option maxRecDepth 20000 in
theorem vX7_tripsWithin_31 {X : am_Cx} {G : am_Gx} {d : Nat} {Q : am_Q} (hX : am_ok X rX7_tripsWithin G (d + 1)) (hM : am_me X rX7_tripsWithin Q) {bc bs : Nat} (R31 : Nat → Int32 → Int32 → am_Hp → Prop) (k31 : ∀ (x0 : Nat) (x1 : Int32) (x2 : Int32) (M : am_Hp), R31 x0 x1 x2 M → am_J X 31 [(0, .ref x0), (1, .int x1), (2, .int x2)] [] M bc bs) {a0 : Nat} {a1 : Int32} {a2 : Int32} {M : am_Hp} (h : ((a1 ≤ a2) → (hp_T M (a0) = 8 ∧ (hp_R M 140 a0 ≠ 0 ∧ (∀ p4 : Nat, p4 = hp_R M 140 a0 → (hp_T M (p4) = 22 ∧ (vp_in (3 : Int32) (hp_N M p4) ∧ (∀ v7 : Int32, v7 = (hp_E M p4 ((3 : Int32)).toNatClampNeg) → (hp_R M 142 a0 ≠ 0 ∧ (∀ p9 : Nat, p9 = hp_R M 142 a0 → (hp_R M 140 a0 ≠ 0 ∧ (∀ p11 : Nat, p11 = hp_R M 140 a0 → (am_CT G d rX7_copy [.ref p9, .int (0 : Int32), .ref p11, .int (0 : Int32)] M 0 0 (fun oz9 M12 => oz9 = .inl none ∧ (hp_T M12 (a0) = 8 ∧ (hp_R M12 140 a0 ≠ 0 ∧ (∀ p16 : Nat, p16 = hp_R M12 140 a0 → (hp_T M12 (p16) = 22 ∧ (vp_in (3 : Int32) (hp_N M12 p16) ∧ (am_CT G d rX7_done [.ref a0, .int (v7 - (hp_E M12 p16 ((3 : Int32)).toNatClampNeg))] M12 0 0 (fun oz9 M19 => ∃ v20 : Int32, oz9 = .inl (some (.int v20)) ∧ (Q (.inl (some (.int v20))) M19))))))))))))))))))))) ∧ (¬ (a1 ≤ a2) → (hp_T M (a0) = 8 ∧ (am_CT G d rX7_step [.ref a0] M 0 0 (fun oz9 M21 => oz9 = .inl none ∧ (∀ v24 : Int32, v24 = a2 + (1 : Int32) → (R31 a0 a1 v24 M21))))))) : am_J X 31 [(0, .ref a0), (1, .int a1), (2, .int a2)] [] M bc bs := by
  refine j_iload_n hX eX7_tripsWithin_31 2 rfl ?_
  refine j_iload_n hX eX7_tripsWithin_32 1 rfl ?_
  refine j_icmp_ge hX 46 eX7_tripsWithin_33 (by decide) (fun c1 => ?_) (fun c1 => ?_)
  · replace h := h.1 c1
    refine j_aload_n hX eX7_tripsWithin_46 0 rfl ?_
    obtain ⟨t2, h⟩ := h
    obtain ⟨z3, h⟩ := h
    refine j_getR hX eX7_tripsWithin_47 ff_LiftGroupModel_7 rfl t2 (by decide) z3 ?_
    refine j_nmR (fun p4 ep4 => ?_)
    replace h := h p4 ep4
    refine j_iconst (v := (3 : Int32)) hX eX7_tripsWithin_50 (by decide) ?_
    obtain ⟨t5, h⟩ := h
    obtain ⟨i6, h⟩ := h
    refine j_iald hX eX7_tripsWithin_51 t5 i6 ?_
    refine j_nmI (fun v7 ev7 => ?_)
    replace h := h v7 ev7
    refine j_istore_n (lv' := [(2, .int v7), (0, .ref a0), (1, .int a1)]) hX eX7_tripsWithin_52 rfl (by decide) rfl ?_
    refine j_aload_n hX eX7_tripsWithin_53 1 rfl ?_
    obtain ⟨z8, h⟩ := h
    refine j_getR hX eX7_tripsWithin_54 ff_LiftGroupModel_16 rfl t2 (by decide) z8 ?_
    refine j_nmR (fun p9 ep9 => ?_)
    replace h := h p9 ep9
    refine j_iconst (v := (0 : Int32)) hX eX7_tripsWithin_57 (by decide) ?_
    refine j_aload_n hX eX7_tripsWithin_58 1 rfl ?_
    obtain ⟨z10, h⟩ := h
    refine j_getR hX eX7_tripsWithin_59 ff_LiftGroupModel_7 rfl t2 (by decide) z10 ?_
    refine j_nmR (fun p11 ep11 => ?_)
    replace h := h p11 ep11
    refine j_iconst (v := (0 : Int32)) hX eX7_tripsWithin_62 (by decide) ?_
    refine j_callS (r' := rX7_copy) (As := [.ref p9, .int (0 : Int32), .ref p11, .int (0 : Int32)]) (rest := []) (d1 := d) hX eX7_tripsWithin_63 mm_LiftGroupModel_45 rfl rfl h rfl (Nat.le_refl _) (Nat.zero_le _) (Nat.zero_le _) (Nat.le_of_ble_eq_true rfl) (fun vz9 Mz9 qz9 => ?_) (fun Ez9 Mz9 qz9 => ?_)
    · obtain ⟨M12, eMz9⟩ : ∃ M12, M12 = Mz9 := ⟨_, rfl⟩; subst eMz9
      obtain ⟨hxz9, h⟩ := qz9
      cases hxz9
      refine j_aload_n hX eX7_tripsWithin_66 1 rfl ?_
      refine j_iload_n hX eX7_tripsWithin_67 0 rfl ?_
      refine j_aload_n hX eX7_tripsWithin_68 1 rfl ?_
      obtain ⟨t14, h⟩ := h
      obtain ⟨z15, h⟩ := h
      refine j_getR hX eX7_tripsWithin_69 ff_LiftGroupModel_7 rfl t14 (by decide) z15 ?_
      refine j_nmR (fun p16 ep16 => ?_)
      replace h := h p16 ep16
      refine j_iconst (v := (3 : Int32)) hX eX7_tripsWithin_72 (by decide) ?_
      obtain ⟨t17, h⟩ := h
      obtain ⟨i18, h⟩ := h
      refine j_iald hX eX7_tripsWithin_73 t17 i18 ?_
      refine j_isub hX eX7_tripsWithin_74 ?_
      refine j_callV (a := a0) (q := (RX7, TX7, 17)) (r' := rX7_done) (As := [.int (v7 - (hp_E M12 p16 ((3 : Int32)).toNatClampNeg))]) (rest := []) (d1 := d) hX eX7_tripsWithin_75 mm_LiftGroupModel_97 rfl t14 (by decide) rfl h rfl (Nat.le_refl _) (Nat.zero_le _) (Nat.zero_le _) (Nat.le_of_ble_eq_true rfl) (fun vz9 Mz9 qz9 => ?_) (fun Ez9 Mz9 qz9 => ?_)
      · obtain ⟨M19, eMz9⟩ : ∃ M19, M19 = Mz9 := ⟨_, rfl⟩; subst eMz9
        obtain ⟨v20, hxz9, h⟩ := qz9
        cases hxz9
        exact j_iret hX hM eX7_tripsWithin_78 rfl h
      · obtain ⟨v20, hxz9, h⟩ := qz9
        cases hxz9
    · obtain ⟨hxz9, h⟩ := qz9
      cases hxz9
  · replace h := h.2 c1
    refine j_aload_n hX eX7_tripsWithin_36 0 rfl ?_
    obtain ⟨t23, h⟩ := h
    refine j_callV (a := a0) (q := (RX7, TX7, 17)) (r' := rX7_step) (As := []) (rest := []) (d1 := d) hX eX7_tripsWithin_37 mm_LiftGroupModel_156 rfl t23 (by decide) rfl h rfl (Nat.le_refl _) (Nat.zero_le _) (Nat.zero_le _) (Nat.le_of_ble_eq_true rfl) (fun vz9 Mz9 qz9 => ?_) (fun Ez9 Mz9 qz9 => ?_)
    · obtain ⟨M21, eMz9⟩ : ∃ M21, M21 = Mz9 := ⟨_, rfl⟩; subst eMz9
      obtain ⟨hxz9, h⟩ := qz9
      cases hxz9
      obtain ⟨v24, ev24⟩ : ∃ v24 : Int32, v24 = a2 + (1 : Int32) := ⟨_, rfl⟩
      replace h := h v24 ev24
      refine j_iinc (v := v24) (lv' := [(2, .int v24), (0, .ref a0), (1, .int a1)]) hX eX7_tripsWithin_40 2 rfl (by rw [ev24]; rfl) (by decide) rfl ?_
      refine j_goto hX 31 eX7_tripsWithin_43 (by decide) ?_
      exact j_sub [1, 2, 0] rfl (k31 _ _ _ _ h)
    · obtain ⟨hxz9, h⟩ := qz9
      cases hxz9

set_option maxHeartbeats 4000000 in
set_option maxRecDepth 20000 in
theorem vX7_isAhead_0 {X : am_Cx} {G : am_Gx} {d : Nat} {Q : am_Q} (hX : am_ok X rX7_isAhead G (d + 1)) (hM : am_me X rX7_isAhead Q) {bc bs : Nat}  {a0 : Nat} {a1 : Int32} {a2 : Int32} {M : am_Hp} (h : hp_T M (a0) = 8 ∧ (hp_R M 140 a0 ≠ 0 ∧ (∀ p3 : Nat, p3 = hp_R M 140 a0 → (hp_T M (p3) = 22 ∧ (vp_in ((75 : Int32) + a1) (hp_N M p3) ∧ (hp_R M 140 a0 ≠ 0 ∧ (∀ p7 : Nat, p7 = hp_R M 140 a0 → (hp_T M (p7) = 22 ∧ (vp_in ((75 : Int32) + a2) (hp_N M p7) ∧ (∀ v10 : Int32, v10 = ((hp_E M p3 (((75 : Int32) + a1)).toNatClampNeg) - (hp_E M p7 (((75 : Int32) + a2)).toNatClampNeg)) → (hp_R M 140 a0 ≠ 0 ∧ (∀ p12 : Nat, p12 = hp_R M 140 a0 → (hp_T M (p12) = 22 ∧ (vp_in ((99 : Int32) + a2) (hp_N M p12) ∧ (hp_R M 140 a0 ≠ 0 ∧ (∀ p16 : Nat, p16 = hp_R M 140 a0 → (hp_T M (p16) = 22 ∧ (vp_in ((99 : Int32) + a1) (hp_N M p16) ∧ (∀ v19 : Int32, v19 = ((hp_E M p12 (((99 : Int32) + a2)).toNatClampNeg) - (hp_E M p16 (((99 : Int32) + a1)).toNatClampNeg)) → (((0 < v10) → (Q (.inl (some (.int (1 : Int32)))) M)) ∧ (¬ (0 < v10) → (((v10 = 0) → (((0 < v19) → (Q (.inl (some (.int (1 : Int32)))) M)) ∧ (¬ (0 < v19) → (((v19 = 0) → (((a2 ≤ a1) → (Q (.inl (some (.int (0 : Int32)))) M)) ∧ (¬ (a2 ≤ a1) → (Q (.inl (some (.int (1 : Int32)))) M)))) ∧ (¬ (v19 = 0) → (Q (.inl (some (.int (0 : Int32)))) M)))))) ∧ (¬ (v10 = 0) → (Q (.inl (some (.int (0 : Int32)))) M)))))))))))))))))))))))) : am_J X 0 [(0, .ref a0), (1, .int a1), (2, .int a2)] [] M bc bs := by
  refine j_aload_n hX eX7_isAhead_0 0 rfl ?_
  obtain ⟨t1, h⟩ := h
  obtain ⟨z2, h⟩ := h
  refine j_getR hX eX7_isAhead_1 ff_LiftGroupModel_7 rfl t1 (by decide) z2 ?_
  refine j_nmR (fun p3 ep3 => ?_)
  replace h := h p3 ep3
  refine j_bipush (v := (75 : Int32)) hX eX7_isAhead_4 (by decide) ?_
  refine j_iload_n hX eX7_isAhead_6 1 rfl ?_
  refine j_iadd hX eX7_isAhead_7 ?_
  obtain ⟨t4, h⟩ := h
  obtain ⟨i5, h⟩ := h
  refine j_iald hX eX7_isAhead_8 t4 i5 ?_
  refine j_aload_n hX eX7_isAhead_9 0 rfl ?_
  obtain ⟨z6, h⟩ := h
  refine j_getR hX eX7_isAhead_10 ff_LiftGroupModel_7 rfl t1 (by decide) z6 ?_
  refine j_nmR (fun p7 ep7 => ?_)
  replace h := h p7 ep7
  refine j_bipush (v := (75 : Int32)) hX eX7_isAhead_13 (by decide) ?_
  refine j_iload_n hX eX7_isAhead_15 2 rfl ?_
  refine j_iadd hX eX7_isAhead_16 ?_
  obtain ⟨t8, h⟩ := h
  obtain ⟨i9, h⟩ := h
  refine j_iald hX eX7_isAhead_17 t8 i9 ?_
  refine j_isub hX eX7_isAhead_18 ?_
  refine j_nmI (fun v10 ev10 => ?_)
  replace h := h v10 ev10
  refine j_istore_n (lv' := [(3, .int v10), (0, .ref a0), (1, .int a1), (2, .int a2)]) hX eX7_isAhead_19 rfl (by decide) rfl ?_
  refine j_aload_n hX eX7_isAhead_20 1 rfl ?_
  obtain ⟨z11, h⟩ := h
  refine j_getR hX eX7_isAhead_21 ff_LiftGroupModel_7 rfl t1 (by decide) z11 ?_
  refine j_nmR (fun p12 ep12 => ?_)
  replace h := h p12 ep12
  refine j_bipush (v := (99 : Int32)) hX eX7_isAhead_24 (by decide) ?_
  refine j_iload_n hX eX7_isAhead_26 3 rfl ?_
  refine j_iadd hX eX7_isAhead_27 ?_
  obtain ⟨t13, h⟩ := h
  obtain ⟨i14, h⟩ := h
  refine j_iald hX eX7_isAhead_28 t13 i14 ?_
  refine j_aload_n hX eX7_isAhead_29 1 rfl ?_
  obtain ⟨z15, h⟩ := h
  refine j_getR hX eX7_isAhead_30 ff_LiftGroupModel_7 rfl t1 (by decide) z15 ?_
  refine j_nmR (fun p16 ep16 => ?_)
  replace h := h p16 ep16
  refine j_bipush (v := (99 : Int32)) hX eX7_isAhead_33 (by decide) ?_
  refine j_iload_n hX eX7_isAhead_35 2 rfl ?_
  refine j_iadd hX eX7_isAhead_36 ?_
  obtain ⟨t17, h⟩ := h
  obtain ⟨i18, h⟩ := h
  refine j_iald hX eX7_isAhead_37 t17 i18 ?_
  refine j_isub hX eX7_isAhead_38 ?_
  refine j_nmI (fun v19 ev19 => ?_)
  replace h := h v19 ev19
  refine j_istore (lv' := [(4, .int v19), (3, .int v10), (0, .ref a0), (1, .int a1), (2, .int a2)]) hX eX7_isAhead_39 (by decide) rfl ?_
  refine j_iload_n hX eX7_isAhead_41 1 rfl ?_
  refine j_if_gt hX 64 eX7_isAhead_42 (by decide) (fun c20 => ?_) (fun c20 => ?_)
  · replace h := h.1 c20
    refine j_iconst (v := (1 : Int32)) hX eX7_isAhead_64 (by decide) ?_
    refine j_goto hX 69 eX7_isAhead_65 (by decide) ?_
    exact j_zret hX hM eX7_isAhead_69 rfl (by decide) h
  · replace h := h.2 c20
    refine j_iload_n hX eX7_isAhead_45 1 rfl ?_
    refine j_if_ne hX 68 eX7_isAhead_46 (by decide) (fun c21 => ?_) (fun c21 => ?_)
    · replace h := h.2 c21
      refine j_iconst (v := (0 : Int32)) hX eX7_isAhead_68 (by decide) ?_
      exact j_zret hX hM eX7_isAhead_69 rfl (by decide) h
    · replace h := h.1 c21
      refine j_iload hX eX7_isAhead_49 0 rfl ?_
      refine j_if_gt hX 64 eX7_isAhead_51 (by decide) (fun c22 => ?_) (fun c22 => ?_)
      · replace h := h.1 c22
        refine j_iconst (v := (1 : Int32)) hX eX7_isAhead_64 (by decide) ?_
        refine j_goto hX 69 eX7_isAhead_65 (by decide) ?_
        exact j_zret hX hM eX7_isAhead_69 rfl (by decide) h
      · replace h := h.2 c22
        refine j_iload hX eX7_isAhead_54 0 rfl ?_
        refine j_if_ne hX 68 eX7_isAhead_56 (by decide) (fun c23 => ?_) (fun c23 => ?_)
        · replace h := h.2 c23
          refine j_iconst (v := (0 : Int32)) hX eX7_isAhead_68 (by decide) ?_
          exact j_zret hX hM eX7_isAhead_69 rfl (by decide) h
        · replace h := h.1 c23
          refine j_iload_n hX eX7_isAhead_59 3 rfl ?_
          refine j_iload_n hX eX7_isAhead_60 4 rfl ?_
          refine j_icmp_ge hX 68 eX7_isAhead_61 (by decide) (fun c24 => ?_) (fun c24 => ?_)
          · replace h := h.1 c24
            refine j_iconst (v := (0 : Int32)) hX eX7_isAhead_68 (by decide) ?_
            exact j_zret hX hM eX7_isAhead_69 rfl (by decide) h
          · replace h := h.2 c24
            refine j_iconst (v := (1 : Int32)) hX eX7_isAhead_64 (by decide) ?_
            refine j_goto hX 69 eX7_isAhead_65 (by decide) ?_
            exact j_zret hX hM eX7_isAhead_69 rfl (by decide) h

set_option maxHeartbeats 4000000 in
set_option maxRecDepth 20000 in
theorem vX7_passengerByWaiting_0 {X : am_Cx} {G : am_Gx} {d : Nat} {Q : am_Q} (hX : am_ok X rX7_passengerByWaiting G (d + 1)) (hM : am_me X rX7_passengerByWaiting Q) {bc bs : Nat} (R2 : Nat → Int32 → Int32 → am_Hp → Prop) (k2 : ∀ (x0 : Nat) (x1 : Int32) (x2 : Int32) (M : am_Hp), R2 x0 x1 x2 M → am_J X 2 [(0, .ref x0), (1, .int x1), (2, .int x2)] [] M bc bs) {a0 : Nat} {a1 : Int32} {M : am_Hp} (h : R2 a0 a1 (0 : Int32) M) : am_J X 0 [(0, .ref a0), (1, .int a1)] [] M bc bs := by
  refine j_iconst (v := (0 : Int32)) hX eX7_passengerByWaiting_0 (by decide) ?_
  refine j_istore_n (lv' := [(2, .int (0 : Int32)), (0, .ref a0), (1, .int a1)]) hX eX7_passengerByWaiting_1 rfl (by decide) rfl ?_
  exact j_sub [1, 2, 0] rfl (k2 _ _ _ _ h)
set_option maxHeartbeats 4000000 in
set_option maxRecDepth 20000 in
theorem vX7_passengerByWaiting_2 {X : am_Cx} {G : am_Gx} {d : Nat} {Q : am_Q} (hX : am_ok X rX7_passengerByWaiting G (d + 1)) (hM : am_me X rX7_passengerByWaiting Q) {bc bs : Nat} (R17 : Nat → Int32 → Int32 → Int32 → Int32 → am_Hp → Prop) (k17 : ∀ (x0 : Nat) (x1 : Int32) (x2 : Int32) (x3 : Int32) (x4 : Int32) (M : am_Hp), R17 x0 x1 x2 x3 x4 M → am_J X 17 [(0, .ref x0), (1, .int x1), (2, .int x2), (3, .int x3), (4, .int x4)] [] M bc bs) {a0 : Nat} {a1 : Int32} {a2 : Int32} {M : am_Hp} (h : hp_T M (a0) = 8 ∧ (hp_R M 140 a0 ≠ 0 ∧ (∀ p3 : Nat, p3 = hp_R M 140 a0 → (hp_T M (p3) = 22 ∧ (vp_in (1 : Int32) (hp_N M p3) ∧ ((((hp_E M p3 ((1 : Int32)).toNatClampNeg) ≤ a2) → (am_CT G d rX7_fails [.ref a0, .int (1 : Int32)] M 0 0 (fun oz9 M7 => ∃ v8 : Int32, oz9 = .inl (some (.int v8)) ∧ (Q (.inl (some (.int v8))) M7)))) ∧ (¬ ((hp_E M p3 ((1 : Int32)).toNatClampNeg) ≤ a2) → (R17 a0 a1 a2 (0 : Int32) (0 : Int32) M)))))))) : am_J X 2 [(0, .ref a0), (1, .int a1), (2, .int a2)] [] M bc bs := by
  refine j_iload_n hX eX7_passengerByWaiting_2 2 rfl ?_
  refine j_aload_n hX eX7_passengerByWaiting_3 0 rfl ?_
  obtain ⟨t1, h⟩ := h
  obtain ⟨z2, h⟩ := h
  refine j_getR hX eX7_passengerByWaiting_4 ff_LiftGroupModel_7 rfl t1 (by decide) z2 ?_
  refine j_nmR (fun p3 ep3 => ?_)
  replace h := h p3 ep3
  refine j_iconst (v := (1 : Int32)) hX eX7_passengerByWaiting_7 (by decide) ?_
  obtain ⟨t4, h⟩ := h
  obtain ⟨i5, h⟩ := h
  refine j_iald hX eX7_passengerByWaiting_8 t4 i5 ?_
  refine j_icmp_ge hX 69 eX7_passengerByWaiting_9 (by decide) (fun c6 => ?_) (fun c6 => ?_)
  · replace h := h.1 c6
    refine j_aload_n hX eX7_passengerByWaiting_69 0 rfl ?_
    refine j_iconst (v := (1 : Int32)) hX eX7_passengerByWaiting_70 (by decide) ?_
    refine j_callV (a := a0) (q := (RX7, TX7, 17)) (r' := rX7_fails) (As := [.int (1 : Int32)]) (rest := []) (d1 := d) hX eX7_passengerByWaiting_71 mm_LiftGroupModel_90 rfl t1 (by decide) rfl h rfl (Nat.le_refl _) (Nat.zero_le _) (Nat.zero_le _) (Nat.le_of_ble_eq_true rfl) (fun vz9 Mz9 qz9 => ?_) (fun Ez9 Mz9 qz9 => ?_)
    · obtain ⟨M7, eMz9⟩ : ∃ M7, M7 = Mz9 := ⟨_, rfl⟩; subst eMz9
      obtain ⟨v8, hxz9, h⟩ := qz9
      cases hxz9
      exact j_iret hX hM eX7_passengerByWaiting_74 rfl h
    · obtain ⟨v8, hxz9, h⟩ := qz9
      cases hxz9
  · replace h := h.2 c6
    refine j_iconst (v := (0 : Int32)) hX eX7_passengerByWaiting_12 (by decide) ?_
    refine j_istore_n (lv' := [(3, .int (0 : Int32)), (0, .ref a0), (1, .int a1), (2, .int a2)]) hX eX7_passengerByWaiting_13 rfl (by decide) rfl ?_
    refine j_iconst (v := (0 : Int32)) hX eX7_passengerByWaiting_14 (by decide) ?_
    refine j_istore (lv' := [(4, .int (0 : Int32)), (3, .int (0 : Int32)), (0, .ref a0), (1, .int a1), (2, .int a2)]) hX eX7_passengerByWaiting_15 (by decide) rfl ?_
    exact j_sub [2, 3, 4, 1, 0] rfl (k17 _ _ _ _ _ _ h)
set_option maxHeartbeats 4000000 in
set_option maxRecDepth 20000 in
theorem vX7_passengerByWaiting_17 {X : am_Cx} {G : am_Gx} {d : Nat} {Q : am_Q} (hX : am_ok X rX7_passengerByWaiting G (d + 1)) (hM : am_me X rX7_passengerByWaiting Q) {bc bs : Nat} (R2 : Nat → Int32 → Int32 → am_Hp → Prop) (k2 : ∀ (x0 : Nat) (x1 : Int32) (x2 : Int32) (M : am_Hp), R2 x0 x1 x2 M → am_J X 2 [(0, .ref x0), (1, .int x1), (2, .int x2)] [] M bc bs) (R17 : Nat → Int32 → Int32 → Int32 → Int32 → am_Hp → Prop) (k17 : ∀ (x0 : Nat) (x1 : Int32) (x2 : Int32) (x3 : Int32) (x4 : Int32) (M : am_Hp), R17 x0 x1 x2 x3 x4 M → am_J X 17 [(0, .ref x0), (1, .int x1), (2, .int x2), (3, .int x3), (4, .int x4)] [] M bc bs) {a0 : Nat} {a1 : Int32} {a2 : Int32} {a3 : Int32} {a4 : Int32} {M : am_Hp} (h : hp_T M (a0) = 8 ∧ (hp_R M 140 a0 ≠ 0 ∧ (∀ p3 : Nat, p3 = hp_R M 140 a0 → (hp_T M (p3) = 22 ∧ (vp_in (1 : Int32) (hp_N M p3) ∧ ((((hp_E M p3 ((1 : Int32)).toNatClampNeg) ≤ a4) → (((a3 = a1) → (am_CT G d rX7_done [.ref a0, .int a2] M 0 0 (fun oz9 M9 => ∃ v10 : Int32, oz9 = .inl (some (.int v10)) ∧ (Q (.inl (some (.int v10))) M9)))) ∧ (¬ (a3 = a1) → (∀ v8 : Int32, v8 = a2 + (1 : Int32) → (R2 a0 a1 v8 M))))) ∧ (¬ ((hp_E M p3 ((1 : Int32)).toNatClampNeg) ≤ a4) → (am_CT G d rX7_isAhead [.ref a0, .int a4, .int a2] M 0 0 (fun oz9 M11 => ∃ v12 : Int32, oz9 = .inl (some (.int v12)) ∧ (((v12 = 0) → (∀ v14 : Int32, v14 = (a3 + (0 : Int32)) → (∀ v15 : Int32, v15 = a4 + (1 : Int32) → (R17 a0 a1 a2 v14 v15 M11)))) ∧ (¬ (v12 = 0) → (∀ v16 : Int32, v16 = (a3 + (1 : Int32)) → (∀ v17 : Int32, v17 = a4 + (1 : Int32) → (R17 a0 a1 a2 v16 v17 M11)))))))))))))) : am_J X 17 [(0, .ref a0), (1, .int a1), (2, .int a2), (3, .int a3), (4, .int a4)] [] M bc bs := by
  refine j_iload hX eX7_passengerByWaiting_17 4 rfl ?_
  refine j_aload_n hX eX7_passengerByWaiting_19 0 rfl ?_
  obtain ⟨t1, h⟩ := h
  obtain ⟨z2, h⟩ := h
  refine j_getR hX eX7_passengerByWaiting_20 ff_LiftGroupModel_7 rfl t1 (by decide) z2 ?_
  refine j_nmR (fun p3 ep3 => ?_)
  replace h := h p3 ep3
  refine j_iconst (v := (1 : Int32)) hX eX7_passengerByWaiting_23 (by decide) ?_
  obtain ⟨t4, h⟩ := h
  obtain ⟨i5, h⟩ := h
  refine j_iald hX eX7_passengerByWaiting_24 t4 i5 ?_
  refine j_icmp_ge hX 52 eX7_passengerByWaiting_25 (by decide) (fun c6 => ?_) (fun c6 => ?_)
  · replace h := h.1 c6
    refine j_iload_n hX eX7_passengerByWaiting_52 3 rfl ?_
    refine j_iload_n hX eX7_passengerByWaiting_53 1 rfl ?_
    refine j_icmp_ne hX 63 eX7_passengerByWaiting_54 (by decide) (fun c7 => ?_) (fun c7 => ?_)
    · replace h := h.2 c7
      obtain ⟨v8, ev8⟩ : ∃ v8 : Int32, v8 = a2 + (1 : Int32) := ⟨_, rfl⟩
      replace h := h v8 ev8
      refine j_iinc (v := v8) (lv' := [(2, .int v8), (0, .ref a0), (1, .int a1), (3, .int a3), (4, .int a4)]) hX eX7_passengerByWaiting_63 2 rfl (by rw [ev8]; rfl) (by decide) rfl ?_
      refine j_goto hX 2 eX7_passengerByWaiting_66 (by decide) ?_
      exact j_sub [1, 2, 0] rfl (k2 _ _ _ _ h)
    · replace h := h.1 c7
      refine j_aload_n hX eX7_passengerByWaiting_57 0 rfl ?_
      refine j_iload_n hX eX7_passengerByWaiting_58 2 rfl ?_
      refine j_callV (a := a0) (q := (RX7, TX7, 17)) (r' := rX7_done) (As := [.int a2]) (rest := []) (d1 := d) hX eX7_passengerByWaiting_59 mm_LiftGroupModel_97 rfl t1 (by decide) rfl h rfl (Nat.le_refl _) (Nat.zero_le _) (Nat.zero_le _) (Nat.le_of_ble_eq_true rfl) (fun vz9 Mz9 qz9 => ?_) (fun Ez9 Mz9 qz9 => ?_)
      · obtain ⟨M9, eMz9⟩ : ∃ M9, M9 = Mz9 := ⟨_, rfl⟩; subst eMz9
        obtain ⟨v10, hxz9, h⟩ := qz9
        cases hxz9
        exact j_iret hX hM eX7_passengerByWaiting_62 rfl h
      · obtain ⟨v10, hxz9, h⟩ := qz9
        cases hxz9
  · replace h := h.2 c6
    refine j_iload_n hX eX7_passengerByWaiting_28 3 rfl ?_
    refine j_aload_n hX eX7_passengerByWaiting_29 0 rfl ?_
    refine j_iload hX eX7_passengerByWaiting_30 4 rfl ?_
    refine j_iload_n hX eX7_passengerByWaiting_32 2 rfl ?_
    refine j_callV (a := a0) (q := (RX7, TX7, 17)) (r' := rX7_isAhead) (As := [.int a4, .int a2]) (rest := [.int a3]) (d1 := d) hX eX7_passengerByWaiting_33 mm_LiftGroupModel_191 rfl t1 (by decide) rfl h rfl (Nat.le_refl _) (Nat.zero_le _) (Nat.zero_le _) (Nat.le_of_ble_eq_true rfl) (fun vz9 Mz9 qz9 => ?_) (fun Ez9 Mz9 qz9 => ?_)
    · obtain ⟨M11, eMz9⟩ : ∃ M11, M11 = Mz9 := ⟨_, rfl⟩; subst eMz9
      obtain ⟨v12, hxz9, h⟩ := qz9
      cases hxz9
      refine j_if_eq hX 43 eX7_passengerByWaiting_36 (by decide) (fun c13 => ?_) (fun c13 => ?_)
      · replace h := h.1 c13
        refine j_iconst (v := (0 : Int32)) hX eX7_passengerByWaiting_43 (by decide) ?_
        refine j_iadd hX eX7_passengerByWaiting_44 ?_
        refine j_nmI (fun v14 ev14 => ?_)
        replace h := h v14 ev14
        refine j_istore_n (lv' := [(3, .int v14), (0, .ref a0), (1, .int a1), (2, .int a2), (4, .int a4)]) hX eX7_passengerByWaiting_45 rfl (by decide) rfl ?_
        obtain ⟨v15, ev15⟩ : ∃ v15 : Int32, v15 = a4 + (1 : Int32) := ⟨_, rfl⟩
        replace h := h v15 ev15
        refine j_iinc (v := v15) (lv' := [(4, .int v15), (3, .int v14), (0, .ref a0), (1, .int a1), (2, .int a2)]) hX eX7_passengerByWaiting_46 4 rfl (by rw [ev15]; rfl) (by decide) rfl ?_
        refine j_goto hX 17 eX7_passengerByWaiting_49 (by decide) ?_
        exact j_sub [2, 3, 4, 1, 0] rfl (k17 _ _ _ _ _ _ h)
      · replace h := h.2 c13
        refine j_iconst (v := (1 : Int32)) hX eX7_passengerByWaiting_39 (by decide) ?_
        refine j_goto hX 44 eX7_passengerByWaiting_40 (by decide) ?_
        refine j_iadd hX eX7_passengerByWaiting_44 ?_
        refine j_nmI (fun v16 ev16 => ?_)
        replace h := h v16 ev16
        refine j_istore_n (lv' := [(3, .int v16), (0, .ref a0), (1, .int a1), (2, .int a2), (4, .int a4)]) hX eX7_passengerByWaiting_45 rfl (by decide) rfl ?_
        obtain ⟨v17, ev17⟩ : ∃ v17 : Int32, v17 = a4 + (1 : Int32) := ⟨_, rfl⟩
        replace h := h v17 ev17
        refine j_iinc (v := v17) (lv' := [(4, .int v17), (3, .int v16), (0, .ref a0), (1, .int a1), (2, .int a2)]) hX eX7_passengerByWaiting_46 4 rfl (by rw [ev17]; rfl) (by decide) rfl ?_
        refine j_goto hX 17 eX7_passengerByWaiting_49 (by decide) ?_
        exact j_sub [2, 3, 4, 1, 0] rfl (k17 _ _ _ _ _ _ h)
    · obtain ⟨v12, hxz9, h⟩ := qz9
      cases hxz9

set_option maxHeartbeats 4000000 in
set_option maxRecDepth 20000 in
theorem vX7_isCarAhead_0 {X : am_Cx} {G : am_Gx} {d : Nat} {Q : am_Q} (hX : am_ok X rX7_isCarAhead G (d + 1)) (hM : am_me X rX7_isCarAhead Q) {bc bs : Nat}  {a0 : Nat} {a1 : Int32} {a2 : Int32} {M : am_Hp} (h : hp_T M (a0) = 8 ∧ (hp_R M 140 a0 ≠ 0 ∧ (∀ p3 : Nat, p3 = hp_R M 140 a0 → (hp_T M (p3) = 22 ∧ (vp_in ((24 : Int32) + a1) (hp_N M p3) ∧ (hp_R M 140 a0 ≠ 0 ∧ (∀ p7 : Nat, p7 = hp_R M 140 a0 → (hp_T M (p7) = 22 ∧ (vp_in ((24 : Int32) + a2) (hp_N M p7) ∧ (∀ v10 : Int32, v10 = ((hp_E M p3 (((24 : Int32) + a1)).toNatClampNeg) - (hp_E M p7 (((24 : Int32) + a2)).toNatClampNeg)) → (am_CT G d rX7_loadOf [.ref a0, .int a1] M 0 0 (fun oz9 M11 => ∃ v12 : Int32, oz9 = .inl (some (.int v12)) ∧ (hp_T M11 (a0) = 8 ∧ (am_CT G d rX7_loadOf [.ref a0, .int a2] M11 0 0 (fun oz9 M13 => ∃ v14 : Int32, oz9 = .inl (some (.int v14)) ∧ (∀ v16 : Int32, v16 = (v12 - v14) → (((0 < v10) → (Q (.inl (some (.int (1 : Int32)))) M13)) ∧ (¬ (0 < v10) → (((v10 = 0) → (((0 < v16) → (Q (.inl (some (.int (1 : Int32)))) M13)) ∧ (¬ (0 < v16) → (((v16 = 0) → (((a2 ≤ a1) → (Q (.inl (some (.int (0 : Int32)))) M13)) ∧ (¬ (a2 ≤ a1) → (Q (.inl (some (.int (1 : Int32)))) M13)))) ∧ (¬ (v16 = 0) → (Q (.inl (some (.int (0 : Int32)))) M13)))))) ∧ (¬ (v10 = 0) → (Q (.inl (some (.int (0 : Int32)))) M13))))))))))))))))))))) : am_J X 0 [(0, .ref a0), (1, .int a1), (2, .int a2)] [] M bc bs := by
  refine j_aload_n hX eX7_isCarAhead_0 0 rfl ?_
  obtain ⟨t1, h⟩ := h
  obtain ⟨z2, h⟩ := h
  refine j_getR hX eX7_isCarAhead_1 ff_LiftGroupModel_7 rfl t1 (by decide) z2 ?_
  refine j_nmR (fun p3 ep3 => ?_)
  replace h := h p3 ep3
  refine j_bipush (v := (24 : Int32)) hX eX7_isCarAhead_4 (by decide) ?_
  refine j_iload_n hX eX7_isCarAhead_6 1 rfl ?_
  refine j_iadd hX eX7_isCarAhead_7 ?_
  obtain ⟨t4, h⟩ := h
  obtain ⟨i5, h⟩ := h
  refine j_iald hX eX7_isCarAhead_8 t4 i5 ?_
  refine j_aload_n hX eX7_isCarAhead_9 0 rfl ?_
  obtain ⟨z6, h⟩ := h
  refine j_getR hX eX7_isCarAhead_10 ff_LiftGroupModel_7 rfl t1 (by decide) z6 ?_
  refine j_nmR (fun p7 ep7 => ?_)
  replace h := h p7 ep7
  refine j_bipush (v := (24 : Int32)) hX eX7_isCarAhead_13 (by decide) ?_
  refine j_iload_n hX eX7_isCarAhead_15 2 rfl ?_
  refine j_iadd hX eX7_isCarAhead_16 ?_
  obtain ⟨t8, h⟩ := h
  obtain ⟨i9, h⟩ := h
  refine j_iald hX eX7_isCarAhead_17 t8 i9 ?_
  refine j_isub hX eX7_isCarAhead_18 ?_
  refine j_nmI (fun v10 ev10 => ?_)
  replace h := h v10 ev10
  refine j_istore_n (lv' := [(3, .int v10), (0, .ref a0), (1, .int a1), (2, .int a2)]) hX eX7_isCarAhead_19 rfl (by decide) rfl ?_
  refine j_aload_n hX eX7_isCarAhead_20 1 rfl ?_
  refine j_iload_n hX eX7_isCarAhead_21 2 rfl ?_
  refine j_callV (a := a0) (q := (RX7, TX7, 17)) (r' := rX7_loadOf) (As := [.int a1]) (rest := []) (d1 := d) hX eX7_isCarAhead_22 mm_LiftGroupModel_81 rfl t1 (by decide) rfl h rfl (Nat.le_refl _) (Nat.zero_le _) (Nat.zero_le _) (Nat.le_of_ble_eq_true rfl) (fun vz9 Mz9 qz9 => ?_) (fun Ez9 Mz9 qz9 => ?_)
  · obtain ⟨M11, eMz9⟩ : ∃ M11, M11 = Mz9 := ⟨_, rfl⟩; subst eMz9
    obtain ⟨v12, hxz9, h⟩ := qz9
    cases hxz9
    refine j_aload_n hX eX7_isCarAhead_25 1 rfl ?_
    refine j_iload_n hX eX7_isCarAhead_26 3 rfl ?_
    obtain ⟨t15, h⟩ := h
    refine j_callV (a := a0) (q := (RX7, TX7, 17)) (r' := rX7_loadOf) (As := [.int a2]) (rest := [.int v12]) (d1 := d) hX eX7_isCarAhead_27 mm_LiftGroupModel_81 rfl t15 (by decide) rfl h rfl (Nat.le_refl _) (Nat.zero_le _) (Nat.zero_le _) (Nat.le_of_ble_eq_true rfl) (fun vz9 Mz9 qz9 => ?_) (fun Ez9 Mz9 qz9 => ?_)
    · obtain ⟨M13, eMz9⟩ : ∃ M13, M13 = Mz9 := ⟨_, rfl⟩; subst eMz9
      obtain ⟨v14, hxz9, h⟩ := qz9
      cases hxz9
      refine j_isub hX eX7_isCarAhead_30 ?_
      refine j_nmI (fun v16 ev16 => ?_)
      replace h := h v16 ev16
      refine j_istore (lv' := [(4, .int v16), (3, .int v10), (0, .ref a0), (1, .int a1), (2, .int a2)]) hX eX7_isCarAhead_31 (by decide) rfl ?_
      refine j_iload_n hX eX7_isCarAhead_33 1 rfl ?_
      refine j_if_gt hX 56 eX7_isCarAhead_34 (by decide) (fun c17 => ?_) (fun c17 => ?_)
      · replace h := h.1 c17
        refine j_iconst (v := (1 : Int32)) hX eX7_isCarAhead_56 (by decide) ?_
        refine j_goto hX 61 eX7_isCarAhead_57 (by decide) ?_
        exact j_zret hX hM eX7_isCarAhead_61 rfl (by decide) h
      · replace h := h.2 c17
        refine j_iload_n hX eX7_isCarAhead_37 1 rfl ?_
        refine j_if_ne hX 60 eX7_isCarAhead_38 (by decide) (fun c18 => ?_) (fun c18 => ?_)
        · replace h := h.2 c18
          refine j_iconst (v := (0 : Int32)) hX eX7_isCarAhead_60 (by decide) ?_
          exact j_zret hX hM eX7_isCarAhead_61 rfl (by decide) h
        · replace h := h.1 c18
          refine j_iload hX eX7_isCarAhead_41 0 rfl ?_
          refine j_if_gt hX 56 eX7_isCarAhead_43 (by decide) (fun c19 => ?_) (fun c19 => ?_)
          · replace h := h.1 c19
            refine j_iconst (v := (1 : Int32)) hX eX7_isCarAhead_56 (by decide) ?_
            refine j_goto hX 61 eX7_isCarAhead_57 (by decide) ?_
            exact j_zret hX hM eX7_isCarAhead_61 rfl (by decide) h
          · replace h := h.2 c19
            refine j_iload hX eX7_isCarAhead_46 0 rfl ?_
            refine j_if_ne hX 60 eX7_isCarAhead_48 (by decide) (fun c20 => ?_) (fun c20 => ?_)
            · replace h := h.2 c20
              refine j_iconst (v := (0 : Int32)) hX eX7_isCarAhead_60 (by decide) ?_
              exact j_zret hX hM eX7_isCarAhead_61 rfl (by decide) h
            · replace h := h.1 c20
              refine j_iload_n hX eX7_isCarAhead_51 3 rfl ?_
              refine j_iload_n hX eX7_isCarAhead_52 4 rfl ?_
              refine j_icmp_ge hX 60 eX7_isCarAhead_53 (by decide) (fun c21 => ?_) (fun c21 => ?_)
              · replace h := h.1 c21
                refine j_iconst (v := (0 : Int32)) hX eX7_isCarAhead_60 (by decide) ?_
                exact j_zret hX hM eX7_isCarAhead_61 rfl (by decide) h
              · replace h := h.2 c21
                refine j_iconst (v := (1 : Int32)) hX eX7_isCarAhead_56 (by decide) ?_
                refine j_goto hX 61 eX7_isCarAhead_57 (by decide) ?_
                exact j_zret hX hM eX7_isCarAhead_61 rfl (by decide) h
    · obtain ⟨v14, hxz9, h⟩ := qz9
      cases hxz9
  · obtain ⟨v12, hxz9, h⟩ := qz9
    cases hxz9

set_option maxHeartbeats 4000000 in
set_option maxRecDepth 20000 in
theorem vX7_carByEnergy_0 {X : am_Cx} {G : am_Gx} {d : Nat} {Q : am_Q} (hX : am_ok X rX7_carByEnergy G (d + 1)) (hM : am_me X rX7_carByEnergy Q) {bc bs : Nat} (R2 : Nat → Int32 → Int32 → am_Hp → Prop) (k2 : ∀ (x0 : Nat) (x1 : Int32) (x2 : Int32) (M : am_Hp), R2 x0 x1 x2 M → am_J X 2 [(0, .ref x0), (1, .int x1), (2, .int x2)] [] M bc bs) {a0 : Nat} {a1 : Int32} {M : am_Hp} (h : R2 a0 a1 (0 : Int32) M) : am_J X 0 [(0, .ref a0), (1, .int a1)] [] M bc bs := by
  refine j_iconst (v := (0 : Int32)) hX eX7_carByEnergy_0 (by decide) ?_
  refine j_istore_n (lv' := [(2, .int (0 : Int32)), (0, .ref a0), (1, .int a1)]) hX eX7_carByEnergy_1 rfl (by decide) rfl ?_
  exact j_sub [1, 2, 0] rfl (k2 _ _ _ _ h)
set_option maxHeartbeats 4000000 in
set_option maxRecDepth 20000 in
theorem vX7_carByEnergy_2 {X : am_Cx} {G : am_Gx} {d : Nat} {Q : am_Q} (hX : am_ok X rX7_carByEnergy G (d + 1)) (hM : am_me X rX7_carByEnergy Q) {bc bs : Nat} (R12 : Nat → Int32 → Int32 → Int32 → Int32 → am_Hp → Prop) (k12 : ∀ (x0 : Nat) (x1 : Int32) (x2 : Int32) (x3 : Int32) (x4 : Int32) (M : am_Hp), R12 x0 x1 x2 x3 x4 M → am_J X 12 [(0, .ref x0), (1, .int x1), (2, .int x2), (3, .int x3), (4, .int x4)] [] M bc bs) {a0 : Nat} {a1 : Int32} {a2 : Int32} {M : am_Hp} (h : (((3 : Int32) ≤ a2) → (hp_T M (a0) = 8 ∧ (am_CT G d rX7_fails [.ref a0, .int (1 : Int32)] M 0 0 (fun oz9 M2 => ∃ v3 : Int32, oz9 = .inl (some (.int v3)) ∧ (Q (.inl (some (.int v3))) M2))))) ∧ (¬ ((3 : Int32) ≤ a2) → (R12 a0 a1 a2 (0 : Int32) (0 : Int32) M))) : am_J X 2 [(0, .ref a0), (1, .int a1), (2, .int a2)] [] M bc bs := by
  refine j_iload_n hX eX7_carByEnergy_2 2 rfl ?_
  refine j_iconst (v := (3 : Int32)) hX eX7_carByEnergy_3 (by decide) ?_
  refine j_icmp_ge hX 59 eX7_carByEnergy_4 (by decide) (fun c1 => ?_) (fun c1 => ?_)
  · replace h := h.1 c1
    refine j_aload_n hX eX7_carByEnergy_59 0 rfl ?_
    refine j_iconst (v := (1 : Int32)) hX eX7_carByEnergy_60 (by decide) ?_
    obtain ⟨t4, h⟩ := h
    refine j_callV (a := a0) (q := (RX7, TX7, 17)) (r' := rX7_fails) (As := [.int (1 : Int32)]) (rest := []) (d1 := d) hX eX7_carByEnergy_61 mm_LiftGroupModel_90 rfl t4 (by decide) rfl h rfl (Nat.le_refl _) (Nat.zero_le _) (Nat.zero_le _) (Nat.le_of_ble_eq_true rfl) (fun vz9 Mz9 qz9 => ?_) (fun Ez9 Mz9 qz9 => ?_)
    · obtain ⟨M2, eMz9⟩ : ∃ M2, M2 = Mz9 := ⟨_, rfl⟩; subst eMz9
      obtain ⟨v3, hxz9, h⟩ := qz9
      cases hxz9
      exact j_iret hX hM eX7_carByEnergy_64 rfl h
    · obtain ⟨v3, hxz9, h⟩ := qz9
      cases hxz9
  · replace h := h.2 c1
    refine j_iconst (v := (0 : Int32)) hX eX7_carByEnergy_7 (by decide) ?_
    refine j_istore_n (lv' := [(3, .int (0 : Int32)), (0, .ref a0), (1, .int a1), (2, .int a2)]) hX eX7_carByEnergy_8 rfl (by decide) rfl ?_
    refine j_iconst (v := (0 : Int32)) hX eX7_carByEnergy_9 (by decide) ?_
    refine j_istore (lv' := [(4, .int (0 : Int32)), (3, .int (0 : Int32)), (0, .ref a0), (1, .int a1), (2, .int a2)]) hX eX7_carByEnergy_10 (by decide) rfl ?_
    exact j_sub [2, 3, 4, 1, 0] rfl (k12 _ _ _ _ _ _ h)
set_option maxHeartbeats 4000000 in
set_option maxRecDepth 20000 in
theorem vX7_carByEnergy_12 {X : am_Cx} {G : am_Gx} {d : Nat} {Q : am_Q} (hX : am_ok X rX7_carByEnergy G (d + 1)) (hM : am_me X rX7_carByEnergy Q) {bc bs : Nat} (R2 : Nat → Int32 → Int32 → am_Hp → Prop) (k2 : ∀ (x0 : Nat) (x1 : Int32) (x2 : Int32) (M : am_Hp), R2 x0 x1 x2 M → am_J X 2 [(0, .ref x0), (1, .int x1), (2, .int x2)] [] M bc bs) (R12 : Nat → Int32 → Int32 → Int32 → Int32 → am_Hp → Prop) (k12 : ∀ (x0 : Nat) (x1 : Int32) (x2 : Int32) (x3 : Int32) (x4 : Int32) (M : am_Hp), R12 x0 x1 x2 x3 x4 M → am_J X 12 [(0, .ref x0), (1, .int x1), (2, .int x2), (3, .int x3), (4, .int x4)] [] M bc bs) {a0 : Nat} {a1 : Int32} {a2 : Int32} {a3 : Int32} {a4 : Int32} {M : am_Hp} (h : (((3 : Int32) ≤ a4) → (((a3 = a1) → (hp_T M (a0) = 8 ∧ (am_CT G d rX7_done [.ref a0, .int a2] M 0 0 (fun oz9 M4 => ∃ v5 : Int32, oz9 = .inl (some (.int v5)) ∧ (Q (.inl (some (.int v5))) M4))))) ∧ (¬ (a3 = a1) → (∀ v3 : Int32, v3 = a2 + (1 : Int32) → (R2 a0 a1 v3 M))))) ∧ (¬ ((3 : Int32) ≤ a4) → (hp_T M (a0) = 8 ∧ (am_CT G d rX7_isCarAhead [.ref a0, .int a4, .int a2] M 0 0 (fun oz9 M7 => ∃ v8 : Int32, oz9 = .inl (some (.int v8)) ∧ (((v8 = 0) → (∀ v11 : Int32, v11 = (a3 + (0 : Int32)) → (∀ v12 : Int32, v12 = a4 + (1 : Int32) → (R12 a0 a1 a2 v11 v12 M7)))) ∧ (¬ (v8 = 0) → (∀ v13 : Int32, v13 = (a3 + (1 : Int32)) → (∀ v14 : Int32, v14 = a4 + (1 : Int32) → (R12 a0 a1 a2 v13 v14 M7)))))))))) : am_J X 12 [(0, .ref a0), (1, .int a1), (2, .int a2), (3, .int a3), (4, .int a4)] [] M bc bs := by
  refine j_iload hX eX7_carByEnergy_12 4 rfl ?_
  refine j_iconst (v := (3 : Int32)) hX eX7_carByEnergy_14 (by decide) ?_
  refine j_icmp_ge hX 42 eX7_carByEnergy_15 (by decide) (fun c1 => ?_) (fun c1 => ?_)
  · replace h := h.1 c1
    refine j_iload_n hX eX7_carByEnergy_42 3 rfl ?_
    refine j_iload_n hX eX7_carByEnergy_43 1 rfl ?_
    refine j_icmp_ne hX 53 eX7_carByEnergy_44 (by decide) (fun c2 => ?_) (fun c2 => ?_)
    · replace h := h.2 c2
      obtain ⟨v3, ev3⟩ : ∃ v3 : Int32, v3 = a2 + (1 : Int32) := ⟨_, rfl⟩
      replace h := h v3 ev3
      refine j_iinc (v := v3) (lv' := [(2, .int v3), (0, .ref a0), (1, .int a1), (3, .int a3), (4, .int a4)]) hX eX7_carByEnergy_53 2 rfl (by rw [ev3]; rfl) (by decide) rfl ?_
      refine j_goto hX 2 eX7_carByEnergy_56 (by decide) ?_
      exact j_sub [1, 2, 0] rfl (k2 _ _ _ _ h)
    · replace h := h.1 c2
      refine j_aload_n hX eX7_carByEnergy_47 0 rfl ?_
      refine j_iload_n hX eX7_carByEnergy_48 2 rfl ?_
      obtain ⟨t6, h⟩ := h
      refine j_callV (a := a0) (q := (RX7, TX7, 17)) (r' := rX7_done) (As := [.int a2]) (rest := []) (d1 := d) hX eX7_carByEnergy_49 mm_LiftGroupModel_97 rfl t6 (by decide) rfl h rfl (Nat.le_refl _) (Nat.zero_le _) (Nat.zero_le _) (Nat.le_of_ble_eq_true rfl) (fun vz9 Mz9 qz9 => ?_) (fun Ez9 Mz9 qz9 => ?_)
      · obtain ⟨M4, eMz9⟩ : ∃ M4, M4 = Mz9 := ⟨_, rfl⟩; subst eMz9
        obtain ⟨v5, hxz9, h⟩ := qz9
        cases hxz9
        exact j_iret hX hM eX7_carByEnergy_52 rfl h
      · obtain ⟨v5, hxz9, h⟩ := qz9
        cases hxz9
  · replace h := h.2 c1
    refine j_iload_n hX eX7_carByEnergy_18 3 rfl ?_
    refine j_aload_n hX eX7_carByEnergy_19 0 rfl ?_
    refine j_iload hX eX7_carByEnergy_20 4 rfl ?_
    refine j_iload_n hX eX7_carByEnergy_22 2 rfl ?_
    obtain ⟨t9, h⟩ := h
    refine j_callV (a := a0) (q := (RX7, TX7, 17)) (r' := rX7_isCarAhead) (As := [.int a4, .int a2]) (rest := [.int a3]) (d1 := d) hX eX7_carByEnergy_23 mm_LiftGroupModel_194 rfl t9 (by decide) rfl h rfl (Nat.le_refl _) (Nat.zero_le _) (Nat.zero_le _) (Nat.le_of_ble_eq_true rfl) (fun vz9 Mz9 qz9 => ?_) (fun Ez9 Mz9 qz9 => ?_)
    · obtain ⟨M7, eMz9⟩ : ∃ M7, M7 = Mz9 := ⟨_, rfl⟩; subst eMz9
      obtain ⟨v8, hxz9, h⟩ := qz9
      cases hxz9
      refine j_if_eq hX 33 eX7_carByEnergy_26 (by decide) (fun c10 => ?_) (fun c10 => ?_)
      · replace h := h.1 c10
        refine j_iconst (v := (0 : Int32)) hX eX7_carByEnergy_33 (by decide) ?_
        refine j_iadd hX eX7_carByEnergy_34 ?_
        refine j_nmI (fun v11 ev11 => ?_)
        replace h := h v11 ev11
        refine j_istore_n (lv' := [(3, .int v11), (0, .ref a0), (1, .int a1), (2, .int a2), (4, .int a4)]) hX eX7_carByEnergy_35 rfl (by decide) rfl ?_
        obtain ⟨v12, ev12⟩ : ∃ v12 : Int32, v12 = a4 + (1 : Int32) := ⟨_, rfl⟩
        replace h := h v12 ev12
        refine j_iinc (v := v12) (lv' := [(4, .int v12), (3, .int v11), (0, .ref a0), (1, .int a1), (2, .int a2)]) hX eX7_carByEnergy_36 4 rfl (by rw [ev12]; rfl) (by decide) rfl ?_
        refine j_goto hX 12 eX7_carByEnergy_39 (by decide) ?_
        exact j_sub [2, 3, 4, 1, 0] rfl (k12 _ _ _ _ _ _ h)
      · replace h := h.2 c10
        refine j_iconst (v := (1 : Int32)) hX eX7_carByEnergy_29 (by decide) ?_
        refine j_goto hX 34 eX7_carByEnergy_30 (by decide) ?_
        refine j_iadd hX eX7_carByEnergy_34 ?_
        refine j_nmI (fun v13 ev13 => ?_)
        replace h := h v13 ev13
        refine j_istore_n (lv' := [(3, .int v13), (0, .ref a0), (1, .int a1), (2, .int a2), (4, .int a4)]) hX eX7_carByEnergy_35 rfl (by decide) rfl ?_
        obtain ⟨v14, ev14⟩ : ∃ v14 : Int32, v14 = a4 + (1 : Int32) := ⟨_, rfl⟩
        replace h := h v14 ev14
        refine j_iinc (v := v14) (lv' := [(4, .int v14), (3, .int v13), (0, .ref a0), (1, .int a1), (2, .int a2)]) hX eX7_carByEnergy_36 4 rfl (by rw [ev14]; rfl) (by decide) rfl ?_
        refine j_goto hX 12 eX7_carByEnergy_39 (by decide) ?_
        exact j_sub [2, 3, 4, 1, 0] rfl (k12 _ _ _ _ _ _ h)
    · obtain ⟨v8, hxz9, h⟩ := qz9
      cases hxz9

set_option maxHeartbeats 4000000 in
set_option maxRecDepth 20000 in
theorem vX7_logNumber_0 {X : am_Cx} {G : am_Gx} {d : Nat} {Q : am_Q} (hX : am_ok X rX7_logNumber G (d + 1)) (hM : am_me X rX7_logNumber Q) {bc bs : Nat}  {a0 : Nat} {a1 : Int32} {a2 : Int32} {M : am_Hp} (h : am_CT G d rX7_in [.int a2, .int (0 : Int32), .int (9 : Int32)] M 0 0 (fun oz9 M1 => ∃ v2 : Int32, oz9 = .inl (some (.int v2)) ∧ (((v2 = 0) → ((((0 : Int32) = 0) → (hp_T M1 (a0) = 8 ∧ (am_CT G d rX7_fails [.ref a0, .int (1 : Int32)] M1 0 0 (fun oz9 M5 => ∃ v6 : Int32, oz9 = .inl (some (.int v6)) ∧ (Q (.inl (some (.int v6))) M5))))) ∧ (¬ ((0 : Int32) = 0) → (hp_T M1 (a0) = 8 ∧ (hp_R M1 140 a0 ≠ 0 ∧ (∀ p10 : Nat, p10 = hp_R M1 140 a0 → (hp_R M1 140 a0 ≠ 0 ∧ (∀ p12 : Nat, p12 = hp_R M1 140 a0 → (hp_T M1 (p12) = 22 ∧ (vp_in (3 : Int32) (hp_N M1 p12) ∧ (hp_T M1 (p10) = 22 ∧ (vp_in (a1 + ((((hp_E M1 p12 ((3 : Int32)).toNatClampNeg) - (1 : Int32)) - a2) - (((hp_E M1 p12 ((3 : Int32)).toNatClampNeg) - (1 : Int32)) - a2) / (10 : Int32) * (10 : Int32))) (hp_N M1 p10) ∧ (am_CT G d rX7_done [.ref a0, .int (hp_E M1 p10 ((a1 + ((((hp_E M1 p12 ((3 : Int32)).toNatClampNeg) - (1 : Int32)) - a2) - (((hp_E M1 p12 ((3 : Int32)).toNatClampNeg) - (1 : Int32)) - a2) / (10 : Int32) * (10 : Int32)))).toNatClampNeg)] M1 0 0 (fun oz9 M17 => ∃ v18 : Int32, oz9 = .inl (some (.int v18)) ∧ (Q (.inl (some (.int v18))) M17))))))))))))))) ∧ (¬ (v2 = 0) → (hp_T M1 (a0) = 8 ∧ (hp_R M1 140 a0 ≠ 0 ∧ (∀ p21 : Nat, p21 = hp_R M1 140 a0 → (hp_T M1 (p21) = 22 ∧ (vp_in (3 : Int32) (hp_N M1 p21) ∧ ((((hp_E M1 p21 ((3 : Int32)).toNatClampNeg) ≤ a2) → ((((0 : Int32) = 0) → (am_CT G d rX7_fails [.ref a0, .int (1 : Int32)] M1 0 0 (fun oz9 M26 => ∃ v27 : Int32, oz9 = .inl (some (.int v27)) ∧ (Q (.inl (some (.int v27))) M26)))) ∧ (¬ ((0 : Int32) = 0) → (hp_R M1 140 a0 ≠ 0 ∧ (∀ p29 : Nat, p29 = hp_R M1 140 a0 → (hp_R M1 140 a0 ≠ 0 ∧ (∀ p31 : Nat, p31 = hp_R M1 140 a0 → (hp_T M1 (p31) = 22 ∧ (vp_in (3 : Int32) (hp_N M1 p31) ∧ (hp_T M1 (p29) = 22 ∧ (vp_in (a1 + ((((hp_E M1 p31 ((3 : Int32)).toNatClampNeg) - (1 : Int32)) - a2) - (((hp_E M1 p31 ((3 : Int32)).toNatClampNeg) - (1 : Int32)) - a2) / (10 : Int32) * (10 : Int32))) (hp_N M1 p29) ∧ (am_CT G d rX7_done [.ref a0, .int (hp_E M1 p29 ((a1 + ((((hp_E M1 p31 ((3 : Int32)).toNatClampNeg) - (1 : Int32)) - a2) - (((hp_E M1 p31 ((3 : Int32)).toNatClampNeg) - (1 : Int32)) - a2) / (10 : Int32) * (10 : Int32)))).toNatClampNeg)] M1 0 0 (fun oz9 M36 => ∃ v37 : Int32, oz9 = .inl (some (.int v37)) ∧ (Q (.inl (some (.int v37))) M36)))))))))))))) ∧ (¬ ((hp_E M1 p21 ((3 : Int32)).toNatClampNeg) ≤ a2) → ((((1 : Int32) = 0) → (am_CT G d rX7_fails [.ref a0, .int (1 : Int32)] M1 0 0 (fun oz9 M39 => ∃ v40 : Int32, oz9 = .inl (some (.int v40)) ∧ (Q (.inl (some (.int v40))) M39)))) ∧ (¬ ((1 : Int32) = 0) → (hp_R M1 140 a0 ≠ 0 ∧ (∀ p42 : Nat, p42 = hp_R M1 140 a0 → (hp_R M1 140 a0 ≠ 0 ∧ (∀ p44 : Nat, p44 = hp_R M1 140 a0 → (hp_T M1 (p44) = 22 ∧ (vp_in (3 : Int32) (hp_N M1 p44) ∧ (hp_T M1 (p42) = 22 ∧ (vp_in (a1 + ((((hp_E M1 p44 ((3 : Int32)).toNatClampNeg) - (1 : Int32)) - a2) - (((hp_E M1 p44 ((3 : Int32)).toNatClampNeg) - (1 : Int32)) - a2) / (10 : Int32) * (10 : Int32))) (hp_N M1 p42) ∧ (am_CT G d rX7_done [.ref a0, .int (hp_E M1 p42 ((a1 + ((((hp_E M1 p44 ((3 : Int32)).toNatClampNeg) - (1 : Int32)) - a2) - (((hp_E M1 p44 ((3 : Int32)).toNatClampNeg) - (1 : Int32)) - a2) / (10 : Int32) * (10 : Int32)))).toNatClampNeg)] M1 0 0 (fun oz9 M49 => ∃ v50 : Int32, oz9 = .inl (some (.int v50)) ∧ (Q (.inl (some (.int v50))) M49)))))))))))))))))))))))) : am_J X 0 [(0, .ref a0), (1, .int a1), (2, .int a2)] [] M bc bs := by
  refine j_iload_n hX eX7_logNumber_0 2 rfl ?_
  refine j_iconst (v := (0 : Int32)) hX eX7_logNumber_1 (by decide) ?_
  refine j_bipush (v := (9 : Int32)) hX eX7_logNumber_2 (by decide) ?_
  refine j_callS (r' := rX7_in) (As := [.int a2, .int (0 : Int32), .int (9 : Int32)]) (rest := []) (d1 := d) hX eX7_logNumber_4 mm_LiftGroupModel_52 rfl rfl h rfl (Nat.le_refl _) (Nat.zero_le _) (Nat.zero_le _) (Nat.le_of_ble_eq_true rfl) (fun vz9 Mz9 qz9 => ?_) (fun Ez9 Mz9 qz9 => ?_)
  · obtain ⟨M1, eMz9⟩ : ∃ M1, M1 = Mz9 := ⟨_, rfl⟩; subst eMz9
    obtain ⟨v2, hxz9, h⟩ := qz9
    cases hxz9
    refine j_if_eq hX 24 eX7_logNumber_7 (by decide) (fun c3 => ?_) (fun c3 => ?_)
    · replace h := h.1 c3
      refine j_iconst (v := (0 : Int32)) hX eX7_logNumber_24 (by decide) ?_
      refine j_istore_n (lv' := [(3, .int (0 : Int32)), (0, .ref a0), (1, .int a1), (2, .int a2)]) hX eX7_logNumber_25 rfl (by decide) rfl ?_
      refine j_iload_n hX eX7_logNumber_26 0 rfl ?_
      refine j_if_eq hX 57 eX7_logNumber_27 (by decide) (fun c4 => ?_) (fun c4 => ?_)
      · replace h := h.1 c4
        refine j_aload_n hX eX7_logNumber_57 1 rfl ?_
        refine j_iconst (v := (1 : Int32)) hX eX7_logNumber_58 (by decide) ?_
        obtain ⟨t7, h⟩ := h
        refine j_callV (a := a0) (q := (RX7, TX7, 17)) (r' := rX7_fails) (As := [.int (1 : Int32)]) (rest := []) (d1 := d) hX eX7_logNumber_59 mm_LiftGroupModel_90 rfl t7 (by decide) rfl h rfl (Nat.le_refl _) (Nat.zero_le _) (Nat.zero_le _) (Nat.le_of_ble_eq_true rfl) (fun vz9 Mz9 qz9 => ?_) (fun Ez9 Mz9 qz9 => ?_)
        · obtain ⟨M5, eMz9⟩ : ∃ M5, M5 = Mz9 := ⟨_, rfl⟩; subst eMz9
          obtain ⟨v6, hxz9, h⟩ := qz9
          cases hxz9
          exact j_iret hX hM eX7_logNumber_62 rfl h
        · obtain ⟨v6, hxz9, h⟩ := qz9
          cases hxz9
      · replace h := h.2 c4
        refine j_aload_n hX eX7_logNumber_30 1 rfl ?_
        refine j_aload_n hX eX7_logNumber_31 1 rfl ?_
        obtain ⟨t8, h⟩ := h
        obtain ⟨z9, h⟩ := h
        refine j_getR hX eX7_logNumber_32 ff_LiftGroupModel_7 rfl t8 (by decide) z9 ?_
        refine j_nmR (fun p10 ep10 => ?_)
        replace h := h p10 ep10
        refine j_iload_n hX eX7_logNumber_35 2 rfl ?_
        refine j_aload_n hX eX7_logNumber_36 1 rfl ?_
        obtain ⟨z11, h⟩ := h
        refine j_getR hX eX7_logNumber_37 ff_LiftGroupModel_7 rfl t8 (by decide) z11 ?_
        refine j_nmR (fun p12 ep12 => ?_)
        replace h := h p12 ep12
        refine j_iconst (v := (3 : Int32)) hX eX7_logNumber_40 (by decide) ?_
        obtain ⟨t13, h⟩ := h
        obtain ⟨i14, h⟩ := h
        refine j_iald hX eX7_logNumber_41 t13 i14 ?_
        refine j_iconst (v := (1 : Int32)) hX eX7_logNumber_42 (by decide) ?_
        refine j_isub hX eX7_logNumber_43 ?_
        refine j_iload_n hX eX7_logNumber_44 3 rfl ?_
        refine j_isub hX eX7_logNumber_45 ?_
        refine j_bipush (v := (10 : Int32)) hX eX7_logNumber_46 (by decide) ?_
        refine j_irem hX eX7_logNumber_48 (by decide) ?_
        refine j_iadd hX eX7_logNumber_49 ?_
        obtain ⟨t15, h⟩ := h
        obtain ⟨i16, h⟩ := h
        refine j_iald hX eX7_logNumber_50 t15 i16 ?_
        refine j_callV (a := a0) (q := (RX7, TX7, 17)) (r' := rX7_done) (As := [.int (hp_E M1 p10 ((a1 + ((((hp_E M1 p12 ((3 : Int32)).toNatClampNeg) - (1 : Int32)) - a2) - (((hp_E M1 p12 ((3 : Int32)).toNatClampNeg) - (1 : Int32)) - a2) / (10 : Int32) * (10 : Int32)))).toNatClampNeg)]) (rest := []) (d1 := d) hX eX7_logNumber_51 mm_LiftGroupModel_97 rfl t8 (by decide) rfl h rfl (Nat.le_refl _) (Nat.zero_le _) (Nat.zero_le _) (Nat.le_of_ble_eq_true rfl) (fun vz9 Mz9 qz9 => ?_) (fun Ez9 Mz9 qz9 => ?_)
        · obtain ⟨M17, eMz9⟩ : ∃ M17, M17 = Mz9 := ⟨_, rfl⟩; subst eMz9
          obtain ⟨v18, hxz9, h⟩ := qz9
          cases hxz9
          refine j_goto hX 62 eX7_logNumber_54 (by decide) ?_
          exact j_iret hX hM eX7_logNumber_62 rfl h
        · obtain ⟨v18, hxz9, h⟩ := qz9
          cases hxz9
    · replace h := h.2 c3
      refine j_iload_n hX eX7_logNumber_10 2 rfl ?_
      refine j_aload_n hX eX7_logNumber_11 0 rfl ?_
      obtain ⟨t19, h⟩ := h
      obtain ⟨z20, h⟩ := h
      refine j_getR hX eX7_logNumber_12 ff_LiftGroupModel_7 rfl t19 (by decide) z20 ?_
      refine j_nmR (fun p21 ep21 => ?_)
      replace h := h p21 ep21
      refine j_iconst (v := (3 : Int32)) hX eX7_logNumber_15 (by decide) ?_
      obtain ⟨t22, h⟩ := h
      obtain ⟨i23, h⟩ := h
      refine j_iald hX eX7_logNumber_16 t22 i23 ?_
      refine j_icmp_ge hX 24 eX7_logNumber_17 (by decide) (fun c24 => ?_) (fun c24 => ?_)
      · replace h := h.1 c24
        refine j_iconst (v := (0 : Int32)) hX eX7_logNumber_24 (by decide) ?_
        refine j_istore_n (lv' := [(3, .int (0 : Int32)), (0, .ref a0), (1, .int a1), (2, .int a2)]) hX eX7_logNumber_25 rfl (by decide) rfl ?_
        refine j_iload_n hX eX7_logNumber_26 0 rfl ?_
        refine j_if_eq hX 57 eX7_logNumber_27 (by decide) (fun c25 => ?_) (fun c25 => ?_)
        · replace h := h.1 c25
          refine j_aload_n hX eX7_logNumber_57 1 rfl ?_
          refine j_iconst (v := (1 : Int32)) hX eX7_logNumber_58 (by decide) ?_
          refine j_callV (a := a0) (q := (RX7, TX7, 17)) (r' := rX7_fails) (As := [.int (1 : Int32)]) (rest := []) (d1 := d) hX eX7_logNumber_59 mm_LiftGroupModel_90 rfl t19 (by decide) rfl h rfl (Nat.le_refl _) (Nat.zero_le _) (Nat.zero_le _) (Nat.le_of_ble_eq_true rfl) (fun vz9 Mz9 qz9 => ?_) (fun Ez9 Mz9 qz9 => ?_)
          · obtain ⟨M26, eMz9⟩ : ∃ M26, M26 = Mz9 := ⟨_, rfl⟩; subst eMz9
            obtain ⟨v27, hxz9, h⟩ := qz9
            cases hxz9
            exact j_iret hX hM eX7_logNumber_62 rfl h
          · obtain ⟨v27, hxz9, h⟩ := qz9
            cases hxz9
        · replace h := h.2 c25
          refine j_aload_n hX eX7_logNumber_30 1 rfl ?_
          refine j_aload_n hX eX7_logNumber_31 1 rfl ?_
          obtain ⟨z28, h⟩ := h
          refine j_getR hX eX7_logNumber_32 ff_LiftGroupModel_7 rfl t19 (by decide) z28 ?_
          refine j_nmR (fun p29 ep29 => ?_)
          replace h := h p29 ep29
          refine j_iload_n hX eX7_logNumber_35 2 rfl ?_
          refine j_aload_n hX eX7_logNumber_36 1 rfl ?_
          obtain ⟨z30, h⟩ := h
          refine j_getR hX eX7_logNumber_37 ff_LiftGroupModel_7 rfl t19 (by decide) z30 ?_
          refine j_nmR (fun p31 ep31 => ?_)
          replace h := h p31 ep31
          refine j_iconst (v := (3 : Int32)) hX eX7_logNumber_40 (by decide) ?_
          obtain ⟨t32, h⟩ := h
          obtain ⟨i33, h⟩ := h
          refine j_iald hX eX7_logNumber_41 t32 i33 ?_
          refine j_iconst (v := (1 : Int32)) hX eX7_logNumber_42 (by decide) ?_
          refine j_isub hX eX7_logNumber_43 ?_
          refine j_iload_n hX eX7_logNumber_44 3 rfl ?_
          refine j_isub hX eX7_logNumber_45 ?_
          refine j_bipush (v := (10 : Int32)) hX eX7_logNumber_46 (by decide) ?_
          refine j_irem hX eX7_logNumber_48 (by decide) ?_
          refine j_iadd hX eX7_logNumber_49 ?_
          obtain ⟨t34, h⟩ := h
          obtain ⟨i35, h⟩ := h
          refine j_iald hX eX7_logNumber_50 t34 i35 ?_
          refine j_callV (a := a0) (q := (RX7, TX7, 17)) (r' := rX7_done) (As := [.int (hp_E M1 p29 ((a1 + ((((hp_E M1 p31 ((3 : Int32)).toNatClampNeg) - (1 : Int32)) - a2) - (((hp_E M1 p31 ((3 : Int32)).toNatClampNeg) - (1 : Int32)) - a2) / (10 : Int32) * (10 : Int32)))).toNatClampNeg)]) (rest := []) (d1 := d) hX eX7_logNumber_51 mm_LiftGroupModel_97 rfl t19 (by decide) rfl h rfl (Nat.le_refl _) (Nat.zero_le _) (Nat.zero_le _) (Nat.le_of_ble_eq_true rfl) (fun vz9 Mz9 qz9 => ?_) (fun Ez9 Mz9 qz9 => ?_)
          · obtain ⟨M36, eMz9⟩ : ∃ M36, M36 = Mz9 := ⟨_, rfl⟩; subst eMz9
            obtain ⟨v37, hxz9, h⟩ := qz9
            cases hxz9
            refine j_goto hX 62 eX7_logNumber_54 (by decide) ?_
            exact j_iret hX hM eX7_logNumber_62 rfl h
          · obtain ⟨v37, hxz9, h⟩ := qz9
            cases hxz9
      · replace h := h.2 c24
        refine j_iconst (v := (1 : Int32)) hX eX7_logNumber_20 (by decide) ?_
        refine j_goto hX 25 eX7_logNumber_21 (by decide) ?_
        refine j_istore_n (lv' := [(3, .int (1 : Int32)), (0, .ref a0), (1, .int a1), (2, .int a2)]) hX eX7_logNumber_25 rfl (by decide) rfl ?_
        refine j_iload_n hX eX7_logNumber_26 0 rfl ?_
        refine j_if_eq hX 57 eX7_logNumber_27 (by decide) (fun c38 => ?_) (fun c38 => ?_)
        · replace h := h.1 c38
          refine j_aload_n hX eX7_logNumber_57 1 rfl ?_
          refine j_iconst (v := (1 : Int32)) hX eX7_logNumber_58 (by decide) ?_
          refine j_callV (a := a0) (q := (RX7, TX7, 17)) (r' := rX7_fails) (As := [.int (1 : Int32)]) (rest := []) (d1 := d) hX eX7_logNumber_59 mm_LiftGroupModel_90 rfl t19 (by decide) rfl h rfl (Nat.le_refl _) (Nat.zero_le _) (Nat.zero_le _) (Nat.le_of_ble_eq_true rfl) (fun vz9 Mz9 qz9 => ?_) (fun Ez9 Mz9 qz9 => ?_)
          · obtain ⟨M39, eMz9⟩ : ∃ M39, M39 = Mz9 := ⟨_, rfl⟩; subst eMz9
            obtain ⟨v40, hxz9, h⟩ := qz9
            cases hxz9
            exact j_iret hX hM eX7_logNumber_62 rfl h
          · obtain ⟨v40, hxz9, h⟩ := qz9
            cases hxz9
        · replace h := h.2 c38
          refine j_aload_n hX eX7_logNumber_30 1 rfl ?_
          refine j_aload_n hX eX7_logNumber_31 1 rfl ?_
          obtain ⟨z41, h⟩ := h
          refine j_getR hX eX7_logNumber_32 ff_LiftGroupModel_7 rfl t19 (by decide) z41 ?_
          refine j_nmR (fun p42 ep42 => ?_)
          replace h := h p42 ep42
          refine j_iload_n hX eX7_logNumber_35 2 rfl ?_
          refine j_aload_n hX eX7_logNumber_36 1 rfl ?_
          obtain ⟨z43, h⟩ := h
          refine j_getR hX eX7_logNumber_37 ff_LiftGroupModel_7 rfl t19 (by decide) z43 ?_
          refine j_nmR (fun p44 ep44 => ?_)
          replace h := h p44 ep44
          refine j_iconst (v := (3 : Int32)) hX eX7_logNumber_40 (by decide) ?_
          obtain ⟨t45, h⟩ := h
          obtain ⟨i46, h⟩ := h
          refine j_iald hX eX7_logNumber_41 t45 i46 ?_
          refine j_iconst (v := (1 : Int32)) hX eX7_logNumber_42 (by decide) ?_
          refine j_isub hX eX7_logNumber_43 ?_
          refine j_iload_n hX eX7_logNumber_44 3 rfl ?_
          refine j_isub hX eX7_logNumber_45 ?_
          refine j_bipush (v := (10 : Int32)) hX eX7_logNumber_46 (by decide) ?_
          refine j_irem hX eX7_logNumber_48 (by decide) ?_
          refine j_iadd hX eX7_logNumber_49 ?_
          obtain ⟨t47, h⟩ := h
          obtain ⟨i48, h⟩ := h
          refine j_iald hX eX7_logNumber_50 t47 i48 ?_
          refine j_callV (a := a0) (q := (RX7, TX7, 17)) (r' := rX7_done) (As := [.int (hp_E M1 p42 ((a1 + ((((hp_E M1 p44 ((3 : Int32)).toNatClampNeg) - (1 : Int32)) - a2) - (((hp_E M1 p44 ((3 : Int32)).toNatClampNeg) - (1 : Int32)) - a2) / (10 : Int32) * (10 : Int32)))).toNatClampNeg)]) (rest := []) (d1 := d) hX eX7_logNumber_51 mm_LiftGroupModel_97 rfl t19 (by decide) rfl h rfl (Nat.le_refl _) (Nat.zero_le _) (Nat.zero_le _) (Nat.le_of_ble_eq_true rfl) (fun vz9 Mz9 qz9 => ?_) (fun Ez9 Mz9 qz9 => ?_)
          · obtain ⟨M49, eMz9⟩ : ∃ M49, M49 = Mz9 := ⟨_, rfl⟩; subst eMz9
            obtain ⟨v50, hxz9, h⟩ := qz9
            cases hxz9
            refine j_goto hX 62 eX7_logNumber_54 (by decide) ?_
            exact j_iret hX hM eX7_logNumber_62 rfl h
          · obtain ⟨v50, hxz9, h⟩ := qz9
            cases hxz9
  · obtain ⟨v2, hxz9, h⟩ := qz9
    cases hxz9

set_option maxHeartbeats 4000000 in
set_option maxRecDepth 20000 in
theorem vX7_tripNumber_0 {X : am_Cx} {G : am_Gx} {d : Nat} {Q : am_Q} (hX : am_ok X rX7_tripNumber G (d + 1)) (hM : am_me X rX7_tripNumber Q) {bc bs : Nat}  {a0 : Nat} {a1 : Int32} {M : am_Hp} (h : hp_T M (a0) = 8 ∧ (am_CT G d rX7_logNumber [.ref a0, .int (111 : Int32), .int a1] M 0 0 (fun oz9 M1 => ∃ v2 : Int32, oz9 = .inl (some (.int v2)) ∧ (Q (.inl (some (.int v2))) M1)))) : am_J X 0 [(0, .ref a0), (1, .int a1)] [] M bc bs := by
  refine j_aload_n hX eX7_tripNumber_0 0 rfl ?_
  refine j_bipush (v := (111 : Int32)) hX eX7_tripNumber_1 (by decide) ?_
  refine j_iload_n hX eX7_tripNumber_3 1 rfl ?_
  obtain ⟨t3, h⟩ := h
  refine j_callV (a := a0) (q := (RX7, TX7, 17)) (r' := rX7_logNumber) (As := [.int (111 : Int32), .int a1]) (rest := []) (d1 := d) hX eX7_tripNumber_4 mm_LiftGroupModel_197 rfl t3 (by decide) rfl h rfl (Nat.le_refl _) (Nat.zero_le _) (Nat.zero_le _) (Nat.le_of_ble_eq_true rfl) (fun vz9 Mz9 qz9 => ?_) (fun Ez9 Mz9 qz9 => ?_)
  · obtain ⟨M1, eMz9⟩ : ∃ M1, M1 = Mz9 := ⟨_, rfl⟩; subst eMz9
    obtain ⟨v2, hxz9, h⟩ := qz9
    cases hxz9
    exact j_iret hX hM eX7_tripNumber_7 rfl h
  · obtain ⟨v2, hxz9, h⟩ := qz9
    cases hxz9

set_option maxHeartbeats 4000000 in
set_option maxRecDepth 20000 in
theorem vX7_tripCar_0 {X : am_Cx} {G : am_Gx} {d : Nat} {Q : am_Q} (hX : am_ok X rX7_tripCar G (d + 1)) (hM : am_me X rX7_tripCar Q) {bc bs : Nat}  {a0 : Nat} {a1 : Int32} {M : am_Hp} (h : hp_T M (a0) = 8 ∧ (am_CT G d rX7_logNumber [.ref a0, .int (121 : Int32), .int a1] M 0 0 (fun oz9 M1 => ∃ v2 : Int32, oz9 = .inl (some (.int v2)) ∧ (Q (.inl (some (.int v2))) M1)))) : am_J X 0 [(0, .ref a0), (1, .int a1)] [] M bc bs := by
  refine j_aload_n hX eX7_tripCar_0 0 rfl ?_
  refine j_bipush (v := (121 : Int32)) hX eX7_tripCar_1 (by decide) ?_
  refine j_iload_n hX eX7_tripCar_3 1 rfl ?_
  obtain ⟨t3, h⟩ := h
  refine j_callV (a := a0) (q := (RX7, TX7, 17)) (r' := rX7_logNumber) (As := [.int (121 : Int32), .int a1]) (rest := []) (d1 := d) hX eX7_tripCar_4 mm_LiftGroupModel_197 rfl t3 (by decide) rfl h rfl (Nat.le_refl _) (Nat.zero_le _) (Nat.zero_le _) (Nat.le_of_ble_eq_true rfl) (fun vz9 Mz9 qz9 => ?_) (fun Ez9 Mz9 qz9 => ?_)
  · obtain ⟨M1, eMz9⟩ : ∃ M1, M1 = Mz9 := ⟨_, rfl⟩; subst eMz9
    obtain ⟨v2, hxz9, h⟩ := qz9
    cases hxz9
    exact j_iret hX hM eX7_tripCar_7 rfl h
  · obtain ⟨v2, hxz9, h⟩ := qz9
    cases hxz9

set_option maxHeartbeats 4000000 in
set_option maxRecDepth 20000 in
theorem vX7_tripWaiting_0 {X : am_Cx} {G : am_Gx} {d : Nat} {Q : am_Q} (hX : am_ok X rX7_tripWaiting G (d + 1)) (hM : am_me X rX7_tripWaiting Q) {bc bs : Nat}  {a0 : Nat} {a1 : Int32} {M : am_Hp} (h : hp_T M (a0) = 8 ∧ (am_CT G d rX7_logNumber [.ref a0, .int (131 : Int32), .int a1] M 0 0 (fun oz9 M1 => ∃ v2 : Int32, oz9 = .inl (some (.int v2)) ∧ (Q (.inl (some (.int v2))) M1)))) : am_J X 0 [(0, .ref a0), (1, .int a1)] [] M bc bs := by
  refine j_aload_n hX eX7_tripWaiting_0 0 rfl ?_
  refine j_sipush (v := (131 : Int32)) hX eX7_tripWaiting_1 (by decide) ?_
  refine j_iload_n hX eX7_tripWaiting_4 1 rfl ?_
  obtain ⟨t3, h⟩ := h
  refine j_callV (a := a0) (q := (RX7, TX7, 17)) (r' := rX7_logNumber) (As := [.int (131 : Int32), .int a1]) (rest := []) (d1 := d) hX eX7_tripWaiting_5 mm_LiftGroupModel_197 rfl t3 (by decide) rfl h rfl (Nat.le_refl _) (Nat.zero_le _) (Nat.zero_le _) (Nat.le_of_ble_eq_true rfl) (fun vz9 Mz9 qz9 => ?_) (fun Ez9 Mz9 qz9 => ?_)
  · obtain ⟨M1, eMz9⟩ : ∃ M1, M1 = Mz9 := ⟨_, rfl⟩; subst eMz9
    obtain ⟨v2, hxz9, h⟩ := qz9
    cases hxz9
    exact j_iret hX hM eX7_tripWaiting_8 rfl h
  · obtain ⟨v2, hxz9, h⟩ := qz9
    cases hxz9

set_option maxHeartbeats 4000000 in
set_option maxRecDepth 20000 in
theorem vX7_tripCount_0 {X : am_Cx} {G : am_Gx} {d : Nat} {Q : am_Q} (hX : am_ok X rX7_tripCount G (d + 1)) (hM : am_me X rX7_tripCount Q) {bc bs : Nat}  {a0 : Nat} {M : am_Hp} (h : hp_T M (a0) = 8 ∧ (hp_R M 140 a0 ≠ 0 ∧ (∀ p3 : Nat, p3 = hp_R M 140 a0 → (hp_T M (p3) = 22 ∧ (vp_in (3 : Int32) (hp_N M p3) ∧ (am_CT G d rX7_done [.ref a0, .int (hp_E M p3 ((3 : Int32)).toNatClampNeg)] M 0 0 (fun oz9 M6 => ∃ v7 : Int32, oz9 = .inl (some (.int v7)) ∧ (Q (.inl (some (.int v7))) M6)))))))) : am_J X 0 [(0, .ref a0)] [] M bc bs := by
  refine j_aload_n hX eX7_tripCount_0 0 rfl ?_
  refine j_aload_n hX eX7_tripCount_1 0 rfl ?_
  obtain ⟨t1, h⟩ := h
  obtain ⟨z2, h⟩ := h
  refine j_getR hX eX7_tripCount_2 ff_LiftGroupModel_7 rfl t1 (by decide) z2 ?_
  refine j_nmR (fun p3 ep3 => ?_)
  replace h := h p3 ep3
  refine j_iconst (v := (3 : Int32)) hX eX7_tripCount_5 (by decide) ?_
  obtain ⟨t4, h⟩ := h
  obtain ⟨i5, h⟩ := h
  refine j_iald hX eX7_tripCount_6 t4 i5 ?_
  refine j_callV (a := a0) (q := (RX7, TX7, 17)) (r' := rX7_done) (As := [.int (hp_E M p3 ((3 : Int32)).toNatClampNeg)]) (rest := []) (d1 := d) hX eX7_tripCount_7 mm_LiftGroupModel_97 rfl t1 (by decide) rfl h rfl (Nat.le_refl _) (Nat.zero_le _) (Nat.zero_le _) (Nat.le_of_ble_eq_true rfl) (fun vz9 Mz9 qz9 => ?_) (fun Ez9 Mz9 qz9 => ?_)
  · obtain ⟨M6, eMz9⟩ : ∃ M6, M6 = Mz9 := ⟨_, rfl⟩; subst eMz9
    obtain ⟨v7, hxz9, h⟩ := qz9
    cases hxz9
    exact j_iret hX hM eX7_tripCount_10 rfl h
  · obtain ⟨v7, hxz9, h⟩ := qz9
    cases hxz9

set_option maxHeartbeats 4000000 in
set_option maxRecDepth 20000 in
theorem vX7_totalEnergy_0 {X : am_Cx} {G : am_Gx} {d : Nat} {Q : am_Q} (hX : am_ok X rX7_totalEnergy G (d + 1)) (hM : am_me X rX7_totalEnergy Q) {bc bs : Nat}  {a0 : Nat} {M : am_Hp} (h : hp_T M (a0) = 8 ∧ (∀ M2 : am_Hp, M2 = hp_sI M 153 a0 (0 : Int32) → (hp_R M2 140 a0 ≠ 0 ∧ (∀ p5 : Nat, p5 = hp_R M2 140 a0 → (hp_T M2 (p5) = 22 ∧ (vp_in (24 : Int32) (hp_N M2 p5) ∧ (hp_R M2 140 a0 ≠ 0 ∧ (∀ p9 : Nat, p9 = hp_R M2 140 a0 → (hp_T M2 (p9) = 22 ∧ (vp_in (25 : Int32) (hp_N M2 p9) ∧ (hp_R M2 140 a0 ≠ 0 ∧ (∀ p13 : Nat, p13 = hp_R M2 140 a0 → (hp_T M2 (p13) = 22 ∧ (vp_in (26 : Int32) (hp_N M2 p13) ∧ (Q (.inl (some (.long (((((hp_E M2 p5 ((24 : Int32)).toNatClampNeg)).toInt64) + (((hp_E M2 p9 ((25 : Int32)).toNatClampNeg)).toInt64)) + (((hp_E M2 p13 ((26 : Int32)).toNatClampNeg)).toInt64))))) M2))))))))))))))) : am_J X 0 [(0, .ref a0)] [] M bc bs := by
  refine j_aload_n hX eX7_totalEnergy_0 0 rfl ?_
  refine j_iconst (v := (0 : Int32)) hX eX7_totalEnergy_1 (by decide) ?_
  obtain ⟨t1, h⟩ := h
  refine j_putI (ty := .int) hX eX7_totalEnergy_2 ff_LiftGroupModel_42 rfl t1 (by decide) pp_7_13 rfl rfl ?_
  refine j_nmM (fun M2 eM2 => ?_)
  replace h := h M2 eM2
  have t3 : hp_T M2 (a0) = 8 := by rw [eM2]; exact t1
  refine j_aload_n hX eX7_totalEnergy_5 0 rfl ?_
  obtain ⟨z4, h⟩ := h
  refine j_getR hX eX7_totalEnergy_6 ff_LiftGroupModel_7 rfl t3 (by decide) z4 ?_
  refine j_nmR (fun p5 ep5 => ?_)
  replace h := h p5 ep5
  refine j_bipush (v := (24 : Int32)) hX eX7_totalEnergy_9 (by decide) ?_
  obtain ⟨t6, h⟩ := h
  obtain ⟨i7, h⟩ := h
  refine j_iald hX eX7_totalEnergy_11 t6 i7 ?_
  refine j_i2l hX eX7_totalEnergy_12 ?_
  refine j_aload_n hX eX7_totalEnergy_13 0 rfl ?_
  obtain ⟨z8, h⟩ := h
  refine j_getR hX eX7_totalEnergy_14 ff_LiftGroupModel_7 rfl t3 (by decide) z8 ?_
  refine j_nmR (fun p9 ep9 => ?_)
  replace h := h p9 ep9
  refine j_bipush (v := (25 : Int32)) hX eX7_totalEnergy_17 (by decide) ?_
  obtain ⟨t10, h⟩ := h
  obtain ⟨i11, h⟩ := h
  refine j_iald hX eX7_totalEnergy_19 t10 i11 ?_
  refine j_i2l hX eX7_totalEnergy_20 ?_
  refine j_ladd hX eX7_totalEnergy_21 ?_
  refine j_aload_n hX eX7_totalEnergy_22 0 rfl ?_
  obtain ⟨z12, h⟩ := h
  refine j_getR hX eX7_totalEnergy_23 ff_LiftGroupModel_7 rfl t3 (by decide) z12 ?_
  refine j_nmR (fun p13 ep13 => ?_)
  replace h := h p13 ep13
  refine j_bipush (v := (26 : Int32)) hX eX7_totalEnergy_26 (by decide) ?_
  obtain ⟨t14, h⟩ := h
  obtain ⟨i15, h⟩ := h
  refine j_iald hX eX7_totalEnergy_28 t14 i15 ?_
  refine j_i2l hX eX7_totalEnergy_29 ?_
  refine j_ladd hX eX7_totalEnergy_30 ?_
  exact j_lret hX hM eX7_totalEnergy_31 rfl h

set_option maxHeartbeats 4000000 in
set_option maxRecDepth 20000 in
theorem vX7_totalEnergyByMoves_0 {X : am_Cx} {G : am_Gx} {d : Nat} {Q : am_Q} (hX : am_ok X rX7_totalEnergyByMoves G (d + 1)) (hM : am_me X rX7_totalEnergyByMoves Q) {bc bs : Nat}  {a0 : Nat} {M : am_Hp} (h : hp_T M (a0) = 8 ∧ (∀ M2 : am_Hp, M2 = hp_sI M 153 a0 (0 : Int32) → (hp_R M2 140 a0 ≠ 0 ∧ (∀ p5 : Nat, p5 = hp_R M2 140 a0 → (hp_T M2 (p5) = 22 ∧ (vp_in (5 : Int32) (hp_N M2 p5) ∧ (hp_R M2 140 a0 ≠ 0 ∧ (∀ p9 : Nat, p9 = hp_R M2 140 a0 → (hp_T M2 (p9) = 22 ∧ (vp_in (8 : Int32) (hp_N M2 p9) ∧ (hp_R M2 140 a0 ≠ 0 ∧ (∀ p13 : Nat, p13 = hp_R M2 140 a0 → (hp_T M2 (p13) = 22 ∧ (vp_in (6 : Int32) (hp_N M2 p13) ∧ (hp_R M2 140 a0 ≠ 0 ∧ (∀ p17 : Nat, p17 = hp_R M2 140 a0 → (hp_T M2 (p17) = 22 ∧ (vp_in (7 : Int32) (hp_N M2 p17) ∧ (Q (.inl (some (.long (((((2 : Int64) * (((hp_E M2 p5 ((5 : Int32)).toNatClampNeg)).toInt64)) + (((hp_E M2 p9 ((8 : Int32)).toNatClampNeg)).toInt64)) + (((hp_E M2 p13 ((6 : Int32)).toNatClampNeg)).toInt64)) + (((hp_E M2 p17 ((7 : Int32)).toNatClampNeg)).toInt64))))) M2))))))))))))))))))) : am_J X 0 [(0, .ref a0)] [] M bc bs := by
  refine j_aload_n hX eX7_totalEnergyByMoves_0 0 rfl ?_
  refine j_iconst (v := (0 : Int32)) hX eX7_totalEnergyByMoves_1 (by decide) ?_
  obtain ⟨t1, h⟩ := h
  refine j_putI (ty := .int) hX eX7_totalEnergyByMoves_2 ff_LiftGroupModel_42 rfl t1 (by decide) pp_7_13 rfl rfl ?_
  refine j_nmM (fun M2 eM2 => ?_)
  replace h := h M2 eM2
  have t3 : hp_T M2 (a0) = 8 := by rw [eM2]; exact t1
  refine j_ldcL hX eX7_totalEnergyByMoves_5 tw_1928 ?_
  refine j_aload_n hX eX7_totalEnergyByMoves_8 0 rfl ?_
  obtain ⟨z4, h⟩ := h
  refine j_getR hX eX7_totalEnergyByMoves_9 ff_LiftGroupModel_7 rfl t3 (by decide) z4 ?_
  refine j_nmR (fun p5 ep5 => ?_)
  replace h := h p5 ep5
  refine j_iconst (v := (5 : Int32)) hX eX7_totalEnergyByMoves_12 (by decide) ?_
  obtain ⟨t6, h⟩ := h
  obtain ⟨i7, h⟩ := h
  refine j_iald hX eX7_totalEnergyByMoves_13 t6 i7 ?_
  refine j_i2l hX eX7_totalEnergyByMoves_14 ?_
  refine j_lmul hX eX7_totalEnergyByMoves_15 ?_
  refine j_aload_n hX eX7_totalEnergyByMoves_16 0 rfl ?_
  obtain ⟨z8, h⟩ := h
  refine j_getR hX eX7_totalEnergyByMoves_17 ff_LiftGroupModel_7 rfl t3 (by decide) z8 ?_
  refine j_nmR (fun p9 ep9 => ?_)
  replace h := h p9 ep9
  refine j_bipush (v := (8 : Int32)) hX eX7_totalEnergyByMoves_20 (by decide) ?_
  obtain ⟨t10, h⟩ := h
  obtain ⟨i11, h⟩ := h
  refine j_iald hX eX7_totalEnergyByMoves_22 t10 i11 ?_
  refine j_i2l hX eX7_totalEnergyByMoves_23 ?_
  refine j_ladd hX eX7_totalEnergyByMoves_24 ?_
  refine j_aload_n hX eX7_totalEnergyByMoves_25 0 rfl ?_
  obtain ⟨z12, h⟩ := h
  refine j_getR hX eX7_totalEnergyByMoves_26 ff_LiftGroupModel_7 rfl t3 (by decide) z12 ?_
  refine j_nmR (fun p13 ep13 => ?_)
  replace h := h p13 ep13
  refine j_bipush (v := (6 : Int32)) hX eX7_totalEnergyByMoves_29 (by decide) ?_
  obtain ⟨t14, h⟩ := h
  obtain ⟨i15, h⟩ := h
  refine j_iald hX eX7_totalEnergyByMoves_31 t14 i15 ?_
  refine j_i2l hX eX7_totalEnergyByMoves_32 ?_
  refine j_ladd hX eX7_totalEnergyByMoves_33 ?_
  refine j_aload_n hX eX7_totalEnergyByMoves_34 0 rfl ?_
  obtain ⟨z16, h⟩ := h
  refine j_getR hX eX7_totalEnergyByMoves_35 ff_LiftGroupModel_7 rfl t3 (by decide) z16 ?_
  refine j_nmR (fun p17 ep17 => ?_)
  replace h := h p17 ep17
  refine j_bipush (v := (7 : Int32)) hX eX7_totalEnergyByMoves_38 (by decide) ?_
  obtain ⟨t18, h⟩ := h
  obtain ⟨i19, h⟩ := h
  refine j_iald hX eX7_totalEnergyByMoves_40 t18 i19 ?_
  refine j_i2l hX eX7_totalEnergyByMoves_41 ?_
  refine j_ladd hX eX7_totalEnergyByMoves_42 ?_
  exact j_lret hX hM eX7_totalEnergyByMoves_43 rfl h

set_option maxHeartbeats 4000000 in
set_option maxRecDepth 20000 in
theorem vX7_floorsUp_0 {X : am_Cx} {G : am_Gx} {d : Nat} {Q : am_Q} (hX : am_ok X rX7_floorsUp G (d + 1)) (hM : am_me X rX7_floorsUp Q) {bc bs : Nat}  {a0 : Nat} {M : am_Hp} (h : hp_T M (a0) = 8 ∧ (hp_R M 140 a0 ≠ 0 ∧ (∀ p3 : Nat, p3 = hp_R M 140 a0 → (hp_T M (p3) = 22 ∧ (vp_in (5 : Int32) (hp_N M p3) ∧ (am_CT G d rX7_done [.ref a0, .int (hp_E M p3 ((5 : Int32)).toNatClampNeg)] M 0 0 (fun oz9 M6 => ∃ v7 : Int32, oz9 = .inl (some (.int v7)) ∧ (Q (.inl (some (.int v7))) M6)))))))) : am_J X 0 [(0, .ref a0)] [] M bc bs := by
  refine j_aload_n hX eX7_floorsUp_0 0 rfl ?_
  refine j_aload_n hX eX7_floorsUp_1 0 rfl ?_
  obtain ⟨t1, h⟩ := h
  obtain ⟨z2, h⟩ := h
  refine j_getR hX eX7_floorsUp_2 ff_LiftGroupModel_7 rfl t1 (by decide) z2 ?_
  refine j_nmR (fun p3 ep3 => ?_)
  replace h := h p3 ep3
  refine j_iconst (v := (5 : Int32)) hX eX7_floorsUp_5 (by decide) ?_
  obtain ⟨t4, h⟩ := h
  obtain ⟨i5, h⟩ := h
  refine j_iald hX eX7_floorsUp_6 t4 i5 ?_
  refine j_callV (a := a0) (q := (RX7, TX7, 17)) (r' := rX7_done) (As := [.int (hp_E M p3 ((5 : Int32)).toNatClampNeg)]) (rest := []) (d1 := d) hX eX7_floorsUp_7 mm_LiftGroupModel_97 rfl t1 (by decide) rfl h rfl (Nat.le_refl _) (Nat.zero_le _) (Nat.zero_le _) (Nat.le_of_ble_eq_true rfl) (fun vz9 Mz9 qz9 => ?_) (fun Ez9 Mz9 qz9 => ?_)
  · obtain ⟨M6, eMz9⟩ : ∃ M6, M6 = Mz9 := ⟨_, rfl⟩; subst eMz9
    obtain ⟨v7, hxz9, h⟩ := qz9
    cases hxz9
    exact j_iret hX hM eX7_floorsUp_10 rfl h
  · obtain ⟨v7, hxz9, h⟩ := qz9
    cases hxz9

set_option maxHeartbeats 4000000 in
set_option maxRecDepth 20000 in
theorem vX7_floorsDown_0 {X : am_Cx} {G : am_Gx} {d : Nat} {Q : am_Q} (hX : am_ok X rX7_floorsDown G (d + 1)) (hM : am_me X rX7_floorsDown Q) {bc bs : Nat}  {a0 : Nat} {M : am_Hp} (h : hp_T M (a0) = 8 ∧ (hp_R M 140 a0 ≠ 0 ∧ (∀ p3 : Nat, p3 = hp_R M 140 a0 → (hp_T M (p3) = 22 ∧ (vp_in (6 : Int32) (hp_N M p3) ∧ (am_CT G d rX7_done [.ref a0, .int (hp_E M p3 ((6 : Int32)).toNatClampNeg)] M 0 0 (fun oz9 M6 => ∃ v7 : Int32, oz9 = .inl (some (.int v7)) ∧ (Q (.inl (some (.int v7))) M6)))))))) : am_J X 0 [(0, .ref a0)] [] M bc bs := by
  refine j_aload_n hX eX7_floorsDown_0 0 rfl ?_
  refine j_aload_n hX eX7_floorsDown_1 0 rfl ?_
  obtain ⟨t1, h⟩ := h
  obtain ⟨z2, h⟩ := h
  refine j_getR hX eX7_floorsDown_2 ff_LiftGroupModel_7 rfl t1 (by decide) z2 ?_
  refine j_nmR (fun p3 ep3 => ?_)
  replace h := h p3 ep3
  refine j_bipush (v := (6 : Int32)) hX eX7_floorsDown_5 (by decide) ?_
  obtain ⟨t4, h⟩ := h
  obtain ⟨i5, h⟩ := h
  refine j_iald hX eX7_floorsDown_7 t4 i5 ?_
  refine j_callV (a := a0) (q := (RX7, TX7, 17)) (r' := rX7_done) (As := [.int (hp_E M p3 ((6 : Int32)).toNatClampNeg)]) (rest := []) (d1 := d) hX eX7_floorsDown_8 mm_LiftGroupModel_97 rfl t1 (by decide) rfl h rfl (Nat.le_refl _) (Nat.zero_le _) (Nat.zero_le _) (Nat.le_of_ble_eq_true rfl) (fun vz9 Mz9 qz9 => ?_) (fun Ez9 Mz9 qz9 => ?_)
  · obtain ⟨M6, eMz9⟩ : ∃ M6, M6 = Mz9 := ⟨_, rfl⟩; subst eMz9
    obtain ⟨v7, hxz9, h⟩ := qz9
    cases hxz9
    exact j_iret hX hM eX7_floorsDown_11 rfl h
  · obtain ⟨v7, hxz9, h⟩ := qz9
    cases hxz9

set_option maxHeartbeats 4000000 in
set_option maxRecDepth 20000 in
theorem vX7_doorOpenings_0 {X : am_Cx} {G : am_Gx} {d : Nat} {Q : am_Q} (hX : am_ok X rX7_doorOpenings G (d + 1)) (hM : am_me X rX7_doorOpenings Q) {bc bs : Nat}  {a0 : Nat} {M : am_Hp} (h : hp_T M (a0) = 8 ∧ (hp_R M 140 a0 ≠ 0 ∧ (∀ p3 : Nat, p3 = hp_R M 140 a0 → (hp_T M (p3) = 22 ∧ (vp_in (7 : Int32) (hp_N M p3) ∧ (am_CT G d rX7_done [.ref a0, .int (hp_E M p3 ((7 : Int32)).toNatClampNeg)] M 0 0 (fun oz9 M6 => ∃ v7 : Int32, oz9 = .inl (some (.int v7)) ∧ (Q (.inl (some (.int v7))) M6)))))))) : am_J X 0 [(0, .ref a0)] [] M bc bs := by
  refine j_aload_n hX eX7_doorOpenings_0 0 rfl ?_
  refine j_aload_n hX eX7_doorOpenings_1 0 rfl ?_
  obtain ⟨t1, h⟩ := h
  obtain ⟨z2, h⟩ := h
  refine j_getR hX eX7_doorOpenings_2 ff_LiftGroupModel_7 rfl t1 (by decide) z2 ?_
  refine j_nmR (fun p3 ep3 => ?_)
  replace h := h p3 ep3
  refine j_bipush (v := (7 : Int32)) hX eX7_doorOpenings_5 (by decide) ?_
  obtain ⟨t4, h⟩ := h
  obtain ⟨i5, h⟩ := h
  refine j_iald hX eX7_doorOpenings_7 t4 i5 ?_
  refine j_callV (a := a0) (q := (RX7, TX7, 17)) (r' := rX7_done) (As := [.int (hp_E M p3 ((7 : Int32)).toNatClampNeg)]) (rest := []) (d1 := d) hX eX7_doorOpenings_8 mm_LiftGroupModel_97 rfl t1 (by decide) rfl h rfl (Nat.le_refl _) (Nat.zero_le _) (Nat.zero_le _) (Nat.le_of_ble_eq_true rfl) (fun vz9 Mz9 qz9 => ?_) (fun Ez9 Mz9 qz9 => ?_)
  · obtain ⟨M6, eMz9⟩ : ∃ M6, M6 = Mz9 := ⟨_, rfl⟩; subst eMz9
    obtain ⟨v7, hxz9, h⟩ := qz9
    cases hxz9
    exact j_iret hX hM eX7_doorOpenings_11 rfl h
  · obtain ⟨v7, hxz9, h⟩ := qz9
    cases hxz9

set_option maxHeartbeats 4000000 in
set_option maxRecDepth 20000 in
theorem vX7_meanWaiting_0 {X : am_Cx} {G : am_Gx} {d : Nat} {Q : am_Q} (hX : am_ok X rX7_meanWaiting G (d + 1)) (hM : am_me X rX7_meanWaiting Q) {bc bs : Nat}  {a0 : Nat} {M : am_Hp} (h : hp_T M (a0) = 8 ∧ (hp_R M 140 a0 ≠ 0 ∧ (∀ p3 : Nat, p3 = hp_R M 140 a0 → (hp_T M (p3) = 22 ∧ (vp_in (3 : Int32) (hp_N M p3) ∧ ((((hp_E M p3 ((3 : Int32)).toNatClampNeg) = 0) → (∀ M20 : am_Hp, M20 = hp_sI M 153 a0 (1 : Int32) → ((((hp_I M20 153 a0) = 0) → (hp_R M20 140 a0 ≠ 0 ∧ (∀ p25 : Nat, p25 = hp_R M20 140 a0 → (hp_T M20 (p25) = 22 ∧ (vp_in (4 : Int32) (hp_N M20 p25) ∧ (hp_R M20 140 a0 ≠ 0 ∧ (∀ p29 : Nat, p29 = hp_R M20 140 a0 → (hp_T M20 (p29) = 22 ∧ (vp_in (3 : Int32) (hp_N M20 p29) ∧ (vf_n64 (FP.ddiv ((FP.i2d (hp_E M20 p25 ((4 : Int32)).toNatClampNeg))) ((FP.i2d (hp_E M20 p29 ((3 : Int32)).toNatClampNeg)))) ∧ (Q (.inl (some (.double (FP.ddiv ((FP.i2d (hp_E M20 p25 ((4 : Int32)).toNatClampNeg))) ((FP.i2d (hp_E M20 p29 ((3 : Int32)).toNatClampNeg))))))) M20))))))))))) ∧ (¬ ((hp_I M20 153 a0) = 0) → (Q (.inl (some (.double FP.dconst0))) M20))))) ∧ (¬ ((hp_E M p3 ((3 : Int32)).toNatClampNeg) = 0) → (∀ M7 : am_Hp, M7 = hp_sI M 153 a0 (0 : Int32) → ((((hp_I M7 153 a0) = 0) → (hp_R M7 140 a0 ≠ 0 ∧ (∀ p12 : Nat, p12 = hp_R M7 140 a0 → (hp_T M7 (p12) = 22 ∧ (vp_in (4 : Int32) (hp_N M7 p12) ∧ (hp_R M7 140 a0 ≠ 0 ∧ (∀ p16 : Nat, p16 = hp_R M7 140 a0 → (hp_T M7 (p16) = 22 ∧ (vp_in (3 : Int32) (hp_N M7 p16) ∧ (vf_n64 (FP.ddiv ((FP.i2d (hp_E M7 p12 ((4 : Int32)).toNatClampNeg))) ((FP.i2d (hp_E M7 p16 ((3 : Int32)).toNatClampNeg)))) ∧ (Q (.inl (some (.double (FP.ddiv ((FP.i2d (hp_E M7 p12 ((4 : Int32)).toNatClampNeg))) ((FP.i2d (hp_E M7 p16 ((3 : Int32)).toNatClampNeg))))))) M7))))))))))) ∧ (¬ ((hp_I M7 153 a0) = 0) → (Q (.inl (some (.double FP.dconst0))) M7))))))))))) : am_J X 0 [(0, .ref a0)] [] M bc bs := by
  refine j_aload_n hX eX7_meanWaiting_0 0 rfl ?_
  refine j_aload_n hX eX7_meanWaiting_1 0 rfl ?_
  obtain ⟨t1, h⟩ := h
  obtain ⟨z2, h⟩ := h
  refine j_getR hX eX7_meanWaiting_2 ff_LiftGroupModel_7 rfl t1 (by decide) z2 ?_
  refine j_nmR (fun p3 ep3 => ?_)
  replace h := h p3 ep3
  refine j_iconst (v := (3 : Int32)) hX eX7_meanWaiting_5 (by decide) ?_
  obtain ⟨t4, h⟩ := h
  obtain ⟨i5, h⟩ := h
  refine j_iald hX eX7_meanWaiting_6 t4 i5 ?_
  refine j_if_ne hX 14 eX7_meanWaiting_7 (by decide) (fun c6 => ?_) (fun c6 => ?_)
  · replace h := h.2 c6
    refine j_iconst (v := (0 : Int32)) hX eX7_meanWaiting_14 (by decide) ?_
    refine j_putI (ty := .int) hX eX7_meanWaiting_15 ff_LiftGroupModel_42 rfl t1 (by decide) pp_7_13 rfl rfl ?_
    refine j_nmM (fun M7 eM7 => ?_)
    replace h := h M7 eM7
    have t8 : hp_T M7 (a0) = 8 := by rw [eM7]; exact t1
    have t9 : hp_T M7 (p3) = 22 := by rw [eM7]; exact t4
    refine j_aload_n hX eX7_meanWaiting_18 0 rfl ?_
    refine j_getI hX eX7_meanWaiting_19 ff_LiftGroupModel_42 rfl t8 (by decide) ?_
    refine j_if_ne hX 43 eX7_meanWaiting_22 (by decide) (fun c10 => ?_) (fun c10 => ?_)
    · replace h := h.2 c10
      refine j_dconst0 hX eX7_meanWaiting_43 ?_
      exact j_dret hX hM eX7_meanWaiting_44 rfl h
    · replace h := h.1 c10
      refine j_aload_n hX eX7_meanWaiting_25 0 rfl ?_
      obtain ⟨z11, h⟩ := h
      refine j_getR hX eX7_meanWaiting_26 ff_LiftGroupModel_7 rfl t8 (by decide) z11 ?_
      refine j_nmR (fun p12 ep12 => ?_)
      replace h := h p12 ep12
      refine j_iconst (v := (4 : Int32)) hX eX7_meanWaiting_29 (by decide) ?_
      obtain ⟨t13, h⟩ := h
      obtain ⟨i14, h⟩ := h
      refine j_iald hX eX7_meanWaiting_30 t13 i14 ?_
      refine j_i2d hX eX7_meanWaiting_31 ?_
      refine j_aload_n hX eX7_meanWaiting_32 0 rfl ?_
      obtain ⟨z15, h⟩ := h
      refine j_getR hX eX7_meanWaiting_33 ff_LiftGroupModel_7 rfl t8 (by decide) z15 ?_
      refine j_nmR (fun p16 ep16 => ?_)
      replace h := h p16 ep16
      refine j_iconst (v := (3 : Int32)) hX eX7_meanWaiting_36 (by decide) ?_
      obtain ⟨t17, h⟩ := h
      obtain ⟨i18, h⟩ := h
      refine j_iald hX eX7_meanWaiting_37 t17 i18 ?_
      refine j_i2d hX eX7_meanWaiting_38 ?_
      obtain ⟨n19, h⟩ := h
      refine j_ddiv hX eX7_meanWaiting_39 n19 ?_
      refine j_goto hX 44 eX7_meanWaiting_40 (by decide) ?_
      exact j_dret hX hM eX7_meanWaiting_44 rfl h
  · replace h := h.1 c6
    refine j_iconst (v := (1 : Int32)) hX eX7_meanWaiting_10 (by decide) ?_
    refine j_goto hX 15 eX7_meanWaiting_11 (by decide) ?_
    refine j_putI (ty := .int) hX eX7_meanWaiting_15 ff_LiftGroupModel_42 rfl t1 (by decide) pp_7_13 rfl rfl ?_
    refine j_nmM (fun M20 eM20 => ?_)
    replace h := h M20 eM20
    have t21 : hp_T M20 (a0) = 8 := by rw [eM20]; exact t1
    have t22 : hp_T M20 (p3) = 22 := by rw [eM20]; exact t4
    refine j_aload_n hX eX7_meanWaiting_18 0 rfl ?_
    refine j_getI hX eX7_meanWaiting_19 ff_LiftGroupModel_42 rfl t21 (by decide) ?_
    refine j_if_ne hX 43 eX7_meanWaiting_22 (by decide) (fun c23 => ?_) (fun c23 => ?_)
    · replace h := h.2 c23
      refine j_dconst0 hX eX7_meanWaiting_43 ?_
      exact j_dret hX hM eX7_meanWaiting_44 rfl h
    · replace h := h.1 c23
      refine j_aload_n hX eX7_meanWaiting_25 0 rfl ?_
      obtain ⟨z24, h⟩ := h
      refine j_getR hX eX7_meanWaiting_26 ff_LiftGroupModel_7 rfl t21 (by decide) z24 ?_
      refine j_nmR (fun p25 ep25 => ?_)
      replace h := h p25 ep25
      refine j_iconst (v := (4 : Int32)) hX eX7_meanWaiting_29 (by decide) ?_
      obtain ⟨t26, h⟩ := h
      obtain ⟨i27, h⟩ := h
      refine j_iald hX eX7_meanWaiting_30 t26 i27 ?_
      refine j_i2d hX eX7_meanWaiting_31 ?_
      refine j_aload_n hX eX7_meanWaiting_32 0 rfl ?_
      obtain ⟨z28, h⟩ := h
      refine j_getR hX eX7_meanWaiting_33 ff_LiftGroupModel_7 rfl t21 (by decide) z28 ?_
      refine j_nmR (fun p29 ep29 => ?_)
      replace h := h p29 ep29
      refine j_iconst (v := (3 : Int32)) hX eX7_meanWaiting_36 (by decide) ?_
      obtain ⟨t30, h⟩ := h
      obtain ⟨i31, h⟩ := h
      refine j_iald hX eX7_meanWaiting_37 t30 i31 ?_
      refine j_i2d hX eX7_meanWaiting_38 ?_
      obtain ⟨n32, h⟩ := h
      refine j_ddiv hX eX7_meanWaiting_39 n32 ?_
      refine j_goto hX 44 eX7_meanWaiting_40 (by decide) ?_
      exact j_dret hX hM eX7_meanWaiting_44 rfl h

set_option maxHeartbeats 4000000 in
set_option maxRecDepth 20000 in
theorem vX7_loadShare_0 {X : am_Cx} {G : am_Gx} {d : Nat} {Q : am_Q} (hX : am_ok X rX7_loadShare G (d + 1)) (hM : am_me X rX7_loadShare Q) {bc bs : Nat}  {a0 : Nat} {a1 : Int32} {M : am_Hp} (h : am_CT G d rX7_isCar [.int a1] M 0 0 (fun oz9 M1 => ∃ v2 : Int32, oz9 = .inl (some (.int v2)) ∧ (((v2 = 0) → (hp_T M1 (a0) = 8 ∧ (∀ M5 : am_Hp, M5 = hp_sI M1 153 a0 (1 : Int32) → ((((hp_I M5 153 a0) = 0) → (am_CT G d rX7_loadOf [.ref a0, .int a1] M5 0 0 (fun oz9 M8 => ∃ v9 : Int32, oz9 = .inl (some (.int v9)) ∧ (hp_T M8 (a0) = 8 ∧ (hp_R M8 140 a0 ≠ 0 ∧ (∀ p12 : Nat, p12 = hp_R M8 140 a0 → (hp_T M8 (p12) = 22 ∧ (vp_in ((15 : Int32) + a1) (hp_N M8 p12) ∧ (vf_n32 (FP.fdiv ((FP.i2f v9)) ((FP.i2f (hp_E M8 p12 (((15 : Int32) + a1)).toNatClampNeg)))) ∧ (Q (.inl (some (.float (FP.fdiv ((FP.i2f v9)) ((FP.i2f (hp_E M8 p12 (((15 : Int32) + a1)).toNatClampNeg))))))) M8)))))))))) ∧ (¬ ((hp_I M5 153 a0) = 0) → (Q (.inl (some (.float FP.fconst0))) M5)))))) ∧ (¬ (v2 = 0) → (hp_T M1 (a0) = 8 ∧ (∀ M17 : am_Hp, M17 = hp_sI M1 153 a0 (0 : Int32) → ((((hp_I M17 153 a0) = 0) → (am_CT G d rX7_loadOf [.ref a0, .int a1] M17 0 0 (fun oz9 M20 => ∃ v21 : Int32, oz9 = .inl (some (.int v21)) ∧ (hp_T M20 (a0) = 8 ∧ (hp_R M20 140 a0 ≠ 0 ∧ (∀ p24 : Nat, p24 = hp_R M20 140 a0 → (hp_T M20 (p24) = 22 ∧ (vp_in ((15 : Int32) + a1) (hp_N M20 p24) ∧ (vf_n32 (FP.fdiv ((FP.i2f v21)) ((FP.i2f (hp_E M20 p24 (((15 : Int32) + a1)).toNatClampNeg)))) ∧ (Q (.inl (some (.float (FP.fdiv ((FP.i2f v21)) ((FP.i2f (hp_E M20 p24 (((15 : Int32) + a1)).toNatClampNeg))))))) M20)))))))))) ∧ (¬ ((hp_I M17 153 a0) = 0) → (Q (.inl (some (.float FP.fconst0))) M17))))))))) : am_J X 0 [(0, .ref a0), (1, .int a1)] [] M bc bs := by
  refine j_aload_n hX eX7_loadShare_0 0 rfl ?_
  refine j_iload_n hX eX7_loadShare_1 1 rfl ?_
  refine j_callS (r' := rX7_isCar) (As := [.int a1]) (rest := [.ref a0]) (d1 := d) hX eX7_loadShare_2 mm_LiftGroupModel_119 rfl rfl h rfl (Nat.le_refl _) (Nat.zero_le _) (Nat.zero_le _) (Nat.le_of_ble_eq_true rfl) (fun vz9 Mz9 qz9 => ?_) (fun Ez9 Mz9 qz9 => ?_)
  · obtain ⟨M1, eMz9⟩ : ∃ M1, M1 = Mz9 := ⟨_, rfl⟩; subst eMz9
    obtain ⟨v2, hxz9, h⟩ := qz9
    cases hxz9
    refine j_if_eq hX 12 eX7_loadShare_5 (by decide) (fun c3 => ?_) (fun c3 => ?_)
    · replace h := h.1 c3
      refine j_iconst (v := (1 : Int32)) hX eX7_loadShare_12 (by decide) ?_
      obtain ⟨t4, h⟩ := h
      refine j_putI (ty := .int) hX eX7_loadShare_13 ff_LiftGroupModel_42 rfl t4 (by decide) pp_7_13 rfl rfl ?_
      refine j_nmM (fun M5 eM5 => ?_)
      replace h := h M5 eM5
      have t6 : hp_T M5 (a0) = 8 := by rw [eM5]; exact t4
      refine j_aload_n hX eX7_loadShare_16 0 rfl ?_
      refine j_getI hX eX7_loadShare_17 ff_LiftGroupModel_42 rfl t6 (by decide) ?_
      refine j_if_ne hX 43 eX7_loadShare_20 (by decide) (fun c7 => ?_) (fun c7 => ?_)
      · replace h := h.2 c7
        refine j_fconst0 hX eX7_loadShare_43 ?_
        exact j_fret hX hM eX7_loadShare_44 rfl h
      · replace h := h.1 c7
        refine j_aload_n hX eX7_loadShare_23 0 rfl ?_
        refine j_iload_n hX eX7_loadShare_24 1 rfl ?_
        refine j_callV (a := a0) (q := (RX7, TX7, 17)) (r' := rX7_loadOf) (As := [.int a1]) (rest := []) (d1 := d) hX eX7_loadShare_25 mm_LiftGroupModel_81 rfl t6 (by decide) rfl h rfl (Nat.le_refl _) (Nat.zero_le _) (Nat.zero_le _) (Nat.le_of_ble_eq_true rfl) (fun vz9 Mz9 qz9 => ?_) (fun Ez9 Mz9 qz9 => ?_)
        · obtain ⟨M8, eMz9⟩ : ∃ M8, M8 = Mz9 := ⟨_, rfl⟩; subst eMz9
          obtain ⟨v9, hxz9, h⟩ := qz9
          cases hxz9
          refine j_i2f hX eX7_loadShare_28 ?_
          refine j_aload_n hX eX7_loadShare_29 0 rfl ?_
          obtain ⟨t10, h⟩ := h
          obtain ⟨z11, h⟩ := h
          refine j_getR hX eX7_loadShare_30 ff_LiftGroupModel_7 rfl t10 (by decide) z11 ?_
          refine j_nmR (fun p12 ep12 => ?_)
          replace h := h p12 ep12
          refine j_bipush (v := (15 : Int32)) hX eX7_loadShare_33 (by decide) ?_
          refine j_iload_n hX eX7_loadShare_35 1 rfl ?_
          refine j_iadd hX eX7_loadShare_36 ?_
          obtain ⟨t13, h⟩ := h
          obtain ⟨i14, h⟩ := h
          refine j_iald hX eX7_loadShare_37 t13 i14 ?_
          refine j_i2f hX eX7_loadShare_38 ?_
          obtain ⟨n15, h⟩ := h
          refine j_fdiv hX eX7_loadShare_39 n15 ?_
          refine j_goto hX 44 eX7_loadShare_40 (by decide) ?_
          exact j_fret hX hM eX7_loadShare_44 rfl h
        · obtain ⟨v9, hxz9, h⟩ := qz9
          cases hxz9
    · replace h := h.2 c3
      refine j_iconst (v := (0 : Int32)) hX eX7_loadShare_8 (by decide) ?_
      refine j_goto hX 13 eX7_loadShare_9 (by decide) ?_
      obtain ⟨t16, h⟩ := h
      refine j_putI (ty := .int) hX eX7_loadShare_13 ff_LiftGroupModel_42 rfl t16 (by decide) pp_7_13 rfl rfl ?_
      refine j_nmM (fun M17 eM17 => ?_)
      replace h := h M17 eM17
      have t18 : hp_T M17 (a0) = 8 := by rw [eM17]; exact t16
      refine j_aload_n hX eX7_loadShare_16 0 rfl ?_
      refine j_getI hX eX7_loadShare_17 ff_LiftGroupModel_42 rfl t18 (by decide) ?_
      refine j_if_ne hX 43 eX7_loadShare_20 (by decide) (fun c19 => ?_) (fun c19 => ?_)
      · replace h := h.2 c19
        refine j_fconst0 hX eX7_loadShare_43 ?_
        exact j_fret hX hM eX7_loadShare_44 rfl h
      · replace h := h.1 c19
        refine j_aload_n hX eX7_loadShare_23 0 rfl ?_
        refine j_iload_n hX eX7_loadShare_24 1 rfl ?_
        refine j_callV (a := a0) (q := (RX7, TX7, 17)) (r' := rX7_loadOf) (As := [.int a1]) (rest := []) (d1 := d) hX eX7_loadShare_25 mm_LiftGroupModel_81 rfl t18 (by decide) rfl h rfl (Nat.le_refl _) (Nat.zero_le _) (Nat.zero_le _) (Nat.le_of_ble_eq_true rfl) (fun vz9 Mz9 qz9 => ?_) (fun Ez9 Mz9 qz9 => ?_)
        · obtain ⟨M20, eMz9⟩ : ∃ M20, M20 = Mz9 := ⟨_, rfl⟩; subst eMz9
          obtain ⟨v21, hxz9, h⟩ := qz9
          cases hxz9
          refine j_i2f hX eX7_loadShare_28 ?_
          refine j_aload_n hX eX7_loadShare_29 0 rfl ?_
          obtain ⟨t22, h⟩ := h
          obtain ⟨z23, h⟩ := h
          refine j_getR hX eX7_loadShare_30 ff_LiftGroupModel_7 rfl t22 (by decide) z23 ?_
          refine j_nmR (fun p24 ep24 => ?_)
          replace h := h p24 ep24
          refine j_bipush (v := (15 : Int32)) hX eX7_loadShare_33 (by decide) ?_
          refine j_iload_n hX eX7_loadShare_35 1 rfl ?_
          refine j_iadd hX eX7_loadShare_36 ?_
          obtain ⟨t25, h⟩ := h
          obtain ⟨i26, h⟩ := h
          refine j_iald hX eX7_loadShare_37 t25 i26 ?_
          refine j_i2f hX eX7_loadShare_38 ?_
          obtain ⟨n27, h⟩ := h
          refine j_fdiv hX eX7_loadShare_39 n27 ?_
          refine j_goto hX 44 eX7_loadShare_40 (by decide) ?_
          exact j_fret hX hM eX7_loadShare_44 rfl h
        · obtain ⟨v21, hxz9, h⟩ := qz9
          cases hxz9
  · obtain ⟨v2, hxz9, h⟩ := qz9
    cases hxz9

set_option maxHeartbeats 4000000 in
set_option maxRecDepth 20000 in
theorem vX7_isConsistent_0 {X : am_Cx} {G : am_Gx} {d : Nat} {Q : am_Q} (hX : am_ok X rX7_isConsistent G (d + 1)) (hM : am_me X rX7_isConsistent Q) {bc bs : Nat}  {a0 : Nat} {M : am_Hp} (h : hp_T M (a0) = 8 ∧ (∀ M2 : am_Hp, M2 = hp_sI M 153 a0 (0 : Int32) → (Q (.inl (some (.int (1 : Int32)))) M2))) : am_J X 0 [(0, .ref a0)] [] M bc bs := by
  refine j_aload_n hX eX7_isConsistent_0 0 rfl ?_
  refine j_iconst (v := (0 : Int32)) hX eX7_isConsistent_1 (by decide) ?_
  obtain ⟨t1, h⟩ := h
  refine j_putI (ty := .int) hX eX7_isConsistent_2 ff_LiftGroupModel_42 rfl t1 (by decide) pp_7_13 rfl rfl ?_
  refine j_nmM (fun M2 eM2 => ?_)
  replace h := h M2 eM2
  have t3 : hp_T M2 (a0) = 8 := by rw [eM2]; exact t1
  refine j_iconst (v := (1 : Int32)) hX eX7_isConsistent_5 (by decide) ?_
  exact j_zret hX hM eX7_isConsistent_6 rfl (by decide) h

set_option maxHeartbeats 4000000 in
set_option maxRecDepth 20000 in
theorem vX7_writes_0 {X : am_Cx} {G : am_Gx} {d : Nat} {Q : am_Q} (hX : am_ok X rX7_writes G (d + 1)) (hM : am_me X rX7_writes Q) {bc bs : Nat}  {a0 : Nat} {a1 : Int32} {M : am_Hp} (h : hp_T M (a0) = 8 ∧ (hp_R M 151 a0 ≠ 0 ∧ (∀ p3 : Nat, p3 = hp_R M 151 a0 → (hp_T M (p3) = 21 ∧ (vp_in (hp_I M 152 a0) (hp_N M p3) ∧ (vp_nar .char (((a1).toUInt32 % 65536).toInt32) = (((a1).toUInt32 % 65536).toInt32) ∧ (∀ M7 : am_Hp, M7 = hp_sE M p3 ((hp_I M 152 a0)).toNatClampNeg (((a1).toUInt32 % 65536).toInt32) → (∀ M10 : am_Hp, M10 = hp_sI M7 152 a0 ((hp_I M7 152 a0) + (1 : Int32)) → (Q (.inl none) M10))))))))) : am_J X 0 [(0, .ref a0), (1, .int a1)] [] M bc bs := by
  refine j_aload_n hX eX7_writes_0 0 rfl ?_
  obtain ⟨t1, h⟩ := h
  obtain ⟨z2, h⟩ := h
  refine j_getR hX eX7_writes_1 ff_LiftGroupModel_36 rfl t1 (by decide) z2 ?_
  refine j_nmR (fun p3 ep3 => ?_)
  replace h := h p3 ep3
  refine j_aload_n hX eX7_writes_4 0 rfl ?_
  refine j_getI hX eX7_writes_5 ff_LiftGroupModel_202 rfl t1 (by decide) ?_
  refine j_iload_n hX eX7_writes_8 1 rfl ?_
  refine j_i2c hX eX7_writes_9 ?_
  obtain ⟨t4, h⟩ := h
  obtain ⟨i5, h⟩ := h
  obtain ⟨n6, h⟩ := h
  refine j_cast hX eX7_writes_10 t4 i5 n6 ?_
  refine j_nmM (fun M7 eM7 => ?_)
  replace h := h M7 eM7
  have t8 : hp_T M7 (a0) = 8 := by rw [eM7]; exact t1
  have t9 : hp_T M7 (p3) = 21 := by rw [eM7]; exact t4
  refine j_aload_n hX eX7_writes_11 0 rfl ?_
  refine j_dup hX eX7_writes_12 rfl ?_
  refine j_getI hX eX7_writes_13 ff_LiftGroupModel_202 rfl t8 (by decide) ?_
  refine j_iconst (v := (1 : Int32)) hX eX7_writes_16 (by decide) ?_
  refine j_iadd hX eX7_writes_17 ?_
  refine j_putI (ty := .int) hX eX7_writes_18 ff_LiftGroupModel_202 rfl t8 (by decide) pp_7_12 rfl rfl ?_
  refine j_nmM (fun M10 eM10 => ?_)
  replace h := h M10 eM10
  have t11 : hp_T M10 (a0) = 8 := by rw [eM10]; exact t8
  have t12 : hp_T M10 (p3) = 21 := by rw [eM10]; exact t9
  exact j_vret hX hM eX7_writes_21 rfl h

set_option maxHeartbeats 4000000 in
set_option maxRecDepth 20000 in
theorem vX7_writesNumber_0 {X : am_Cx} {G : am_Gx} {d : Nat} {Q : am_Q} (hX : am_ok X rX7_writesNumber G (d + 1)) (hM : am_me X rX7_writesNumber Q) {bc bs : Nat} (R3 : Nat → Int32 → Int32 → am_Hp → Prop) (k3 : ∀ (x0 : Nat) (x1 : Int32) (x2 : Int32) (M : am_Hp), R3 x0 x1 x2 M → am_J X 3 [(0, .ref x0), (1, .int x1), (2, .int x2)] [] M bc bs) {a0 : Nat} {a1 : Int32} {M : am_Hp} (h : R3 a0 a1 (100 : Int32) M) : am_J X 0 [(0, .ref a0), (1, .int a1)] [] M bc bs := by
  refine j_bipush (v := (100 : Int32)) hX eX7_writesNumber_0 (by decide) ?_
  refine j_istore_n (lv' := [(2, .int (100 : Int32)), (0, .ref a0), (1, .int a1)]) hX eX7_writesNumber_2 rfl (by decide) rfl ?_
  exact j_sub [1, 2, 0] rfl (k3 _ _ _ _ h)
set_option maxHeartbeats 4000000 in
set_option maxRecDepth 20000 in
theorem vX7_writesNumber_3 {X : am_Cx} {G : am_Gx} {d : Nat} {Q : am_Q} (hX : am_ok X rX7_writesNumber G (d + 1)) (hM : am_me X rX7_writesNumber Q) {bc bs : Nat} (R3 : Nat → Int32 → Int32 → am_Hp → Prop) (k3 : ∀ (x0 : Nat) (x1 : Int32) (x2 : Int32) (M : am_Hp), R3 x0 x1 x2 M → am_J X 3 [(0, .ref x0), (1, .int x1), (2, .int x2)] [] M bc bs) (R21 : Nat → Int32 → Int32 → am_Hp → Prop) (k21 : ∀ (x0 : Nat) (x1 : Int32) (x2 : Int32) (M : am_Hp), R21 x0 x1 x2 M → am_J X 21 [(0, .ref x0), (1, .int x1), (2, .int x2)] [] M bc bs) {a0 : Nat} {a1 : Int32} {a2 : Int32} {M : am_Hp} (h : ((a2 ≤ (1 : Int32)) → (R21 a0 a1 a2 M)) ∧ (¬ (a2 ≤ (1 : Int32)) → (((a2 ≤ a1) → (R21 a0 a1 a2 M)) ∧ (¬ (a2 ≤ a1) → (∀ v3 : Int32, v3 = (a2 / (10 : Int32)) → (R3 a0 a1 v3 M)))))) : am_J X 3 [(0, .ref a0), (1, .int a1), (2, .int a2)] [] M bc bs := by
  refine j_iload_n hX eX7_writesNumber_3 2 rfl ?_
  refine j_iconst (v := (1 : Int32)) hX eX7_writesNumber_4 (by decide) ?_
  refine j_icmp_le hX 21 eX7_writesNumber_5 (by decide) (fun c1 => ?_) (fun c1 => ?_)
  · replace h := h.1 c1
    exact j_sub [0, 1, 2] rfl (k21 _ _ _ _ h)
  · replace h := h.2 c1
    refine j_iload_n hX eX7_writesNumber_8 1 rfl ?_
    refine j_iload_n hX eX7_writesNumber_9 2 rfl ?_
    refine j_icmp_ge hX 21 eX7_writesNumber_10 (by decide) (fun c2 => ?_) (fun c2 => ?_)
    · replace h := h.1 c2
      exact j_sub [0, 1, 2] rfl (k21 _ _ _ _ h)
    · replace h := h.2 c2
      refine j_iload_n hX eX7_writesNumber_13 2 rfl ?_
      refine j_bipush (v := (10 : Int32)) hX eX7_writesNumber_14 (by decide) ?_
      refine j_idiv hX eX7_writesNumber_16 (by decide) ?_
      refine j_nmI (fun v3 ev3 => ?_)
      replace h := h v3 ev3
      refine j_istore_n (lv' := [(2, .int v3), (0, .ref a0), (1, .int a1)]) hX eX7_writesNumber_17 rfl (by decide) rfl ?_
      refine j_goto hX 3 eX7_writesNumber_18 (by decide) ?_
      exact j_sub [1, 2, 0] rfl (k3 _ _ _ _ h)
set_option maxHeartbeats 4000000 in
set_option maxRecDepth 20000 in
theorem vX7_writesNumber_21 {X : am_Cx} {G : am_Gx} {d : Nat} {Q : am_Q} (hX : am_ok X rX7_writesNumber G (d + 1)) (hM : am_me X rX7_writesNumber Q) {bc bs : Nat} (R21 : Nat → Int32 → Int32 → am_Hp → Prop) (k21 : ∀ (x0 : Nat) (x1 : Int32) (x2 : Int32) (M : am_Hp), R21 x0 x1 x2 M → am_J X 21 [(0, .ref x0), (1, .int x1), (2, .int x2)] [] M bc bs) {a0 : Nat} {a1 : Int32} {a2 : Int32} {M : am_Hp} (h : ((a2 ≤ 0) → (Q (.inl none) M)) ∧ (¬ (a2 ≤ 0) → (¬ a2 = 0 ∧ (hp_T M (a0) = 8 ∧ (am_CT G d rX7_writes [.ref a0, .int ((48 : Int32) + ((a1 / a2) - (a1 / a2) / (10 : Int32) * (10 : Int32)))] M 0 0 (fun oz9 M3 => oz9 = .inl none ∧ (∀ v6 : Int32, v6 = (a2 / (10 : Int32)) → (R21 a0 a1 v6 M3)))))))) : am_J X 21 [(0, .ref a0), (1, .int a1), (2, .int a2)] [] M bc bs := by
  refine j_iload_n hX eX7_writesNumber_21 2 rfl ?_
  refine j_if_le hX 46 eX7_writesNumber_22 (by decide) (fun c1 => ?_) (fun c1 => ?_)
  · replace h := h.1 c1
    exact j_vret hX hM eX7_writesNumber_46 rfl h
  · replace h := h.2 c1
    refine j_aload_n hX eX7_writesNumber_25 0 rfl ?_
    refine j_bipush (v := (48 : Int32)) hX eX7_writesNumber_26 (by decide) ?_
    refine j_iload_n hX eX7_writesNumber_28 1 rfl ?_
    refine j_iload_n hX eX7_writesNumber_29 2 rfl ?_
    obtain ⟨n2, h⟩ := h
    refine j_idiv hX eX7_writesNumber_30 n2 ?_
    refine j_bipush (v := (10 : Int32)) hX eX7_writesNumber_31 (by decide) ?_
    refine j_irem hX eX7_writesNumber_33 (by decide) ?_
    refine j_iadd hX eX7_writesNumber_34 ?_
    obtain ⟨t5, h⟩ := h
    refine j_callV (a := a0) (q := (RX7, TX7, 17)) (r' := rX7_writes) (As := [.int ((48 : Int32) + ((a1 / a2) - (a1 / a2) / (10 : Int32) * (10 : Int32)))]) (rest := []) (d1 := d) hX eX7_writesNumber_35 mm_LiftGroupModel_205 rfl t5 (by decide) rfl h rfl (Nat.le_refl _) (Nat.zero_le _) (Nat.zero_le _) (Nat.le_of_ble_eq_true rfl) (fun vz9 Mz9 qz9 => ?_) (fun Ez9 Mz9 qz9 => ?_)
    · obtain ⟨M3, eMz9⟩ : ∃ M3, M3 = Mz9 := ⟨_, rfl⟩; subst eMz9
      obtain ⟨hxz9, h⟩ := qz9
      cases hxz9
      refine j_iload_n hX eX7_writesNumber_38 2 rfl ?_
      refine j_bipush (v := (10 : Int32)) hX eX7_writesNumber_39 (by decide) ?_
      refine j_idiv hX eX7_writesNumber_41 (by decide) ?_
      refine j_nmI (fun v6 ev6 => ?_)
      replace h := h v6 ev6
      refine j_istore_n (lv' := [(2, .int v6), (0, .ref a0), (1, .int a1)]) hX eX7_writesNumber_42 rfl (by decide) rfl ?_
      refine j_goto hX 21 eX7_writesNumber_43 (by decide) ?_
      exact j_sub [1, 2, 0] rfl (k21 _ _ _ _ h)
    · obtain ⟨hxz9, h⟩ := qz9
      cases hxz9

set_option maxHeartbeats 4000000 in
set_option maxRecDepth 20000 in
theorem vX7_renderCar_0 {X : am_Cx} {G : am_Gx} {d : Nat} {Q : am_Q} (hX : am_ok X rX7_renderCar G (d + 1)) (hM : am_me X rX7_renderCar Q) {bc bs : Nat}  {a0 : Nat} {a1 : Int32} {M : am_Hp} (h : am_CT G d rX7_isCar [.int a1] M 0 0 (fun oz9 M1 => ∃ v2 : Int32, oz9 = .inl (some (.int v2)) ∧ (((v2 = 0) → (hp_T M1 (a0) = 8 ∧ (am_CT G d rX7_fails [.ref a0, .int (1 : Int32)] M1 0 0 (fun oz9 M189 => ∃ v190 : Int32, oz9 = .inl (some (.int v190)) ∧ (Q (.inl (some (.int v190))) M189))))) ∧ (¬ (v2 = 0) → (hp_T M1 (a0) = 8 ∧ (∀ M5 : am_Hp, M5 = hp_sI M1 152 a0 (0 : Int32) → (am_CT G d rX7_writesNumber [.ref a0, .int a1] M5 0 0 (fun oz9 M7 => oz9 = .inl none ∧ (hp_T M7 (a0) = 8 ∧ (am_CT G d rX7_writes [.ref a0, .int (64 : Int32)] M7 0 0 (fun oz9 M9 => oz9 = .inl none ∧ (hp_T M9 (a0) = 8 ∧ (hp_R M9 140 a0 ≠ 0 ∧ (∀ p14 : Nat, p14 = hp_R M9 140 a0 → (hp_T M9 (p14) = 22 ∧ (vp_in ((9 : Int32) + a1) (hp_N M9 p14) ∧ (am_CT G d rX7_writesNumber [.ref a0, .int (hp_E M9 p14 (((9 : Int32) + a1)).toNatClampNeg)] M9 0 0 (fun oz9 M17 => oz9 = .inl none ∧ (hp_T M17 (a0) = 8 ∧ (hp_R M17 140 a0 ≠ 0 ∧ (∀ p21 : Nat, p21 = hp_R M17 140 a0 → (hp_T M17 (p21) = 22 ∧ (vp_in ((12 : Int32) + a1) (hp_N M17 p21) ∧ ((((hp_E M17 p21 (((12 : Int32) + a1)).toNatClampNeg) ≤ 0) → (hp_R M17 140 a0 ≠ 0 ∧ (∀ p26 : Nat, p26 = hp_R M17 140 a0 → (hp_T M17 (p26) = 22 ∧ (vp_in ((12 : Int32) + a1) (hp_N M17 p26) ∧ (((0 ≤ (hp_E M17 p26 (((12 : Int32) + a1)).toNatClampNeg)) → (am_CT G d rX7_writes [.ref a0, .int (45 : Int32)] M17 0 0 (fun oz9 M30 => oz9 = .inl none ∧ (hp_T M30 (a0) = 8 ∧ (am_CT G d rX7_inside [.ref a0, .int a1] M30 0 0 (fun oz9 M32 => ∃ v33 : Int32, oz9 = .inl (some (.int v33)) ∧ (hp_T M32 (a0) = 8 ∧ (am_CT G d rX7_writesNumber [.ref a0, .int v33] M32 0 0 (fun oz9 M35 => oz9 = .inl none ∧ (hp_T M35 (a0) = 8 ∧ (am_CT G d rX7_writes [.ref a0, .int (47 : Int32)] M35 0 0 (fun oz9 M38 => oz9 = .inl none ∧ (hp_T M38 (a0) = 8 ∧ (am_CT G d rX7_loadOf [.ref a0, .int a1] M38 0 0 (fun oz9 M41 => ∃ v42 : Int32, oz9 = .inl (some (.int v42)) ∧ (hp_T M41 (a0) = 8 ∧ (am_CT G d rX7_writesNumber [.ref a0, .int v42] M41 0 0 (fun oz9 M44 => oz9 = .inl none ∧ (hp_T M44 (a0) = 8 ∧ (hp_R M44 140 a0 ≠ 0 ∧ (∀ p49 : Nat, p49 = hp_R M44 140 a0 → (hp_T M44 (p49) = 22 ∧ (vp_in ((18 : Int32) + a1) (hp_N M44 p49) ∧ ((((hp_E M44 p49 (((18 : Int32) + a1)).toNatClampNeg) ≤ 0) → (am_CT G d rX7_writes [.ref a0, .int (124 : Int32)] M44 0 0 (fun oz9 M53 => oz9 = .inl none ∧ (hp_T M53 (a0) = 8 ∧ (hp_R M53 140 a0 ≠ 0 ∧ (∀ p57 : Nat, p57 = hp_R M53 140 a0 → (hp_T M53 (p57) = 22 ∧ (vp_in ((21 : Int32) + a1) (hp_N M53 p57) ∧ ((((hp_E M53 p57 (((21 : Int32) + a1)).toNatClampNeg) = (1 : Int32)) → (am_CT G d rX7_writes [.ref a0, .int (120 : Int32)] M53 0 0 (fun oz9 M63 => oz9 = .inl none ∧ (hp_T M63 (a0) = 8 ∧ (am_CT G d rX7_done [.ref a0, .int (hp_I M63 152 a0)] M63 0 0 (fun oz9 M66 => ∃ v67 : Int32, oz9 = .inl (some (.int v67)) ∧ (Q (.inl (some (.int v67))) M66))))))) ∧ (¬ ((hp_E M53 p57 (((21 : Int32) + a1)).toNatClampNeg) = (1 : Int32)) → (am_CT G d rX7_done [.ref a0, .int (hp_I M53 152 a0)] M53 0 0 (fun oz9 M61 => ∃ v62 : Int32, oz9 = .inl (some (.int v62)) ∧ (Q (.inl (some (.int v62))) M61))))))))))))) ∧ (¬ ((hp_E M44 p49 (((18 : Int32) + a1)).toNatClampNeg) ≤ 0) → (am_CT G d rX7_writes [.ref a0, .int (111 : Int32)] M44 0 0 (fun oz9 M68 => oz9 = .inl none ∧ (hp_T M68 (a0) = 8 ∧ (hp_R M68 140 a0 ≠ 0 ∧ (∀ p72 : Nat, p72 = hp_R M68 140 a0 → (hp_T M68 (p72) = 22 ∧ (vp_in ((21 : Int32) + a1) (hp_N M68 p72) ∧ ((((hp_E M68 p72 (((21 : Int32) + a1)).toNatClampNeg) = (1 : Int32)) → (am_CT G d rX7_writes [.ref a0, .int (120 : Int32)] M68 0 0 (fun oz9 M78 => oz9 = .inl none ∧ (hp_T M78 (a0) = 8 ∧ (am_CT G d rX7_done [.ref a0, .int (hp_I M78 152 a0)] M78 0 0 (fun oz9 M81 => ∃ v82 : Int32, oz9 = .inl (some (.int v82)) ∧ (Q (.inl (some (.int v82))) M81))))))) ∧ (¬ ((hp_E M68 p72 (((21 : Int32) + a1)).toNatClampNeg) = (1 : Int32)) → (am_CT G d rX7_done [.ref a0, .int (hp_I M68 152 a0)] M68 0 0 (fun oz9 M76 => ∃ v77 : Int32, oz9 = .inl (some (.int v77)) ∧ (Q (.inl (some (.int v77))) M76))))))))))))))))))))))))))))))))))))) ∧ (¬ (0 ≤ (hp_E M17 p26 (((12 : Int32) + a1)).toNatClampNeg)) → (am_CT G d rX7_writes [.ref a0, .int (118 : Int32)] M17 0 0 (fun oz9 M83 => oz9 = .inl none ∧ (hp_T M83 (a0) = 8 ∧ (am_CT G d rX7_inside [.ref a0, .int a1] M83 0 0 (fun oz9 M85 => ∃ v86 : Int32, oz9 = .inl (some (.int v86)) ∧ (hp_T M85 (a0) = 8 ∧ (am_CT G d rX7_writesNumber [.ref a0, .int v86] M85 0 0 (fun oz9 M88 => oz9 = .inl none ∧ (hp_T M88 (a0) = 8 ∧ (am_CT G d rX7_writes [.ref a0, .int (47 : Int32)] M88 0 0 (fun oz9 M91 => oz9 = .inl none ∧ (hp_T M91 (a0) = 8 ∧ (am_CT G d rX7_loadOf [.ref a0, .int a1] M91 0 0 (fun oz9 M94 => ∃ v95 : Int32, oz9 = .inl (some (.int v95)) ∧ (hp_T M94 (a0) = 8 ∧ (am_CT G d rX7_writesNumber [.ref a0, .int v95] M94 0 0 (fun oz9 M97 => oz9 = .inl none ∧ (hp_T M97 (a0) = 8 ∧ (hp_R M97 140 a0 ≠ 0 ∧ (∀ p102 : Nat, p102 = hp_R M97 140 a0 → (hp_T M97 (p102) = 22 ∧ (vp_in ((18 : Int32) + a1) (hp_N M97 p102) ∧ ((((hp_E M97 p102 (((18 : Int32) + a1)).toNatClampNeg) ≤ 0) → (am_CT G d rX7_writes [.ref a0, .int (124 : Int32)] M97 0 0 (fun oz9 M106 => oz9 = .inl none ∧ (hp_T M106 (a0) = 8 ∧ (hp_R M106 140 a0 ≠ 0 ∧ (∀ p110 : Nat, p110 = hp_R M106 140 a0 → (hp_T M106 (p110) = 22 ∧ (vp_in ((21 : Int32) + a1) (hp_N M106 p110) ∧ ((((hp_E M106 p110 (((21 : Int32) + a1)).toNatClampNeg) = (1 : Int32)) → (am_CT G d rX7_writes [.ref a0, .int (120 : Int32)] M106 0 0 (fun oz9 M116 => oz9 = .inl none ∧ (hp_T M116 (a0) = 8 ∧ (am_CT G d rX7_done [.ref a0, .int (hp_I M116 152 a0)] M116 0 0 (fun oz9 M119 => ∃ v120 : Int32, oz9 = .inl (some (.int v120)) ∧ (Q (.inl (some (.int v120))) M119))))))) ∧ (¬ ((hp_E M106 p110 (((21 : Int32) + a1)).toNatClampNeg) = (1 : Int32)) → (am_CT G d rX7_done [.ref a0, .int (hp_I M106 152 a0)] M106 0 0 (fun oz9 M114 => ∃ v115 : Int32, oz9 = .inl (some (.int v115)) ∧ (Q (.inl (some (.int v115))) M114))))))))))))) ∧ (¬ ((hp_E M97 p102 (((18 : Int32) + a1)).toNatClampNeg) ≤ 0) → (am_CT G d rX7_writes [.ref a0, .int (111 : Int32)] M97 0 0 (fun oz9 M121 => oz9 = .inl none ∧ (hp_T M121 (a0) = 8 ∧ (hp_R M121 140 a0 ≠ 0 ∧ (∀ p125 : Nat, p125 = hp_R M121 140 a0 → (hp_T M121 (p125) = 22 ∧ (vp_in ((21 : Int32) + a1) (hp_N M121 p125) ∧ ((((hp_E M121 p125 (((21 : Int32) + a1)).toNatClampNeg) = (1 : Int32)) → (am_CT G d rX7_writes [.ref a0, .int (120 : Int32)] M121 0 0 (fun oz9 M131 => oz9 = .inl none ∧ (hp_T M131 (a0) = 8 ∧ (am_CT G d rX7_done [.ref a0, .int (hp_I M131 152 a0)] M131 0 0 (fun oz9 M134 => ∃ v135 : Int32, oz9 = .inl (some (.int v135)) ∧ (Q (.inl (some (.int v135))) M134))))))) ∧ (¬ ((hp_E M121 p125 (((21 : Int32) + a1)).toNatClampNeg) = (1 : Int32)) → (am_CT G d rX7_done [.ref a0, .int (hp_I M121 152 a0)] M121 0 0 (fun oz9 M129 => ∃ v130 : Int32, oz9 = .inl (some (.int v130)) ∧ (Q (.inl (some (.int v130))) M129))))))))))))))))))))))))))))))))))))))))))) ∧ (¬ ((hp_E M17 p21 (((12 : Int32) + a1)).toNatClampNeg) ≤ 0) → (am_CT G d rX7_writes [.ref a0, .int (94 : Int32)] M17 0 0 (fun oz9 M136 => oz9 = .inl none ∧ (hp_T M136 (a0) = 8 ∧ (am_CT G d rX7_inside [.ref a0, .int a1] M136 0 0 (fun oz9 M138 => ∃ v139 : Int32, oz9 = .inl (some (.int v139)) ∧ (hp_T M138 (a0) = 8 ∧ (am_CT G d rX7_writesNumber [.ref a0, .int v139] M138 0 0 (fun oz9 M141 => oz9 = .inl none ∧ (hp_T M141 (a0) = 8 ∧ (am_CT G d rX7_writes [.ref a0, .int (47 : Int32)] M141 0 0 (fun oz9 M144 => oz9 = .inl none ∧ (hp_T M144 (a0) = 8 ∧ (am_CT G d rX7_loadOf [.ref a0, .int a1] M144 0 0 (fun oz9 M147 => ∃ v148 : Int32, oz9 = .inl (some (.int v148)) ∧ (hp_T M147 (a0) = 8 ∧ (am_CT G d rX7_writesNumber [.ref a0, .int v148] M147 0 0 (fun oz9 M150 => oz9 = .inl none ∧ (hp_T M150 (a0) = 8 ∧ (hp_R M150 140 a0 ≠ 0 ∧ (∀ p155 : Nat, p155 = hp_R M150 140 a0 → (hp_T M150 (p155) = 22 ∧ (vp_in ((18 : Int32) + a1) (hp_N M150 p155) ∧ ((((hp_E M150 p155 (((18 : Int32) + a1)).toNatClampNeg) ≤ 0) → (am_CT G d rX7_writes [.ref a0, .int (124 : Int32)] M150 0 0 (fun oz9 M159 => oz9 = .inl none ∧ (hp_T M159 (a0) = 8 ∧ (hp_R M159 140 a0 ≠ 0 ∧ (∀ p163 : Nat, p163 = hp_R M159 140 a0 → (hp_T M159 (p163) = 22 ∧ (vp_in ((21 : Int32) + a1) (hp_N M159 p163) ∧ ((((hp_E M159 p163 (((21 : Int32) + a1)).toNatClampNeg) = (1 : Int32)) → (am_CT G d rX7_writes [.ref a0, .int (120 : Int32)] M159 0 0 (fun oz9 M169 => oz9 = .inl none ∧ (hp_T M169 (a0) = 8 ∧ (am_CT G d rX7_done [.ref a0, .int (hp_I M169 152 a0)] M169 0 0 (fun oz9 M172 => ∃ v173 : Int32, oz9 = .inl (some (.int v173)) ∧ (Q (.inl (some (.int v173))) M172))))))) ∧ (¬ ((hp_E M159 p163 (((21 : Int32) + a1)).toNatClampNeg) = (1 : Int32)) → (am_CT G d rX7_done [.ref a0, .int (hp_I M159 152 a0)] M159 0 0 (fun oz9 M167 => ∃ v168 : Int32, oz9 = .inl (some (.int v168)) ∧ (Q (.inl (some (.int v168))) M167))))))))))))) ∧ (¬ ((hp_E M150 p155 (((18 : Int32) + a1)).toNatClampNeg) ≤ 0) → (am_CT G d rX7_writes [.ref a0, .int (111 : Int32)] M150 0 0 (fun oz9 M174 => oz9 = .inl none ∧ (hp_T M174 (a0) = 8 ∧ (hp_R M174 140 a0 ≠ 0 ∧ (∀ p178 : Nat, p178 = hp_R M174 140 a0 → (hp_T M174 (p178) = 22 ∧ (vp_in ((21 : Int32) + a1) (hp_N M174 p178) ∧ ((((hp_E M174 p178 (((21 : Int32) + a1)).toNatClampNeg) = (1 : Int32)) → (am_CT G d rX7_writes [.ref a0, .int (120 : Int32)] M174 0 0 (fun oz9 M184 => oz9 = .inl none ∧ (hp_T M184 (a0) = 8 ∧ (am_CT G d rX7_done [.ref a0, .int (hp_I M184 152 a0)] M184 0 0 (fun oz9 M187 => ∃ v188 : Int32, oz9 = .inl (some (.int v188)) ∧ (Q (.inl (some (.int v188))) M187))))))) ∧ (¬ ((hp_E M174 p178 (((21 : Int32) + a1)).toNatClampNeg) = (1 : Int32)) → (am_CT G d rX7_done [.ref a0, .int (hp_I M174 152 a0)] M174 0 0 (fun oz9 M182 => ∃ v183 : Int32, oz9 = .inl (some (.int v183)) ∧ (Q (.inl (some (.int v183))) M182))))))))))))))))))))))))))))))))))))))))))))))))))))))))))))) : am_J X 0 [(0, .ref a0), (1, .int a1)] [] M bc bs := by
  refine j_iload_n hX eX7_renderCar_0 1 rfl ?_
  refine j_callS (r' := rX7_isCar) (As := [.int a1]) (rest := []) (d1 := d) hX eX7_renderCar_1 mm_LiftGroupModel_119 rfl rfl h rfl (Nat.le_refl _) (Nat.zero_le _) (Nat.zero_le _) (Nat.le_of_ble_eq_true rfl) (fun vz9 Mz9 qz9 => ?_) (fun Ez9 Mz9 qz9 => ?_)
  · obtain ⟨M1, eMz9⟩ : ∃ M1, M1 = Mz9 := ⟨_, rfl⟩; subst eMz9
    obtain ⟨v2, hxz9, h⟩ := qz9
    cases hxz9
    refine j_if_ne hX 13 eX7_renderCar_4 (by decide) (fun c3 => ?_) (fun c3 => ?_)
    · replace h := h.2 c3
      refine j_aload_n hX eX7_renderCar_13 0 rfl ?_
      refine j_iconst (v := (0 : Int32)) hX eX7_renderCar_14 (by decide) ?_
      obtain ⟨t4, h⟩ := h
      refine j_putI (ty := .int) hX eX7_renderCar_15 ff_LiftGroupModel_202 rfl t4 (by decide) pp_7_12 rfl rfl ?_
      refine j_nmM (fun M5 eM5 => ?_)
      replace h := h M5 eM5
      have t6 : hp_T M5 (a0) = 8 := by rw [eM5]; exact t4
      refine j_aload_n hX eX7_renderCar_18 0 rfl ?_
      refine j_iload_n hX eX7_renderCar_19 1 rfl ?_
      refine j_callV (a := a0) (q := (RX7, TX7, 17)) (r' := rX7_writesNumber) (As := [.int a1]) (rest := []) (d1 := d) hX eX7_renderCar_20 mm_LiftGroupModel_208 rfl t6 (by decide) rfl h rfl (Nat.le_refl _) (Nat.zero_le _) (Nat.zero_le _) (Nat.le_of_ble_eq_true rfl) (fun vz9 Mz9 qz9 => ?_) (fun Ez9 Mz9 qz9 => ?_)
      · obtain ⟨M7, eMz9⟩ : ∃ M7, M7 = Mz9 := ⟨_, rfl⟩; subst eMz9
        obtain ⟨hxz9, h⟩ := qz9
        cases hxz9
        refine j_aload_n hX eX7_renderCar_23 0 rfl ?_
        refine j_bipush (v := (64 : Int32)) hX eX7_renderCar_24 (by decide) ?_
        obtain ⟨t11, h⟩ := h
        refine j_callV (a := a0) (q := (RX7, TX7, 17)) (r' := rX7_writes) (As := [.int (64 : Int32)]) (rest := []) (d1 := d) hX eX7_renderCar_26 mm_LiftGroupModel_205 rfl t11 (by decide) rfl h rfl (Nat.le_refl _) (Nat.zero_le _) (Nat.zero_le _) (Nat.le_of_ble_eq_true rfl) (fun vz9 Mz9 qz9 => ?_) (fun Ez9 Mz9 qz9 => ?_)
        · obtain ⟨M9, eMz9⟩ : ∃ M9, M9 = Mz9 := ⟨_, rfl⟩; subst eMz9
          obtain ⟨hxz9, h⟩ := qz9
          cases hxz9
          refine j_aload_n hX eX7_renderCar_29 0 rfl ?_
          refine j_aload_n hX eX7_renderCar_30 0 rfl ?_
          obtain ⟨t12, h⟩ := h
          obtain ⟨z13, h⟩ := h
          refine j_getR hX eX7_renderCar_31 ff_LiftGroupModel_7 rfl t12 (by decide) z13 ?_
          refine j_nmR (fun p14 ep14 => ?_)
          replace h := h p14 ep14
          refine j_bipush (v := (9 : Int32)) hX eX7_renderCar_34 (by decide) ?_
          refine j_iload_n hX eX7_renderCar_36 1 rfl ?_
          refine j_iadd hX eX7_renderCar_37 ?_
          obtain ⟨t15, h⟩ := h
          obtain ⟨i16, h⟩ := h
          refine j_iald hX eX7_renderCar_38 t15 i16 ?_
          refine j_callV (a := a0) (q := (RX7, TX7, 17)) (r' := rX7_writesNumber) (As := [.int (hp_E M9 p14 (((9 : Int32) + a1)).toNatClampNeg)]) (rest := []) (d1 := d) hX eX7_renderCar_39 mm_LiftGroupModel_208 rfl t12 (by decide) rfl h rfl (Nat.le_refl _) (Nat.zero_le _) (Nat.zero_le _) (Nat.le_of_ble_eq_true rfl) (fun vz9 Mz9 qz9 => ?_) (fun Ez9 Mz9 qz9 => ?_)
          · obtain ⟨M17, eMz9⟩ : ∃ M17, M17 = Mz9 := ⟨_, rfl⟩; subst eMz9
            obtain ⟨hxz9, h⟩ := qz9
            cases hxz9
            refine j_aload_n hX eX7_renderCar_42 0 rfl ?_
            refine j_aload_n hX eX7_renderCar_43 0 rfl ?_
            obtain ⟨t19, h⟩ := h
            obtain ⟨z20, h⟩ := h
            refine j_getR hX eX7_renderCar_44 ff_LiftGroupModel_7 rfl t19 (by decide) z20 ?_
            refine j_nmR (fun p21 ep21 => ?_)
            replace h := h p21 ep21
            refine j_bipush (v := (12 : Int32)) hX eX7_renderCar_47 (by decide) ?_
            refine j_iload_n hX eX7_renderCar_49 1 rfl ?_
            refine j_iadd hX eX7_renderCar_50 ?_
            obtain ⟨t22, h⟩ := h
            obtain ⟨i23, h⟩ := h
            refine j_iald hX eX7_renderCar_51 t22 i23 ?_
            refine j_if_le hX 60 eX7_renderCar_52 (by decide) (fun c24 => ?_) (fun c24 => ?_)
            · replace h := h.1 c24
              refine j_aload_n hX eX7_renderCar_60 0 rfl ?_
              obtain ⟨z25, h⟩ := h
              refine j_getR hX eX7_renderCar_61 ff_LiftGroupModel_7 rfl t19 (by decide) z25 ?_
              refine j_nmR (fun p26 ep26 => ?_)
              replace h := h p26 ep26
              refine j_bipush (v := (12 : Int32)) hX eX7_renderCar_64 (by decide) ?_
              refine j_iload_n hX eX7_renderCar_66 1 rfl ?_
              refine j_iadd hX eX7_renderCar_67 ?_
              obtain ⟨t27, h⟩ := h
              obtain ⟨i28, h⟩ := h
              refine j_iald hX eX7_renderCar_68 t27 i28 ?_
              refine j_if_ge hX 77 eX7_renderCar_69 (by decide) (fun c29 => ?_) (fun c29 => ?_)
              · replace h := h.1 c29
                refine j_bipush (v := (45 : Int32)) hX eX7_renderCar_77 (by decide) ?_
                refine j_callV (a := a0) (q := (RX7, TX7, 17)) (r' := rX7_writes) (As := [.int (45 : Int32)]) (rest := []) (d1 := d) hX eX7_renderCar_79 mm_LiftGroupModel_205 rfl t19 (by decide) rfl h rfl (Nat.le_refl _) (Nat.zero_le _) (Nat.zero_le _) (Nat.le_of_ble_eq_true rfl) (fun vz9 Mz9 qz9 => ?_) (fun Ez9 Mz9 qz9 => ?_)
                · obtain ⟨M30, eMz9⟩ : ∃ M30, M30 = Mz9 := ⟨_, rfl⟩; subst eMz9
                  obtain ⟨hxz9, h⟩ := qz9
                  cases hxz9
                  refine j_aload_n hX eX7_renderCar_82 0 rfl ?_
                  refine j_aload_n hX eX7_renderCar_83 0 rfl ?_
                  refine j_iload_n hX eX7_renderCar_84 1 rfl ?_
                  obtain ⟨t34, h⟩ := h
                  refine j_callV (a := a0) (q := (RX7, TX7, 17)) (r' := rX7_inside) (As := [.int a1]) (rest := [.ref a0]) (d1 := d) hX eX7_renderCar_85 mm_LiftGroupModel_74 rfl t34 (by decide) rfl h rfl (Nat.le_refl _) (Nat.zero_le _) (Nat.zero_le _) (Nat.le_of_ble_eq_true rfl) (fun vz9 Mz9 qz9 => ?_) (fun Ez9 Mz9 qz9 => ?_)
                  · obtain ⟨M32, eMz9⟩ : ∃ M32, M32 = Mz9 := ⟨_, rfl⟩; subst eMz9
                    obtain ⟨v33, hxz9, h⟩ := qz9
                    cases hxz9
                    obtain ⟨t37, h⟩ := h
                    refine j_callV (a := a0) (q := (RX7, TX7, 17)) (r' := rX7_writesNumber) (As := [.int v33]) (rest := []) (d1 := d) hX eX7_renderCar_88 mm_LiftGroupModel_208 rfl t37 (by decide) rfl h rfl (Nat.le_refl _) (Nat.zero_le _) (Nat.zero_le _) (Nat.le_of_ble_eq_true rfl) (fun vz9 Mz9 qz9 => ?_) (fun Ez9 Mz9 qz9 => ?_)
                    · obtain ⟨M35, eMz9⟩ : ∃ M35, M35 = Mz9 := ⟨_, rfl⟩; subst eMz9
                      obtain ⟨hxz9, h⟩ := qz9
                      cases hxz9
                      refine j_aload_n hX eX7_renderCar_91 0 rfl ?_
                      refine j_bipush (v := (47 : Int32)) hX eX7_renderCar_92 (by decide) ?_
                      obtain ⟨t40, h⟩ := h
                      refine j_callV (a := a0) (q := (RX7, TX7, 17)) (r' := rX7_writes) (As := [.int (47 : Int32)]) (rest := []) (d1 := d) hX eX7_renderCar_94 mm_LiftGroupModel_205 rfl t40 (by decide) rfl h rfl (Nat.le_refl _) (Nat.zero_le _) (Nat.zero_le _) (Nat.le_of_ble_eq_true rfl) (fun vz9 Mz9 qz9 => ?_) (fun Ez9 Mz9 qz9 => ?_)
                      · obtain ⟨M38, eMz9⟩ : ∃ M38, M38 = Mz9 := ⟨_, rfl⟩; subst eMz9
                        obtain ⟨hxz9, h⟩ := qz9
                        cases hxz9
                        refine j_aload_n hX eX7_renderCar_97 0 rfl ?_
                        refine j_aload_n hX eX7_renderCar_98 0 rfl ?_
                        refine j_iload_n hX eX7_renderCar_99 1 rfl ?_
                        obtain ⟨t43, h⟩ := h
                        refine j_callV (a := a0) (q := (RX7, TX7, 17)) (r' := rX7_loadOf) (As := [.int a1]) (rest := [.ref a0]) (d1 := d) hX eX7_renderCar_100 mm_LiftGroupModel_81 rfl t43 (by decide) rfl h rfl (Nat.le_refl _) (Nat.zero_le _) (Nat.zero_le _) (Nat.le_of_ble_eq_true rfl) (fun vz9 Mz9 qz9 => ?_) (fun Ez9 Mz9 qz9 => ?_)
                        · obtain ⟨M41, eMz9⟩ : ∃ M41, M41 = Mz9 := ⟨_, rfl⟩; subst eMz9
                          obtain ⟨v42, hxz9, h⟩ := qz9
                          cases hxz9
                          obtain ⟨t46, h⟩ := h
                          refine j_callV (a := a0) (q := (RX7, TX7, 17)) (r' := rX7_writesNumber) (As := [.int v42]) (rest := []) (d1 := d) hX eX7_renderCar_103 mm_LiftGroupModel_208 rfl t46 (by decide) rfl h rfl (Nat.le_refl _) (Nat.zero_le _) (Nat.zero_le _) (Nat.le_of_ble_eq_true rfl) (fun vz9 Mz9 qz9 => ?_) (fun Ez9 Mz9 qz9 => ?_)
                          · obtain ⟨M44, eMz9⟩ : ∃ M44, M44 = Mz9 := ⟨_, rfl⟩; subst eMz9
                            obtain ⟨hxz9, h⟩ := qz9
                            cases hxz9
                            refine j_aload_n hX eX7_renderCar_106 0 rfl ?_
                            refine j_aload_n hX eX7_renderCar_107 0 rfl ?_
                            obtain ⟨t47, h⟩ := h
                            obtain ⟨z48, h⟩ := h
                            refine j_getR hX eX7_renderCar_108 ff_LiftGroupModel_7 rfl t47 (by decide) z48 ?_
                            refine j_nmR (fun p49 ep49 => ?_)
                            replace h := h p49 ep49
                            refine j_bipush (v := (18 : Int32)) hX eX7_renderCar_111 (by decide) ?_
                            refine j_iload_n hX eX7_renderCar_113 1 rfl ?_
                            refine j_iadd hX eX7_renderCar_114 ?_
                            obtain ⟨t50, h⟩ := h
                            obtain ⟨i51, h⟩ := h
                            refine j_iald hX eX7_renderCar_115 t50 i51 ?_
                            refine j_if_le hX 124 eX7_renderCar_116 (by decide) (fun c52 => ?_) (fun c52 => ?_)
                            · replace h := h.1 c52
                              refine j_bipush (v := (124 : Int32)) hX eX7_renderCar_124 (by decide) ?_
                              refine j_callV (a := a0) (q := (RX7, TX7, 17)) (r' := rX7_writes) (As := [.int (124 : Int32)]) (rest := []) (d1 := d) hX eX7_renderCar_126 mm_LiftGroupModel_205 rfl t47 (by decide) rfl h rfl (Nat.le_refl _) (Nat.zero_le _) (Nat.zero_le _) (Nat.le_of_ble_eq_true rfl) (fun vz9 Mz9 qz9 => ?_) (fun Ez9 Mz9 qz9 => ?_)
                              · obtain ⟨M53, eMz9⟩ : ∃ M53, M53 = Mz9 := ⟨_, rfl⟩; subst eMz9
                                obtain ⟨hxz9, h⟩ := qz9
                                cases hxz9
                                refine j_aload_n hX eX7_renderCar_129 0 rfl ?_
                                obtain ⟨t55, h⟩ := h
                                obtain ⟨z56, h⟩ := h
                                refine j_getR hX eX7_renderCar_130 ff_LiftGroupModel_7 rfl t55 (by decide) z56 ?_
                                refine j_nmR (fun p57 ep57 => ?_)
                                replace h := h p57 ep57
                                refine j_bipush (v := (21 : Int32)) hX eX7_renderCar_133 (by decide) ?_
                                refine j_iload_n hX eX7_renderCar_135 1 rfl ?_
                                refine j_iadd hX eX7_renderCar_136 ?_
                                obtain ⟨t58, h⟩ := h
                                obtain ⟨i59, h⟩ := h
                                refine j_iald hX eX7_renderCar_137 t58 i59 ?_
                                refine j_iconst (v := (1 : Int32)) hX eX7_renderCar_138 (by decide) ?_
                                refine j_icmp_ne hX 148 eX7_renderCar_139 (by decide) (fun c60 => ?_) (fun c60 => ?_)
                                · replace h := h.2 c60
                                  refine j_aload_n hX eX7_renderCar_148 0 rfl ?_
                                  refine j_aload_n hX eX7_renderCar_149 0 rfl ?_
                                  refine j_getI hX eX7_renderCar_150 ff_LiftGroupModel_202 rfl t55 (by decide) ?_
                                  refine j_callV (a := a0) (q := (RX7, TX7, 17)) (r' := rX7_done) (As := [.int (hp_I M53 152 a0)]) (rest := []) (d1 := d) hX eX7_renderCar_153 mm_LiftGroupModel_97 rfl t55 (by decide) rfl h rfl (Nat.le_refl _) (Nat.zero_le _) (Nat.zero_le _) (Nat.le_of_ble_eq_true rfl) (fun vz9 Mz9 qz9 => ?_) (fun Ez9 Mz9 qz9 => ?_)
                                  · obtain ⟨M61, eMz9⟩ : ∃ M61, M61 = Mz9 := ⟨_, rfl⟩; subst eMz9
                                    obtain ⟨v62, hxz9, h⟩ := qz9
                                    cases hxz9
                                    exact j_iret hX hM eX7_renderCar_156 rfl h
                                  · obtain ⟨v62, hxz9, h⟩ := qz9
                                    cases hxz9
                                · replace h := h.1 c60
                                  refine j_aload_n hX eX7_renderCar_142 0 rfl ?_
                                  refine j_bipush (v := (120 : Int32)) hX eX7_renderCar_143 (by decide) ?_
                                  refine j_callV (a := a0) (q := (RX7, TX7, 17)) (r' := rX7_writes) (As := [.int (120 : Int32)]) (rest := []) (d1 := d) hX eX7_renderCar_145 mm_LiftGroupModel_205 rfl t55 (by decide) rfl h rfl (Nat.le_refl _) (Nat.zero_le _) (Nat.zero_le _) (Nat.le_of_ble_eq_true rfl) (fun vz9 Mz9 qz9 => ?_) (fun Ez9 Mz9 qz9 => ?_)
                                  · obtain ⟨M63, eMz9⟩ : ∃ M63, M63 = Mz9 := ⟨_, rfl⟩; subst eMz9
                                    obtain ⟨hxz9, h⟩ := qz9
                                    cases hxz9
                                    refine j_aload_n hX eX7_renderCar_148 0 rfl ?_
                                    refine j_aload_n hX eX7_renderCar_149 0 rfl ?_
                                    obtain ⟨t65, h⟩ := h
                                    refine j_getI hX eX7_renderCar_150 ff_LiftGroupModel_202 rfl t65 (by decide) ?_
                                    refine j_callV (a := a0) (q := (RX7, TX7, 17)) (r' := rX7_done) (As := [.int (hp_I M63 152 a0)]) (rest := []) (d1 := d) hX eX7_renderCar_153 mm_LiftGroupModel_97 rfl t65 (by decide) rfl h rfl (Nat.le_refl _) (Nat.zero_le _) (Nat.zero_le _) (Nat.le_of_ble_eq_true rfl) (fun vz9 Mz9 qz9 => ?_) (fun Ez9 Mz9 qz9 => ?_)
                                    · obtain ⟨M66, eMz9⟩ : ∃ M66, M66 = Mz9 := ⟨_, rfl⟩; subst eMz9
                                      obtain ⟨v67, hxz9, h⟩ := qz9
                                      cases hxz9
                                      exact j_iret hX hM eX7_renderCar_156 rfl h
                                    · obtain ⟨v67, hxz9, h⟩ := qz9
                                      cases hxz9
                                  · obtain ⟨hxz9, h⟩ := qz9
                                    cases hxz9
                              · obtain ⟨hxz9, h⟩ := qz9
                                cases hxz9
                            · replace h := h.2 c52
                              refine j_bipush (v := (111 : Int32)) hX eX7_renderCar_119 (by decide) ?_
                              refine j_goto hX 126 eX7_renderCar_121 (by decide) ?_
                              refine j_callV (a := a0) (q := (RX7, TX7, 17)) (r' := rX7_writes) (As := [.int (111 : Int32)]) (rest := []) (d1 := d) hX eX7_renderCar_126 mm_LiftGroupModel_205 rfl t47 (by decide) rfl h rfl (Nat.le_refl _) (Nat.zero_le _) (Nat.zero_le _) (Nat.le_of_ble_eq_true rfl) (fun vz9 Mz9 qz9 => ?_) (fun Ez9 Mz9 qz9 => ?_)
                              · obtain ⟨M68, eMz9⟩ : ∃ M68, M68 = Mz9 := ⟨_, rfl⟩; subst eMz9
                                obtain ⟨hxz9, h⟩ := qz9
                                cases hxz9
                                refine j_aload_n hX eX7_renderCar_129 0 rfl ?_
                                obtain ⟨t70, h⟩ := h
                                obtain ⟨z71, h⟩ := h
                                refine j_getR hX eX7_renderCar_130 ff_LiftGroupModel_7 rfl t70 (by decide) z71 ?_
                                refine j_nmR (fun p72 ep72 => ?_)
                                replace h := h p72 ep72
                                refine j_bipush (v := (21 : Int32)) hX eX7_renderCar_133 (by decide) ?_
                                refine j_iload_n hX eX7_renderCar_135 1 rfl ?_
                                refine j_iadd hX eX7_renderCar_136 ?_
                                obtain ⟨t73, h⟩ := h
                                obtain ⟨i74, h⟩ := h
                                refine j_iald hX eX7_renderCar_137 t73 i74 ?_
                                refine j_iconst (v := (1 : Int32)) hX eX7_renderCar_138 (by decide) ?_
                                refine j_icmp_ne hX 148 eX7_renderCar_139 (by decide) (fun c75 => ?_) (fun c75 => ?_)
                                · replace h := h.2 c75
                                  refine j_aload_n hX eX7_renderCar_148 0 rfl ?_
                                  refine j_aload_n hX eX7_renderCar_149 0 rfl ?_
                                  refine j_getI hX eX7_renderCar_150 ff_LiftGroupModel_202 rfl t70 (by decide) ?_
                                  refine j_callV (a := a0) (q := (RX7, TX7, 17)) (r' := rX7_done) (As := [.int (hp_I M68 152 a0)]) (rest := []) (d1 := d) hX eX7_renderCar_153 mm_LiftGroupModel_97 rfl t70 (by decide) rfl h rfl (Nat.le_refl _) (Nat.zero_le _) (Nat.zero_le _) (Nat.le_of_ble_eq_true rfl) (fun vz9 Mz9 qz9 => ?_) (fun Ez9 Mz9 qz9 => ?_)
                                  · obtain ⟨M76, eMz9⟩ : ∃ M76, M76 = Mz9 := ⟨_, rfl⟩; subst eMz9
                                    obtain ⟨v77, hxz9, h⟩ := qz9
                                    cases hxz9
                                    exact j_iret hX hM eX7_renderCar_156 rfl h
                                  · obtain ⟨v77, hxz9, h⟩ := qz9
                                    cases hxz9
                                · replace h := h.1 c75
                                  refine j_aload_n hX eX7_renderCar_142 0 rfl ?_
                                  refine j_bipush (v := (120 : Int32)) hX eX7_renderCar_143 (by decide) ?_
                                  refine j_callV (a := a0) (q := (RX7, TX7, 17)) (r' := rX7_writes) (As := [.int (120 : Int32)]) (rest := []) (d1 := d) hX eX7_renderCar_145 mm_LiftGroupModel_205 rfl t70 (by decide) rfl h rfl (Nat.le_refl _) (Nat.zero_le _) (Nat.zero_le _) (Nat.le_of_ble_eq_true rfl) (fun vz9 Mz9 qz9 => ?_) (fun Ez9 Mz9 qz9 => ?_)
                                  · obtain ⟨M78, eMz9⟩ : ∃ M78, M78 = Mz9 := ⟨_, rfl⟩; subst eMz9
                                    obtain ⟨hxz9, h⟩ := qz9
                                    cases hxz9
                                    refine j_aload_n hX eX7_renderCar_148 0 rfl ?_
                                    refine j_aload_n hX eX7_renderCar_149 0 rfl ?_
                                    obtain ⟨t80, h⟩ := h
                                    refine j_getI hX eX7_renderCar_150 ff_LiftGroupModel_202 rfl t80 (by decide) ?_
                                    refine j_callV (a := a0) (q := (RX7, TX7, 17)) (r' := rX7_done) (As := [.int (hp_I M78 152 a0)]) (rest := []) (d1 := d) hX eX7_renderCar_153 mm_LiftGroupModel_97 rfl t80 (by decide) rfl h rfl (Nat.le_refl _) (Nat.zero_le _) (Nat.zero_le _) (Nat.le_of_ble_eq_true rfl) (fun vz9 Mz9 qz9 => ?_) (fun Ez9 Mz9 qz9 => ?_)
                                    · obtain ⟨M81, eMz9⟩ : ∃ M81, M81 = Mz9 := ⟨_, rfl⟩; subst eMz9
                                      obtain ⟨v82, hxz9, h⟩ := qz9
                                      cases hxz9
                                      exact j_iret hX hM eX7_renderCar_156 rfl h
                                    · obtain ⟨v82, hxz9, h⟩ := qz9
                                      cases hxz9
                                  · obtain ⟨hxz9, h⟩ := qz9
                                    cases hxz9
                              · obtain ⟨hxz9, h⟩ := qz9
                                cases hxz9
                          · obtain ⟨hxz9, h⟩ := qz9
                            cases hxz9
                        · obtain ⟨v42, hxz9, h⟩ := qz9
                          cases hxz9
                      · obtain ⟨hxz9, h⟩ := qz9
                        cases hxz9
                    · obtain ⟨hxz9, h⟩ := qz9
                      cases hxz9
                  · obtain ⟨v33, hxz9, h⟩ := qz9
                    cases hxz9
                · obtain ⟨hxz9, h⟩ := qz9
                  cases hxz9
              · replace h := h.2 c29
                refine j_bipush (v := (118 : Int32)) hX eX7_renderCar_72 (by decide) ?_
                refine j_goto hX 79 eX7_renderCar_74 (by decide) ?_
                refine j_callV (a := a0) (q := (RX7, TX7, 17)) (r' := rX7_writes) (As := [.int (118 : Int32)]) (rest := []) (d1 := d) hX eX7_renderCar_79 mm_LiftGroupModel_205 rfl t19 (by decide) rfl h rfl (Nat.le_refl _) (Nat.zero_le _) (Nat.zero_le _) (Nat.le_of_ble_eq_true rfl) (fun vz9 Mz9 qz9 => ?_) (fun Ez9 Mz9 qz9 => ?_)
                · obtain ⟨M83, eMz9⟩ : ∃ M83, M83 = Mz9 := ⟨_, rfl⟩; subst eMz9
                  obtain ⟨hxz9, h⟩ := qz9
                  cases hxz9
                  refine j_aload_n hX eX7_renderCar_82 0 rfl ?_
                  refine j_aload_n hX eX7_renderCar_83 0 rfl ?_
                  refine j_iload_n hX eX7_renderCar_84 1 rfl ?_
                  obtain ⟨t87, h⟩ := h
                  refine j_callV (a := a0) (q := (RX7, TX7, 17)) (r' := rX7_inside) (As := [.int a1]) (rest := [.ref a0]) (d1 := d) hX eX7_renderCar_85 mm_LiftGroupModel_74 rfl t87 (by decide) rfl h rfl (Nat.le_refl _) (Nat.zero_le _) (Nat.zero_le _) (Nat.le_of_ble_eq_true rfl) (fun vz9 Mz9 qz9 => ?_) (fun Ez9 Mz9 qz9 => ?_)
                  · obtain ⟨M85, eMz9⟩ : ∃ M85, M85 = Mz9 := ⟨_, rfl⟩; subst eMz9
                    obtain ⟨v86, hxz9, h⟩ := qz9
                    cases hxz9
                    obtain ⟨t90, h⟩ := h
                    refine j_callV (a := a0) (q := (RX7, TX7, 17)) (r' := rX7_writesNumber) (As := [.int v86]) (rest := []) (d1 := d) hX eX7_renderCar_88 mm_LiftGroupModel_208 rfl t90 (by decide) rfl h rfl (Nat.le_refl _) (Nat.zero_le _) (Nat.zero_le _) (Nat.le_of_ble_eq_true rfl) (fun vz9 Mz9 qz9 => ?_) (fun Ez9 Mz9 qz9 => ?_)
                    · obtain ⟨M88, eMz9⟩ : ∃ M88, M88 = Mz9 := ⟨_, rfl⟩; subst eMz9
                      obtain ⟨hxz9, h⟩ := qz9
                      cases hxz9
                      refine j_aload_n hX eX7_renderCar_91 0 rfl ?_
                      refine j_bipush (v := (47 : Int32)) hX eX7_renderCar_92 (by decide) ?_
                      obtain ⟨t93, h⟩ := h
                      refine j_callV (a := a0) (q := (RX7, TX7, 17)) (r' := rX7_writes) (As := [.int (47 : Int32)]) (rest := []) (d1 := d) hX eX7_renderCar_94 mm_LiftGroupModel_205 rfl t93 (by decide) rfl h rfl (Nat.le_refl _) (Nat.zero_le _) (Nat.zero_le _) (Nat.le_of_ble_eq_true rfl) (fun vz9 Mz9 qz9 => ?_) (fun Ez9 Mz9 qz9 => ?_)
                      · obtain ⟨M91, eMz9⟩ : ∃ M91, M91 = Mz9 := ⟨_, rfl⟩; subst eMz9
                        obtain ⟨hxz9, h⟩ := qz9
                        cases hxz9
                        refine j_aload_n hX eX7_renderCar_97 0 rfl ?_
                        refine j_aload_n hX eX7_renderCar_98 0 rfl ?_
                        refine j_iload_n hX eX7_renderCar_99 1 rfl ?_
                        obtain ⟨t96, h⟩ := h
                        refine j_callV (a := a0) (q := (RX7, TX7, 17)) (r' := rX7_loadOf) (As := [.int a1]) (rest := [.ref a0]) (d1 := d) hX eX7_renderCar_100 mm_LiftGroupModel_81 rfl t96 (by decide) rfl h rfl (Nat.le_refl _) (Nat.zero_le _) (Nat.zero_le _) (Nat.le_of_ble_eq_true rfl) (fun vz9 Mz9 qz9 => ?_) (fun Ez9 Mz9 qz9 => ?_)
                        · obtain ⟨M94, eMz9⟩ : ∃ M94, M94 = Mz9 := ⟨_, rfl⟩; subst eMz9
                          obtain ⟨v95, hxz9, h⟩ := qz9
                          cases hxz9
                          obtain ⟨t99, h⟩ := h
                          refine j_callV (a := a0) (q := (RX7, TX7, 17)) (r' := rX7_writesNumber) (As := [.int v95]) (rest := []) (d1 := d) hX eX7_renderCar_103 mm_LiftGroupModel_208 rfl t99 (by decide) rfl h rfl (Nat.le_refl _) (Nat.zero_le _) (Nat.zero_le _) (Nat.le_of_ble_eq_true rfl) (fun vz9 Mz9 qz9 => ?_) (fun Ez9 Mz9 qz9 => ?_)
                          · obtain ⟨M97, eMz9⟩ : ∃ M97, M97 = Mz9 := ⟨_, rfl⟩; subst eMz9
                            obtain ⟨hxz9, h⟩ := qz9
                            cases hxz9
                            refine j_aload_n hX eX7_renderCar_106 0 rfl ?_
                            refine j_aload_n hX eX7_renderCar_107 0 rfl ?_
                            obtain ⟨t100, h⟩ := h
                            obtain ⟨z101, h⟩ := h
                            refine j_getR hX eX7_renderCar_108 ff_LiftGroupModel_7 rfl t100 (by decide) z101 ?_
                            refine j_nmR (fun p102 ep102 => ?_)
                            replace h := h p102 ep102
                            refine j_bipush (v := (18 : Int32)) hX eX7_renderCar_111 (by decide) ?_
                            refine j_iload_n hX eX7_renderCar_113 1 rfl ?_
                            refine j_iadd hX eX7_renderCar_114 ?_
                            obtain ⟨t103, h⟩ := h
                            obtain ⟨i104, h⟩ := h
                            refine j_iald hX eX7_renderCar_115 t103 i104 ?_
                            refine j_if_le hX 124 eX7_renderCar_116 (by decide) (fun c105 => ?_) (fun c105 => ?_)
                            · replace h := h.1 c105
                              refine j_bipush (v := (124 : Int32)) hX eX7_renderCar_124 (by decide) ?_
                              refine j_callV (a := a0) (q := (RX7, TX7, 17)) (r' := rX7_writes) (As := [.int (124 : Int32)]) (rest := []) (d1 := d) hX eX7_renderCar_126 mm_LiftGroupModel_205 rfl t100 (by decide) rfl h rfl (Nat.le_refl _) (Nat.zero_le _) (Nat.zero_le _) (Nat.le_of_ble_eq_true rfl) (fun vz9 Mz9 qz9 => ?_) (fun Ez9 Mz9 qz9 => ?_)
                              · obtain ⟨M106, eMz9⟩ : ∃ M106, M106 = Mz9 := ⟨_, rfl⟩; subst eMz9
                                obtain ⟨hxz9, h⟩ := qz9
                                cases hxz9
                                refine j_aload_n hX eX7_renderCar_129 0 rfl ?_
                                obtain ⟨t108, h⟩ := h
                                obtain ⟨z109, h⟩ := h
                                refine j_getR hX eX7_renderCar_130 ff_LiftGroupModel_7 rfl t108 (by decide) z109 ?_
                                refine j_nmR (fun p110 ep110 => ?_)
                                replace h := h p110 ep110
                                refine j_bipush (v := (21 : Int32)) hX eX7_renderCar_133 (by decide) ?_
                                refine j_iload_n hX eX7_renderCar_135 1 rfl ?_
                                refine j_iadd hX eX7_renderCar_136 ?_
                                obtain ⟨t111, h⟩ := h
                                obtain ⟨i112, h⟩ := h
                                refine j_iald hX eX7_renderCar_137 t111 i112 ?_
                                refine j_iconst (v := (1 : Int32)) hX eX7_renderCar_138 (by decide) ?_
                                refine j_icmp_ne hX 148 eX7_renderCar_139 (by decide) (fun c113 => ?_) (fun c113 => ?_)
                                · replace h := h.2 c113
                                  refine j_aload_n hX eX7_renderCar_148 0 rfl ?_
                                  refine j_aload_n hX eX7_renderCar_149 0 rfl ?_
                                  refine j_getI hX eX7_renderCar_150 ff_LiftGroupModel_202 rfl t108 (by decide) ?_
                                  refine j_callV (a := a0) (q := (RX7, TX7, 17)) (r' := rX7_done) (As := [.int (hp_I M106 152 a0)]) (rest := []) (d1 := d) hX eX7_renderCar_153 mm_LiftGroupModel_97 rfl t108 (by decide) rfl h rfl (Nat.le_refl _) (Nat.zero_le _) (Nat.zero_le _) (Nat.le_of_ble_eq_true rfl) (fun vz9 Mz9 qz9 => ?_) (fun Ez9 Mz9 qz9 => ?_)
                                  · obtain ⟨M114, eMz9⟩ : ∃ M114, M114 = Mz9 := ⟨_, rfl⟩; subst eMz9
                                    obtain ⟨v115, hxz9, h⟩ := qz9
                                    cases hxz9
                                    exact j_iret hX hM eX7_renderCar_156 rfl h
                                  · obtain ⟨v115, hxz9, h⟩ := qz9
                                    cases hxz9
                                · replace h := h.1 c113
                                  refine j_aload_n hX eX7_renderCar_142 0 rfl ?_
                                  refine j_bipush (v := (120 : Int32)) hX eX7_renderCar_143 (by decide) ?_
                                  refine j_callV (a := a0) (q := (RX7, TX7, 17)) (r' := rX7_writes) (As := [.int (120 : Int32)]) (rest := []) (d1 := d) hX eX7_renderCar_145 mm_LiftGroupModel_205 rfl t108 (by decide) rfl h rfl (Nat.le_refl _) (Nat.zero_le _) (Nat.zero_le _) (Nat.le_of_ble_eq_true rfl) (fun vz9 Mz9 qz9 => ?_) (fun Ez9 Mz9 qz9 => ?_)
                                  · obtain ⟨M116, eMz9⟩ : ∃ M116, M116 = Mz9 := ⟨_, rfl⟩; subst eMz9
                                    obtain ⟨hxz9, h⟩ := qz9
                                    cases hxz9
                                    refine j_aload_n hX eX7_renderCar_148 0 rfl ?_
                                    refine j_aload_n hX eX7_renderCar_149 0 rfl ?_
                                    obtain ⟨t118, h⟩ := h
                                    refine j_getI hX eX7_renderCar_150 ff_LiftGroupModel_202 rfl t118 (by decide) ?_
                                    refine j_callV (a := a0) (q := (RX7, TX7, 17)) (r' := rX7_done) (As := [.int (hp_I M116 152 a0)]) (rest := []) (d1 := d) hX eX7_renderCar_153 mm_LiftGroupModel_97 rfl t118 (by decide) rfl h rfl (Nat.le_refl _) (Nat.zero_le _) (Nat.zero_le _) (Nat.le_of_ble_eq_true rfl) (fun vz9 Mz9 qz9 => ?_) (fun Ez9 Mz9 qz9 => ?_)
                                    · obtain ⟨M119, eMz9⟩ : ∃ M119, M119 = Mz9 := ⟨_, rfl⟩; subst eMz9
                                      obtain ⟨v120, hxz9, h⟩ := qz9
                                      cases hxz9
                                      exact j_iret hX hM eX7_renderCar_156 rfl h
                                    · obtain ⟨v120, hxz9, h⟩ := qz9
                                      cases hxz9
                                  · obtain ⟨hxz9, h⟩ := qz9
                                    cases hxz9
                              · obtain ⟨hxz9, h⟩ := qz9
                                cases hxz9
                            · replace h := h.2 c105
                              refine j_bipush (v := (111 : Int32)) hX eX7_renderCar_119 (by decide) ?_
                              refine j_goto hX 126 eX7_renderCar_121 (by decide) ?_
                              refine j_callV (a := a0) (q := (RX7, TX7, 17)) (r' := rX7_writes) (As := [.int (111 : Int32)]) (rest := []) (d1 := d) hX eX7_renderCar_126 mm_LiftGroupModel_205 rfl t100 (by decide) rfl h rfl (Nat.le_refl _) (Nat.zero_le _) (Nat.zero_le _) (Nat.le_of_ble_eq_true rfl) (fun vz9 Mz9 qz9 => ?_) (fun Ez9 Mz9 qz9 => ?_)
                              · obtain ⟨M121, eMz9⟩ : ∃ M121, M121 = Mz9 := ⟨_, rfl⟩; subst eMz9
                                obtain ⟨hxz9, h⟩ := qz9
                                cases hxz9
                                refine j_aload_n hX eX7_renderCar_129 0 rfl ?_
                                obtain ⟨t123, h⟩ := h
                                obtain ⟨z124, h⟩ := h
                                refine j_getR hX eX7_renderCar_130 ff_LiftGroupModel_7 rfl t123 (by decide) z124 ?_
                                refine j_nmR (fun p125 ep125 => ?_)
                                replace h := h p125 ep125
                                refine j_bipush (v := (21 : Int32)) hX eX7_renderCar_133 (by decide) ?_
                                refine j_iload_n hX eX7_renderCar_135 1 rfl ?_
                                refine j_iadd hX eX7_renderCar_136 ?_
                                obtain ⟨t126, h⟩ := h
                                obtain ⟨i127, h⟩ := h
                                refine j_iald hX eX7_renderCar_137 t126 i127 ?_
                                refine j_iconst (v := (1 : Int32)) hX eX7_renderCar_138 (by decide) ?_
                                refine j_icmp_ne hX 148 eX7_renderCar_139 (by decide) (fun c128 => ?_) (fun c128 => ?_)
                                · replace h := h.2 c128
                                  refine j_aload_n hX eX7_renderCar_148 0 rfl ?_
                                  refine j_aload_n hX eX7_renderCar_149 0 rfl ?_
                                  refine j_getI hX eX7_renderCar_150 ff_LiftGroupModel_202 rfl t123 (by decide) ?_
                                  refine j_callV (a := a0) (q := (RX7, TX7, 17)) (r' := rX7_done) (As := [.int (hp_I M121 152 a0)]) (rest := []) (d1 := d) hX eX7_renderCar_153 mm_LiftGroupModel_97 rfl t123 (by decide) rfl h rfl (Nat.le_refl _) (Nat.zero_le _) (Nat.zero_le _) (Nat.le_of_ble_eq_true rfl) (fun vz9 Mz9 qz9 => ?_) (fun Ez9 Mz9 qz9 => ?_)
                                  · obtain ⟨M129, eMz9⟩ : ∃ M129, M129 = Mz9 := ⟨_, rfl⟩; subst eMz9
                                    obtain ⟨v130, hxz9, h⟩ := qz9
                                    cases hxz9
                                    exact j_iret hX hM eX7_renderCar_156 rfl h
                                  · obtain ⟨v130, hxz9, h⟩ := qz9
                                    cases hxz9
                                · replace h := h.1 c128
                                  refine j_aload_n hX eX7_renderCar_142 0 rfl ?_
                                  refine j_bipush (v := (120 : Int32)) hX eX7_renderCar_143 (by decide) ?_
                                  refine j_callV (a := a0) (q := (RX7, TX7, 17)) (r' := rX7_writes) (As := [.int (120 : Int32)]) (rest := []) (d1 := d) hX eX7_renderCar_145 mm_LiftGroupModel_205 rfl t123 (by decide) rfl h rfl (Nat.le_refl _) (Nat.zero_le _) (Nat.zero_le _) (Nat.le_of_ble_eq_true rfl) (fun vz9 Mz9 qz9 => ?_) (fun Ez9 Mz9 qz9 => ?_)
                                  · obtain ⟨M131, eMz9⟩ : ∃ M131, M131 = Mz9 := ⟨_, rfl⟩; subst eMz9
                                    obtain ⟨hxz9, h⟩ := qz9
                                    cases hxz9
                                    refine j_aload_n hX eX7_renderCar_148 0 rfl ?_
                                    refine j_aload_n hX eX7_renderCar_149 0 rfl ?_
                                    obtain ⟨t133, h⟩ := h
                                    refine j_getI hX eX7_renderCar_150 ff_LiftGroupModel_202 rfl t133 (by decide) ?_
                                    refine j_callV (a := a0) (q := (RX7, TX7, 17)) (r' := rX7_done) (As := [.int (hp_I M131 152 a0)]) (rest := []) (d1 := d) hX eX7_renderCar_153 mm_LiftGroupModel_97 rfl t133 (by decide) rfl h rfl (Nat.le_refl _) (Nat.zero_le _) (Nat.zero_le _) (Nat.le_of_ble_eq_true rfl) (fun vz9 Mz9 qz9 => ?_) (fun Ez9 Mz9 qz9 => ?_)
                                    · obtain ⟨M134, eMz9⟩ : ∃ M134, M134 = Mz9 := ⟨_, rfl⟩; subst eMz9
                                      obtain ⟨v135, hxz9, h⟩ := qz9
                                      cases hxz9
                                      exact j_iret hX hM eX7_renderCar_156 rfl h
                                    · obtain ⟨v135, hxz9, h⟩ := qz9
                                      cases hxz9
                                  · obtain ⟨hxz9, h⟩ := qz9
                                    cases hxz9
                              · obtain ⟨hxz9, h⟩ := qz9
                                cases hxz9
                          · obtain ⟨hxz9, h⟩ := qz9
                            cases hxz9
                        · obtain ⟨v95, hxz9, h⟩ := qz9
                          cases hxz9
                      · obtain ⟨hxz9, h⟩ := qz9
                        cases hxz9
                    · obtain ⟨hxz9, h⟩ := qz9
                      cases hxz9
                  · obtain ⟨v86, hxz9, h⟩ := qz9
                    cases hxz9
                · obtain ⟨hxz9, h⟩ := qz9
                  cases hxz9
            · replace h := h.2 c24
              refine j_bipush (v := (94 : Int32)) hX eX7_renderCar_55 (by decide) ?_
              refine j_goto hX 79 eX7_renderCar_57 (by decide) ?_
              refine j_callV (a := a0) (q := (RX7, TX7, 17)) (r' := rX7_writes) (As := [.int (94 : Int32)]) (rest := []) (d1 := d) hX eX7_renderCar_79 mm_LiftGroupModel_205 rfl t19 (by decide) rfl h rfl (Nat.le_refl _) (Nat.zero_le _) (Nat.zero_le _) (Nat.le_of_ble_eq_true rfl) (fun vz9 Mz9 qz9 => ?_) (fun Ez9 Mz9 qz9 => ?_)
              · obtain ⟨M136, eMz9⟩ : ∃ M136, M136 = Mz9 := ⟨_, rfl⟩; subst eMz9
                obtain ⟨hxz9, h⟩ := qz9
                cases hxz9
                refine j_aload_n hX eX7_renderCar_82 0 rfl ?_
                refine j_aload_n hX eX7_renderCar_83 0 rfl ?_
                refine j_iload_n hX eX7_renderCar_84 1 rfl ?_
                obtain ⟨t140, h⟩ := h
                refine j_callV (a := a0) (q := (RX7, TX7, 17)) (r' := rX7_inside) (As := [.int a1]) (rest := [.ref a0]) (d1 := d) hX eX7_renderCar_85 mm_LiftGroupModel_74 rfl t140 (by decide) rfl h rfl (Nat.le_refl _) (Nat.zero_le _) (Nat.zero_le _) (Nat.le_of_ble_eq_true rfl) (fun vz9 Mz9 qz9 => ?_) (fun Ez9 Mz9 qz9 => ?_)
                · obtain ⟨M138, eMz9⟩ : ∃ M138, M138 = Mz9 := ⟨_, rfl⟩; subst eMz9
                  obtain ⟨v139, hxz9, h⟩ := qz9
                  cases hxz9
                  obtain ⟨t143, h⟩ := h
                  refine j_callV (a := a0) (q := (RX7, TX7, 17)) (r' := rX7_writesNumber) (As := [.int v139]) (rest := []) (d1 := d) hX eX7_renderCar_88 mm_LiftGroupModel_208 rfl t143 (by decide) rfl h rfl (Nat.le_refl _) (Nat.zero_le _) (Nat.zero_le _) (Nat.le_of_ble_eq_true rfl) (fun vz9 Mz9 qz9 => ?_) (fun Ez9 Mz9 qz9 => ?_)
                  · obtain ⟨M141, eMz9⟩ : ∃ M141, M141 = Mz9 := ⟨_, rfl⟩; subst eMz9
                    obtain ⟨hxz9, h⟩ := qz9
                    cases hxz9
                    refine j_aload_n hX eX7_renderCar_91 0 rfl ?_
                    refine j_bipush (v := (47 : Int32)) hX eX7_renderCar_92 (by decide) ?_
                    obtain ⟨t146, h⟩ := h
                    refine j_callV (a := a0) (q := (RX7, TX7, 17)) (r' := rX7_writes) (As := [.int (47 : Int32)]) (rest := []) (d1 := d) hX eX7_renderCar_94 mm_LiftGroupModel_205 rfl t146 (by decide) rfl h rfl (Nat.le_refl _) (Nat.zero_le _) (Nat.zero_le _) (Nat.le_of_ble_eq_true rfl) (fun vz9 Mz9 qz9 => ?_) (fun Ez9 Mz9 qz9 => ?_)
                    · obtain ⟨M144, eMz9⟩ : ∃ M144, M144 = Mz9 := ⟨_, rfl⟩; subst eMz9
                      obtain ⟨hxz9, h⟩ := qz9
                      cases hxz9
                      refine j_aload_n hX eX7_renderCar_97 0 rfl ?_
                      refine j_aload_n hX eX7_renderCar_98 0 rfl ?_
                      refine j_iload_n hX eX7_renderCar_99 1 rfl ?_
                      obtain ⟨t149, h⟩ := h
                      refine j_callV (a := a0) (q := (RX7, TX7, 17)) (r' := rX7_loadOf) (As := [.int a1]) (rest := [.ref a0]) (d1 := d) hX eX7_renderCar_100 mm_LiftGroupModel_81 rfl t149 (by decide) rfl h rfl (Nat.le_refl _) (Nat.zero_le _) (Nat.zero_le _) (Nat.le_of_ble_eq_true rfl) (fun vz9 Mz9 qz9 => ?_) (fun Ez9 Mz9 qz9 => ?_)
                      · obtain ⟨M147, eMz9⟩ : ∃ M147, M147 = Mz9 := ⟨_, rfl⟩; subst eMz9
                        obtain ⟨v148, hxz9, h⟩ := qz9
                        cases hxz9
                        obtain ⟨t152, h⟩ := h
                        refine j_callV (a := a0) (q := (RX7, TX7, 17)) (r' := rX7_writesNumber) (As := [.int v148]) (rest := []) (d1 := d) hX eX7_renderCar_103 mm_LiftGroupModel_208 rfl t152 (by decide) rfl h rfl (Nat.le_refl _) (Nat.zero_le _) (Nat.zero_le _) (Nat.le_of_ble_eq_true rfl) (fun vz9 Mz9 qz9 => ?_) (fun Ez9 Mz9 qz9 => ?_)
                        · obtain ⟨M150, eMz9⟩ : ∃ M150, M150 = Mz9 := ⟨_, rfl⟩; subst eMz9
                          obtain ⟨hxz9, h⟩ := qz9
                          cases hxz9
                          refine j_aload_n hX eX7_renderCar_106 0 rfl ?_
                          refine j_aload_n hX eX7_renderCar_107 0 rfl ?_
                          obtain ⟨t153, h⟩ := h
                          obtain ⟨z154, h⟩ := h
                          refine j_getR hX eX7_renderCar_108 ff_LiftGroupModel_7 rfl t153 (by decide) z154 ?_
                          refine j_nmR (fun p155 ep155 => ?_)
                          replace h := h p155 ep155
                          refine j_bipush (v := (18 : Int32)) hX eX7_renderCar_111 (by decide) ?_
                          refine j_iload_n hX eX7_renderCar_113 1 rfl ?_
                          refine j_iadd hX eX7_renderCar_114 ?_
                          obtain ⟨t156, h⟩ := h
                          obtain ⟨i157, h⟩ := h
                          refine j_iald hX eX7_renderCar_115 t156 i157 ?_
                          refine j_if_le hX 124 eX7_renderCar_116 (by decide) (fun c158 => ?_) (fun c158 => ?_)
                          · replace h := h.1 c158
                            refine j_bipush (v := (124 : Int32)) hX eX7_renderCar_124 (by decide) ?_
                            refine j_callV (a := a0) (q := (RX7, TX7, 17)) (r' := rX7_writes) (As := [.int (124 : Int32)]) (rest := []) (d1 := d) hX eX7_renderCar_126 mm_LiftGroupModel_205 rfl t153 (by decide) rfl h rfl (Nat.le_refl _) (Nat.zero_le _) (Nat.zero_le _) (Nat.le_of_ble_eq_true rfl) (fun vz9 Mz9 qz9 => ?_) (fun Ez9 Mz9 qz9 => ?_)
                            · obtain ⟨M159, eMz9⟩ : ∃ M159, M159 = Mz9 := ⟨_, rfl⟩; subst eMz9
                              obtain ⟨hxz9, h⟩ := qz9
                              cases hxz9
                              refine j_aload_n hX eX7_renderCar_129 0 rfl ?_
                              obtain ⟨t161, h⟩ := h
                              obtain ⟨z162, h⟩ := h
                              refine j_getR hX eX7_renderCar_130 ff_LiftGroupModel_7 rfl t161 (by decide) z162 ?_
                              refine j_nmR (fun p163 ep163 => ?_)
                              replace h := h p163 ep163
                              refine j_bipush (v := (21 : Int32)) hX eX7_renderCar_133 (by decide) ?_
                              refine j_iload_n hX eX7_renderCar_135 1 rfl ?_
                              refine j_iadd hX eX7_renderCar_136 ?_
                              obtain ⟨t164, h⟩ := h
                              obtain ⟨i165, h⟩ := h
                              refine j_iald hX eX7_renderCar_137 t164 i165 ?_
                              refine j_iconst (v := (1 : Int32)) hX eX7_renderCar_138 (by decide) ?_
                              refine j_icmp_ne hX 148 eX7_renderCar_139 (by decide) (fun c166 => ?_) (fun c166 => ?_)
                              · replace h := h.2 c166
                                refine j_aload_n hX eX7_renderCar_148 0 rfl ?_
                                refine j_aload_n hX eX7_renderCar_149 0 rfl ?_
                                refine j_getI hX eX7_renderCar_150 ff_LiftGroupModel_202 rfl t161 (by decide) ?_
                                refine j_callV (a := a0) (q := (RX7, TX7, 17)) (r' := rX7_done) (As := [.int (hp_I M159 152 a0)]) (rest := []) (d1 := d) hX eX7_renderCar_153 mm_LiftGroupModel_97 rfl t161 (by decide) rfl h rfl (Nat.le_refl _) (Nat.zero_le _) (Nat.zero_le _) (Nat.le_of_ble_eq_true rfl) (fun vz9 Mz9 qz9 => ?_) (fun Ez9 Mz9 qz9 => ?_)
                                · obtain ⟨M167, eMz9⟩ : ∃ M167, M167 = Mz9 := ⟨_, rfl⟩; subst eMz9
                                  obtain ⟨v168, hxz9, h⟩ := qz9
                                  cases hxz9
                                  exact j_iret hX hM eX7_renderCar_156 rfl h
                                · obtain ⟨v168, hxz9, h⟩ := qz9
                                  cases hxz9
                              · replace h := h.1 c166
                                refine j_aload_n hX eX7_renderCar_142 0 rfl ?_
                                refine j_bipush (v := (120 : Int32)) hX eX7_renderCar_143 (by decide) ?_
                                refine j_callV (a := a0) (q := (RX7, TX7, 17)) (r' := rX7_writes) (As := [.int (120 : Int32)]) (rest := []) (d1 := d) hX eX7_renderCar_145 mm_LiftGroupModel_205 rfl t161 (by decide) rfl h rfl (Nat.le_refl _) (Nat.zero_le _) (Nat.zero_le _) (Nat.le_of_ble_eq_true rfl) (fun vz9 Mz9 qz9 => ?_) (fun Ez9 Mz9 qz9 => ?_)
                                · obtain ⟨M169, eMz9⟩ : ∃ M169, M169 = Mz9 := ⟨_, rfl⟩; subst eMz9
                                  obtain ⟨hxz9, h⟩ := qz9
                                  cases hxz9
                                  refine j_aload_n hX eX7_renderCar_148 0 rfl ?_
                                  refine j_aload_n hX eX7_renderCar_149 0 rfl ?_
                                  obtain ⟨t171, h⟩ := h
                                  refine j_getI hX eX7_renderCar_150 ff_LiftGroupModel_202 rfl t171 (by decide) ?_
                                  refine j_callV (a := a0) (q := (RX7, TX7, 17)) (r' := rX7_done) (As := [.int (hp_I M169 152 a0)]) (rest := []) (d1 := d) hX eX7_renderCar_153 mm_LiftGroupModel_97 rfl t171 (by decide) rfl h rfl (Nat.le_refl _) (Nat.zero_le _) (Nat.zero_le _) (Nat.le_of_ble_eq_true rfl) (fun vz9 Mz9 qz9 => ?_) (fun Ez9 Mz9 qz9 => ?_)
                                  · obtain ⟨M172, eMz9⟩ : ∃ M172, M172 = Mz9 := ⟨_, rfl⟩; subst eMz9
                                    obtain ⟨v173, hxz9, h⟩ := qz9
                                    cases hxz9
                                    exact j_iret hX hM eX7_renderCar_156 rfl h
                                  · obtain ⟨v173, hxz9, h⟩ := qz9
                                    cases hxz9
                                · obtain ⟨hxz9, h⟩ := qz9
                                  cases hxz9
                            · obtain ⟨hxz9, h⟩ := qz9
                              cases hxz9
                          · replace h := h.2 c158
                            refine j_bipush (v := (111 : Int32)) hX eX7_renderCar_119 (by decide) ?_
                            refine j_goto hX 126 eX7_renderCar_121 (by decide) ?_
                            refine j_callV (a := a0) (q := (RX7, TX7, 17)) (r' := rX7_writes) (As := [.int (111 : Int32)]) (rest := []) (d1 := d) hX eX7_renderCar_126 mm_LiftGroupModel_205 rfl t153 (by decide) rfl h rfl (Nat.le_refl _) (Nat.zero_le _) (Nat.zero_le _) (Nat.le_of_ble_eq_true rfl) (fun vz9 Mz9 qz9 => ?_) (fun Ez9 Mz9 qz9 => ?_)
                            · obtain ⟨M174, eMz9⟩ : ∃ M174, M174 = Mz9 := ⟨_, rfl⟩; subst eMz9
                              obtain ⟨hxz9, h⟩ := qz9
                              cases hxz9
                              refine j_aload_n hX eX7_renderCar_129 0 rfl ?_
                              obtain ⟨t176, h⟩ := h
                              obtain ⟨z177, h⟩ := h
                              refine j_getR hX eX7_renderCar_130 ff_LiftGroupModel_7 rfl t176 (by decide) z177 ?_
                              refine j_nmR (fun p178 ep178 => ?_)
                              replace h := h p178 ep178
                              refine j_bipush (v := (21 : Int32)) hX eX7_renderCar_133 (by decide) ?_
                              refine j_iload_n hX eX7_renderCar_135 1 rfl ?_
                              refine j_iadd hX eX7_renderCar_136 ?_
                              obtain ⟨t179, h⟩ := h
                              obtain ⟨i180, h⟩ := h
                              refine j_iald hX eX7_renderCar_137 t179 i180 ?_
                              refine j_iconst (v := (1 : Int32)) hX eX7_renderCar_138 (by decide) ?_
                              refine j_icmp_ne hX 148 eX7_renderCar_139 (by decide) (fun c181 => ?_) (fun c181 => ?_)
                              · replace h := h.2 c181
                                refine j_aload_n hX eX7_renderCar_148 0 rfl ?_
                                refine j_aload_n hX eX7_renderCar_149 0 rfl ?_
                                refine j_getI hX eX7_renderCar_150 ff_LiftGroupModel_202 rfl t176 (by decide) ?_
                                refine j_callV (a := a0) (q := (RX7, TX7, 17)) (r' := rX7_done) (As := [.int (hp_I M174 152 a0)]) (rest := []) (d1 := d) hX eX7_renderCar_153 mm_LiftGroupModel_97 rfl t176 (by decide) rfl h rfl (Nat.le_refl _) (Nat.zero_le _) (Nat.zero_le _) (Nat.le_of_ble_eq_true rfl) (fun vz9 Mz9 qz9 => ?_) (fun Ez9 Mz9 qz9 => ?_)
                                · obtain ⟨M182, eMz9⟩ : ∃ M182, M182 = Mz9 := ⟨_, rfl⟩; subst eMz9
                                  obtain ⟨v183, hxz9, h⟩ := qz9
                                  cases hxz9
                                  exact j_iret hX hM eX7_renderCar_156 rfl h
                                · obtain ⟨v183, hxz9, h⟩ := qz9
                                  cases hxz9
                              · replace h := h.1 c181
                                refine j_aload_n hX eX7_renderCar_142 0 rfl ?_
                                refine j_bipush (v := (120 : Int32)) hX eX7_renderCar_143 (by decide) ?_
                                refine j_callV (a := a0) (q := (RX7, TX7, 17)) (r' := rX7_writes) (As := [.int (120 : Int32)]) (rest := []) (d1 := d) hX eX7_renderCar_145 mm_LiftGroupModel_205 rfl t176 (by decide) rfl h rfl (Nat.le_refl _) (Nat.zero_le _) (Nat.zero_le _) (Nat.le_of_ble_eq_true rfl) (fun vz9 Mz9 qz9 => ?_) (fun Ez9 Mz9 qz9 => ?_)
                                · obtain ⟨M184, eMz9⟩ : ∃ M184, M184 = Mz9 := ⟨_, rfl⟩; subst eMz9
                                  obtain ⟨hxz9, h⟩ := qz9
                                  cases hxz9
                                  refine j_aload_n hX eX7_renderCar_148 0 rfl ?_
                                  refine j_aload_n hX eX7_renderCar_149 0 rfl ?_
                                  obtain ⟨t186, h⟩ := h
                                  refine j_getI hX eX7_renderCar_150 ff_LiftGroupModel_202 rfl t186 (by decide) ?_
                                  refine j_callV (a := a0) (q := (RX7, TX7, 17)) (r' := rX7_done) (As := [.int (hp_I M184 152 a0)]) (rest := []) (d1 := d) hX eX7_renderCar_153 mm_LiftGroupModel_97 rfl t186 (by decide) rfl h rfl (Nat.le_refl _) (Nat.zero_le _) (Nat.zero_le _) (Nat.le_of_ble_eq_true rfl) (fun vz9 Mz9 qz9 => ?_) (fun Ez9 Mz9 qz9 => ?_)
                                  · obtain ⟨M187, eMz9⟩ : ∃ M187, M187 = Mz9 := ⟨_, rfl⟩; subst eMz9
                                    obtain ⟨v188, hxz9, h⟩ := qz9
                                    cases hxz9
                                    exact j_iret hX hM eX7_renderCar_156 rfl h
                                  · obtain ⟨v188, hxz9, h⟩ := qz9
                                    cases hxz9
                                · obtain ⟨hxz9, h⟩ := qz9
                                  cases hxz9
                            · obtain ⟨hxz9, h⟩ := qz9
                              cases hxz9
                        · obtain ⟨hxz9, h⟩ := qz9
                          cases hxz9
                      · obtain ⟨v148, hxz9, h⟩ := qz9
                        cases hxz9
                    · obtain ⟨hxz9, h⟩ := qz9
                      cases hxz9
                  · obtain ⟨hxz9, h⟩ := qz9
                    cases hxz9
                · obtain ⟨v139, hxz9, h⟩ := qz9
                  cases hxz9
              · obtain ⟨hxz9, h⟩ := qz9
                cases hxz9
          · obtain ⟨hxz9, h⟩ := qz9
            cases hxz9
        · obtain ⟨hxz9, h⟩ := qz9
          cases hxz9
      · obtain ⟨hxz9, h⟩ := qz9
        cases hxz9
    · replace h := h.1 c3
      refine j_aload_n hX eX7_renderCar_7 0 rfl ?_
      refine j_iconst (v := (1 : Int32)) hX eX7_renderCar_8 (by decide) ?_
      obtain ⟨t191, h⟩ := h
      refine j_callV (a := a0) (q := (RX7, TX7, 17)) (r' := rX7_fails) (As := [.int (1 : Int32)]) (rest := []) (d1 := d) hX eX7_renderCar_9 mm_LiftGroupModel_90 rfl t191 (by decide) rfl h rfl (Nat.le_refl _) (Nat.zero_le _) (Nat.zero_le _) (Nat.le_of_ble_eq_true rfl) (fun vz9 Mz9 qz9 => ?_) (fun Ez9 Mz9 qz9 => ?_)
      · obtain ⟨M189, eMz9⟩ : ∃ M189, M189 = Mz9 := ⟨_, rfl⟩; subst eMz9
        obtain ⟨v190, hxz9, h⟩ := qz9
        cases hxz9
        exact j_iret hX hM eX7_renderCar_12 rfl h
      · obtain ⟨v190, hxz9, h⟩ := qz9
        cases hxz9
  · obtain ⟨v2, hxz9, h⟩ := qz9
    cases hxz9

set_option maxHeartbeats 4000000 in
set_option maxRecDepth 20000 in
theorem vX7_renderFloors_0 {X : am_Cx} {G : am_Gx} {d : Nat} {Q : am_Q} (hX : am_ok X rX7_renderFloors G (d + 1)) (hM : am_me X rX7_renderFloors Q) {bc bs : Nat} (R7 : Nat → Int32 → am_Hp → Prop) (k7 : ∀ (x0 : Nat) (x1 : Int32) (M : am_Hp), R7 x0 x1 M → am_J X 7 [(0, .ref x0), (1, .int x1)] [] M bc bs) {a0 : Nat} {M : am_Hp} (h : hp_T M (a0) = 8 ∧ (∀ M2 : am_Hp, M2 = hp_sI M 152 a0 (0 : Int32) → (R7 a0 (0 : Int32) M2))) : am_J X 0 [(0, .ref a0)] [] M bc bs := by
  refine j_aload_n hX eX7_renderFloors_0 0 rfl ?_
  refine j_iconst (v := (0 : Int32)) hX eX7_renderFloors_1 (by decide) ?_
  obtain ⟨t1, h⟩ := h
  refine j_putI (ty := .int) hX eX7_renderFloors_2 ff_LiftGroupModel_202 rfl t1 (by decide) pp_7_12 rfl rfl ?_
  refine j_nmM (fun M2 eM2 => ?_)
  replace h := h M2 eM2
  have t3 : hp_T M2 (a0) = 8 := by rw [eM2]; exact t1
  refine j_iconst (v := (0 : Int32)) hX eX7_renderFloors_5 (by decide) ?_
  refine j_istore_n (lv' := [(1, .int (0 : Int32)), (0, .ref a0)]) hX eX7_renderFloors_6 rfl (by decide) rfl ?_
  exact j_sub [1, 0] rfl (k7 _ _ _ h)
set_option maxHeartbeats 4000000 in
set_option maxRecDepth 20000 in
theorem vX7_renderFloors_7 {X : am_Cx} {G : am_Gx} {d : Nat} {Q : am_Q} (hX : am_ok X rX7_renderFloors G (d + 1)) (hM : am_me X rX7_renderFloors Q) {bc bs : Nat} (R7 : Nat → Int32 → am_Hp → Prop) (k7 : ∀ (x0 : Nat) (x1 : Int32) (M : am_Hp), R7 x0 x1 M → am_J X 7 [(0, .ref x0), (1, .int x1)] [] M bc bs) {a0 : Nat} {a1 : Int32} {M : am_Hp} (h : (((10 : Int32) ≤ a1) → (hp_T M (a0) = 8 ∧ (am_CT G d rX7_done [.ref a0, .int (hp_I M 152 a0)] M 0 0 (fun oz9 M3 => ∃ v4 : Int32, oz9 = .inl (some (.int v4)) ∧ (Q (.inl (some (.int v4))) M3))))) ∧ (¬ ((10 : Int32) ≤ a1) → (((a1 ≤ 0) → (hp_T M (a0) = 8 ∧ (am_CT G d rX7_waitingOn [.ref a0, .int a1] M 0 0 (fun oz9 M6 => ∃ v7 : Int32, oz9 = .inl (some (.int v7)) ∧ (hp_T M6 (a0) = 8 ∧ (am_CT G d rX7_writesNumber [.ref a0, .int v7] M6 0 0 (fun oz9 M9 => oz9 = .inl none ∧ (∀ v12 : Int32, v12 = a1 + (1 : Int32) → (R7 a0 v12 M9))))))))) ∧ (¬ (a1 ≤ 0) → (hp_T M (a0) = 8 ∧ (am_CT G d rX7_writes [.ref a0, .int (44 : Int32)] M 0 0 (fun oz9 M13 => oz9 = .inl none ∧ (hp_T M13 (a0) = 8 ∧ (am_CT G d rX7_waitingOn [.ref a0, .int a1] M13 0 0 (fun oz9 M16 => ∃ v17 : Int32, oz9 = .inl (some (.int v17)) ∧ (hp_T M16 (a0) = 8 ∧ (am_CT G d rX7_writesNumber [.ref a0, .int v17] M16 0 0 (fun oz9 M19 => oz9 = .inl none ∧ (∀ v22 : Int32, v22 = a1 + (1 : Int32) → (R7 a0 v22 M19))))))))))))))) : am_J X 7 [(0, .ref a0), (1, .int a1)] [] M bc bs := by
  refine j_iload_n hX eX7_renderFloors_7 1 rfl ?_
  refine j_bipush (v := (10 : Int32)) hX eX7_renderFloors_8 (by decide) ?_
  refine j_icmp_ge hX 38 eX7_renderFloors_10 (by decide) (fun c1 => ?_) (fun c1 => ?_)
  · replace h := h.1 c1
    refine j_aload_n hX eX7_renderFloors_38 0 rfl ?_
    refine j_aload_n hX eX7_renderFloors_39 0 rfl ?_
    obtain ⟨t2, h⟩ := h
    refine j_getI hX eX7_renderFloors_40 ff_LiftGroupModel_202 rfl t2 (by decide) ?_
    refine j_callV (a := a0) (q := (RX7, TX7, 17)) (r' := rX7_done) (As := [.int (hp_I M 152 a0)]) (rest := []) (d1 := d) hX eX7_renderFloors_43 mm_LiftGroupModel_97 rfl t2 (by decide) rfl h rfl (Nat.le_refl _) (Nat.zero_le _) (Nat.zero_le _) (Nat.le_of_ble_eq_true rfl) (fun vz9 Mz9 qz9 => ?_) (fun Ez9 Mz9 qz9 => ?_)
    · obtain ⟨M3, eMz9⟩ : ∃ M3, M3 = Mz9 := ⟨_, rfl⟩; subst eMz9
      obtain ⟨v4, hxz9, h⟩ := qz9
      cases hxz9
      exact j_iret hX hM eX7_renderFloors_46 rfl h
    · obtain ⟨v4, hxz9, h⟩ := qz9
      cases hxz9
  · replace h := h.2 c1
    refine j_iload_n hX eX7_renderFloors_13 1 rfl ?_
    refine j_if_le hX 23 eX7_renderFloors_14 (by decide) (fun c5 => ?_) (fun c5 => ?_)
    · replace h := h.1 c5
      refine j_aload_n hX eX7_renderFloors_23 0 rfl ?_
      refine j_aload_n hX eX7_renderFloors_24 0 rfl ?_
      refine j_iload_n hX eX7_renderFloors_25 1 rfl ?_
      obtain ⟨t8, h⟩ := h
      refine j_callV (a := a0) (q := (RX7, TX7, 17)) (r' := rX7_waitingOn) (As := [.int a1]) (rest := [.ref a0]) (d1 := d) hX eX7_renderFloors_26 mm_LiftGroupModel_171 rfl t8 (by decide) rfl h rfl (Nat.le_refl _) (Nat.zero_le _) (Nat.zero_le _) (Nat.le_of_ble_eq_true rfl) (fun vz9 Mz9 qz9 => ?_) (fun Ez9 Mz9 qz9 => ?_)
      · obtain ⟨M6, eMz9⟩ : ∃ M6, M6 = Mz9 := ⟨_, rfl⟩; subst eMz9
        obtain ⟨v7, hxz9, h⟩ := qz9
        cases hxz9
        obtain ⟨t11, h⟩ := h
        refine j_callV (a := a0) (q := (RX7, TX7, 17)) (r' := rX7_writesNumber) (As := [.int v7]) (rest := []) (d1 := d) hX eX7_renderFloors_29 mm_LiftGroupModel_208 rfl t11 (by decide) rfl h rfl (Nat.le_refl _) (Nat.zero_le _) (Nat.zero_le _) (Nat.le_of_ble_eq_true rfl) (fun vz9 Mz9 qz9 => ?_) (fun Ez9 Mz9 qz9 => ?_)
        · obtain ⟨M9, eMz9⟩ : ∃ M9, M9 = Mz9 := ⟨_, rfl⟩; subst eMz9
          obtain ⟨hxz9, h⟩ := qz9
          cases hxz9
          obtain ⟨v12, ev12⟩ : ∃ v12 : Int32, v12 = a1 + (1 : Int32) := ⟨_, rfl⟩
          replace h := h v12 ev12
          refine j_iinc (v := v12) (lv' := [(1, .int v12), (0, .ref a0)]) hX eX7_renderFloors_32 1 rfl (by rw [ev12]; rfl) (by decide) rfl ?_
          refine j_goto hX 7 eX7_renderFloors_35 (by decide) ?_
          exact j_sub [1, 0] rfl (k7 _ _ _ h)
        · obtain ⟨hxz9, h⟩ := qz9
          cases hxz9
      · obtain ⟨v7, hxz9, h⟩ := qz9
        cases hxz9
    · replace h := h.2 c5
      refine j_aload_n hX eX7_renderFloors_17 0 rfl ?_
      refine j_bipush (v := (44 : Int32)) hX eX7_renderFloors_18 (by decide) ?_
      obtain ⟨t15, h⟩ := h
      refine j_callV (a := a0) (q := (RX7, TX7, 17)) (r' := rX7_writes) (As := [.int (44 : Int32)]) (rest := []) (d1 := d) hX eX7_renderFloors_20 mm_LiftGroupModel_205 rfl t15 (by decide) rfl h rfl (Nat.le_refl _) (Nat.zero_le _) (Nat.zero_le _) (Nat.le_of_ble_eq_true rfl) (fun vz9 Mz9 qz9 => ?_) (fun Ez9 Mz9 qz9 => ?_)
      · obtain ⟨M13, eMz9⟩ : ∃ M13, M13 = Mz9 := ⟨_, rfl⟩; subst eMz9
        obtain ⟨hxz9, h⟩ := qz9
        cases hxz9
        refine j_aload_n hX eX7_renderFloors_23 0 rfl ?_
        refine j_aload_n hX eX7_renderFloors_24 0 rfl ?_
        refine j_iload_n hX eX7_renderFloors_25 1 rfl ?_
        obtain ⟨t18, h⟩ := h
        refine j_callV (a := a0) (q := (RX7, TX7, 17)) (r' := rX7_waitingOn) (As := [.int a1]) (rest := [.ref a0]) (d1 := d) hX eX7_renderFloors_26 mm_LiftGroupModel_171 rfl t18 (by decide) rfl h rfl (Nat.le_refl _) (Nat.zero_le _) (Nat.zero_le _) (Nat.le_of_ble_eq_true rfl) (fun vz9 Mz9 qz9 => ?_) (fun Ez9 Mz9 qz9 => ?_)
        · obtain ⟨M16, eMz9⟩ : ∃ M16, M16 = Mz9 := ⟨_, rfl⟩; subst eMz9
          obtain ⟨v17, hxz9, h⟩ := qz9
          cases hxz9
          obtain ⟨t21, h⟩ := h
          refine j_callV (a := a0) (q := (RX7, TX7, 17)) (r' := rX7_writesNumber) (As := [.int v17]) (rest := []) (d1 := d) hX eX7_renderFloors_29 mm_LiftGroupModel_208 rfl t21 (by decide) rfl h rfl (Nat.le_refl _) (Nat.zero_le _) (Nat.zero_le _) (Nat.le_of_ble_eq_true rfl) (fun vz9 Mz9 qz9 => ?_) (fun Ez9 Mz9 qz9 => ?_)
          · obtain ⟨M19, eMz9⟩ : ∃ M19, M19 = Mz9 := ⟨_, rfl⟩; subst eMz9
            obtain ⟨hxz9, h⟩ := qz9
            cases hxz9
            obtain ⟨v22, ev22⟩ : ∃ v22 : Int32, v22 = a1 + (1 : Int32) := ⟨_, rfl⟩
            replace h := h v22 ev22
            refine j_iinc (v := v22) (lv' := [(1, .int v22), (0, .ref a0)]) hX eX7_renderFloors_32 1 rfl (by rw [ev22]; rfl) (by decide) rfl ?_
            refine j_goto hX 7 eX7_renderFloors_35 (by decide) ?_
            exact j_sub [1, 0] rfl (k7 _ _ _ h)
          · obtain ⟨hxz9, h⟩ := qz9
            cases hxz9
        · obtain ⟨v17, hxz9, h⟩ := qz9
          cases hxz9
      · obtain ⟨hxz9, h⟩ := qz9
        cases hxz9

set_option maxHeartbeats 4000000 in
set_option maxRecDepth 20000 in
theorem vX7_outputAt_0 {X : am_Cx} {G : am_Gx} {d : Nat} {Q : am_Q} (hX : am_ok X rX7_outputAt G (d + 1)) (hM : am_me X rX7_outputAt Q) {bc bs : Nat}  {a0 : Nat} {a1 : Int32} {M : am_Hp} (h : hp_T M (a0) = 8 ∧ (am_CT G d rX7_in [.int a1, .int (0 : Int32), .int ((hp_I M 152 a0) - (1 : Int32))] M 0 0 (fun oz9 M2 => ∃ v3 : Int32, oz9 = .inl (some (.int v3)) ∧ (((v3 = 0) → (hp_T M2 (a0) = 8 ∧ (∀ M6 : am_Hp, M6 = hp_sI M2 153 a0 (1 : Int32) → ((((hp_I M6 153 a0) = 0) → (hp_R M6 151 a0 ≠ 0 ∧ (∀ p11 : Nat, p11 = hp_R M6 151 a0 → (hp_T M6 (p11) = 21 ∧ (vp_in a1 (hp_N M6 p11) ∧ (narrow .char (.int (hp_E M6 p11 (a1).toNatClampNeg)) = .int (hp_E M6 p11 (a1).toNatClampNeg) ∧ (Q (.inl (some (.int (hp_E M6 p11 (a1).toNatClampNeg)))) M6))))))) ∧ (¬ ((hp_I M6 153 a0) = 0) → (narrow .char (.int (0 : Int32)) = .int (0 : Int32) ∧ (Q (.inl (some (.int (0 : Int32)))) M6))))))) ∧ (¬ (v3 = 0) → (hp_T M2 (a0) = 8 ∧ (∀ M16 : am_Hp, M16 = hp_sI M2 153 a0 (0 : Int32) → ((((hp_I M16 153 a0) = 0) → (hp_R M16 151 a0 ≠ 0 ∧ (∀ p21 : Nat, p21 = hp_R M16 151 a0 → (hp_T M16 (p21) = 21 ∧ (vp_in a1 (hp_N M16 p21) ∧ (narrow .char (.int (hp_E M16 p21 (a1).toNatClampNeg)) = .int (hp_E M16 p21 (a1).toNatClampNeg) ∧ (Q (.inl (some (.int (hp_E M16 p21 (a1).toNatClampNeg)))) M16))))))) ∧ (¬ ((hp_I M16 153 a0) = 0) → (narrow .char (.int (0 : Int32)) = .int (0 : Int32) ∧ (Q (.inl (some (.int (0 : Int32)))) M16))))))))))) : am_J X 0 [(0, .ref a0), (1, .int a1)] [] M bc bs := by
  refine j_aload_n hX eX7_outputAt_0 0 rfl ?_
  refine j_iload_n hX eX7_outputAt_1 1 rfl ?_
  refine j_iconst (v := (0 : Int32)) hX eX7_outputAt_2 (by decide) ?_
  refine j_aload_n hX eX7_outputAt_3 0 rfl ?_
  obtain ⟨t1, h⟩ := h
  refine j_getI hX eX7_outputAt_4 ff_LiftGroupModel_202 rfl t1 (by decide) ?_
  refine j_iconst (v := (1 : Int32)) hX eX7_outputAt_7 (by decide) ?_
  refine j_isub hX eX7_outputAt_8 ?_
  refine j_callS (r' := rX7_in) (As := [.int a1, .int (0 : Int32), .int ((hp_I M 152 a0) - (1 : Int32))]) (rest := [.ref a0]) (d1 := d) hX eX7_outputAt_9 mm_LiftGroupModel_52 rfl rfl h rfl (Nat.le_refl _) (Nat.zero_le _) (Nat.zero_le _) (Nat.le_of_ble_eq_true rfl) (fun vz9 Mz9 qz9 => ?_) (fun Ez9 Mz9 qz9 => ?_)
  · obtain ⟨M2, eMz9⟩ : ∃ M2, M2 = Mz9 := ⟨_, rfl⟩; subst eMz9
    obtain ⟨v3, hxz9, h⟩ := qz9
    cases hxz9
    refine j_if_eq hX 19 eX7_outputAt_12 (by decide) (fun c4 => ?_) (fun c4 => ?_)
    · replace h := h.1 c4
      refine j_iconst (v := (1 : Int32)) hX eX7_outputAt_19 (by decide) ?_
      obtain ⟨t5, h⟩ := h
      refine j_putI (ty := .int) hX eX7_outputAt_20 ff_LiftGroupModel_42 rfl t5 (by decide) pp_7_13 rfl rfl ?_
      refine j_nmM (fun M6 eM6 => ?_)
      replace h := h M6 eM6
      have t7 : hp_T M6 (a0) = 8 := by rw [eM6]; exact t5
      refine j_aload_n hX eX7_outputAt_23 0 rfl ?_
      refine j_getI hX eX7_outputAt_24 ff_LiftGroupModel_42 rfl t7 (by decide) ?_
      refine j_if_ne hX 39 eX7_outputAt_27 (by decide) (fun c8 => ?_) (fun c8 => ?_)
      · replace h := h.2 c8
        refine j_iconst (v := (0 : Int32)) hX eX7_outputAt_39 (by decide) ?_
        obtain ⟨n9, h⟩ := h
        exact j_zret hX hM eX7_outputAt_40 rfl n9 h
      · replace h := h.1 c8
        refine j_aload_n hX eX7_outputAt_30 0 rfl ?_
        obtain ⟨z10, h⟩ := h
        refine j_getR hX eX7_outputAt_31 ff_LiftGroupModel_36 rfl t7 (by decide) z10 ?_
        refine j_nmR (fun p11 ep11 => ?_)
        replace h := h p11 ep11
        refine j_iload_n hX eX7_outputAt_34 1 rfl ?_
        obtain ⟨t12, h⟩ := h
        obtain ⟨i13, h⟩ := h
        refine j_cald hX eX7_outputAt_35 t12 i13 ?_
        refine j_goto hX 40 eX7_outputAt_36 (by decide) ?_
        obtain ⟨n14, h⟩ := h
        exact j_zret hX hM eX7_outputAt_40 rfl n14 h
    · replace h := h.2 c4
      refine j_iconst (v := (0 : Int32)) hX eX7_outputAt_15 (by decide) ?_
      refine j_goto hX 20 eX7_outputAt_16 (by decide) ?_
      obtain ⟨t15, h⟩ := h
      refine j_putI (ty := .int) hX eX7_outputAt_20 ff_LiftGroupModel_42 rfl t15 (by decide) pp_7_13 rfl rfl ?_
      refine j_nmM (fun M16 eM16 => ?_)
      replace h := h M16 eM16
      have t17 : hp_T M16 (a0) = 8 := by rw [eM16]; exact t15
      refine j_aload_n hX eX7_outputAt_23 0 rfl ?_
      refine j_getI hX eX7_outputAt_24 ff_LiftGroupModel_42 rfl t17 (by decide) ?_
      refine j_if_ne hX 39 eX7_outputAt_27 (by decide) (fun c18 => ?_) (fun c18 => ?_)
      · replace h := h.2 c18
        refine j_iconst (v := (0 : Int32)) hX eX7_outputAt_39 (by decide) ?_
        obtain ⟨n19, h⟩ := h
        exact j_zret hX hM eX7_outputAt_40 rfl n19 h
      · replace h := h.1 c18
        refine j_aload_n hX eX7_outputAt_30 0 rfl ?_
        obtain ⟨z20, h⟩ := h
        refine j_getR hX eX7_outputAt_31 ff_LiftGroupModel_36 rfl t17 (by decide) z20 ?_
        refine j_nmR (fun p21 ep21 => ?_)
        replace h := h p21 ep21
        refine j_iload_n hX eX7_outputAt_34 1 rfl ?_
        obtain ⟨t22, h⟩ := h
        obtain ⟨i23, h⟩ := h
        refine j_cald hX eX7_outputAt_35 t22 i23 ?_
        refine j_goto hX 40 eX7_outputAt_36 (by decide) ?_
        obtain ⟨n24, h⟩ := h
        exact j_zret hX hM eX7_outputAt_40 rfl n24 h
  · obtain ⟨v3, hxz9, h⟩ := qz9
    cases hxz9

set_option maxHeartbeats 4000000 in
set_option maxRecDepth 20000 in
theorem vX7_type_0 {X : am_Cx} {G : am_Gx} {d : Nat} {Q : am_Q} (hX : am_ok X rX7_type G (d + 1)) (hM : am_me X rX7_type Q) {bc bs : Nat}  {a0 : Nat} {a1 : Int32} {M : am_Hp} (h : am_CT G d rX7_in [.int a1, .int (32 : Int32), .int (126 : Int32)] M 0 0 (fun oz9 M1 => ∃ v2 : Int32, oz9 = .inl (some (.int v2)) ∧ (((v2 = 0) → (hp_T M1 (a0) = 8 ∧ (am_CT G d rX7_fails [.ref a0, .int (1 : Int32)] M1 0 0 (fun oz9 M21 => ∃ v22 : Int32, oz9 = .inl (some (.int v22)) ∧ (Q (.inl (some (.int v22))) M21))))) ∧ (¬ (v2 = 0) → (hp_T M1 (a0) = 8 ∧ ((((hp_I M1 148 a0) = (60 : Int32)) → (am_CT G d rX7_fails [.ref a0, .int (2 : Int32)] M1 0 0 (fun oz9 M19 => ∃ v20 : Int32, oz9 = .inl (some (.int v20)) ∧ (Q (.inl (some (.int v20))) M19)))) ∧ (¬ ((hp_I M1 148 a0) = (60 : Int32)) → (hp_R M1 147 a0 ≠ 0 ∧ (∀ p7 : Nat, p7 = hp_R M1 147 a0 → (hp_T M1 (p7) = 21 ∧ (vp_in (hp_I M1 148 a0) (hp_N M1 p7) ∧ (vp_nar .char a1 = a1 ∧ (∀ M11 : am_Hp, M11 = hp_sE M1 p7 ((hp_I M1 148 a0)).toNatClampNeg a1 → (∀ M14 : am_Hp, M14 = hp_sI M11 148 a0 ((hp_I M11 148 a0) + (1 : Int32)) → (am_CT G d rX7_done [.ref a0, .int (hp_I M14 148 a0)] M14 0 0 (fun oz9 M17 => ∃ v18 : Int32, oz9 = .inl (some (.int v18)) ∧ (Q (.inl (some (.int v18))) M17))))))))))))))))) : am_J X 0 [(0, .ref a0), (1, .int a1)] [] M bc bs := by
  refine j_iload_n hX eX7_type_0 1 rfl ?_
  refine j_bipush (v := (32 : Int32)) hX eX7_type_1 (by decide) ?_
  refine j_bipush (v := (126 : Int32)) hX eX7_type_3 (by decide) ?_
  refine j_callS (r' := rX7_in) (As := [.int a1, .int (32 : Int32), .int (126 : Int32)]) (rest := []) (d1 := d) hX eX7_type_5 mm_LiftGroupModel_52 rfl rfl h rfl (Nat.le_refl _) (Nat.zero_le _) (Nat.zero_le _) (Nat.le_of_ble_eq_true rfl) (fun vz9 Mz9 qz9 => ?_) (fun Ez9 Mz9 qz9 => ?_)
  · obtain ⟨M1, eMz9⟩ : ∃ M1, M1 = Mz9 := ⟨_, rfl⟩; subst eMz9
    obtain ⟨v2, hxz9, h⟩ := qz9
    cases hxz9
    refine j_if_ne hX 17 eX7_type_8 (by decide) (fun c3 => ?_) (fun c3 => ?_)
    · replace h := h.2 c3
      refine j_aload_n hX eX7_type_17 0 rfl ?_
      obtain ⟨t4, h⟩ := h
      refine j_getI hX eX7_type_18 ff_LiftGroupModel_211 rfl t4 (by decide) ?_
      refine j_bipush (v := (60 : Int32)) hX eX7_type_21 (by decide) ?_
      refine j_icmp_ne hX 32 eX7_type_23 (by decide) (fun c5 => ?_) (fun c5 => ?_)
      · replace h := h.2 c5
        refine j_aload_n hX eX7_type_32 0 rfl ?_
        obtain ⟨z6, h⟩ := h
        refine j_getR hX eX7_type_33 ff_LiftGroupModel_25 rfl t4 (by decide) z6 ?_
        refine j_nmR (fun p7 ep7 => ?_)
        replace h := h p7 ep7
        refine j_aload_n hX eX7_type_36 0 rfl ?_
        refine j_getI hX eX7_type_37 ff_LiftGroupModel_211 rfl t4 (by decide) ?_
        refine j_iload_n hX eX7_type_40 1 rfl ?_
        obtain ⟨t8, h⟩ := h
        obtain ⟨i9, h⟩ := h
        obtain ⟨n10, h⟩ := h
        refine j_cast hX eX7_type_41 t8 i9 n10 ?_
        refine j_nmM (fun M11 eM11 => ?_)
        replace h := h M11 eM11
        have t12 : hp_T M11 (a0) = 8 := by rw [eM11]; exact t4
        have t13 : hp_T M11 (p7) = 21 := by rw [eM11]; exact t8
        refine j_aload_n hX eX7_type_42 0 rfl ?_
        refine j_dup hX eX7_type_43 rfl ?_
        refine j_getI hX eX7_type_44 ff_LiftGroupModel_211 rfl t12 (by decide) ?_
        refine j_iconst (v := (1 : Int32)) hX eX7_type_47 (by decide) ?_
        refine j_iadd hX eX7_type_48 ?_
        refine j_putI (ty := .int) hX eX7_type_49 ff_LiftGroupModel_211 rfl t12 (by decide) pp_7_8 rfl rfl ?_
        refine j_nmM (fun M14 eM14 => ?_)
        replace h := h M14 eM14
        have t15 : hp_T M14 (a0) = 8 := by rw [eM14]; exact t12
        have t16 : hp_T M14 (p7) = 21 := by rw [eM14]; exact t13
        refine j_aload_n hX eX7_type_52 0 rfl ?_
        refine j_aload_n hX eX7_type_53 0 rfl ?_
        refine j_getI hX eX7_type_54 ff_LiftGroupModel_211 rfl t15 (by decide) ?_
        refine j_callV (a := a0) (q := (RX7, TX7, 17)) (r' := rX7_done) (As := [.int (hp_I M14 148 a0)]) (rest := []) (d1 := d) hX eX7_type_57 mm_LiftGroupModel_97 rfl t15 (by decide) rfl h rfl (Nat.le_refl _) (Nat.zero_le _) (Nat.zero_le _) (Nat.le_of_ble_eq_true rfl) (fun vz9 Mz9 qz9 => ?_) (fun Ez9 Mz9 qz9 => ?_)
        · obtain ⟨M17, eMz9⟩ : ∃ M17, M17 = Mz9 := ⟨_, rfl⟩; subst eMz9
          obtain ⟨v18, hxz9, h⟩ := qz9
          cases hxz9
          exact j_iret hX hM eX7_type_60 rfl h
        · obtain ⟨v18, hxz9, h⟩ := qz9
          cases hxz9
      · replace h := h.1 c5
        refine j_aload_n hX eX7_type_26 0 rfl ?_
        refine j_iconst (v := (2 : Int32)) hX eX7_type_27 (by decide) ?_
        refine j_callV (a := a0) (q := (RX7, TX7, 17)) (r' := rX7_fails) (As := [.int (2 : Int32)]) (rest := []) (d1 := d) hX eX7_type_28 mm_LiftGroupModel_90 rfl t4 (by decide) rfl h rfl (Nat.le_refl _) (Nat.zero_le _) (Nat.zero_le _) (Nat.le_of_ble_eq_true rfl) (fun vz9 Mz9 qz9 => ?_) (fun Ez9 Mz9 qz9 => ?_)
        · obtain ⟨M19, eMz9⟩ : ∃ M19, M19 = Mz9 := ⟨_, rfl⟩; subst eMz9
          obtain ⟨v20, hxz9, h⟩ := qz9
          cases hxz9
          exact j_iret hX hM eX7_type_31 rfl h
        · obtain ⟨v20, hxz9, h⟩ := qz9
          cases hxz9
    · replace h := h.1 c3
      refine j_aload_n hX eX7_type_11 0 rfl ?_
      refine j_iconst (v := (1 : Int32)) hX eX7_type_12 (by decide) ?_
      obtain ⟨t23, h⟩ := h
      refine j_callV (a := a0) (q := (RX7, TX7, 17)) (r' := rX7_fails) (As := [.int (1 : Int32)]) (rest := []) (d1 := d) hX eX7_type_13 mm_LiftGroupModel_90 rfl t23 (by decide) rfl h rfl (Nat.le_refl _) (Nat.zero_le _) (Nat.zero_le _) (Nat.le_of_ble_eq_true rfl) (fun vz9 Mz9 qz9 => ?_) (fun Ez9 Mz9 qz9 => ?_)
      · obtain ⟨M21, eMz9⟩ : ∃ M21, M21 = Mz9 := ⟨_, rfl⟩; subst eMz9
        obtain ⟨v22, hxz9, h⟩ := qz9
        cases hxz9
        exact j_iret hX hM eX7_type_16 rfl h
      · obtain ⟨v22, hxz9, h⟩ := qz9
        cases hxz9
  · obtain ⟨v2, hxz9, h⟩ := qz9
    cases hxz9

set_option maxHeartbeats 4000000 in
set_option maxRecDepth 20000 in
theorem vX7_here_0 {X : am_Cx} {G : am_Gx} {d : Nat} {Q : am_Q} (hX : am_ok X rX7_here G (d + 1)) (hM : am_me X rX7_here Q) {bc bs : Nat}  {a0 : Nat} {M : am_Hp} (h : hp_T M (a0) = 8 ∧ ((((hp_I M 148 a0) ≤ (hp_I M 154 a0)) → (Q (.inl (some (.int (-1 : Int32)))) M)) ∧ (¬ ((hp_I M 148 a0) ≤ (hp_I M 154 a0)) → (hp_R M 147 a0 ≠ 0 ∧ (∀ p4 : Nat, p4 = hp_R M 147 a0 → (hp_T M (p4) = 21 ∧ (vp_in (hp_I M 154 a0) (hp_N M p4) ∧ (Q (.inl (some (.int (hp_E M p4 ((hp_I M 154 a0)).toNatClampNeg)))) M)))))))) : am_J X 0 [(0, .ref a0)] [] M bc bs := by
  refine j_aload_n hX eX7_here_0 0 rfl ?_
  obtain ⟨t1, h⟩ := h
  refine j_getI hX eX7_here_1 ff_LiftGroupModel_214 rfl t1 (by decide) ?_
  refine j_aload_n hX eX7_here_4 0 rfl ?_
  refine j_getI hX eX7_here_5 ff_LiftGroupModel_211 rfl t1 (by decide) ?_
  refine j_icmp_ge hX 23 eX7_here_8 (by decide) (fun c2 => ?_) (fun c2 => ?_)
  · replace h := h.1 c2
    refine j_iconst (v := (-1 : Int32)) hX eX7_here_23 (by decide) ?_
    exact j_iret hX hM eX7_here_24 rfl h
  · replace h := h.2 c2
    refine j_aload_n hX eX7_here_11 0 rfl ?_
    obtain ⟨z3, h⟩ := h
    refine j_getR hX eX7_here_12 ff_LiftGroupModel_25 rfl t1 (by decide) z3 ?_
    refine j_nmR (fun p4 ep4 => ?_)
    replace h := h p4 ep4
    refine j_aload_n hX eX7_here_15 0 rfl ?_
    refine j_getI hX eX7_here_16 ff_LiftGroupModel_214 rfl t1 (by decide) ?_
    obtain ⟨t5, h⟩ := h
    obtain ⟨i6, h⟩ := h
    refine j_cald hX eX7_here_19 t5 i6 ?_
    refine j_goto hX 24 eX7_here_20 (by decide) ?_
    exact j_iret hX hM eX7_here_24 rfl h

set_option maxHeartbeats 4000000 in
set_option maxRecDepth 20000 in
theorem vX7_needs_0 {X : am_Cx} {G : am_Gx} {d : Nat} {Q : am_Q} (hX : am_ok X rX7_needs G (d + 1)) (hM : am_me X rX7_needs Q) {bc bs : Nat}  {a0 : Nat} {a1 : Int32} {M : am_Hp} (h : hp_T M (a0) = 8 ∧ ((((hp_I M 155 a0) = 0) → (am_CT G d rX7_here [.ref a0] M 0 0 (fun oz9 M11 => ∃ v12 : Int32, oz9 = .inl (some (.int v12)) ∧ (((v12 = a1) → (hp_T M11 (a0) = 8 ∧ (am_bo (0 : Int32) ∧ (∀ M16 : am_Hp, M16 = hp_sI M11 155 a0 (0 : Int32) → ((((hp_I M16 155 a0) = 0) → (∀ M19 : am_Hp, M19 = hp_sI M16 154 a0 ((hp_I M16 154 a0) + (1 : Int32)) → (Q (.inl none) M19))) ∧ (¬ ((hp_I M16 155 a0) = 0) → (∀ M21 : am_Hp, M21 = hp_sI M16 154 a0 ((hp_I M16 154 a0) + (0 : Int32)) → (Q (.inl none) M21)))))))) ∧ (¬ (v12 = a1) → (hp_T M11 (a0) = 8 ∧ (am_bo (1 : Int32) ∧ (∀ M25 : am_Hp, M25 = hp_sI M11 155 a0 (1 : Int32) → ((((hp_I M25 155 a0) = 0) → (∀ M28 : am_Hp, M28 = hp_sI M25 154 a0 ((hp_I M25 154 a0) + (1 : Int32)) → (Q (.inl none) M28))) ∧ (¬ ((hp_I M25 155 a0) = 0) → (∀ M30 : am_Hp, M30 = hp_sI M25 154 a0 ((hp_I M25 154 a0) + (0 : Int32)) → (Q (.inl none) M30)))))))))))) ∧ (¬ ((hp_I M 155 a0) = 0) → (am_bo (1 : Int32) ∧ (∀ M4 : am_Hp, M4 = hp_sI M 155 a0 (1 : Int32) → ((((hp_I M4 155 a0) = 0) → (∀ M7 : am_Hp, M7 = hp_sI M4 154 a0 ((hp_I M4 154 a0) + (1 : Int32)) → (Q (.inl none) M7))) ∧ (¬ ((hp_I M4 155 a0) = 0) → (∀ M9 : am_Hp, M9 = hp_sI M4 154 a0 ((hp_I M4 154 a0) + (0 : Int32)) → (Q (.inl none) M9))))))))) : am_J X 0 [(0, .ref a0), (1, .int a1)] [] M bc bs := by
  refine j_aload_n hX eX7_needs_0 0 rfl ?_
  refine j_aload_n hX eX7_needs_1 0 rfl ?_
  obtain ⟨t1, h⟩ := h
  refine j_getI hX eX7_needs_2 ff_LiftGroupModel_217 rfl t1 (by decide) ?_
  refine j_if_ne hX 16 eX7_needs_5 (by decide) (fun c2 => ?_) (fun c2 => ?_)
  · replace h := h.2 c2
    refine j_iconst (v := (1 : Int32)) hX eX7_needs_16 (by decide) ?_
    refine j_goto hX 21 eX7_needs_17 (by decide) ?_
    obtain ⟨b3, h⟩ := h
    refine j_putI (ty := .boolean) hX eX7_needs_21 ff_LiftGroupModel_217 rfl t1 (by decide) pp_7_15 (am_bo_n b3) (am_bo_f b3) ?_
    refine j_nmM (fun M4 eM4 => ?_)
    replace h := h M4 eM4
    have t5 : hp_T M4 (a0) = 8 := by rw [eM4]; exact t1
    refine j_aload_n hX eX7_needs_24 0 rfl ?_
    refine j_dup hX eX7_needs_25 rfl ?_
    refine j_getI hX eX7_needs_26 ff_LiftGroupModel_214 rfl t5 (by decide) ?_
    refine j_aload_n hX eX7_needs_29 0 rfl ?_
    refine j_getI hX eX7_needs_30 ff_LiftGroupModel_217 rfl t5 (by decide) ?_
    refine j_if_eq hX 40 eX7_needs_33 (by decide) (fun c6 => ?_) (fun c6 => ?_)
    · replace h := h.1 c6
      refine j_iconst (v := (1 : Int32)) hX eX7_needs_40 (by decide) ?_
      refine j_iadd hX eX7_needs_41 ?_
      refine j_putI (ty := .int) hX eX7_needs_42 ff_LiftGroupModel_214 rfl t5 (by decide) pp_7_14 rfl rfl ?_
      refine j_nmM (fun M7 eM7 => ?_)
      replace h := h M7 eM7
      have t8 : hp_T M7 (a0) = 8 := by rw [eM7]; exact t5
      exact j_vret hX hM eX7_needs_45 rfl h
    · replace h := h.2 c6
      refine j_iconst (v := (0 : Int32)) hX eX7_needs_36 (by decide) ?_
      refine j_goto hX 41 eX7_needs_37 (by decide) ?_
      refine j_iadd hX eX7_needs_41 ?_
      refine j_putI (ty := .int) hX eX7_needs_42 ff_LiftGroupModel_214 rfl t5 (by decide) pp_7_14 rfl rfl ?_
      refine j_nmM (fun M9 eM9 => ?_)
      replace h := h M9 eM9
      have t10 : hp_T M9 (a0) = 8 := by rw [eM9]; exact t5
      exact j_vret hX hM eX7_needs_45 rfl h
  · replace h := h.1 c2
    refine j_aload_n hX eX7_needs_8 0 rfl ?_
    refine j_callV (a := a0) (q := (RX7, TX7, 17)) (r' := rX7_here) (As := []) (rest := [.ref a0]) (d1 := d) hX eX7_needs_9 mm_LiftGroupModel_221 rfl t1 (by decide) rfl h rfl (Nat.le_refl _) (Nat.zero_le _) (Nat.zero_le _) (Nat.le_of_ble_eq_true rfl) (fun vz9 Mz9 qz9 => ?_) (fun Ez9 Mz9 qz9 => ?_)
    · obtain ⟨M11, eMz9⟩ : ∃ M11, M11 = Mz9 := ⟨_, rfl⟩; subst eMz9
      obtain ⟨v12, hxz9, h⟩ := qz9
      cases hxz9
      refine j_iload_n hX eX7_needs_12 1 rfl ?_
      refine j_icmp_eq hX 20 eX7_needs_13 (by decide) (fun c13 => ?_) (fun c13 => ?_)
      · replace h := h.1 c13
        refine j_iconst (v := (0 : Int32)) hX eX7_needs_20 (by decide) ?_
        obtain ⟨t14, h⟩ := h
        obtain ⟨b15, h⟩ := h
        refine j_putI (ty := .boolean) hX eX7_needs_21 ff_LiftGroupModel_217 rfl t14 (by decide) pp_7_15 (am_bo_n b15) (am_bo_f b15) ?_
        refine j_nmM (fun M16 eM16 => ?_)
        replace h := h M16 eM16
        have t17 : hp_T M16 (a0) = 8 := by rw [eM16]; exact t14
        refine j_aload_n hX eX7_needs_24 0 rfl ?_
        refine j_dup hX eX7_needs_25 rfl ?_
        refine j_getI hX eX7_needs_26 ff_LiftGroupModel_214 rfl t17 (by decide) ?_
        refine j_aload_n hX eX7_needs_29 0 rfl ?_
        refine j_getI hX eX7_needs_30 ff_LiftGroupModel_217 rfl t17 (by decide) ?_
        refine j_if_eq hX 40 eX7_needs_33 (by decide) (fun c18 => ?_) (fun c18 => ?_)
        · replace h := h.1 c18
          refine j_iconst (v := (1 : Int32)) hX eX7_needs_40 (by decide) ?_
          refine j_iadd hX eX7_needs_41 ?_
          refine j_putI (ty := .int) hX eX7_needs_42 ff_LiftGroupModel_214 rfl t17 (by decide) pp_7_14 rfl rfl ?_
          refine j_nmM (fun M19 eM19 => ?_)
          replace h := h M19 eM19
          have t20 : hp_T M19 (a0) = 8 := by rw [eM19]; exact t17
          exact j_vret hX hM eX7_needs_45 rfl h
        · replace h := h.2 c18
          refine j_iconst (v := (0 : Int32)) hX eX7_needs_36 (by decide) ?_
          refine j_goto hX 41 eX7_needs_37 (by decide) ?_
          refine j_iadd hX eX7_needs_41 ?_
          refine j_putI (ty := .int) hX eX7_needs_42 ff_LiftGroupModel_214 rfl t17 (by decide) pp_7_14 rfl rfl ?_
          refine j_nmM (fun M21 eM21 => ?_)
          replace h := h M21 eM21
          have t22 : hp_T M21 (a0) = 8 := by rw [eM21]; exact t17
          exact j_vret hX hM eX7_needs_45 rfl h
      · replace h := h.2 c13
        refine j_iconst (v := (1 : Int32)) hX eX7_needs_16 (by decide) ?_
        refine j_goto hX 21 eX7_needs_17 (by decide) ?_
        obtain ⟨t23, h⟩ := h
        obtain ⟨b24, h⟩ := h
        refine j_putI (ty := .boolean) hX eX7_needs_21 ff_LiftGroupModel_217 rfl t23 (by decide) pp_7_15 (am_bo_n b24) (am_bo_f b24) ?_
        refine j_nmM (fun M25 eM25 => ?_)
        replace h := h M25 eM25
        have t26 : hp_T M25 (a0) = 8 := by rw [eM25]; exact t23
        refine j_aload_n hX eX7_needs_24 0 rfl ?_
        refine j_dup hX eX7_needs_25 rfl ?_
        refine j_getI hX eX7_needs_26 ff_LiftGroupModel_214 rfl t26 (by decide) ?_
        refine j_aload_n hX eX7_needs_29 0 rfl ?_
        refine j_getI hX eX7_needs_30 ff_LiftGroupModel_217 rfl t26 (by decide) ?_
        refine j_if_eq hX 40 eX7_needs_33 (by decide) (fun c27 => ?_) (fun c27 => ?_)
        · replace h := h.1 c27
          refine j_iconst (v := (1 : Int32)) hX eX7_needs_40 (by decide) ?_
          refine j_iadd hX eX7_needs_41 ?_
          refine j_putI (ty := .int) hX eX7_needs_42 ff_LiftGroupModel_214 rfl t26 (by decide) pp_7_14 rfl rfl ?_
          refine j_nmM (fun M28 eM28 => ?_)
          replace h := h M28 eM28
          have t29 : hp_T M28 (a0) = 8 := by rw [eM28]; exact t26
          exact j_vret hX hM eX7_needs_45 rfl h
        · replace h := h.2 c27
          refine j_iconst (v := (0 : Int32)) hX eX7_needs_36 (by decide) ?_
          refine j_goto hX 41 eX7_needs_37 (by decide) ?_
          refine j_iadd hX eX7_needs_41 ?_
          refine j_putI (ty := .int) hX eX7_needs_42 ff_LiftGroupModel_214 rfl t26 (by decide) pp_7_14 rfl rfl ?_
          refine j_nmM (fun M30 eM30 => ?_)
          replace h := h M30 eM30
          have t31 : hp_T M30 (a0) = 8 := by rw [eM30]; exact t26
          exact j_vret hX hM eX7_needs_45 rfl h
    · obtain ⟨v12, hxz9, h⟩ := qz9
      cases hxz9

set_option maxHeartbeats 4000000 in
set_option maxRecDepth 20000 in
theorem vX7_needsThree_0 {X : am_Cx} {G : am_Gx} {d : Nat} {Q : am_Q} (hX : am_ok X rX7_needsThree G (d + 1)) (hM : am_me X rX7_needsThree Q) {bc bs : Nat}  {a0 : Nat} {a1 : Int32} {a2 : Int32} {a3 : Int32} {M : am_Hp} (h : hp_T M (a0) = 8 ∧ (am_CT G d rX7_needs [.ref a0, .int a1] M 0 0 (fun oz9 M1 => oz9 = .inl none ∧ (hp_T M1 (a0) = 8 ∧ (am_CT G d rX7_needs [.ref a0, .int a2] M1 0 0 (fun oz9 M4 => oz9 = .inl none ∧ (hp_T M4 (a0) = 8 ∧ (am_CT G d rX7_needs [.ref a0, .int a3] M4 0 0 (fun oz9 M7 => oz9 = .inl none ∧ (Q (.inl none) M7)))))))))) : am_J X 0 [(0, .ref a0), (1, .int a1), (2, .int a2), (3, .int a3)] [] M bc bs := by
  refine j_aload_n hX eX7_needsThree_0 0 rfl ?_
  refine j_iload_n hX eX7_needsThree_1 1 rfl ?_
  obtain ⟨t3, h⟩ := h
  refine j_callV (a := a0) (q := (RX7, TX7, 17)) (r' := rX7_needs) (As := [.int a1]) (rest := []) (d1 := d) hX eX7_needsThree_2 mm_LiftGroupModel_225 rfl t3 (by decide) rfl h rfl (Nat.le_refl _) (Nat.zero_le _) (Nat.zero_le _) (Nat.le_of_ble_eq_true rfl) (fun vz9 Mz9 qz9 => ?_) (fun Ez9 Mz9 qz9 => ?_)
  · obtain ⟨M1, eMz9⟩ : ∃ M1, M1 = Mz9 := ⟨_, rfl⟩; subst eMz9
    obtain ⟨hxz9, h⟩ := qz9
    cases hxz9
    refine j_aload_n hX eX7_needsThree_5 0 rfl ?_
    refine j_iload_n hX eX7_needsThree_6 2 rfl ?_
    obtain ⟨t6, h⟩ := h
    refine j_callV (a := a0) (q := (RX7, TX7, 17)) (r' := rX7_needs) (As := [.int a2]) (rest := []) (d1 := d) hX eX7_needsThree_7 mm_LiftGroupModel_225 rfl t6 (by decide) rfl h rfl (Nat.le_refl _) (Nat.zero_le _) (Nat.zero_le _) (Nat.le_of_ble_eq_true rfl) (fun vz9 Mz9 qz9 => ?_) (fun Ez9 Mz9 qz9 => ?_)
    · obtain ⟨M4, eMz9⟩ : ∃ M4, M4 = Mz9 := ⟨_, rfl⟩; subst eMz9
      obtain ⟨hxz9, h⟩ := qz9
      cases hxz9
      refine j_aload_n hX eX7_needsThree_10 0 rfl ?_
      refine j_iload_n hX eX7_needsThree_11 3 rfl ?_
      obtain ⟨t9, h⟩ := h
      refine j_callV (a := a0) (q := (RX7, TX7, 17)) (r' := rX7_needs) (As := [.int a3]) (rest := []) (d1 := d) hX eX7_needsThree_12 mm_LiftGroupModel_225 rfl t9 (by decide) rfl h rfl (Nat.le_refl _) (Nat.zero_le _) (Nat.zero_le _) (Nat.le_of_ble_eq_true rfl) (fun vz9 Mz9 qz9 => ?_) (fun Ez9 Mz9 qz9 => ?_)
      · obtain ⟨M7, eMz9⟩ : ∃ M7, M7 = Mz9 := ⟨_, rfl⟩; subst eMz9
        obtain ⟨hxz9, h⟩ := qz9
        cases hxz9
        exact j_vret hX hM eX7_needsThree_15 rfl h
      · obtain ⟨hxz9, h⟩ := qz9
        cases hxz9
    · obtain ⟨hxz9, h⟩ := qz9
      cases hxz9
  · obtain ⟨hxz9, h⟩ := qz9
    cases hxz9

set_option maxHeartbeats 4000000 in
set_option maxRecDepth 20000 in
theorem vX7_digits_0 {X : am_Cx} {G : am_Gx} {d : Nat} {Q : am_Q} (hX : am_ok X rX7_digits G (d + 1)) (hM : am_me X rX7_digits Q) {bc bs : Nat} (R40 : Nat → Int32 → Int32 → Int32 → am_Hp → Prop) (k40 : ∀ (x0 : Nat) (x1 : Int32) (x2 : Int32) (x3 : Int32) (M : am_Hp), R40 x0 x1 x2 x3 M → am_J X 40 [(0, .ref x0), (1, .int x1), (2, .int x2), (3, .int x3)] [] M bc bs) {a0 : Nat} {a1 : Int32} {M : am_Hp} (h : hp_T M (a0) = 8 ∧ (am_CT G d rX7_needs [.ref a0, .int (32 : Int32)] M 0 0 (fun oz9 M1 => oz9 = .inl none ∧ (hp_T M1 (a0) = 8 ∧ ((((hp_I M1 155 a0) = 0) → (am_CT G d rX7_here [.ref a0] M1 0 0 (fun oz9 M9 => ∃ v10 : Int32, oz9 = .inl (some (.int v10)) ∧ (am_CT G d rX7_in [.int v10, .int (48 : Int32), .int (57 : Int32)] M9 0 0 (fun oz9 M11 => ∃ v12 : Int32, oz9 = .inl (some (.int v12)) ∧ (((v12 = 0) → (hp_T M11 (a0) = 8 ∧ (am_bo (1 : Int32) ∧ (∀ M20 : am_Hp, M20 = hp_sI M11 155 a0 (1 : Int32) → (R40 a0 a1 (0 : Int32) (0 : Int32) M20))))) ∧ (¬ (v12 = 0) → (hp_T M11 (a0) = 8 ∧ (am_bo (0 : Int32) ∧ (∀ M16 : am_Hp, M16 = hp_sI M11 155 a0 (0 : Int32) → (R40 a0 a1 (0 : Int32) (0 : Int32) M16))))))))))) ∧ (¬ ((hp_I M1 155 a0) = 0) → (am_bo (1 : Int32) ∧ (∀ M7 : am_Hp, M7 = hp_sI M1 155 a0 (1 : Int32) → (R40 a0 a1 (0 : Int32) (0 : Int32) M7))))))))) : am_J X 0 [(0, .ref a0), (1, .int a1)] [] M bc bs := by
  refine j_aload_n hX eX7_digits_0 0 rfl ?_
  refine j_bipush (v := (32 : Int32)) hX eX7_digits_1 (by decide) ?_
  obtain ⟨t3, h⟩ := h
  refine j_callV (a := a0) (q := (RX7, TX7, 17)) (r' := rX7_needs) (As := [.int (32 : Int32)]) (rest := []) (d1 := d) hX eX7_digits_3 mm_LiftGroupModel_225 rfl t3 (by decide) rfl h rfl (Nat.le_refl _) (Nat.zero_le _) (Nat.zero_le _) (Nat.le_of_ble_eq_true rfl) (fun vz9 Mz9 qz9 => ?_) (fun Ez9 Mz9 qz9 => ?_)
  · obtain ⟨M1, eMz9⟩ : ∃ M1, M1 = Mz9 := ⟨_, rfl⟩; subst eMz9
    obtain ⟨hxz9, h⟩ := qz9
    cases hxz9
    refine j_aload_n hX eX7_digits_6 0 rfl ?_
    refine j_aload_n hX eX7_digits_7 0 rfl ?_
    obtain ⟨t4, h⟩ := h
    refine j_getI hX eX7_digits_8 ff_LiftGroupModel_217 rfl t4 (by decide) ?_
    refine j_if_ne hX 28 eX7_digits_11 (by decide) (fun c5 => ?_) (fun c5 => ?_)
    · replace h := h.2 c5
      refine j_iconst (v := (1 : Int32)) hX eX7_digits_28 (by decide) ?_
      refine j_goto hX 33 eX7_digits_29 (by decide) ?_
      obtain ⟨b6, h⟩ := h
      refine j_putI (ty := .boolean) hX eX7_digits_33 ff_LiftGroupModel_217 rfl t4 (by decide) pp_7_15 (am_bo_n b6) (am_bo_f b6) ?_
      refine j_nmM (fun M7 eM7 => ?_)
      replace h := h M7 eM7
      have t8 : hp_T M7 (a0) = 8 := by rw [eM7]; exact t4
      refine j_iconst (v := (0 : Int32)) hX eX7_digits_36 (by decide) ?_
      refine j_istore_n (lv' := [(2, .int (0 : Int32)), (0, .ref a0), (1, .int a1)]) hX eX7_digits_37 rfl (by decide) rfl ?_
      refine j_iconst (v := (0 : Int32)) hX eX7_digits_38 (by decide) ?_
      refine j_istore_n (lv' := [(3, .int (0 : Int32)), (2, .int (0 : Int32)), (0, .ref a0), (1, .int a1)]) hX eX7_digits_39 rfl (by decide) rfl ?_
      exact j_sub [2, 3, 1, 0] rfl (k40 _ _ _ _ _ h)
    · replace h := h.1 c5
      refine j_aload_n hX eX7_digits_14 0 rfl ?_
      refine j_callV (a := a0) (q := (RX7, TX7, 17)) (r' := rX7_here) (As := []) (rest := [.ref a0]) (d1 := d) hX eX7_digits_15 mm_LiftGroupModel_221 rfl t4 (by decide) rfl h rfl (Nat.le_refl _) (Nat.zero_le _) (Nat.zero_le _) (Nat.le_of_ble_eq_true rfl) (fun vz9 Mz9 qz9 => ?_) (fun Ez9 Mz9 qz9 => ?_)
      · obtain ⟨M9, eMz9⟩ : ∃ M9, M9 = Mz9 := ⟨_, rfl⟩; subst eMz9
        obtain ⟨v10, hxz9, h⟩ := qz9
        cases hxz9
        refine j_bipush (v := (48 : Int32)) hX eX7_digits_18 (by decide) ?_
        refine j_bipush (v := (57 : Int32)) hX eX7_digits_20 (by decide) ?_
        refine j_callS (r' := rX7_in) (As := [.int v10, .int (48 : Int32), .int (57 : Int32)]) (rest := [.ref a0]) (d1 := d) hX eX7_digits_22 mm_LiftGroupModel_52 rfl rfl h rfl (Nat.le_refl _) (Nat.zero_le _) (Nat.zero_le _) (Nat.le_of_ble_eq_true rfl) (fun vz9 Mz9 qz9 => ?_) (fun Ez9 Mz9 qz9 => ?_)
        · obtain ⟨M11, eMz9⟩ : ∃ M11, M11 = Mz9 := ⟨_, rfl⟩; subst eMz9
          obtain ⟨v12, hxz9, h⟩ := qz9
          cases hxz9
          refine j_if_ne hX 32 eX7_digits_25 (by decide) (fun c13 => ?_) (fun c13 => ?_)
          · replace h := h.2 c13
            refine j_iconst (v := (0 : Int32)) hX eX7_digits_32 (by decide) ?_
            obtain ⟨t14, h⟩ := h
            obtain ⟨b15, h⟩ := h
            refine j_putI (ty := .boolean) hX eX7_digits_33 ff_LiftGroupModel_217 rfl t14 (by decide) pp_7_15 (am_bo_n b15) (am_bo_f b15) ?_
            refine j_nmM (fun M16 eM16 => ?_)
            replace h := h M16 eM16
            have t17 : hp_T M16 (a0) = 8 := by rw [eM16]; exact t14
            refine j_iconst (v := (0 : Int32)) hX eX7_digits_36 (by decide) ?_
            refine j_istore_n (lv' := [(2, .int (0 : Int32)), (0, .ref a0), (1, .int a1)]) hX eX7_digits_37 rfl (by decide) rfl ?_
            refine j_iconst (v := (0 : Int32)) hX eX7_digits_38 (by decide) ?_
            refine j_istore_n (lv' := [(3, .int (0 : Int32)), (2, .int (0 : Int32)), (0, .ref a0), (1, .int a1)]) hX eX7_digits_39 rfl (by decide) rfl ?_
            exact j_sub [2, 3, 1, 0] rfl (k40 _ _ _ _ _ h)
          · replace h := h.1 c13
            refine j_iconst (v := (1 : Int32)) hX eX7_digits_28 (by decide) ?_
            refine j_goto hX 33 eX7_digits_29 (by decide) ?_
            obtain ⟨t18, h⟩ := h
            obtain ⟨b19, h⟩ := h
            refine j_putI (ty := .boolean) hX eX7_digits_33 ff_LiftGroupModel_217 rfl t18 (by decide) pp_7_15 (am_bo_n b19) (am_bo_f b19) ?_
            refine j_nmM (fun M20 eM20 => ?_)
            replace h := h M20 eM20
            have t21 : hp_T M20 (a0) = 8 := by rw [eM20]; exact t18
            refine j_iconst (v := (0 : Int32)) hX eX7_digits_36 (by decide) ?_
            refine j_istore_n (lv' := [(2, .int (0 : Int32)), (0, .ref a0), (1, .int a1)]) hX eX7_digits_37 rfl (by decide) rfl ?_
            refine j_iconst (v := (0 : Int32)) hX eX7_digits_38 (by decide) ?_
            refine j_istore_n (lv' := [(3, .int (0 : Int32)), (2, .int (0 : Int32)), (0, .ref a0), (1, .int a1)]) hX eX7_digits_39 rfl (by decide) rfl ?_
            exact j_sub [2, 3, 1, 0] rfl (k40 _ _ _ _ _ h)
        · obtain ⟨v12, hxz9, h⟩ := qz9
          cases hxz9
      · obtain ⟨v10, hxz9, h⟩ := qz9
        cases hxz9
  · obtain ⟨hxz9, h⟩ := qz9
    cases hxz9
set_option maxHeartbeats 4000000 in
set_option maxRecDepth 20000 in
theorem vX7_digits_40 {X : am_Cx} {G : am_Gx} {d : Nat} {Q : am_Q} (hX : am_ok X rX7_digits G (d + 1)) (hM : am_me X rX7_digits Q) {bc bs : Nat} (R40 : Nat → Int32 → Int32 → Int32 → am_Hp → Prop) (k40 : ∀ (x0 : Nat) (x1 : Int32) (x2 : Int32) (x3 : Int32) (M : am_Hp), R40 x0 x1 x2 x3 M → am_J X 40 [(0, .ref x0), (1, .int x1), (2, .int x2), (3, .int x3)] [] M bc bs) {a0 : Nat} {a1 : Int32} {a2 : Int32} {a3 : Int32} {M : am_Hp} (h : hp_T M (a0) = 8 ∧ ((((hp_I M 155 a0) = 0) → (((a1 ≤ a3) → (Q (.inl (some (.int a2))) M)) ∧ (¬ (a1 ≤ a3) → (am_CT G d rX7_here [.ref a0] M 0 0 (fun oz9 M4 => ∃ v5 : Int32, oz9 = .inl (some (.int v5)) ∧ (am_CT G d rX7_in [.int v5, .int (48 : Int32), .int (57 : Int32)] M4 0 0 (fun oz9 M6 => ∃ v7 : Int32, oz9 = .inl (some (.int v7)) ∧ (((v7 = 0) → (Q (.inl (some (.int a2))) M6)) ∧ (¬ (v7 = 0) → (hp_T M6 (a0) = 8 ∧ (am_CT G d rX7_here [.ref a0] M6 0 0 (fun oz9 M9 => ∃ v10 : Int32, oz9 = .inl (some (.int v10)) ∧ (∀ v12 : Int32, v12 = ((((10 : Int32) * a2) + v10) - (48 : Int32)) → (hp_T M9 (a0) = 8 ∧ (∀ M14 : am_Hp, M14 = hp_sI M9 154 a0 ((hp_I M9 154 a0) + (1 : Int32)) → (∀ v16 : Int32, v16 = a3 + (1 : Int32) → (R40 a0 a1 v12 v16 M14))))))))))))))))) ∧ (¬ ((hp_I M 155 a0) = 0) → (Q (.inl (some (.int a2))) M)))) : am_J X 40 [(0, .ref a0), (1, .int a1), (2, .int a2), (3, .int a3)] [] M bc bs := by
  refine j_aload_n hX eX7_digits_40 0 rfl ?_
  obtain ⟨t1, h⟩ := h
  refine j_getI hX eX7_digits_41 ff_LiftGroupModel_217 rfl t1 (by decide) ?_
  refine j_if_ne hX 95 eX7_digits_44 (by decide) (fun c2 => ?_) (fun c2 => ?_)
  · replace h := h.2 c2
    refine j_iload_n hX eX7_digits_95 2 rfl ?_
    exact j_iret hX hM eX7_digits_96 rfl h
  · replace h := h.1 c2
    refine j_iload_n hX eX7_digits_47 3 rfl ?_
    refine j_iload_n hX eX7_digits_48 1 rfl ?_
    refine j_icmp_ge hX 95 eX7_digits_49 (by decide) (fun c3 => ?_) (fun c3 => ?_)
    · replace h := h.1 c3
      refine j_iload_n hX eX7_digits_95 2 rfl ?_
      exact j_iret hX hM eX7_digits_96 rfl h
    · replace h := h.2 c3
      refine j_aload_n hX eX7_digits_52 0 rfl ?_
      refine j_callV (a := a0) (q := (RX7, TX7, 17)) (r' := rX7_here) (As := []) (rest := []) (d1 := d) hX eX7_digits_53 mm_LiftGroupModel_221 rfl t1 (by decide) rfl h rfl (Nat.le_refl _) (Nat.zero_le _) (Nat.zero_le _) (Nat.le_of_ble_eq_true rfl) (fun vz9 Mz9 qz9 => ?_) (fun Ez9 Mz9 qz9 => ?_)
      · obtain ⟨M4, eMz9⟩ : ∃ M4, M4 = Mz9 := ⟨_, rfl⟩; subst eMz9
        obtain ⟨v5, hxz9, h⟩ := qz9
        cases hxz9
        refine j_bipush (v := (48 : Int32)) hX eX7_digits_56 (by decide) ?_
        refine j_bipush (v := (57 : Int32)) hX eX7_digits_58 (by decide) ?_
        refine j_callS (r' := rX7_in) (As := [.int v5, .int (48 : Int32), .int (57 : Int32)]) (rest := []) (d1 := d) hX eX7_digits_60 mm_LiftGroupModel_52 rfl rfl h rfl (Nat.le_refl _) (Nat.zero_le _) (Nat.zero_le _) (Nat.le_of_ble_eq_true rfl) (fun vz9 Mz9 qz9 => ?_) (fun Ez9 Mz9 qz9 => ?_)
        · obtain ⟨M6, eMz9⟩ : ∃ M6, M6 = Mz9 := ⟨_, rfl⟩; subst eMz9
          obtain ⟨v7, hxz9, h⟩ := qz9
          cases hxz9
          refine j_if_eq hX 95 eX7_digits_63 (by decide) (fun c8 => ?_) (fun c8 => ?_)
          · replace h := h.1 c8
            refine j_iload_n hX eX7_digits_95 2 rfl ?_
            exact j_iret hX hM eX7_digits_96 rfl h
          · replace h := h.2 c8
            refine j_bipush (v := (10 : Int32)) hX eX7_digits_66 (by decide) ?_
            refine j_iload_n hX eX7_digits_68 2 rfl ?_
            refine j_imul hX eX7_digits_69 ?_
            refine j_aload_n hX eX7_digits_70 0 rfl ?_
            obtain ⟨t11, h⟩ := h
            refine j_callV (a := a0) (q := (RX7, TX7, 17)) (r' := rX7_here) (As := []) (rest := [.int ((10 : Int32) * a2)]) (d1 := d) hX eX7_digits_71 mm_LiftGroupModel_221 rfl t11 (by decide) rfl h rfl (Nat.le_refl _) (Nat.zero_le _) (Nat.zero_le _) (Nat.le_of_ble_eq_true rfl) (fun vz9 Mz9 qz9 => ?_) (fun Ez9 Mz9 qz9 => ?_)
            · obtain ⟨M9, eMz9⟩ : ∃ M9, M9 = Mz9 := ⟨_, rfl⟩; subst eMz9
              obtain ⟨v10, hxz9, h⟩ := qz9
              cases hxz9
              refine j_iadd hX eX7_digits_74 ?_
              refine j_bipush (v := (48 : Int32)) hX eX7_digits_75 (by decide) ?_
              refine j_isub hX eX7_digits_77 ?_
              refine j_nmI (fun v12 ev12 => ?_)
              replace h := h v12 ev12
              refine j_istore_n (lv' := [(2, .int v12), (0, .ref a0), (1, .int a1), (3, .int a3)]) hX eX7_digits_78 rfl (by decide) rfl ?_
              refine j_aload_n hX eX7_digits_79 1 rfl ?_
              refine j_dup hX eX7_digits_80 rfl ?_
              obtain ⟨t13, h⟩ := h
              refine j_getI hX eX7_digits_81 ff_LiftGroupModel_214 rfl t13 (by decide) ?_
              refine j_iconst (v := (1 : Int32)) hX eX7_digits_84 (by decide) ?_
              refine j_iadd hX eX7_digits_85 ?_
              refine j_putI (ty := .int) hX eX7_digits_86 ff_LiftGroupModel_214 rfl t13 (by decide) pp_7_14 rfl rfl ?_
              refine j_nmM (fun M14 eM14 => ?_)
              replace h := h M14 eM14
              have t15 : hp_T M14 (a0) = 8 := by rw [eM14]; exact t13
              obtain ⟨v16, ev16⟩ : ∃ v16 : Int32, v16 = a3 + (1 : Int32) := ⟨_, rfl⟩
              replace h := h v16 ev16
              refine j_iinc (v := v16) (lv' := [(3, .int v16), (2, .int v12), (0, .ref a0), (1, .int a1)]) hX eX7_digits_89 3 rfl (by rw [ev16]; rfl) (by decide) rfl ?_
              refine j_goto hX 40 eX7_digits_92 (by decide) ?_
              exact j_sub [2, 3, 1, 0] rfl (k40 _ _ _ _ _ h)
            · obtain ⟨v10, hxz9, h⟩ := qz9
              cases hxz9
        · obtain ⟨v7, hxz9, h⟩ := qz9
          cases hxz9
      · obtain ⟨v5, hxz9, h⟩ := qz9
        cases hxz9

set_option maxHeartbeats 4000000 in
set_option maxRecDepth 20000 in
theorem vX7_parsesS_0 {X : am_Cx} {G : am_Gx} {d : Nat} {Q : am_Q} (hX : am_ok X rX7_parsesS G (d + 1)) (hM : am_me X rX7_parsesS Q) {bc bs : Nat}  {a0 : Nat} {a1 : Int32} {M : am_Hp} (h : hp_T M (a0) = 8 ∧ (am_CT G d rX7_needs [.ref a0, .int (116 : Int32)] M 0 0 (fun oz9 M1 => oz9 = .inl none ∧ (hp_T M1 (a0) = 8 ∧ ((((hp_I M1 155 a0) = 0) → (am_CT G d rX7_here [.ref a0] M1 0 0 (fun oz9 M6 => ∃ v7 : Int32, oz9 = .inl (some (.int v7)) ∧ (((v7 = (111 : Int32)) → (hp_T M6 (a0) = 8 ∧ (hp_R M6 156 a0 ≠ 0 ∧ (∀ p60 : Nat, p60 = hp_R M6 156 a0 → (hp_T M6 (p60) = 22 ∧ (vp_in a1 (hp_N M6 p60) ∧ (∀ M63 : am_Hp, M63 = hp_sE M6 p60 (a1).toNatClampNeg (111 : Int32) → (am_CT G d rX7_needs [.ref a0, .int (111 : Int32)] M63 0 0 (fun oz9 M66 => oz9 = .inl none ∧ (hp_T M66 (a0) = 8 ∧ (am_CT G d rX7_needs [.ref a0, .int (112 : Int32)] M66 0 0 (fun oz9 M68 => oz9 = .inl none ∧ (hp_T M68 (a0) = 8 ∧ (hp_R M68 156 a0 ≠ 0 ∧ (∀ p73 : Nat, p73 = hp_R M68 156 a0 → (am_CT G d rX7_digits [.ref a0, .int (1 : Int32)] M68 0 0 (fun oz9 M74 => ∃ v75 : Int32, oz9 = .inl (some (.int v75)) ∧ (hp_T M74 (p73) = 22 ∧ (vp_in (a1 + (1 : Int32)) (hp_N M74 p73) ∧ (∀ M78 : am_Hp, M78 = hp_sE M74 p73 ((a1 + (1 : Int32))).toNatClampNeg v75 → (Q (.inl none) M78))))))))))))))))))))) ∧ (¬ (v7 = (111 : Int32)) → (((v7 = (97 : Int32)) → (hp_T M6 (a0) = 8 ∧ (hp_R M6 156 a0 ≠ 0 ∧ (∀ p41 : Nat, p41 = hp_R M6 156 a0 → (hp_T M6 (p41) = 22 ∧ (vp_in a1 (hp_N M6 p41) ∧ (∀ M44 : am_Hp, M44 = hp_sE M6 p41 (a1).toNatClampNeg (97 : Int32) → (am_CT G d rX7_needsThree [.ref a0, .int (97 : Int32), .int (114 : Int32), .int (116 : Int32)] M44 0 0 (fun oz9 M47 => oz9 = .inl none ∧ (hp_T M47 (a0) = 8 ∧ (hp_R M47 156 a0 ≠ 0 ∧ (∀ p51 : Nat, p51 = hp_R M47 156 a0 → (am_CT G d rX7_digits [.ref a0, .int (1 : Int32)] M47 0 0 (fun oz9 M52 => ∃ v53 : Int32, oz9 = .inl (some (.int v53)) ∧ (hp_T M52 (p51) = 22 ∧ (vp_in (a1 + (1 : Int32)) (hp_N M52 p51) ∧ (∀ M56 : am_Hp, M56 = hp_sE M52 p51 ((a1 + (1 : Int32))).toNatClampNeg v53 → (Q (.inl none) M56)))))))))))))))))) ∧ (¬ (v7 = (97 : Int32)) → (hp_T M6 (a0) = 8 ∧ (am_CT G d rX7_needs [.ref a0, .int (101 : Int32)] M6 0 0 (fun oz9 M10 => oz9 = .inl none ∧ (hp_T M10 (a0) = 8 ∧ (am_CT G d rX7_needs [.ref a0, .int (112 : Int32)] M10 0 0 (fun oz9 M13 => oz9 = .inl none ∧ (hp_T M13 (a0) = 8 ∧ (hp_R M13 156 a0 ≠ 0 ∧ (∀ p18 : Nat, p18 = hp_R M13 156 a0 → ((((hp_I M13 155 a0) = 0) → (am_CT G d rX7_here [.ref a0] M13 0 0 (fun oz9 M25 => ∃ v26 : Int32, oz9 = .inl (some (.int v26)) ∧ (((v26 = (32 : Int32)) → (hp_T M25 (a0) = 8 ∧ (am_CT G d rX7_digits [.ref a0, .int (3 : Int32)] M25 0 0 (fun oz9 M32 => ∃ v33 : Int32, oz9 = .inl (some (.int v33)) ∧ (hp_T M32 (p18) = 22 ∧ (vp_in (a1 + (1 : Int32)) (hp_N M32 p18) ∧ (∀ M37 : am_Hp, M37 = hp_sE M32 p18 ((a1 + (1 : Int32))).toNatClampNeg v33 → (Q (.inl none) M37)))))))) ∧ (¬ (v26 = (32 : Int32)) → (hp_T M25 (p18) = 22 ∧ (vp_in (a1 + (1 : Int32)) (hp_N M25 p18) ∧ (∀ M30 : am_Hp, M30 = hp_sE M25 p18 ((a1 + (1 : Int32))).toNatClampNeg (1 : Int32) → (Q (.inl none) M30))))))))) ∧ (¬ ((hp_I M13 155 a0) = 0) → (hp_T M13 (p18) = 22 ∧ (vp_in (a1 + (1 : Int32)) (hp_N M13 p18) ∧ (∀ M22 : am_Hp, M22 = hp_sE M13 p18 ((a1 + (1 : Int32))).toNatClampNeg (1 : Int32) → (Q (.inl none) M22)))))))))))))))))))))) ∧ (¬ ((hp_I M1 155 a0) = 0) → ((((-1 : Int32) = (111 : Int32)) → (hp_R M1 156 a0 ≠ 0 ∧ (∀ p129 : Nat, p129 = hp_R M1 156 a0 → (hp_T M1 (p129) = 22 ∧ (vp_in a1 (hp_N M1 p129) ∧ (∀ M132 : am_Hp, M132 = hp_sE M1 p129 (a1).toNatClampNeg (111 : Int32) → (am_CT G d rX7_needs [.ref a0, .int (111 : Int32)] M132 0 0 (fun oz9 M135 => oz9 = .inl none ∧ (hp_T M135 (a0) = 8 ∧ (am_CT G d rX7_needs [.ref a0, .int (112 : Int32)] M135 0 0 (fun oz9 M137 => oz9 = .inl none ∧ (hp_T M137 (a0) = 8 ∧ (hp_R M137 156 a0 ≠ 0 ∧ (∀ p142 : Nat, p142 = hp_R M137 156 a0 → (am_CT G d rX7_digits [.ref a0, .int (1 : Int32)] M137 0 0 (fun oz9 M143 => ∃ v144 : Int32, oz9 = .inl (some (.int v144)) ∧ (hp_T M143 (p142) = 22 ∧ (vp_in (a1 + (1 : Int32)) (hp_N M143 p142) ∧ (∀ M147 : am_Hp, M147 = hp_sE M143 p142 ((a1 + (1 : Int32))).toNatClampNeg v144 → (Q (.inl none) M147)))))))))))))))))))) ∧ (¬ ((-1 : Int32) = (111 : Int32)) → ((((-1 : Int32) = (97 : Int32)) → (hp_R M1 156 a0 ≠ 0 ∧ (∀ p111 : Nat, p111 = hp_R M1 156 a0 → (hp_T M1 (p111) = 22 ∧ (vp_in a1 (hp_N M1 p111) ∧ (∀ M114 : am_Hp, M114 = hp_sE M1 p111 (a1).toNatClampNeg (97 : Int32) → (am_CT G d rX7_needsThree [.ref a0, .int (97 : Int32), .int (114 : Int32), .int (116 : Int32)] M114 0 0 (fun oz9 M117 => oz9 = .inl none ∧ (hp_T M117 (a0) = 8 ∧ (hp_R M117 156 a0 ≠ 0 ∧ (∀ p121 : Nat, p121 = hp_R M117 156 a0 → (am_CT G d rX7_digits [.ref a0, .int (1 : Int32)] M117 0 0 (fun oz9 M122 => ∃ v123 : Int32, oz9 = .inl (some (.int v123)) ∧ (hp_T M122 (p121) = 22 ∧ (vp_in (a1 + (1 : Int32)) (hp_N M122 p121) ∧ (∀ M126 : am_Hp, M126 = hp_sE M122 p121 ((a1 + (1 : Int32))).toNatClampNeg v123 → (Q (.inl none) M126))))))))))))))))) ∧ (¬ ((-1 : Int32) = (97 : Int32)) → (am_CT G d rX7_needs [.ref a0, .int (101 : Int32)] M1 0 0 (fun oz9 M82 => oz9 = .inl none ∧ (hp_T M82 (a0) = 8 ∧ (am_CT G d rX7_needs [.ref a0, .int (112 : Int32)] M82 0 0 (fun oz9 M84 => oz9 = .inl none ∧ (hp_T M84 (a0) = 8 ∧ (hp_R M84 156 a0 ≠ 0 ∧ (∀ p89 : Nat, p89 = hp_R M84 156 a0 → ((((hp_I M84 155 a0) = 0) → (am_CT G d rX7_here [.ref a0] M84 0 0 (fun oz9 M96 => ∃ v97 : Int32, oz9 = .inl (some (.int v97)) ∧ (((v97 = (32 : Int32)) → (hp_T M96 (a0) = 8 ∧ (am_CT G d rX7_digits [.ref a0, .int (3 : Int32)] M96 0 0 (fun oz9 M103 => ∃ v104 : Int32, oz9 = .inl (some (.int v104)) ∧ (hp_T M103 (p89) = 22 ∧ (vp_in (a1 + (1 : Int32)) (hp_N M103 p89) ∧ (∀ M108 : am_Hp, M108 = hp_sE M103 p89 ((a1 + (1 : Int32))).toNatClampNeg v104 → (Q (.inl none) M108)))))))) ∧ (¬ (v97 = (32 : Int32)) → (hp_T M96 (p89) = 22 ∧ (vp_in (a1 + (1 : Int32)) (hp_N M96 p89) ∧ (∀ M101 : am_Hp, M101 = hp_sE M96 p89 ((a1 + (1 : Int32))).toNatClampNeg (1 : Int32) → (Q (.inl none) M101))))))))) ∧ (¬ ((hp_I M84 155 a0) = 0) → (hp_T M84 (p89) = 22 ∧ (vp_in (a1 + (1 : Int32)) (hp_N M84 p89) ∧ (∀ M93 : am_Hp, M93 = hp_sE M84 p89 ((a1 + (1 : Int32))).toNatClampNeg (1 : Int32) → (Q (.inl none) M93)))))))))))))))))))))))) : am_J X 0 [(0, .ref a0), (1, .int a1)] [] M bc bs := by
  refine j_aload_n hX eX7_parsesS_0 0 rfl ?_
  refine j_bipush (v := (116 : Int32)) hX eX7_parsesS_1 (by decide) ?_
  obtain ⟨t3, h⟩ := h
  refine j_callV (a := a0) (q := (RX7, TX7, 17)) (r' := rX7_needs) (As := [.int (116 : Int32)]) (rest := []) (d1 := d) hX eX7_parsesS_3 mm_LiftGroupModel_225 rfl t3 (by decide) rfl h rfl (Nat.le_refl _) (Nat.zero_le _) (Nat.zero_le _) (Nat.le_of_ble_eq_true rfl) (fun vz9 Mz9 qz9 => ?_) (fun Ez9 Mz9 qz9 => ?_)
  · obtain ⟨M1, eMz9⟩ : ∃ M1, M1 = Mz9 := ⟨_, rfl⟩; subst eMz9
    obtain ⟨hxz9, h⟩ := qz9
    cases hxz9
    refine j_aload_n hX eX7_parsesS_6 0 rfl ?_
    obtain ⟨t4, h⟩ := h
    refine j_getI hX eX7_parsesS_7 ff_LiftGroupModel_217 rfl t4 (by decide) ?_
    refine j_if_eq hX 17 eX7_parsesS_10 (by decide) (fun c5 => ?_) (fun c5 => ?_)
    · replace h := h.1 c5
      refine j_aload_n hX eX7_parsesS_17 0 rfl ?_
      refine j_callV (a := a0) (q := (RX7, TX7, 17)) (r' := rX7_here) (As := []) (rest := []) (d1 := d) hX eX7_parsesS_18 mm_LiftGroupModel_221 rfl t4 (by decide) rfl h rfl (Nat.le_refl _) (Nat.zero_le _) (Nat.zero_le _) (Nat.le_of_ble_eq_true rfl) (fun vz9 Mz9 qz9 => ?_) (fun Ez9 Mz9 qz9 => ?_)
      · obtain ⟨M6, eMz9⟩ : ∃ M6, M6 = Mz9 := ⟨_, rfl⟩; subst eMz9
        obtain ⟨v7, hxz9, h⟩ := qz9
        cases hxz9
        refine j_istore_n (lv' := [(2, .int v7), (0, .ref a0), (1, .int a1)]) hX eX7_parsesS_21 rfl (by decide) rfl ?_
        refine j_iload_n hX eX7_parsesS_22 0 rfl ?_
        refine j_bipush (v := (111 : Int32)) hX eX7_parsesS_23 (by decide) ?_
        refine j_icmp_ne hX 64 eX7_parsesS_25 (by decide) (fun c8 => ?_) (fun c8 => ?_)
        · replace h := h.2 c8
          refine j_iload_n hX eX7_parsesS_64 0 rfl ?_
          refine j_bipush (v := (97 : Int32)) hX eX7_parsesS_65 (by decide) ?_
          refine j_icmp_ne hX 104 eX7_parsesS_67 (by decide) (fun c9 => ?_) (fun c9 => ?_)
          · replace h := h.2 c9
            refine j_aload_n hX eX7_parsesS_104 1 rfl ?_
            refine j_bipush (v := (101 : Int32)) hX eX7_parsesS_105 (by decide) ?_
            obtain ⟨t12, h⟩ := h
            refine j_callV (a := a0) (q := (RX7, TX7, 17)) (r' := rX7_needs) (As := [.int (101 : Int32)]) (rest := []) (d1 := d) hX eX7_parsesS_107 mm_LiftGroupModel_225 rfl t12 (by decide) rfl h rfl (Nat.le_refl _) (Nat.zero_le _) (Nat.zero_le _) (Nat.le_of_ble_eq_true rfl) (fun vz9 Mz9 qz9 => ?_) (fun Ez9 Mz9 qz9 => ?_)
            · obtain ⟨M10, eMz9⟩ : ∃ M10, M10 = Mz9 := ⟨_, rfl⟩; subst eMz9
              obtain ⟨hxz9, h⟩ := qz9
              cases hxz9
              refine j_aload_n hX eX7_parsesS_110 1 rfl ?_
              refine j_bipush (v := (112 : Int32)) hX eX7_parsesS_111 (by decide) ?_
              obtain ⟨t15, h⟩ := h
              refine j_callV (a := a0) (q := (RX7, TX7, 17)) (r' := rX7_needs) (As := [.int (112 : Int32)]) (rest := []) (d1 := d) hX eX7_parsesS_113 mm_LiftGroupModel_225 rfl t15 (by decide) rfl h rfl (Nat.le_refl _) (Nat.zero_le _) (Nat.zero_le _) (Nat.le_of_ble_eq_true rfl) (fun vz9 Mz9 qz9 => ?_) (fun Ez9 Mz9 qz9 => ?_)
              · obtain ⟨M13, eMz9⟩ : ∃ M13, M13 = Mz9 := ⟨_, rfl⟩; subst eMz9
                obtain ⟨hxz9, h⟩ := qz9
                cases hxz9
                refine j_aload_n hX eX7_parsesS_116 1 rfl ?_
                obtain ⟨t16, h⟩ := h
                obtain ⟨z17, h⟩ := h
                refine j_getR hX eX7_parsesS_117 ff_LiftGroupModel_39 rfl t16 (by decide) z17 ?_
                refine j_nmR (fun p18 ep18 => ?_)
                replace h := h p18 ep18
                refine j_iload_n hX eX7_parsesS_120 2 rfl ?_
                refine j_iconst (v := (1 : Int32)) hX eX7_parsesS_121 (by decide) ?_
                refine j_iadd hX eX7_parsesS_122 ?_
                refine j_aload_n hX eX7_parsesS_123 1 rfl ?_
                refine j_getI hX eX7_parsesS_124 ff_LiftGroupModel_217 rfl t16 (by decide) ?_
                refine j_if_ne hX 147 eX7_parsesS_127 (by decide) (fun c19 => ?_) (fun c19 => ?_)
                · replace h := h.2 c19
                  refine j_iconst (v := (1 : Int32)) hX eX7_parsesS_147 (by decide) ?_
                  obtain ⟨t20, h⟩ := h
                  obtain ⟨i21, h⟩ := h
                  refine j_iast hX eX7_parsesS_148 t20 i21 ?_
                  refine j_nmM (fun M22 eM22 => ?_)
                  replace h := h M22 eM22
                  have t23 : hp_T M22 (a0) = 8 := by rw [eM22]; exact t16
                  have t24 : hp_T M22 (p18) = 22 := by rw [eM22]; exact t20
                  exact j_vret hX hM eX7_parsesS_149 rfl h
                · replace h := h.1 c19
                  refine j_aload_n hX eX7_parsesS_130 1 rfl ?_
                  refine j_callV (a := a0) (q := (RX7, TX7, 17)) (r' := rX7_here) (As := []) (rest := [.int (a1 + (1 : Int32)), .ref p18]) (d1 := d) hX eX7_parsesS_131 mm_LiftGroupModel_221 rfl t16 (by decide) rfl h rfl (Nat.le_refl _) (Nat.zero_le _) (Nat.zero_le _) (Nat.le_of_ble_eq_true rfl) (fun vz9 Mz9 qz9 => ?_) (fun Ez9 Mz9 qz9 => ?_)
                  · obtain ⟨M25, eMz9⟩ : ∃ M25, M25 = Mz9 := ⟨_, rfl⟩; subst eMz9
                    obtain ⟨v26, hxz9, h⟩ := qz9
                    cases hxz9
                    refine j_bipush (v := (32 : Int32)) hX eX7_parsesS_134 (by decide) ?_
                    refine j_icmp_ne hX 147 eX7_parsesS_136 (by decide) (fun c27 => ?_) (fun c27 => ?_)
                    · replace h := h.2 c27
                      refine j_iconst (v := (1 : Int32)) hX eX7_parsesS_147 (by decide) ?_
                      obtain ⟨t28, h⟩ := h
                      obtain ⟨i29, h⟩ := h
                      refine j_iast hX eX7_parsesS_148 t28 i29 ?_
                      refine j_nmM (fun M30 eM30 => ?_)
                      replace h := h M30 eM30
                      have t31 : hp_T M30 (p18) = 22 := by rw [eM30]; exact t28
                      exact j_vret hX hM eX7_parsesS_149 rfl h
                    · replace h := h.1 c27
                      refine j_aload_n hX eX7_parsesS_139 1 rfl ?_
                      refine j_iconst (v := (3 : Int32)) hX eX7_parsesS_140 (by decide) ?_
                      obtain ⟨t34, h⟩ := h
                      refine j_callV (a := a0) (q := (RX7, TX7, 17)) (r' := rX7_digits) (As := [.int (3 : Int32)]) (rest := [.int (a1 + (1 : Int32)), .ref p18]) (d1 := d) hX eX7_parsesS_141 mm_LiftGroupModel_228 rfl t34 (by decide) rfl h rfl (Nat.le_refl _) (Nat.zero_le _) (Nat.zero_le _) (Nat.le_of_ble_eq_true rfl) (fun vz9 Mz9 qz9 => ?_) (fun Ez9 Mz9 qz9 => ?_)
                      · obtain ⟨M32, eMz9⟩ : ∃ M32, M32 = Mz9 := ⟨_, rfl⟩; subst eMz9
                        obtain ⟨v33, hxz9, h⟩ := qz9
                        cases hxz9
                        refine j_goto hX 148 eX7_parsesS_144 (by decide) ?_
                        obtain ⟨t35, h⟩ := h
                        obtain ⟨i36, h⟩ := h
                        refine j_iast hX eX7_parsesS_148 t35 i36 ?_
                        refine j_nmM (fun M37 eM37 => ?_)
                        replace h := h M37 eM37
                        have t38 : hp_T M37 (p18) = 22 := by rw [eM37]; exact t35
                        exact j_vret hX hM eX7_parsesS_149 rfl h
                      · obtain ⟨v33, hxz9, h⟩ := qz9
                        cases hxz9
                  · obtain ⟨v26, hxz9, h⟩ := qz9
                    cases hxz9
              · obtain ⟨hxz9, h⟩ := qz9
                cases hxz9
            · obtain ⟨hxz9, h⟩ := qz9
              cases hxz9
          · replace h := h.1 c9
            refine j_aload_n hX eX7_parsesS_70 1 rfl ?_
            obtain ⟨t39, h⟩ := h
            obtain ⟨z40, h⟩ := h
            refine j_getR hX eX7_parsesS_71 ff_LiftGroupModel_39 rfl t39 (by decide) z40 ?_
            refine j_nmR (fun p41 ep41 => ?_)
            replace h := h p41 ep41
            refine j_iload_n hX eX7_parsesS_74 2 rfl ?_
            refine j_bipush (v := (97 : Int32)) hX eX7_parsesS_75 (by decide) ?_
            obtain ⟨t42, h⟩ := h
            obtain ⟨i43, h⟩ := h
            refine j_iast hX eX7_parsesS_77 t42 i43 ?_
            refine j_nmM (fun M44 eM44 => ?_)
            replace h := h M44 eM44
            have t45 : hp_T M44 (a0) = 8 := by rw [eM44]; exact t39
            have t46 : hp_T M44 (p41) = 22 := by rw [eM44]; exact t42
            refine j_aload_n hX eX7_parsesS_78 1 rfl ?_
            refine j_bipush (v := (97 : Int32)) hX eX7_parsesS_79 (by decide) ?_
            refine j_bipush (v := (114 : Int32)) hX eX7_parsesS_81 (by decide) ?_
            refine j_bipush (v := (116 : Int32)) hX eX7_parsesS_83 (by decide) ?_
            refine j_callV (a := a0) (q := (RX7, TX7, 17)) (r' := rX7_needsThree) (As := [.int (97 : Int32), .int (114 : Int32), .int (116 : Int32)]) (rest := []) (d1 := d) hX eX7_parsesS_85 mm_LiftGroupModel_231 rfl t45 (by decide) rfl h rfl (Nat.le_refl _) (Nat.zero_le _) (Nat.zero_le _) (Nat.le_of_ble_eq_true rfl) (fun vz9 Mz9 qz9 => ?_) (fun Ez9 Mz9 qz9 => ?_)
            · obtain ⟨M47, eMz9⟩ : ∃ M47, M47 = Mz9 := ⟨_, rfl⟩; subst eMz9
              obtain ⟨hxz9, h⟩ := qz9
              cases hxz9
              refine j_aload_n hX eX7_parsesS_88 1 rfl ?_
              obtain ⟨t49, h⟩ := h
              obtain ⟨z50, h⟩ := h
              refine j_getR hX eX7_parsesS_89 ff_LiftGroupModel_39 rfl t49 (by decide) z50 ?_
              refine j_nmR (fun p51 ep51 => ?_)
              replace h := h p51 ep51
              refine j_iload_n hX eX7_parsesS_92 2 rfl ?_
              refine j_iconst (v := (1 : Int32)) hX eX7_parsesS_93 (by decide) ?_
              refine j_iadd hX eX7_parsesS_94 ?_
              refine j_aload_n hX eX7_parsesS_95 1 rfl ?_
              refine j_iconst (v := (1 : Int32)) hX eX7_parsesS_96 (by decide) ?_
              refine j_callV (a := a0) (q := (RX7, TX7, 17)) (r' := rX7_digits) (As := [.int (1 : Int32)]) (rest := [.int (a1 + (1 : Int32)), .ref p51]) (d1 := d) hX eX7_parsesS_97 mm_LiftGroupModel_228 rfl t49 (by decide) rfl h rfl (Nat.le_refl _) (Nat.zero_le _) (Nat.zero_le _) (Nat.le_of_ble_eq_true rfl) (fun vz9 Mz9 qz9 => ?_) (fun Ez9 Mz9 qz9 => ?_)
              · obtain ⟨M52, eMz9⟩ : ∃ M52, M52 = Mz9 := ⟨_, rfl⟩; subst eMz9
                obtain ⟨v53, hxz9, h⟩ := qz9
                cases hxz9
                obtain ⟨t54, h⟩ := h
                obtain ⟨i55, h⟩ := h
                refine j_iast hX eX7_parsesS_100 t54 i55 ?_
                refine j_nmM (fun M56 eM56 => ?_)
                replace h := h M56 eM56
                have t57 : hp_T M56 (p51) = 22 := by rw [eM56]; exact t54
                refine j_goto hX 149 eX7_parsesS_101 (by decide) ?_
                exact j_vret hX hM eX7_parsesS_149 rfl h
              · obtain ⟨v53, hxz9, h⟩ := qz9
                cases hxz9
            · obtain ⟨hxz9, h⟩ := qz9
              cases hxz9
        · replace h := h.1 c8
          refine j_aload_n hX eX7_parsesS_28 1 rfl ?_
          obtain ⟨t58, h⟩ := h
          obtain ⟨z59, h⟩ := h
          refine j_getR hX eX7_parsesS_29 ff_LiftGroupModel_39 rfl t58 (by decide) z59 ?_
          refine j_nmR (fun p60 ep60 => ?_)
          replace h := h p60 ep60
          refine j_iload_n hX eX7_parsesS_32 2 rfl ?_
          refine j_bipush (v := (111 : Int32)) hX eX7_parsesS_33 (by decide) ?_
          obtain ⟨t61, h⟩ := h
          obtain ⟨i62, h⟩ := h
          refine j_iast hX eX7_parsesS_35 t61 i62 ?_
          refine j_nmM (fun M63 eM63 => ?_)
          replace h := h M63 eM63
          have t64 : hp_T M63 (a0) = 8 := by rw [eM63]; exact t58
          have t65 : hp_T M63 (p60) = 22 := by rw [eM63]; exact t61
          refine j_aload_n hX eX7_parsesS_36 1 rfl ?_
          refine j_bipush (v := (111 : Int32)) hX eX7_parsesS_37 (by decide) ?_
          refine j_callV (a := a0) (q := (RX7, TX7, 17)) (r' := rX7_needs) (As := [.int (111 : Int32)]) (rest := []) (d1 := d) hX eX7_parsesS_39 mm_LiftGroupModel_225 rfl t64 (by decide) rfl h rfl (Nat.le_refl _) (Nat.zero_le _) (Nat.zero_le _) (Nat.le_of_ble_eq_true rfl) (fun vz9 Mz9 qz9 => ?_) (fun Ez9 Mz9 qz9 => ?_)
          · obtain ⟨M66, eMz9⟩ : ∃ M66, M66 = Mz9 := ⟨_, rfl⟩; subst eMz9
            obtain ⟨hxz9, h⟩ := qz9
            cases hxz9
            refine j_aload_n hX eX7_parsesS_42 1 rfl ?_
            refine j_bipush (v := (112 : Int32)) hX eX7_parsesS_43 (by decide) ?_
            obtain ⟨t70, h⟩ := h
            refine j_callV (a := a0) (q := (RX7, TX7, 17)) (r' := rX7_needs) (As := [.int (112 : Int32)]) (rest := []) (d1 := d) hX eX7_parsesS_45 mm_LiftGroupModel_225 rfl t70 (by decide) rfl h rfl (Nat.le_refl _) (Nat.zero_le _) (Nat.zero_le _) (Nat.le_of_ble_eq_true rfl) (fun vz9 Mz9 qz9 => ?_) (fun Ez9 Mz9 qz9 => ?_)
            · obtain ⟨M68, eMz9⟩ : ∃ M68, M68 = Mz9 := ⟨_, rfl⟩; subst eMz9
              obtain ⟨hxz9, h⟩ := qz9
              cases hxz9
              refine j_aload_n hX eX7_parsesS_48 1 rfl ?_
              obtain ⟨t71, h⟩ := h
              obtain ⟨z72, h⟩ := h
              refine j_getR hX eX7_parsesS_49 ff_LiftGroupModel_39 rfl t71 (by decide) z72 ?_
              refine j_nmR (fun p73 ep73 => ?_)
              replace h := h p73 ep73
              refine j_iload_n hX eX7_parsesS_52 2 rfl ?_
              refine j_iconst (v := (1 : Int32)) hX eX7_parsesS_53 (by decide) ?_
              refine j_iadd hX eX7_parsesS_54 ?_
              refine j_aload_n hX eX7_parsesS_55 1 rfl ?_
              refine j_iconst (v := (1 : Int32)) hX eX7_parsesS_56 (by decide) ?_
              refine j_callV (a := a0) (q := (RX7, TX7, 17)) (r' := rX7_digits) (As := [.int (1 : Int32)]) (rest := [.int (a1 + (1 : Int32)), .ref p73]) (d1 := d) hX eX7_parsesS_57 mm_LiftGroupModel_228 rfl t71 (by decide) rfl h rfl (Nat.le_refl _) (Nat.zero_le _) (Nat.zero_le _) (Nat.le_of_ble_eq_true rfl) (fun vz9 Mz9 qz9 => ?_) (fun Ez9 Mz9 qz9 => ?_)
              · obtain ⟨M74, eMz9⟩ : ∃ M74, M74 = Mz9 := ⟨_, rfl⟩; subst eMz9
                obtain ⟨v75, hxz9, h⟩ := qz9
                cases hxz9
                obtain ⟨t76, h⟩ := h
                obtain ⟨i77, h⟩ := h
                refine j_iast hX eX7_parsesS_60 t76 i77 ?_
                refine j_nmM (fun M78 eM78 => ?_)
                replace h := h M78 eM78
                have t79 : hp_T M78 (p73) = 22 := by rw [eM78]; exact t76
                refine j_goto hX 149 eX7_parsesS_61 (by decide) ?_
                exact j_vret hX hM eX7_parsesS_149 rfl h
              · obtain ⟨v75, hxz9, h⟩ := qz9
                cases hxz9
            · obtain ⟨hxz9, h⟩ := qz9
              cases hxz9
          · obtain ⟨hxz9, h⟩ := qz9
            cases hxz9
      · obtain ⟨v7, hxz9, h⟩ := qz9
        cases hxz9
    · replace h := h.2 c5
      refine j_iconst (v := (-1 : Int32)) hX eX7_parsesS_13 (by decide) ?_
      refine j_goto hX 21 eX7_parsesS_14 (by decide) ?_
      refine j_istore_n (lv' := [(2, .int (-1 : Int32)), (0, .ref a0), (1, .int a1)]) hX eX7_parsesS_21 rfl (by decide) rfl ?_
      refine j_iload_n hX eX7_parsesS_22 0 rfl ?_
      refine j_bipush (v := (111 : Int32)) hX eX7_parsesS_23 (by decide) ?_
      refine j_icmp_ne hX 64 eX7_parsesS_25 (by decide) (fun c80 => ?_) (fun c80 => ?_)
      · replace h := h.2 c80
        refine j_iload_n hX eX7_parsesS_64 0 rfl ?_
        refine j_bipush (v := (97 : Int32)) hX eX7_parsesS_65 (by decide) ?_
        refine j_icmp_ne hX 104 eX7_parsesS_67 (by decide) (fun c81 => ?_) (fun c81 => ?_)
        · replace h := h.2 c81
          refine j_aload_n hX eX7_parsesS_104 1 rfl ?_
          refine j_bipush (v := (101 : Int32)) hX eX7_parsesS_105 (by decide) ?_
          refine j_callV (a := a0) (q := (RX7, TX7, 17)) (r' := rX7_needs) (As := [.int (101 : Int32)]) (rest := []) (d1 := d) hX eX7_parsesS_107 mm_LiftGroupModel_225 rfl t4 (by decide) rfl h rfl (Nat.le_refl _) (Nat.zero_le _) (Nat.zero_le _) (Nat.le_of_ble_eq_true rfl) (fun vz9 Mz9 qz9 => ?_) (fun Ez9 Mz9 qz9 => ?_)
          · obtain ⟨M82, eMz9⟩ : ∃ M82, M82 = Mz9 := ⟨_, rfl⟩; subst eMz9
            obtain ⟨hxz9, h⟩ := qz9
            cases hxz9
            refine j_aload_n hX eX7_parsesS_110 1 rfl ?_
            refine j_bipush (v := (112 : Int32)) hX eX7_parsesS_111 (by decide) ?_
            obtain ⟨t86, h⟩ := h
            refine j_callV (a := a0) (q := (RX7, TX7, 17)) (r' := rX7_needs) (As := [.int (112 : Int32)]) (rest := []) (d1 := d) hX eX7_parsesS_113 mm_LiftGroupModel_225 rfl t86 (by decide) rfl h rfl (Nat.le_refl _) (Nat.zero_le _) (Nat.zero_le _) (Nat.le_of_ble_eq_true rfl) (fun vz9 Mz9 qz9 => ?_) (fun Ez9 Mz9 qz9 => ?_)
            · obtain ⟨M84, eMz9⟩ : ∃ M84, M84 = Mz9 := ⟨_, rfl⟩; subst eMz9
              obtain ⟨hxz9, h⟩ := qz9
              cases hxz9
              refine j_aload_n hX eX7_parsesS_116 1 rfl ?_
              obtain ⟨t87, h⟩ := h
              obtain ⟨z88, h⟩ := h
              refine j_getR hX eX7_parsesS_117 ff_LiftGroupModel_39 rfl t87 (by decide) z88 ?_
              refine j_nmR (fun p89 ep89 => ?_)
              replace h := h p89 ep89
              refine j_iload_n hX eX7_parsesS_120 2 rfl ?_
              refine j_iconst (v := (1 : Int32)) hX eX7_parsesS_121 (by decide) ?_
              refine j_iadd hX eX7_parsesS_122 ?_
              refine j_aload_n hX eX7_parsesS_123 1 rfl ?_
              refine j_getI hX eX7_parsesS_124 ff_LiftGroupModel_217 rfl t87 (by decide) ?_
              refine j_if_ne hX 147 eX7_parsesS_127 (by decide) (fun c90 => ?_) (fun c90 => ?_)
              · replace h := h.2 c90
                refine j_iconst (v := (1 : Int32)) hX eX7_parsesS_147 (by decide) ?_
                obtain ⟨t91, h⟩ := h
                obtain ⟨i92, h⟩ := h
                refine j_iast hX eX7_parsesS_148 t91 i92 ?_
                refine j_nmM (fun M93 eM93 => ?_)
                replace h := h M93 eM93
                have t94 : hp_T M93 (a0) = 8 := by rw [eM93]; exact t87
                have t95 : hp_T M93 (p89) = 22 := by rw [eM93]; exact t91
                exact j_vret hX hM eX7_parsesS_149 rfl h
              · replace h := h.1 c90
                refine j_aload_n hX eX7_parsesS_130 1 rfl ?_
                refine j_callV (a := a0) (q := (RX7, TX7, 17)) (r' := rX7_here) (As := []) (rest := [.int (a1 + (1 : Int32)), .ref p89]) (d1 := d) hX eX7_parsesS_131 mm_LiftGroupModel_221 rfl t87 (by decide) rfl h rfl (Nat.le_refl _) (Nat.zero_le _) (Nat.zero_le _) (Nat.le_of_ble_eq_true rfl) (fun vz9 Mz9 qz9 => ?_) (fun Ez9 Mz9 qz9 => ?_)
                · obtain ⟨M96, eMz9⟩ : ∃ M96, M96 = Mz9 := ⟨_, rfl⟩; subst eMz9
                  obtain ⟨v97, hxz9, h⟩ := qz9
                  cases hxz9
                  refine j_bipush (v := (32 : Int32)) hX eX7_parsesS_134 (by decide) ?_
                  refine j_icmp_ne hX 147 eX7_parsesS_136 (by decide) (fun c98 => ?_) (fun c98 => ?_)
                  · replace h := h.2 c98
                    refine j_iconst (v := (1 : Int32)) hX eX7_parsesS_147 (by decide) ?_
                    obtain ⟨t99, h⟩ := h
                    obtain ⟨i100, h⟩ := h
                    refine j_iast hX eX7_parsesS_148 t99 i100 ?_
                    refine j_nmM (fun M101 eM101 => ?_)
                    replace h := h M101 eM101
                    have t102 : hp_T M101 (p89) = 22 := by rw [eM101]; exact t99
                    exact j_vret hX hM eX7_parsesS_149 rfl h
                  · replace h := h.1 c98
                    refine j_aload_n hX eX7_parsesS_139 1 rfl ?_
                    refine j_iconst (v := (3 : Int32)) hX eX7_parsesS_140 (by decide) ?_
                    obtain ⟨t105, h⟩ := h
                    refine j_callV (a := a0) (q := (RX7, TX7, 17)) (r' := rX7_digits) (As := [.int (3 : Int32)]) (rest := [.int (a1 + (1 : Int32)), .ref p89]) (d1 := d) hX eX7_parsesS_141 mm_LiftGroupModel_228 rfl t105 (by decide) rfl h rfl (Nat.le_refl _) (Nat.zero_le _) (Nat.zero_le _) (Nat.le_of_ble_eq_true rfl) (fun vz9 Mz9 qz9 => ?_) (fun Ez9 Mz9 qz9 => ?_)
                    · obtain ⟨M103, eMz9⟩ : ∃ M103, M103 = Mz9 := ⟨_, rfl⟩; subst eMz9
                      obtain ⟨v104, hxz9, h⟩ := qz9
                      cases hxz9
                      refine j_goto hX 148 eX7_parsesS_144 (by decide) ?_
                      obtain ⟨t106, h⟩ := h
                      obtain ⟨i107, h⟩ := h
                      refine j_iast hX eX7_parsesS_148 t106 i107 ?_
                      refine j_nmM (fun M108 eM108 => ?_)
                      replace h := h M108 eM108
                      have t109 : hp_T M108 (p89) = 22 := by rw [eM108]; exact t106
                      exact j_vret hX hM eX7_parsesS_149 rfl h
                    · obtain ⟨v104, hxz9, h⟩ := qz9
                      cases hxz9
                · obtain ⟨v97, hxz9, h⟩ := qz9
                  cases hxz9
            · obtain ⟨hxz9, h⟩ := qz9
              cases hxz9
          · obtain ⟨hxz9, h⟩ := qz9
            cases hxz9
        · replace h := h.1 c81
          refine j_aload_n hX eX7_parsesS_70 1 rfl ?_
          obtain ⟨z110, h⟩ := h
          refine j_getR hX eX7_parsesS_71 ff_LiftGroupModel_39 rfl t4 (by decide) z110 ?_
          refine j_nmR (fun p111 ep111 => ?_)
          replace h := h p111 ep111
          refine j_iload_n hX eX7_parsesS_74 2 rfl ?_
          refine j_bipush (v := (97 : Int32)) hX eX7_parsesS_75 (by decide) ?_
          obtain ⟨t112, h⟩ := h
          obtain ⟨i113, h⟩ := h
          refine j_iast hX eX7_parsesS_77 t112 i113 ?_
          refine j_nmM (fun M114 eM114 => ?_)
          replace h := h M114 eM114
          have t115 : hp_T M114 (a0) = 8 := by rw [eM114]; exact t4
          have t116 : hp_T M114 (p111) = 22 := by rw [eM114]; exact t112
          refine j_aload_n hX eX7_parsesS_78 1 rfl ?_
          refine j_bipush (v := (97 : Int32)) hX eX7_parsesS_79 (by decide) ?_
          refine j_bipush (v := (114 : Int32)) hX eX7_parsesS_81 (by decide) ?_
          refine j_bipush (v := (116 : Int32)) hX eX7_parsesS_83 (by decide) ?_
          refine j_callV (a := a0) (q := (RX7, TX7, 17)) (r' := rX7_needsThree) (As := [.int (97 : Int32), .int (114 : Int32), .int (116 : Int32)]) (rest := []) (d1 := d) hX eX7_parsesS_85 mm_LiftGroupModel_231 rfl t115 (by decide) rfl h rfl (Nat.le_refl _) (Nat.zero_le _) (Nat.zero_le _) (Nat.le_of_ble_eq_true rfl) (fun vz9 Mz9 qz9 => ?_) (fun Ez9 Mz9 qz9 => ?_)
          · obtain ⟨M117, eMz9⟩ : ∃ M117, M117 = Mz9 := ⟨_, rfl⟩; subst eMz9
            obtain ⟨hxz9, h⟩ := qz9
            cases hxz9
            refine j_aload_n hX eX7_parsesS_88 1 rfl ?_
            obtain ⟨t119, h⟩ := h
            obtain ⟨z120, h⟩ := h
            refine j_getR hX eX7_parsesS_89 ff_LiftGroupModel_39 rfl t119 (by decide) z120 ?_
            refine j_nmR (fun p121 ep121 => ?_)
            replace h := h p121 ep121
            refine j_iload_n hX eX7_parsesS_92 2 rfl ?_
            refine j_iconst (v := (1 : Int32)) hX eX7_parsesS_93 (by decide) ?_
            refine j_iadd hX eX7_parsesS_94 ?_
            refine j_aload_n hX eX7_parsesS_95 1 rfl ?_
            refine j_iconst (v := (1 : Int32)) hX eX7_parsesS_96 (by decide) ?_
            refine j_callV (a := a0) (q := (RX7, TX7, 17)) (r' := rX7_digits) (As := [.int (1 : Int32)]) (rest := [.int (a1 + (1 : Int32)), .ref p121]) (d1 := d) hX eX7_parsesS_97 mm_LiftGroupModel_228 rfl t119 (by decide) rfl h rfl (Nat.le_refl _) (Nat.zero_le _) (Nat.zero_le _) (Nat.le_of_ble_eq_true rfl) (fun vz9 Mz9 qz9 => ?_) (fun Ez9 Mz9 qz9 => ?_)
            · obtain ⟨M122, eMz9⟩ : ∃ M122, M122 = Mz9 := ⟨_, rfl⟩; subst eMz9
              obtain ⟨v123, hxz9, h⟩ := qz9
              cases hxz9
              obtain ⟨t124, h⟩ := h
              obtain ⟨i125, h⟩ := h
              refine j_iast hX eX7_parsesS_100 t124 i125 ?_
              refine j_nmM (fun M126 eM126 => ?_)
              replace h := h M126 eM126
              have t127 : hp_T M126 (p121) = 22 := by rw [eM126]; exact t124
              refine j_goto hX 149 eX7_parsesS_101 (by decide) ?_
              exact j_vret hX hM eX7_parsesS_149 rfl h
            · obtain ⟨v123, hxz9, h⟩ := qz9
              cases hxz9
          · obtain ⟨hxz9, h⟩ := qz9
            cases hxz9
      · replace h := h.1 c80
        refine j_aload_n hX eX7_parsesS_28 1 rfl ?_
        obtain ⟨z128, h⟩ := h
        refine j_getR hX eX7_parsesS_29 ff_LiftGroupModel_39 rfl t4 (by decide) z128 ?_
        refine j_nmR (fun p129 ep129 => ?_)
        replace h := h p129 ep129
        refine j_iload_n hX eX7_parsesS_32 2 rfl ?_
        refine j_bipush (v := (111 : Int32)) hX eX7_parsesS_33 (by decide) ?_
        obtain ⟨t130, h⟩ := h
        obtain ⟨i131, h⟩ := h
        refine j_iast hX eX7_parsesS_35 t130 i131 ?_
        refine j_nmM (fun M132 eM132 => ?_)
        replace h := h M132 eM132
        have t133 : hp_T M132 (a0) = 8 := by rw [eM132]; exact t4
        have t134 : hp_T M132 (p129) = 22 := by rw [eM132]; exact t130
        refine j_aload_n hX eX7_parsesS_36 1 rfl ?_
        refine j_bipush (v := (111 : Int32)) hX eX7_parsesS_37 (by decide) ?_
        refine j_callV (a := a0) (q := (RX7, TX7, 17)) (r' := rX7_needs) (As := [.int (111 : Int32)]) (rest := []) (d1 := d) hX eX7_parsesS_39 mm_LiftGroupModel_225 rfl t133 (by decide) rfl h rfl (Nat.le_refl _) (Nat.zero_le _) (Nat.zero_le _) (Nat.le_of_ble_eq_true rfl) (fun vz9 Mz9 qz9 => ?_) (fun Ez9 Mz9 qz9 => ?_)
        · obtain ⟨M135, eMz9⟩ : ∃ M135, M135 = Mz9 := ⟨_, rfl⟩; subst eMz9
          obtain ⟨hxz9, h⟩ := qz9
          cases hxz9
          refine j_aload_n hX eX7_parsesS_42 1 rfl ?_
          refine j_bipush (v := (112 : Int32)) hX eX7_parsesS_43 (by decide) ?_
          obtain ⟨t139, h⟩ := h
          refine j_callV (a := a0) (q := (RX7, TX7, 17)) (r' := rX7_needs) (As := [.int (112 : Int32)]) (rest := []) (d1 := d) hX eX7_parsesS_45 mm_LiftGroupModel_225 rfl t139 (by decide) rfl h rfl (Nat.le_refl _) (Nat.zero_le _) (Nat.zero_le _) (Nat.le_of_ble_eq_true rfl) (fun vz9 Mz9 qz9 => ?_) (fun Ez9 Mz9 qz9 => ?_)
          · obtain ⟨M137, eMz9⟩ : ∃ M137, M137 = Mz9 := ⟨_, rfl⟩; subst eMz9
            obtain ⟨hxz9, h⟩ := qz9
            cases hxz9
            refine j_aload_n hX eX7_parsesS_48 1 rfl ?_
            obtain ⟨t140, h⟩ := h
            obtain ⟨z141, h⟩ := h
            refine j_getR hX eX7_parsesS_49 ff_LiftGroupModel_39 rfl t140 (by decide) z141 ?_
            refine j_nmR (fun p142 ep142 => ?_)
            replace h := h p142 ep142
            refine j_iload_n hX eX7_parsesS_52 2 rfl ?_
            refine j_iconst (v := (1 : Int32)) hX eX7_parsesS_53 (by decide) ?_
            refine j_iadd hX eX7_parsesS_54 ?_
            refine j_aload_n hX eX7_parsesS_55 1 rfl ?_
            refine j_iconst (v := (1 : Int32)) hX eX7_parsesS_56 (by decide) ?_
            refine j_callV (a := a0) (q := (RX7, TX7, 17)) (r' := rX7_digits) (As := [.int (1 : Int32)]) (rest := [.int (a1 + (1 : Int32)), .ref p142]) (d1 := d) hX eX7_parsesS_57 mm_LiftGroupModel_228 rfl t140 (by decide) rfl h rfl (Nat.le_refl _) (Nat.zero_le _) (Nat.zero_le _) (Nat.le_of_ble_eq_true rfl) (fun vz9 Mz9 qz9 => ?_) (fun Ez9 Mz9 qz9 => ?_)
            · obtain ⟨M143, eMz9⟩ : ∃ M143, M143 = Mz9 := ⟨_, rfl⟩; subst eMz9
              obtain ⟨v144, hxz9, h⟩ := qz9
              cases hxz9
              obtain ⟨t145, h⟩ := h
              obtain ⟨i146, h⟩ := h
              refine j_iast hX eX7_parsesS_60 t145 i146 ?_
              refine j_nmM (fun M147 eM147 => ?_)
              replace h := h M147 eM147
              have t148 : hp_T M147 (p142) = 22 := by rw [eM147]; exact t145
              refine j_goto hX 149 eX7_parsesS_61 (by decide) ?_
              exact j_vret hX hM eX7_parsesS_149 rfl h
            · obtain ⟨v144, hxz9, h⟩ := qz9
              cases hxz9
          · obtain ⟨hxz9, h⟩ := qz9
            cases hxz9
        · obtain ⟨hxz9, h⟩ := qz9
          cases hxz9
  · obtain ⟨hxz9, h⟩ := qz9
    cases hxz9

set_option maxHeartbeats 4000000 in
set_option maxRecDepth 20000 in
theorem vX7_parsesCommand_0 {X : am_Cx} {G : am_Gx} {d : Nat} {Q : am_Q} (hX : am_ok X rX7_parsesCommand G (d + 1)) (hM : am_me X rX7_parsesCommand Q) {bc bs : Nat}  {a0 : Nat} {a1 : Int32} {M : am_Hp} (h : hp_T M (a0) = 8 ∧ (am_CT G d rX7_here [.ref a0] M 0 0 (fun oz9 M1 => ∃ v2 : Int32, oz9 = .inl (some (.int v2)) ∧ (hp_T M1 (a0) = 8 ∧ (∀ M5 : am_Hp, M5 = hp_sI M1 154 a0 ((hp_I M1 154 a0) + (1 : Int32)) → (hp_R M5 156 a0 ≠ 0 ∧ (∀ p8 : Nat, p8 = hp_R M5 156 a0 → (hp_T M5 (p8) = 22 ∧ (vp_in a1 (hp_N M5 p8) ∧ (∀ M11 : am_Hp, M11 = hp_sE M5 p8 (a1).toNatClampNeg v2 → ((v2 = (99 : Int32) → (am_CT G d rX7_needsThree [.ref a0, .int (97 : Int32), .int (108 : Int32), .int (108 : Int32)] M11 0 0 (fun oz9 M14 => oz9 = .inl none ∧ (hp_T M14 (a0) = 8 ∧ (hp_R M14 156 a0 ≠ 0 ∧ (∀ p18 : Nat, p18 = hp_R M14 156 a0 → (am_CT G d rX7_digits [.ref a0, .int (1 : Int32)] M14 0 0 (fun oz9 M19 => ∃ v20 : Int32, oz9 = .inl (some (.int v20)) ∧ (hp_T M19 (p18) = 22 ∧ (vp_in (a1 + (1 : Int32)) (hp_N M19 p18) ∧ (∀ M23 : am_Hp, M23 = hp_sE M19 p18 ((a1 + (1 : Int32))).toNatClampNeg v20 → (hp_T M23 (a0) = 8 ∧ (hp_R M23 156 a0 ≠ 0 ∧ (∀ p27 : Nat, p27 = hp_R M23 156 a0 → (am_CT G d rX7_digits [.ref a0, .int (1 : Int32)] M23 0 0 (fun oz9 M28 => ∃ v29 : Int32, oz9 = .inl (some (.int v29)) ∧ (hp_T M28 (p27) = 22 ∧ (vp_in (a1 + (2 : Int32)) (hp_N M28 p27) ∧ (∀ M32 : am_Hp, M32 = hp_sE M28 p27 ((a1 + (2 : Int32))).toNatClampNeg v29 → (hp_T M32 (a0) = 8 ∧ (hp_R M32 156 a0 ≠ 0 ∧ (∀ p36 : Nat, p36 = hp_R M32 156 a0 → (am_CT G d rX7_digits [.ref a0, .int (3 : Int32)] M32 0 0 (fun oz9 M37 => ∃ v38 : Int32, oz9 = .inl (some (.int v38)) ∧ (hp_T M37 (p36) = 22 ∧ (vp_in (a1 + (3 : Int32)) (hp_N M37 p36) ∧ (∀ M41 : am_Hp, M41 = hp_sE M37 p36 ((a1 + (3 : Int32))).toNatClampNeg v38 → (Q (.inl none) M41)))))))))))))))))))))))))))) ∧ (v2 = (104 : Int32) → (am_CT G d rX7_needsThree [.ref a0, .int (111 : Int32), .int (108 : Int32), .int (100 : Int32)] M11 0 0 (fun oz9 M44 => oz9 = .inl none ∧ (hp_T M44 (a0) = 8 ∧ (hp_R M44 156 a0 ≠ 0 ∧ (∀ p48 : Nat, p48 = hp_R M44 156 a0 → (am_CT G d rX7_digits [.ref a0, .int (1 : Int32)] M44 0 0 (fun oz9 M49 => ∃ v50 : Int32, oz9 = .inl (some (.int v50)) ∧ (hp_T M49 (p48) = 22 ∧ (vp_in (a1 + (1 : Int32)) (hp_N M49 p48) ∧ (∀ M53 : am_Hp, M53 = hp_sE M49 p48 ((a1 + (1 : Int32))).toNatClampNeg v50 → (hp_T M53 (a0) = 8 ∧ (hp_R M53 156 a0 ≠ 0 ∧ (∀ p57 : Nat, p57 = hp_R M53 156 a0 → (am_CT G d rX7_digits [.ref a0, .int (1 : Int32)] M53 0 0 (fun oz9 M58 => ∃ v59 : Int32, oz9 = .inl (some (.int v59)) ∧ (hp_T M58 (p57) = 22 ∧ (vp_in (a1 + (2 : Int32)) (hp_N M58 p57) ∧ (∀ M62 : am_Hp, M62 = hp_sE M58 p57 ((a1 + (2 : Int32))).toNatClampNeg v59 → (Q (.inl none) M62)))))))))))))))))))) ∧ (v2 = (108 : Int32) → (am_CT G d rX7_here [.ref a0] M11 0 0 (fun oz9 M65 => ∃ v66 : Int32, oz9 = .inl (some (.int v66)) ∧ (((v66 = (105 : Int32)) → (hp_T M65 (a0) = 8 ∧ (hp_R M65 156 a0 ≠ 0 ∧ (∀ p85 : Nat, p85 = hp_R M65 156 a0 → (hp_T M65 (p85) = 22 ∧ (vp_in a1 (hp_N M65 p85) ∧ (∀ M88 : am_Hp, M88 = hp_sE M65 p85 (a1).toNatClampNeg (105 : Int32) → (am_CT G d rX7_needsThree [.ref a0, .int (105 : Int32), .int (109 : Int32), .int (105 : Int32)] M88 0 0 (fun oz9 M91 => oz9 = .inl none ∧ (hp_T M91 (a0) = 8 ∧ (am_CT G d rX7_needs [.ref a0, .int (116 : Int32)] M91 0 0 (fun oz9 M93 => oz9 = .inl none ∧ (hp_T M93 (a0) = 8 ∧ (hp_R M93 156 a0 ≠ 0 ∧ (∀ p98 : Nat, p98 = hp_R M93 156 a0 → (am_CT G d rX7_digits [.ref a0, .int (1 : Int32)] M93 0 0 (fun oz9 M99 => ∃ v100 : Int32, oz9 = .inl (some (.int v100)) ∧ (hp_T M99 (p98) = 22 ∧ (vp_in (a1 + (1 : Int32)) (hp_N M99 p98) ∧ (∀ M103 : am_Hp, M103 = hp_sE M99 p98 ((a1 + (1 : Int32))).toNatClampNeg v100 → (hp_T M103 (a0) = 8 ∧ (hp_R M103 156 a0 ≠ 0 ∧ (∀ p107 : Nat, p107 = hp_R M103 156 a0 → (am_CT G d rX7_digits [.ref a0, .int (3 : Int32)] M103 0 0 (fun oz9 M108 => ∃ v109 : Int32, oz9 = .inl (some (.int v109)) ∧ (hp_T M108 (p107) = 22 ∧ (vp_in (a1 + (2 : Int32)) (hp_N M108 p107) ∧ (∀ M112 : am_Hp, M112 = hp_sE M108 p107 ((a1 + (2 : Int32))).toNatClampNeg v109 → (Q (.inl none) M112))))))))))))))))))))))))))))) ∧ (¬ (v66 = (105 : Int32)) → (hp_T M65 (a0) = 8 ∧ (am_CT G d rX7_needsThree [.ref a0, .int (101 : Int32), .int (97 : Int32), .int (118 : Int32)] M65 0 0 (fun oz9 M68 => oz9 = .inl none ∧ (hp_T M68 (a0) = 8 ∧ (am_CT G d rX7_needs [.ref a0, .int (101 : Int32)] M68 0 0 (fun oz9 M71 => oz9 = .inl none ∧ (hp_T M71 (a0) = 8 ∧ (hp_R M71 156 a0 ≠ 0 ∧ (∀ p76 : Nat, p76 = hp_R M71 156 a0 → (am_CT G d rX7_digits [.ref a0, .int (3 : Int32)] M71 0 0 (fun oz9 M77 => ∃ v78 : Int32, oz9 = .inl (some (.int v78)) ∧ (hp_T M77 (p76) = 22 ∧ (vp_in (a1 + (1 : Int32)) (hp_N M77 p76) ∧ (∀ M81 : am_Hp, M81 = hp_sE M77 p76 ((a1 + (1 : Int32))).toNatClampNeg v78 → (Q (.inl none) M81)))))))))))))))))))) ∧ (v2 = (115 : Int32) → (am_CT G d rX7_parsesS [.ref a0, .int a1] M11 0 0 (fun oz9 M115 => oz9 = .inl none ∧ (Q (.inl none) M115)))) ∧ (¬ v2 = (99 : Int32) ∧ ¬ v2 = (104 : Int32) ∧ ¬ v2 = (108 : Int32) ∧ ¬ v2 = (115 : Int32) → (am_bo (1 : Int32) ∧ (∀ M119 : am_Hp, M119 = hp_sI M11 155 a0 (1 : Int32) → (∀ M122 : am_Hp, M122 = hp_sI M119 154 a0 ((hp_I M119 154 a0) - (1 : Int32)) → (Q (.inl none) M122)))))))))))))))) : am_J X 0 [(0, .ref a0), (1, .int a1)] [] M bc bs := by
  refine j_aload_n hX eX7_parsesCommand_0 0 rfl ?_
  obtain ⟨t3, h⟩ := h
  refine j_callV (a := a0) (q := (RX7, TX7, 17)) (r' := rX7_here) (As := []) (rest := []) (d1 := d) hX eX7_parsesCommand_1 mm_LiftGroupModel_221 rfl t3 (by decide) rfl h rfl (Nat.le_refl _) (Nat.zero_le _) (Nat.zero_le _) (Nat.le_of_ble_eq_true rfl) (fun vz9 Mz9 qz9 => ?_) (fun Ez9 Mz9 qz9 => ?_)
  · obtain ⟨M1, eMz9⟩ : ∃ M1, M1 = Mz9 := ⟨_, rfl⟩; subst eMz9
    obtain ⟨v2, hxz9, h⟩ := qz9
    cases hxz9
    refine j_istore_n (lv' := [(2, .int v2), (0, .ref a0), (1, .int a1)]) hX eX7_parsesCommand_4 rfl (by decide) rfl ?_
    refine j_aload_n hX eX7_parsesCommand_5 1 rfl ?_
    refine j_dup hX eX7_parsesCommand_6 rfl ?_
    obtain ⟨t4, h⟩ := h
    refine j_getI hX eX7_parsesCommand_7 ff_LiftGroupModel_214 rfl t4 (by decide) ?_
    refine j_iconst (v := (1 : Int32)) hX eX7_parsesCommand_10 (by decide) ?_
    refine j_iadd hX eX7_parsesCommand_11 ?_
    refine j_putI (ty := .int) hX eX7_parsesCommand_12 ff_LiftGroupModel_214 rfl t4 (by decide) pp_7_14 rfl rfl ?_
    refine j_nmM (fun M5 eM5 => ?_)
    replace h := h M5 eM5
    have t6 : hp_T M5 (a0) = 8 := by rw [eM5]; exact t4
    refine j_aload_n hX eX7_parsesCommand_15 1 rfl ?_
    obtain ⟨z7, h⟩ := h
    refine j_getR hX eX7_parsesCommand_16 ff_LiftGroupModel_39 rfl t6 (by decide) z7 ?_
    refine j_nmR (fun p8 ep8 => ?_)
    replace h := h p8 ep8
    refine j_iload_n hX eX7_parsesCommand_19 2 rfl ?_
    refine j_iload_n hX eX7_parsesCommand_20 0 rfl ?_
    obtain ⟨t9, h⟩ := h
    obtain ⟨i10, h⟩ := h
    refine j_iast hX eX7_parsesCommand_21 t9 i10 ?_
    refine j_nmM (fun M11 eM11 => ?_)
    replace h := h M11 eM11
    have t12 : hp_T M11 (a0) = 8 := by rw [eM11]; exact t6
    have t13 : hp_T M11 (p8) = 22 := by rw [eM11]; exact t9
    refine j_iload_n hX eX7_parsesCommand_22 0 rfl ?_
    by_cases c43 : v2 = (99 : Int32)
    · refine j_lookup hX 64 eX7_parsesCommand_23 (by decide) (by first | (rw [c43]; done) | (rw [c43]; decide)) (by decide) ?_
      replace h := h.1 c43
      refine j_aload_n hX eX7_parsesCommand_64 1 rfl ?_
      refine j_bipush (v := (97 : Int32)) hX eX7_parsesCommand_65 (by decide) ?_
      refine j_bipush (v := (108 : Int32)) hX eX7_parsesCommand_67 (by decide) ?_
      refine j_bipush (v := (108 : Int32)) hX eX7_parsesCommand_69 (by decide) ?_
      refine j_callV (a := a0) (q := (RX7, TX7, 17)) (r' := rX7_needsThree) (As := [.int (97 : Int32), .int (108 : Int32), .int (108 : Int32)]) (rest := []) (d1 := d) hX eX7_parsesCommand_71 mm_LiftGroupModel_231 rfl t12 (by decide) rfl h rfl (Nat.le_refl _) (Nat.zero_le _) (Nat.zero_le _) (Nat.le_of_ble_eq_true rfl) (fun vz9 Mz9 qz9 => ?_) (fun Ez9 Mz9 qz9 => ?_)
      · obtain ⟨M14, eMz9⟩ : ∃ M14, M14 = Mz9 := ⟨_, rfl⟩; subst eMz9
        obtain ⟨hxz9, h⟩ := qz9
        cases hxz9
        refine j_aload_n hX eX7_parsesCommand_74 1 rfl ?_
        obtain ⟨t16, h⟩ := h
        obtain ⟨z17, h⟩ := h
        refine j_getR hX eX7_parsesCommand_75 ff_LiftGroupModel_39 rfl t16 (by decide) z17 ?_
        refine j_nmR (fun p18 ep18 => ?_)
        replace h := h p18 ep18
        refine j_iload_n hX eX7_parsesCommand_78 2 rfl ?_
        refine j_iconst (v := (1 : Int32)) hX eX7_parsesCommand_79 (by decide) ?_
        refine j_iadd hX eX7_parsesCommand_80 ?_
        refine j_aload_n hX eX7_parsesCommand_81 1 rfl ?_
        refine j_iconst (v := (1 : Int32)) hX eX7_parsesCommand_82 (by decide) ?_
        refine j_callV (a := a0) (q := (RX7, TX7, 17)) (r' := rX7_digits) (As := [.int (1 : Int32)]) (rest := [.int (a1 + (1 : Int32)), .ref p18]) (d1 := d) hX eX7_parsesCommand_83 mm_LiftGroupModel_228 rfl t16 (by decide) rfl h rfl (Nat.le_refl _) (Nat.zero_le _) (Nat.zero_le _) (Nat.le_of_ble_eq_true rfl) (fun vz9 Mz9 qz9 => ?_) (fun Ez9 Mz9 qz9 => ?_)
        · obtain ⟨M19, eMz9⟩ : ∃ M19, M19 = Mz9 := ⟨_, rfl⟩; subst eMz9
          obtain ⟨v20, hxz9, h⟩ := qz9
          cases hxz9
          obtain ⟨t21, h⟩ := h
          obtain ⟨i22, h⟩ := h
          refine j_iast hX eX7_parsesCommand_86 t21 i22 ?_
          refine j_nmM (fun M23 eM23 => ?_)
          replace h := h M23 eM23
          have t24 : hp_T M23 (p18) = 22 := by rw [eM23]; exact t21
          refine j_aload_n hX eX7_parsesCommand_87 1 rfl ?_
          obtain ⟨t25, h⟩ := h
          obtain ⟨z26, h⟩ := h
          refine j_getR hX eX7_parsesCommand_88 ff_LiftGroupModel_39 rfl t25 (by decide) z26 ?_
          refine j_nmR (fun p27 ep27 => ?_)
          replace h := h p27 ep27
          refine j_iload_n hX eX7_parsesCommand_91 2 rfl ?_
          refine j_iconst (v := (2 : Int32)) hX eX7_parsesCommand_92 (by decide) ?_
          refine j_iadd hX eX7_parsesCommand_93 ?_
          refine j_aload_n hX eX7_parsesCommand_94 1 rfl ?_
          refine j_iconst (v := (1 : Int32)) hX eX7_parsesCommand_95 (by decide) ?_
          refine j_callV (a := a0) (q := (RX7, TX7, 17)) (r' := rX7_digits) (As := [.int (1 : Int32)]) (rest := [.int (a1 + (2 : Int32)), .ref p27]) (d1 := d) hX eX7_parsesCommand_96 mm_LiftGroupModel_228 rfl t25 (by decide) rfl h rfl (Nat.le_refl _) (Nat.zero_le _) (Nat.zero_le _) (Nat.le_of_ble_eq_true rfl) (fun vz9 Mz9 qz9 => ?_) (fun Ez9 Mz9 qz9 => ?_)
          · obtain ⟨M28, eMz9⟩ : ∃ M28, M28 = Mz9 := ⟨_, rfl⟩; subst eMz9
            obtain ⟨v29, hxz9, h⟩ := qz9
            cases hxz9
            obtain ⟨t30, h⟩ := h
            obtain ⟨i31, h⟩ := h
            refine j_iast hX eX7_parsesCommand_99 t30 i31 ?_
            refine j_nmM (fun M32 eM32 => ?_)
            replace h := h M32 eM32
            have t33 : hp_T M32 (p27) = 22 := by rw [eM32]; exact t30
            refine j_aload_n hX eX7_parsesCommand_100 1 rfl ?_
            obtain ⟨t34, h⟩ := h
            obtain ⟨z35, h⟩ := h
            refine j_getR hX eX7_parsesCommand_101 ff_LiftGroupModel_39 rfl t34 (by decide) z35 ?_
            refine j_nmR (fun p36 ep36 => ?_)
            replace h := h p36 ep36
            refine j_iload_n hX eX7_parsesCommand_104 2 rfl ?_
            refine j_iconst (v := (3 : Int32)) hX eX7_parsesCommand_105 (by decide) ?_
            refine j_iadd hX eX7_parsesCommand_106 ?_
            refine j_aload_n hX eX7_parsesCommand_107 1 rfl ?_
            refine j_iconst (v := (3 : Int32)) hX eX7_parsesCommand_108 (by decide) ?_
            refine j_callV (a := a0) (q := (RX7, TX7, 17)) (r' := rX7_digits) (As := [.int (3 : Int32)]) (rest := [.int (a1 + (3 : Int32)), .ref p36]) (d1 := d) hX eX7_parsesCommand_109 mm_LiftGroupModel_228 rfl t34 (by decide) rfl h rfl (Nat.le_refl _) (Nat.zero_le _) (Nat.zero_le _) (Nat.le_of_ble_eq_true rfl) (fun vz9 Mz9 qz9 => ?_) (fun Ez9 Mz9 qz9 => ?_)
            · obtain ⟨M37, eMz9⟩ : ∃ M37, M37 = Mz9 := ⟨_, rfl⟩; subst eMz9
              obtain ⟨v38, hxz9, h⟩ := qz9
              cases hxz9
              obtain ⟨t39, h⟩ := h
              obtain ⟨i40, h⟩ := h
              refine j_iast hX eX7_parsesCommand_112 t39 i40 ?_
              refine j_nmM (fun M41 eM41 => ?_)
              replace h := h M41 eM41
              have t42 : hp_T M41 (p36) = 22 := by rw [eM41]; exact t39
              refine j_goto hX 272 eX7_parsesCommand_113 (by decide) ?_
              exact j_vret hX hM eX7_parsesCommand_272 rfl h
            · obtain ⟨v38, hxz9, h⟩ := qz9
              cases hxz9
          · obtain ⟨v29, hxz9, h⟩ := qz9
            cases hxz9
        · obtain ⟨v20, hxz9, h⟩ := qz9
          cases hxz9
      · obtain ⟨hxz9, h⟩ := qz9
        cases hxz9
    replace h := h.2
    by_cases c64 : v2 = (104 : Int32)
    · refine j_lookup hX 210 eX7_parsesCommand_23 (by decide) (by first | (rw [c64]; done) | (rw [c64]; decide)) (by decide) ?_
      replace h := h.1 c64
      refine j_aload_n hX eX7_parsesCommand_210 1 rfl ?_
      refine j_bipush (v := (111 : Int32)) hX eX7_parsesCommand_211 (by decide) ?_
      refine j_bipush (v := (108 : Int32)) hX eX7_parsesCommand_213 (by decide) ?_
      refine j_bipush (v := (100 : Int32)) hX eX7_parsesCommand_215 (by decide) ?_
      refine j_callV (a := a0) (q := (RX7, TX7, 17)) (r' := rX7_needsThree) (As := [.int (111 : Int32), .int (108 : Int32), .int (100 : Int32)]) (rest := []) (d1 := d) hX eX7_parsesCommand_217 mm_LiftGroupModel_231 rfl t12 (by decide) rfl h rfl (Nat.le_refl _) (Nat.zero_le _) (Nat.zero_le _) (Nat.le_of_ble_eq_true rfl) (fun vz9 Mz9 qz9 => ?_) (fun Ez9 Mz9 qz9 => ?_)
      · obtain ⟨M44, eMz9⟩ : ∃ M44, M44 = Mz9 := ⟨_, rfl⟩; subst eMz9
        obtain ⟨hxz9, h⟩ := qz9
        cases hxz9
        refine j_aload_n hX eX7_parsesCommand_220 1 rfl ?_
        obtain ⟨t46, h⟩ := h
        obtain ⟨z47, h⟩ := h
        refine j_getR hX eX7_parsesCommand_221 ff_LiftGroupModel_39 rfl t46 (by decide) z47 ?_
        refine j_nmR (fun p48 ep48 => ?_)
        replace h := h p48 ep48
        refine j_iload_n hX eX7_parsesCommand_224 2 rfl ?_
        refine j_iconst (v := (1 : Int32)) hX eX7_parsesCommand_225 (by decide) ?_
        refine j_iadd hX eX7_parsesCommand_226 ?_
        refine j_aload_n hX eX7_parsesCommand_227 1 rfl ?_
        refine j_iconst (v := (1 : Int32)) hX eX7_parsesCommand_228 (by decide) ?_
        refine j_callV (a := a0) (q := (RX7, TX7, 17)) (r' := rX7_digits) (As := [.int (1 : Int32)]) (rest := [.int (a1 + (1 : Int32)), .ref p48]) (d1 := d) hX eX7_parsesCommand_229 mm_LiftGroupModel_228 rfl t46 (by decide) rfl h rfl (Nat.le_refl _) (Nat.zero_le _) (Nat.zero_le _) (Nat.le_of_ble_eq_true rfl) (fun vz9 Mz9 qz9 => ?_) (fun Ez9 Mz9 qz9 => ?_)
        · obtain ⟨M49, eMz9⟩ : ∃ M49, M49 = Mz9 := ⟨_, rfl⟩; subst eMz9
          obtain ⟨v50, hxz9, h⟩ := qz9
          cases hxz9
          obtain ⟨t51, h⟩ := h
          obtain ⟨i52, h⟩ := h
          refine j_iast hX eX7_parsesCommand_232 t51 i52 ?_
          refine j_nmM (fun M53 eM53 => ?_)
          replace h := h M53 eM53
          have t54 : hp_T M53 (p48) = 22 := by rw [eM53]; exact t51
          refine j_aload_n hX eX7_parsesCommand_233 1 rfl ?_
          obtain ⟨t55, h⟩ := h
          obtain ⟨z56, h⟩ := h
          refine j_getR hX eX7_parsesCommand_234 ff_LiftGroupModel_39 rfl t55 (by decide) z56 ?_
          refine j_nmR (fun p57 ep57 => ?_)
          replace h := h p57 ep57
          refine j_iload_n hX eX7_parsesCommand_237 2 rfl ?_
          refine j_iconst (v := (2 : Int32)) hX eX7_parsesCommand_238 (by decide) ?_
          refine j_iadd hX eX7_parsesCommand_239 ?_
          refine j_aload_n hX eX7_parsesCommand_240 1 rfl ?_
          refine j_iconst (v := (1 : Int32)) hX eX7_parsesCommand_241 (by decide) ?_
          refine j_callV (a := a0) (q := (RX7, TX7, 17)) (r' := rX7_digits) (As := [.int (1 : Int32)]) (rest := [.int (a1 + (2 : Int32)), .ref p57]) (d1 := d) hX eX7_parsesCommand_242 mm_LiftGroupModel_228 rfl t55 (by decide) rfl h rfl (Nat.le_refl _) (Nat.zero_le _) (Nat.zero_le _) (Nat.le_of_ble_eq_true rfl) (fun vz9 Mz9 qz9 => ?_) (fun Ez9 Mz9 qz9 => ?_)
          · obtain ⟨M58, eMz9⟩ : ∃ M58, M58 = Mz9 := ⟨_, rfl⟩; subst eMz9
            obtain ⟨v59, hxz9, h⟩ := qz9
            cases hxz9
            obtain ⟨t60, h⟩ := h
            obtain ⟨i61, h⟩ := h
            refine j_iast hX eX7_parsesCommand_245 t60 i61 ?_
            refine j_nmM (fun M62 eM62 => ?_)
            replace h := h M62 eM62
            have t63 : hp_T M62 (p57) = 22 := by rw [eM62]; exact t60
            refine j_goto hX 272 eX7_parsesCommand_246 (by decide) ?_
            exact j_vret hX hM eX7_parsesCommand_272 rfl h
          · obtain ⟨v59, hxz9, h⟩ := qz9
            cases hxz9
        · obtain ⟨v50, hxz9, h⟩ := qz9
          cases hxz9
      · obtain ⟨hxz9, h⟩ := qz9
        cases hxz9
    replace h := h.2
    by_cases c114 : v2 = (108 : Int32)
    · refine j_lookup hX 116 eX7_parsesCommand_23 (by decide) (by first | (rw [c114]; done) | (rw [c114]; decide)) (by decide) ?_
      replace h := h.1 c114
      refine j_aload_n hX eX7_parsesCommand_116 1 rfl ?_
      refine j_callV (a := a0) (q := (RX7, TX7, 17)) (r' := rX7_here) (As := []) (rest := []) (d1 := d) hX eX7_parsesCommand_117 mm_LiftGroupModel_221 rfl t12 (by decide) rfl h rfl (Nat.le_refl _) (Nat.zero_le _) (Nat.zero_le _) (Nat.le_of_ble_eq_true rfl) (fun vz9 Mz9 qz9 => ?_) (fun Ez9 Mz9 qz9 => ?_)
      · obtain ⟨M65, eMz9⟩ : ∃ M65, M65 = Mz9 := ⟨_, rfl⟩; subst eMz9
        obtain ⟨v66, hxz9, h⟩ := qz9
        cases hxz9
        refine j_bipush (v := (105 : Int32)) hX eX7_parsesCommand_120 (by decide) ?_
        refine j_icmp_ne hX 178 eX7_parsesCommand_122 (by decide) (fun c67 => ?_) (fun c67 => ?_)
        · replace h := h.2 c67
          refine j_aload_n hX eX7_parsesCommand_178 1 rfl ?_
          refine j_bipush (v := (101 : Int32)) hX eX7_parsesCommand_179 (by decide) ?_
          refine j_bipush (v := (97 : Int32)) hX eX7_parsesCommand_181 (by decide) ?_
          refine j_bipush (v := (118 : Int32)) hX eX7_parsesCommand_183 (by decide) ?_
          obtain ⟨t70, h⟩ := h
          refine j_callV (a := a0) (q := (RX7, TX7, 17)) (r' := rX7_needsThree) (As := [.int (101 : Int32), .int (97 : Int32), .int (118 : Int32)]) (rest := []) (d1 := d) hX eX7_parsesCommand_185 mm_LiftGroupModel_231 rfl t70 (by decide) rfl h rfl (Nat.le_refl _) (Nat.zero_le _) (Nat.zero_le _) (Nat.le_of_ble_eq_true rfl) (fun vz9 Mz9 qz9 => ?_) (fun Ez9 Mz9 qz9 => ?_)
          · obtain ⟨M68, eMz9⟩ : ∃ M68, M68 = Mz9 := ⟨_, rfl⟩; subst eMz9
            obtain ⟨hxz9, h⟩ := qz9
            cases hxz9
            refine j_aload_n hX eX7_parsesCommand_188 1 rfl ?_
            refine j_bipush (v := (101 : Int32)) hX eX7_parsesCommand_189 (by decide) ?_
            obtain ⟨t73, h⟩ := h
            refine j_callV (a := a0) (q := (RX7, TX7, 17)) (r' := rX7_needs) (As := [.int (101 : Int32)]) (rest := []) (d1 := d) hX eX7_parsesCommand_191 mm_LiftGroupModel_225 rfl t73 (by decide) rfl h rfl (Nat.le_refl _) (Nat.zero_le _) (Nat.zero_le _) (Nat.le_of_ble_eq_true rfl) (fun vz9 Mz9 qz9 => ?_) (fun Ez9 Mz9 qz9 => ?_)
            · obtain ⟨M71, eMz9⟩ : ∃ M71, M71 = Mz9 := ⟨_, rfl⟩; subst eMz9
              obtain ⟨hxz9, h⟩ := qz9
              cases hxz9
              refine j_aload_n hX eX7_parsesCommand_194 1 rfl ?_
              obtain ⟨t74, h⟩ := h
              obtain ⟨z75, h⟩ := h
              refine j_getR hX eX7_parsesCommand_195 ff_LiftGroupModel_39 rfl t74 (by decide) z75 ?_
              refine j_nmR (fun p76 ep76 => ?_)
              replace h := h p76 ep76
              refine j_iload_n hX eX7_parsesCommand_198 2 rfl ?_
              refine j_iconst (v := (1 : Int32)) hX eX7_parsesCommand_199 (by decide) ?_
              refine j_iadd hX eX7_parsesCommand_200 ?_
              refine j_aload_n hX eX7_parsesCommand_201 1 rfl ?_
              refine j_iconst (v := (3 : Int32)) hX eX7_parsesCommand_202 (by decide) ?_
              refine j_callV (a := a0) (q := (RX7, TX7, 17)) (r' := rX7_digits) (As := [.int (3 : Int32)]) (rest := [.int (a1 + (1 : Int32)), .ref p76]) (d1 := d) hX eX7_parsesCommand_203 mm_LiftGroupModel_228 rfl t74 (by decide) rfl h rfl (Nat.le_refl _) (Nat.zero_le _) (Nat.zero_le _) (Nat.le_of_ble_eq_true rfl) (fun vz9 Mz9 qz9 => ?_) (fun Ez9 Mz9 qz9 => ?_)
              · obtain ⟨M77, eMz9⟩ : ∃ M77, M77 = Mz9 := ⟨_, rfl⟩; subst eMz9
                obtain ⟨v78, hxz9, h⟩ := qz9
                cases hxz9
                obtain ⟨t79, h⟩ := h
                obtain ⟨i80, h⟩ := h
                refine j_iast hX eX7_parsesCommand_206 t79 i80 ?_
                refine j_nmM (fun M81 eM81 => ?_)
                replace h := h M81 eM81
                have t82 : hp_T M81 (p76) = 22 := by rw [eM81]; exact t79
                refine j_goto hX 272 eX7_parsesCommand_207 (by decide) ?_
                exact j_vret hX hM eX7_parsesCommand_272 rfl h
              · obtain ⟨v78, hxz9, h⟩ := qz9
                cases hxz9
            · obtain ⟨hxz9, h⟩ := qz9
              cases hxz9
          · obtain ⟨hxz9, h⟩ := qz9
            cases hxz9
        · replace h := h.1 c67
          refine j_aload_n hX eX7_parsesCommand_125 1 rfl ?_
          obtain ⟨t83, h⟩ := h
          obtain ⟨z84, h⟩ := h
          refine j_getR hX eX7_parsesCommand_126 ff_LiftGroupModel_39 rfl t83 (by decide) z84 ?_
          refine j_nmR (fun p85 ep85 => ?_)
          replace h := h p85 ep85
          refine j_iload_n hX eX7_parsesCommand_129 2 rfl ?_
          refine j_bipush (v := (105 : Int32)) hX eX7_parsesCommand_130 (by decide) ?_
          obtain ⟨t86, h⟩ := h
          obtain ⟨i87, h⟩ := h
          refine j_iast hX eX7_parsesCommand_132 t86 i87 ?_
          refine j_nmM (fun M88 eM88 => ?_)
          replace h := h M88 eM88
          have t89 : hp_T M88 (a0) = 8 := by rw [eM88]; exact t83
          have t90 : hp_T M88 (p85) = 22 := by rw [eM88]; exact t86
          refine j_aload_n hX eX7_parsesCommand_133 1 rfl ?_
          refine j_bipush (v := (105 : Int32)) hX eX7_parsesCommand_134 (by decide) ?_
          refine j_bipush (v := (109 : Int32)) hX eX7_parsesCommand_136 (by decide) ?_
          refine j_bipush (v := (105 : Int32)) hX eX7_parsesCommand_138 (by decide) ?_
          refine j_callV (a := a0) (q := (RX7, TX7, 17)) (r' := rX7_needsThree) (As := [.int (105 : Int32), .int (109 : Int32), .int (105 : Int32)]) (rest := []) (d1 := d) hX eX7_parsesCommand_140 mm_LiftGroupModel_231 rfl t89 (by decide) rfl h rfl (Nat.le_refl _) (Nat.zero_le _) (Nat.zero_le _) (Nat.le_of_ble_eq_true rfl) (fun vz9 Mz9 qz9 => ?_) (fun Ez9 Mz9 qz9 => ?_)
          · obtain ⟨M91, eMz9⟩ : ∃ M91, M91 = Mz9 := ⟨_, rfl⟩; subst eMz9
            obtain ⟨hxz9, h⟩ := qz9
            cases hxz9
            refine j_aload_n hX eX7_parsesCommand_143 1 rfl ?_
            refine j_bipush (v := (116 : Int32)) hX eX7_parsesCommand_144 (by decide) ?_
            obtain ⟨t95, h⟩ := h
            refine j_callV (a := a0) (q := (RX7, TX7, 17)) (r' := rX7_needs) (As := [.int (116 : Int32)]) (rest := []) (d1 := d) hX eX7_parsesCommand_146 mm_LiftGroupModel_225 rfl t95 (by decide) rfl h rfl (Nat.le_refl _) (Nat.zero_le _) (Nat.zero_le _) (Nat.le_of_ble_eq_true rfl) (fun vz9 Mz9 qz9 => ?_) (fun Ez9 Mz9 qz9 => ?_)
            · obtain ⟨M93, eMz9⟩ : ∃ M93, M93 = Mz9 := ⟨_, rfl⟩; subst eMz9
              obtain ⟨hxz9, h⟩ := qz9
              cases hxz9
              refine j_aload_n hX eX7_parsesCommand_149 1 rfl ?_
              obtain ⟨t96, h⟩ := h
              obtain ⟨z97, h⟩ := h
              refine j_getR hX eX7_parsesCommand_150 ff_LiftGroupModel_39 rfl t96 (by decide) z97 ?_
              refine j_nmR (fun p98 ep98 => ?_)
              replace h := h p98 ep98
              refine j_iload_n hX eX7_parsesCommand_153 2 rfl ?_
              refine j_iconst (v := (1 : Int32)) hX eX7_parsesCommand_154 (by decide) ?_
              refine j_iadd hX eX7_parsesCommand_155 ?_
              refine j_aload_n hX eX7_parsesCommand_156 1 rfl ?_
              refine j_iconst (v := (1 : Int32)) hX eX7_parsesCommand_157 (by decide) ?_
              refine j_callV (a := a0) (q := (RX7, TX7, 17)) (r' := rX7_digits) (As := [.int (1 : Int32)]) (rest := [.int (a1 + (1 : Int32)), .ref p98]) (d1 := d) hX eX7_parsesCommand_158 mm_LiftGroupModel_228 rfl t96 (by decide) rfl h rfl (Nat.le_refl _) (Nat.zero_le _) (Nat.zero_le _) (Nat.le_of_ble_eq_true rfl) (fun vz9 Mz9 qz9 => ?_) (fun Ez9 Mz9 qz9 => ?_)
              · obtain ⟨M99, eMz9⟩ : ∃ M99, M99 = Mz9 := ⟨_, rfl⟩; subst eMz9
                obtain ⟨v100, hxz9, h⟩ := qz9
                cases hxz9
                obtain ⟨t101, h⟩ := h
                obtain ⟨i102, h⟩ := h
                refine j_iast hX eX7_parsesCommand_161 t101 i102 ?_
                refine j_nmM (fun M103 eM103 => ?_)
                replace h := h M103 eM103
                have t104 : hp_T M103 (p98) = 22 := by rw [eM103]; exact t101
                refine j_aload_n hX eX7_parsesCommand_162 1 rfl ?_
                obtain ⟨t105, h⟩ := h
                obtain ⟨z106, h⟩ := h
                refine j_getR hX eX7_parsesCommand_163 ff_LiftGroupModel_39 rfl t105 (by decide) z106 ?_
                refine j_nmR (fun p107 ep107 => ?_)
                replace h := h p107 ep107
                refine j_iload_n hX eX7_parsesCommand_166 2 rfl ?_
                refine j_iconst (v := (2 : Int32)) hX eX7_parsesCommand_167 (by decide) ?_
                refine j_iadd hX eX7_parsesCommand_168 ?_
                refine j_aload_n hX eX7_parsesCommand_169 1 rfl ?_
                refine j_iconst (v := (3 : Int32)) hX eX7_parsesCommand_170 (by decide) ?_
                refine j_callV (a := a0) (q := (RX7, TX7, 17)) (r' := rX7_digits) (As := [.int (3 : Int32)]) (rest := [.int (a1 + (2 : Int32)), .ref p107]) (d1 := d) hX eX7_parsesCommand_171 mm_LiftGroupModel_228 rfl t105 (by decide) rfl h rfl (Nat.le_refl _) (Nat.zero_le _) (Nat.zero_le _) (Nat.le_of_ble_eq_true rfl) (fun vz9 Mz9 qz9 => ?_) (fun Ez9 Mz9 qz9 => ?_)
                · obtain ⟨M108, eMz9⟩ : ∃ M108, M108 = Mz9 := ⟨_, rfl⟩; subst eMz9
                  obtain ⟨v109, hxz9, h⟩ := qz9
                  cases hxz9
                  obtain ⟨t110, h⟩ := h
                  obtain ⟨i111, h⟩ := h
                  refine j_iast hX eX7_parsesCommand_174 t110 i111 ?_
                  refine j_nmM (fun M112 eM112 => ?_)
                  replace h := h M112 eM112
                  have t113 : hp_T M112 (p107) = 22 := by rw [eM112]; exact t110
                  refine j_goto hX 272 eX7_parsesCommand_175 (by decide) ?_
                  exact j_vret hX hM eX7_parsesCommand_272 rfl h
                · obtain ⟨v109, hxz9, h⟩ := qz9
                  cases hxz9
              · obtain ⟨v100, hxz9, h⟩ := qz9
                cases hxz9
            · obtain ⟨hxz9, h⟩ := qz9
              cases hxz9
          · obtain ⟨hxz9, h⟩ := qz9
            cases hxz9
      · obtain ⟨v66, hxz9, h⟩ := qz9
        cases hxz9
    replace h := h.2
    by_cases c117 : v2 = (115 : Int32)
    · refine j_lookup hX 249 eX7_parsesCommand_23 (by decide) (by first | (rw [c117]; done) | (rw [c117]; decide)) (by decide) ?_
      replace h := h.1 c117
      refine j_aload_n hX eX7_parsesCommand_249 1 rfl ?_
      refine j_iload_n hX eX7_parsesCommand_250 2 rfl ?_
      refine j_callV (a := a0) (q := (RX7, TX7, 17)) (r' := rX7_parsesS) (As := [.int a1]) (rest := []) (d1 := d) hX eX7_parsesCommand_251 mm_LiftGroupModel_235 rfl t12 (by decide) rfl h rfl (Nat.le_refl _) (Nat.zero_le _) (Nat.zero_le _) (Nat.le_of_ble_eq_true rfl) (fun vz9 Mz9 qz9 => ?_) (fun Ez9 Mz9 qz9 => ?_)
      · obtain ⟨M115, eMz9⟩ : ∃ M115, M115 = Mz9 := ⟨_, rfl⟩; subst eMz9
        obtain ⟨hxz9, h⟩ := qz9
        cases hxz9
        refine j_goto hX 272 eX7_parsesCommand_254 (by decide) ?_
        exact j_vret hX hM eX7_parsesCommand_272 rfl h
      · obtain ⟨hxz9, h⟩ := qz9
        cases hxz9
    replace h := h.2
    refine j_lookup (off := 234) hX 257 eX7_parsesCommand_23 (by decide) (by have i0 : v2.toInt ≠ 99 := fun z => c43 (am_i32 z (by decide)); have i1 : v2.toInt ≠ 104 := fun z => c64 (am_i32 z (by decide)); have i2 : v2.toInt ≠ 108 := fun z => c114 (am_i32 z (by decide)); have i3 : v2.toInt ≠ 115 := fun z => c117 (am_i32 z (by decide)); simp [Op.lookupswitch.offset, i0.symm, i1.symm, i2.symm, i3.symm]) (by decide) ?_
    replace h := h ⟨c43, c64, c114, c117⟩
    refine j_aload_n hX eX7_parsesCommand_257 1 rfl ?_
    refine j_iconst (v := (1 : Int32)) hX eX7_parsesCommand_258 (by decide) ?_
    obtain ⟨b118, h⟩ := h
    refine j_putI (ty := .boolean) hX eX7_parsesCommand_259 ff_LiftGroupModel_217 rfl t12 (by decide) pp_7_15 (am_bo_n b118) (am_bo_f b118) ?_
    refine j_nmM (fun M119 eM119 => ?_)
    replace h := h M119 eM119
    have t120 : hp_T M119 (a0) = 8 := by rw [eM119]; exact t12
    have t121 : hp_T M119 (p8) = 22 := by rw [eM119]; exact t13
    refine j_aload_n hX eX7_parsesCommand_262 1 rfl ?_
    refine j_dup hX eX7_parsesCommand_263 rfl ?_
    refine j_getI hX eX7_parsesCommand_264 ff_LiftGroupModel_214 rfl t120 (by decide) ?_
    refine j_iconst (v := (1 : Int32)) hX eX7_parsesCommand_267 (by decide) ?_
    refine j_isub hX eX7_parsesCommand_268 ?_
    refine j_putI (ty := .int) hX eX7_parsesCommand_269 ff_LiftGroupModel_214 rfl t120 (by decide) pp_7_14 rfl rfl ?_
    refine j_nmM (fun M122 eM122 => ?_)
    replace h := h M122 eM122
    have t123 : hp_T M122 (a0) = 8 := by rw [eM122]; exact t120
    have t124 : hp_T M122 (p8) = 22 := by rw [eM122]; exact t121
    exact j_vret hX hM eX7_parsesCommand_272 rfl h
  · obtain ⟨v2, hxz9, h⟩ := qz9
    cases hxz9

set_option maxHeartbeats 4000000 in
set_option maxRecDepth 20000 in
theorem vX7_carriesOut_0 {X : am_Cx} {G : am_Gx} {d : Nat} {Q : am_Q} (hX : am_ok X rX7_carriesOut G (d + 1)) (hM : am_me X rX7_carriesOut Q) {bc bs : Nat}  {a0 : Nat} {a1 : Int32} {M : am_Hp} (h : hp_T M (a0) = 8 ∧ (hp_R M 156 a0 ≠ 0 ∧ (∀ p3 : Nat, p3 = hp_R M 156 a0 → (hp_T M (p3) = 22 ∧ (vp_in (a1 + (1 : Int32)) (hp_N M p3) ∧ (∀ v6 : Int32, v6 = (hp_E M p3 ((a1 + (1 : Int32))).toNatClampNeg) → (hp_R M 156 a0 ≠ 0 ∧ (∀ p8 : Nat, p8 = hp_R M 156 a0 → (hp_T M (p8) = 22 ∧ (vp_in (a1 + (2 : Int32)) (hp_N M p8) ∧ (∀ v11 : Int32, v11 = (hp_E M p8 ((a1 + (2 : Int32))).toNatClampNeg) → (hp_R M 156 a0 ≠ 0 ∧ (∀ p13 : Nat, p13 = hp_R M 156 a0 → (hp_T M (p13) = 22 ∧ (vp_in a1 (hp_N M p13) ∧ (((hp_E M p13 (a1).toNatClampNeg).toInt < 97 ∨ 111 < (hp_E M p13 (a1).toNatClampNeg).toInt → (am_CT G d rX7_advances [.ref a0, .int v6] M 0 0 (fun oz9 M16 => ∃ v17 : Int32, oz9 = .inl (some (.int v17)) ∧ (Q (.inl (some (.int v17))) M16)))) ∧ ((hp_E M p13 (a1).toNatClampNeg) = (97 : Int32) → (am_CT G d rX7_starts [.ref a0, .int v6] M 0 0 (fun oz9 M18 => ∃ v19 : Int32, oz9 = .inl (some (.int v19)) ∧ (Q (.inl (some (.int v19))) M18)))) ∧ ((hp_E M p13 (a1).toNatClampNeg) = (98 : Int32) → (am_CT G d rX7_advances [.ref a0, .int v6] M 0 0 (fun oz9 M20 => ∃ v21 : Int32, oz9 = .inl (some (.int v21)) ∧ (Q (.inl (some (.int v21))) M20)))) ∧ ((hp_E M p13 (a1).toNatClampNeg) = (99 : Int32) → (hp_R M 156 a0 ≠ 0 ∧ (∀ p23 : Nat, p23 = hp_R M 156 a0 → (hp_T M (p23) = 22 ∧ (vp_in (a1 + (3 : Int32)) (hp_N M p23) ∧ (am_CT G d rX7_adds [.ref a0, .int v6, .int v11, .int (hp_E M p23 ((a1 + (3 : Int32))).toNatClampNeg)] M 0 0 (fun oz9 M26 => ∃ v27 : Int32, oz9 = .inl (some (.int v27)) ∧ (Q (.inl (some (.int v27))) M26)))))))) ∧ ((hp_E M p13 (a1).toNatClampNeg) = (100 : Int32) → (am_CT G d rX7_advances [.ref a0, .int v6] M 0 0 (fun oz9 M28 => ∃ v29 : Int32, oz9 = .inl (some (.int v29)) ∧ (Q (.inl (some (.int v29))) M28)))) ∧ ((hp_E M p13 (a1).toNatClampNeg) = (101 : Int32) → (am_CT G d rX7_advances [.ref a0, .int v6] M 0 0 (fun oz9 M30 => ∃ v31 : Int32, oz9 = .inl (some (.int v31)) ∧ (Q (.inl (some (.int v31))) M30)))) ∧ ((hp_E M p13 (a1).toNatClampNeg) = (102 : Int32) → (am_CT G d rX7_advances [.ref a0, .int v6] M 0 0 (fun oz9 M32 => ∃ v33 : Int32, oz9 = .inl (some (.int v33)) ∧ (Q (.inl (some (.int v33))) M32)))) ∧ ((hp_E M p13 (a1).toNatClampNeg) = (103 : Int32) → (am_CT G d rX7_advances [.ref a0, .int v6] M 0 0 (fun oz9 M34 => ∃ v35 : Int32, oz9 = .inl (some (.int v35)) ∧ (Q (.inl (some (.int v35))) M34)))) ∧ ((hp_E M p13 (a1).toNatClampNeg) = (104 : Int32) → (am_CT G d rX7_holds [.ref a0, .int v6, .int v11] M 0 0 (fun oz9 M36 => ∃ v37 : Int32, oz9 = .inl (some (.int v37)) ∧ (Q (.inl (some (.int v37))) M36)))) ∧ ((hp_E M p13 (a1).toNatClampNeg) = (105 : Int32) → (am_CT G d rX7_limits [.ref a0, .int v6, .int v11] M 0 0 (fun oz9 M38 => ∃ v39 : Int32, oz9 = .inl (some (.int v39)) ∧ (Q (.inl (some (.int v39))) M38)))) ∧ ((hp_E M p13 (a1).toNatClampNeg) = (106 : Int32) → (am_CT G d rX7_advances [.ref a0, .int v6] M 0 0 (fun oz9 M40 => ∃ v41 : Int32, oz9 = .inl (some (.int v41)) ∧ (Q (.inl (some (.int v41))) M40)))) ∧ ((hp_E M p13 (a1).toNatClampNeg) = (107 : Int32) → (am_CT G d rX7_advances [.ref a0, .int v6] M 0 0 (fun oz9 M42 => ∃ v43 : Int32, oz9 = .inl (some (.int v43)) ∧ (Q (.inl (some (.int v43))) M42)))) ∧ ((hp_E M p13 (a1).toNatClampNeg) = (108 : Int32) → (am_CT G d rX7_removes [.ref a0, .int v6] M 0 0 (fun oz9 M44 => ∃ v45 : Int32, oz9 = .inl (some (.int v45)) ∧ (Q (.inl (some (.int v45))) M44)))) ∧ ((hp_E M p13 (a1).toNatClampNeg) = (109 : Int32) → (am_CT G d rX7_advances [.ref a0, .int v6] M 0 0 (fun oz9 M46 => ∃ v47 : Int32, oz9 = .inl (some (.int v47)) ∧ (Q (.inl (some (.int v47))) M46)))) ∧ ((hp_E M p13 (a1).toNatClampNeg) = (110 : Int32) → (am_CT G d rX7_advances [.ref a0, .int v6] M 0 0 (fun oz9 M48 => ∃ v49 : Int32, oz9 = .inl (some (.int v49)) ∧ (Q (.inl (some (.int v49))) M48)))) ∧ ((hp_E M p13 (a1).toNatClampNeg) = (111 : Int32) → (am_CT G d rX7_stops [.ref a0, .int v6] M 0 0 (fun oz9 M50 => ∃ v51 : Int32, oz9 = .inl (some (.int v51)) ∧ (Q (.inl (some (.int v51))) M50)))))))))))))))))))) : am_J X 0 [(0, .ref a0), (1, .int a1)] [] M bc bs := by
  refine j_aload_n hX eX7_carriesOut_0 0 rfl ?_
  obtain ⟨t1, h⟩ := h
  obtain ⟨z2, h⟩ := h
  refine j_getR hX eX7_carriesOut_1 ff_LiftGroupModel_39 rfl t1 (by decide) z2 ?_
  refine j_nmR (fun p3 ep3 => ?_)
  replace h := h p3 ep3
  refine j_iload_n hX eX7_carriesOut_4 1 rfl ?_
  refine j_iconst (v := (1 : Int32)) hX eX7_carriesOut_5 (by decide) ?_
  refine j_iadd hX eX7_carriesOut_6 ?_
  obtain ⟨t4, h⟩ := h
  obtain ⟨i5, h⟩ := h
  refine j_iald hX eX7_carriesOut_7 t4 i5 ?_
  refine j_nmI (fun v6 ev6 => ?_)
  replace h := h v6 ev6
  refine j_istore_n (lv' := [(2, .int v6), (0, .ref a0), (1, .int a1)]) hX eX7_carriesOut_8 rfl (by decide) rfl ?_
  refine j_aload_n hX eX7_carriesOut_9 1 rfl ?_
  obtain ⟨z7, h⟩ := h
  refine j_getR hX eX7_carriesOut_10 ff_LiftGroupModel_39 rfl t1 (by decide) z7 ?_
  refine j_nmR (fun p8 ep8 => ?_)
  replace h := h p8 ep8
  refine j_iload_n hX eX7_carriesOut_13 2 rfl ?_
  refine j_iconst (v := (2 : Int32)) hX eX7_carriesOut_14 (by decide) ?_
  refine j_iadd hX eX7_carriesOut_15 ?_
  obtain ⟨t9, h⟩ := h
  obtain ⟨i10, h⟩ := h
  refine j_iald hX eX7_carriesOut_16 t9 i10 ?_
  refine j_nmI (fun v11 ev11 => ?_)
  replace h := h v11 ev11
  refine j_istore_n (lv' := [(3, .int v11), (2, .int v6), (0, .ref a0), (1, .int a1)]) hX eX7_carriesOut_17 rfl (by decide) rfl ?_
  refine j_aload_n hX eX7_carriesOut_18 2 rfl ?_
  obtain ⟨z12, h⟩ := h
  refine j_getR hX eX7_carriesOut_19 ff_LiftGroupModel_39 rfl t1 (by decide) z12 ?_
  refine j_nmR (fun p13 ep13 => ?_)
  replace h := h p13 ep13
  refine j_iload_n hX eX7_carriesOut_22 3 rfl ?_
  obtain ⟨t14, h⟩ := h
  obtain ⟨i15, h⟩ := h
  refine j_iald hX eX7_carriesOut_23 t14 i15 ?_
  by_cases hsw : (hp_E M p13 (a1).toNatClampNeg).toInt < 97 ∨ 111 < (hp_E M p13 (a1).toNatClampNeg).toInt
  · refine j_tableOut hX 147 eX7_carriesOut_24 hsw (by decide) ?_
    replace h := h.1 hsw
    refine j_aload_n hX eX7_carriesOut_147 2 rfl ?_
    refine j_iload_n hX eX7_carriesOut_148 1 rfl ?_
    refine j_callV (a := a0) (q := (RX7, TX7, 17)) (r' := rX7_advances) (As := [.int v6]) (rest := []) (d1 := d) hX eX7_carriesOut_149 mm_LiftGroupModel_159 rfl t1 (by decide) rfl h rfl (Nat.le_refl _) (Nat.zero_le _) (Nat.zero_le _) (Nat.le_of_ble_eq_true rfl) (fun vz9 Mz9 qz9 => ?_) (fun Ez9 Mz9 qz9 => ?_)
    · obtain ⟨M16, eMz9⟩ : ∃ M16, M16 = Mz9 := ⟨_, rfl⟩; subst eMz9
      obtain ⟨v17, hxz9, h⟩ := qz9
      cases hxz9
      exact j_iret hX hM eX7_carriesOut_152 rfl h
    · obtain ⟨v17, hxz9, h⟩ := qz9
      cases hxz9
  · replace h := h.2
    have hsw1 : ¬ (hp_E M p13 (a1).toNatClampNeg).toInt < 97 := fun z => hsw (Or.inl z)
    have hsw2 : ¬ 111 < (hp_E M p13 (a1).toNatClampNeg).toInt := fun z => hsw (Or.inr z)
    have hsw3 : (hp_E M p13 (a1).toNatClampNeg).toInt = 97 ∨ (hp_E M p13 (a1).toNatClampNeg).toInt = 98 ∨ (hp_E M p13 (a1).toNatClampNeg).toInt = 99 ∨ (hp_E M p13 (a1).toNatClampNeg).toInt = 100 ∨ (hp_E M p13 (a1).toNatClampNeg).toInt = 101 ∨ (hp_E M p13 (a1).toNatClampNeg).toInt = 102 ∨ (hp_E M p13 (a1).toNatClampNeg).toInt = 103 ∨ (hp_E M p13 (a1).toNatClampNeg).toInt = 104 ∨ (hp_E M p13 (a1).toNatClampNeg).toInt = 105 ∨ (hp_E M p13 (a1).toNatClampNeg).toInt = 106 ∨ (hp_E M p13 (a1).toNatClampNeg).toInt = 107 ∨ (hp_E M p13 (a1).toNatClampNeg).toInt = 108 ∨ (hp_E M p13 (a1).toNatClampNeg).toInt = 109 ∨ (hp_E M p13 (a1).toNatClampNeg).toInt = 110 ∨ (hp_E M p13 (a1).toNatClampNeg).toInt = 111 := by omega
    rcases hsw3 with hk | hk | hk | hk | hk | hk | hk | hk | hk | hk | hk | hk | hk | hk | hk
    · refine j_tableIn hX 134 eX7_carriesOut_24 hsw1 hsw2 (by rw [hk]; rfl) (by decide) ?_
      replace h := h.1 (am_i32 hk (by decide))
      refine j_aload_n hX eX7_carriesOut_134 2 rfl ?_
      refine j_iload_n hX eX7_carriesOut_135 1 rfl ?_
      refine j_callV (a := a0) (q := (RX7, TX7, 17)) (r' := rX7_starts) (As := [.int v6]) (rest := []) (d1 := d) hX eX7_carriesOut_136 mm_LiftGroupModel_128 rfl t1 (by decide) rfl h rfl (Nat.le_refl _) (Nat.zero_le _) (Nat.zero_le _) (Nat.le_of_ble_eq_true rfl) (fun vz9 Mz9 qz9 => ?_) (fun Ez9 Mz9 qz9 => ?_)
      · obtain ⟨M18, eMz9⟩ : ∃ M18, M18 = Mz9 := ⟨_, rfl⟩; subst eMz9
        obtain ⟨v19, hxz9, h⟩ := qz9
        cases hxz9
        exact j_iret hX hM eX7_carriesOut_139 rfl h
      · obtain ⟨v19, hxz9, h⟩ := qz9
        cases hxz9
    · refine j_tableIn hX 147 eX7_carriesOut_24 hsw1 hsw2 (by rw [hk]; rfl) (by decide) ?_
      replace h := h.2.1 (am_i32 hk (by decide))
      refine j_aload_n hX eX7_carriesOut_147 2 rfl ?_
      refine j_iload_n hX eX7_carriesOut_148 1 rfl ?_
      refine j_callV (a := a0) (q := (RX7, TX7, 17)) (r' := rX7_advances) (As := [.int v6]) (rest := []) (d1 := d) hX eX7_carriesOut_149 mm_LiftGroupModel_159 rfl t1 (by decide) rfl h rfl (Nat.le_refl _) (Nat.zero_le _) (Nat.zero_le _) (Nat.le_of_ble_eq_true rfl) (fun vz9 Mz9 qz9 => ?_) (fun Ez9 Mz9 qz9 => ?_)
      · obtain ⟨M20, eMz9⟩ : ∃ M20, M20 = Mz9 := ⟨_, rfl⟩; subst eMz9
        obtain ⟨v21, hxz9, h⟩ := qz9
        cases hxz9
        exact j_iret hX hM eX7_carriesOut_152 rfl h
      · obtain ⟨v21, hxz9, h⟩ := qz9
        cases hxz9
    · refine j_tableIn hX 100 eX7_carriesOut_24 hsw1 hsw2 (by rw [hk]; rfl) (by decide) ?_
      replace h := h.2.2.1 (am_i32 hk (by decide))
      refine j_aload_n hX eX7_carriesOut_100 2 rfl ?_
      refine j_iload_n hX eX7_carriesOut_101 1 rfl ?_
      refine j_iload_n hX eX7_carriesOut_102 0 rfl ?_
      refine j_aload_n hX eX7_carriesOut_103 2 rfl ?_
      obtain ⟨z22, h⟩ := h
      refine j_getR hX eX7_carriesOut_104 ff_LiftGroupModel_39 rfl t1 (by decide) z22 ?_
      refine j_nmR (fun p23 ep23 => ?_)
      replace h := h p23 ep23
      refine j_iload_n hX eX7_carriesOut_107 3 rfl ?_
      refine j_iconst (v := (3 : Int32)) hX eX7_carriesOut_108 (by decide) ?_
      refine j_iadd hX eX7_carriesOut_109 ?_
      obtain ⟨t24, h⟩ := h
      obtain ⟨i25, h⟩ := h
      refine j_iald hX eX7_carriesOut_110 t24 i25 ?_
      refine j_callV (a := a0) (q := (RX7, TX7, 17)) (r' := rX7_adds) (As := [.int v6, .int v11, .int (hp_E M p23 ((a1 + (3 : Int32))).toNatClampNeg)]) (rest := []) (d1 := d) hX eX7_carriesOut_111 mm_LiftGroupModel_103 rfl t1 (by decide) rfl h rfl (Nat.le_refl _) (Nat.zero_le _) (Nat.zero_le _) (Nat.le_of_ble_eq_true rfl) (fun vz9 Mz9 qz9 => ?_) (fun Ez9 Mz9 qz9 => ?_)
      · obtain ⟨M26, eMz9⟩ : ∃ M26, M26 = Mz9 := ⟨_, rfl⟩; subst eMz9
        obtain ⟨v27, hxz9, h⟩ := qz9
        cases hxz9
        exact j_iret hX hM eX7_carriesOut_114 rfl h
      · obtain ⟨v27, hxz9, h⟩ := qz9
        cases hxz9
    · refine j_tableIn hX 147 eX7_carriesOut_24 hsw1 hsw2 (by rw [hk]; rfl) (by decide) ?_
      replace h := h.2.2.2.1 (am_i32 hk (by decide))
      refine j_aload_n hX eX7_carriesOut_147 2 rfl ?_
      refine j_iload_n hX eX7_carriesOut_148 1 rfl ?_
      refine j_callV (a := a0) (q := (RX7, TX7, 17)) (r' := rX7_advances) (As := [.int v6]) (rest := []) (d1 := d) hX eX7_carriesOut_149 mm_LiftGroupModel_159 rfl t1 (by decide) rfl h rfl (Nat.le_refl _) (Nat.zero_le _) (Nat.zero_le _) (Nat.le_of_ble_eq_true rfl) (fun vz9 Mz9 qz9 => ?_) (fun Ez9 Mz9 qz9 => ?_)
      · obtain ⟨M28, eMz9⟩ : ∃ M28, M28 = Mz9 := ⟨_, rfl⟩; subst eMz9
        obtain ⟨v29, hxz9, h⟩ := qz9
        cases hxz9
        exact j_iret hX hM eX7_carriesOut_152 rfl h
      · obtain ⟨v29, hxz9, h⟩ := qz9
        cases hxz9
    · refine j_tableIn hX 147 eX7_carriesOut_24 hsw1 hsw2 (by rw [hk]; rfl) (by decide) ?_
      replace h := h.2.2.2.2.1 (am_i32 hk (by decide))
      refine j_aload_n hX eX7_carriesOut_147 2 rfl ?_
      refine j_iload_n hX eX7_carriesOut_148 1 rfl ?_
      refine j_callV (a := a0) (q := (RX7, TX7, 17)) (r' := rX7_advances) (As := [.int v6]) (rest := []) (d1 := d) hX eX7_carriesOut_149 mm_LiftGroupModel_159 rfl t1 (by decide) rfl h rfl (Nat.le_refl _) (Nat.zero_le _) (Nat.zero_le _) (Nat.le_of_ble_eq_true rfl) (fun vz9 Mz9 qz9 => ?_) (fun Ez9 Mz9 qz9 => ?_)
      · obtain ⟨M30, eMz9⟩ : ∃ M30, M30 = Mz9 := ⟨_, rfl⟩; subst eMz9
        obtain ⟨v31, hxz9, h⟩ := qz9
        cases hxz9
        exact j_iret hX hM eX7_carriesOut_152 rfl h
      · obtain ⟨v31, hxz9, h⟩ := qz9
        cases hxz9
    · refine j_tableIn hX 147 eX7_carriesOut_24 hsw1 hsw2 (by rw [hk]; rfl) (by decide) ?_
      replace h := h.2.2.2.2.2.1 (am_i32 hk (by decide))
      refine j_aload_n hX eX7_carriesOut_147 2 rfl ?_
      refine j_iload_n hX eX7_carriesOut_148 1 rfl ?_
      refine j_callV (a := a0) (q := (RX7, TX7, 17)) (r' := rX7_advances) (As := [.int v6]) (rest := []) (d1 := d) hX eX7_carriesOut_149 mm_LiftGroupModel_159 rfl t1 (by decide) rfl h rfl (Nat.le_refl _) (Nat.zero_le _) (Nat.zero_le _) (Nat.le_of_ble_eq_true rfl) (fun vz9 Mz9 qz9 => ?_) (fun Ez9 Mz9 qz9 => ?_)
      · obtain ⟨M32, eMz9⟩ : ∃ M32, M32 = Mz9 := ⟨_, rfl⟩; subst eMz9
        obtain ⟨v33, hxz9, h⟩ := qz9
        cases hxz9
        exact j_iret hX hM eX7_carriesOut_152 rfl h
      · obtain ⟨v33, hxz9, h⟩ := qz9
        cases hxz9
    · refine j_tableIn hX 147 eX7_carriesOut_24 hsw1 hsw2 (by rw [hk]; rfl) (by decide) ?_
      replace h := h.2.2.2.2.2.2.1 (am_i32 hk (by decide))
      refine j_aload_n hX eX7_carriesOut_147 2 rfl ?_
      refine j_iload_n hX eX7_carriesOut_148 1 rfl ?_
      refine j_callV (a := a0) (q := (RX7, TX7, 17)) (r' := rX7_advances) (As := [.int v6]) (rest := []) (d1 := d) hX eX7_carriesOut_149 mm_LiftGroupModel_159 rfl t1 (by decide) rfl h rfl (Nat.le_refl _) (Nat.zero_le _) (Nat.zero_le _) (Nat.le_of_ble_eq_true rfl) (fun vz9 Mz9 qz9 => ?_) (fun Ez9 Mz9 qz9 => ?_)
      · obtain ⟨M34, eMz9⟩ : ∃ M34, M34 = Mz9 := ⟨_, rfl⟩; subst eMz9
        obtain ⟨v35, hxz9, h⟩ := qz9
        cases hxz9
        exact j_iret hX hM eX7_carriesOut_152 rfl h
      · obtain ⟨v35, hxz9, h⟩ := qz9
        cases hxz9
    · refine j_tableIn hX 121 eX7_carriesOut_24 hsw1 hsw2 (by rw [hk]; rfl) (by decide) ?_
      replace h := h.2.2.2.2.2.2.2.1 (am_i32 hk (by decide))
      refine j_aload_n hX eX7_carriesOut_121 2 rfl ?_
      refine j_iload_n hX eX7_carriesOut_122 1 rfl ?_
      refine j_iload_n hX eX7_carriesOut_123 0 rfl ?_
      refine j_callV (a := a0) (q := (RX7, TX7, 17)) (r' := rX7_holds) (As := [.int v6, .int v11]) (rest := []) (d1 := d) hX eX7_carriesOut_124 mm_LiftGroupModel_122 rfl t1 (by decide) rfl h rfl (Nat.le_refl _) (Nat.zero_le _) (Nat.zero_le _) (Nat.le_of_ble_eq_true rfl) (fun vz9 Mz9 qz9 => ?_) (fun Ez9 Mz9 qz9 => ?_)
      · obtain ⟨M36, eMz9⟩ : ∃ M36, M36 = Mz9 := ⟨_, rfl⟩; subst eMz9
        obtain ⟨v37, hxz9, h⟩ := qz9
        cases hxz9
        exact j_iret hX hM eX7_carriesOut_127 rfl h
      · obtain ⟨v37, hxz9, h⟩ := qz9
        cases hxz9
    · refine j_tableIn hX 140 eX7_carriesOut_24 hsw1 hsw2 (by rw [hk]; rfl) (by decide) ?_
      replace h := h.2.2.2.2.2.2.2.2.1 (am_i32 hk (by decide))
      refine j_aload_n hX eX7_carriesOut_140 2 rfl ?_
      refine j_iload_n hX eX7_carriesOut_141 1 rfl ?_
      refine j_iload_n hX eX7_carriesOut_142 0 rfl ?_
      refine j_callV (a := a0) (q := (RX7, TX7, 17)) (r' := rX7_limits) (As := [.int v6, .int v11]) (rest := []) (d1 := d) hX eX7_carriesOut_143 mm_LiftGroupModel_131 rfl t1 (by decide) rfl h rfl (Nat.le_refl _) (Nat.zero_le _) (Nat.zero_le _) (Nat.le_of_ble_eq_true rfl) (fun vz9 Mz9 qz9 => ?_) (fun Ez9 Mz9 qz9 => ?_)
      · obtain ⟨M38, eMz9⟩ : ∃ M38, M38 = Mz9 := ⟨_, rfl⟩; subst eMz9
        obtain ⟨v39, hxz9, h⟩ := qz9
        cases hxz9
        exact j_iret hX hM eX7_carriesOut_146 rfl h
      · obtain ⟨v39, hxz9, h⟩ := qz9
        cases hxz9
    · refine j_tableIn hX 147 eX7_carriesOut_24 hsw1 hsw2 (by rw [hk]; rfl) (by decide) ?_
      replace h := h.2.2.2.2.2.2.2.2.2.1 (am_i32 hk (by decide))
      refine j_aload_n hX eX7_carriesOut_147 2 rfl ?_
      refine j_iload_n hX eX7_carriesOut_148 1 rfl ?_
      refine j_callV (a := a0) (q := (RX7, TX7, 17)) (r' := rX7_advances) (As := [.int v6]) (rest := []) (d1 := d) hX eX7_carriesOut_149 mm_LiftGroupModel_159 rfl t1 (by decide) rfl h rfl (Nat.le_refl _) (Nat.zero_le _) (Nat.zero_le _) (Nat.le_of_ble_eq_true rfl) (fun vz9 Mz9 qz9 => ?_) (fun Ez9 Mz9 qz9 => ?_)
      · obtain ⟨M40, eMz9⟩ : ∃ M40, M40 = Mz9 := ⟨_, rfl⟩; subst eMz9
        obtain ⟨v41, hxz9, h⟩ := qz9
        cases hxz9
        exact j_iret hX hM eX7_carriesOut_152 rfl h
      · obtain ⟨v41, hxz9, h⟩ := qz9
        cases hxz9
    · refine j_tableIn hX 147 eX7_carriesOut_24 hsw1 hsw2 (by rw [hk]; rfl) (by decide) ?_
      replace h := h.2.2.2.2.2.2.2.2.2.2.1 (am_i32 hk (by decide))
      refine j_aload_n hX eX7_carriesOut_147 2 rfl ?_
      refine j_iload_n hX eX7_carriesOut_148 1 rfl ?_
      refine j_callV (a := a0) (q := (RX7, TX7, 17)) (r' := rX7_advances) (As := [.int v6]) (rest := []) (d1 := d) hX eX7_carriesOut_149 mm_LiftGroupModel_159 rfl t1 (by decide) rfl h rfl (Nat.le_refl _) (Nat.zero_le _) (Nat.zero_le _) (Nat.le_of_ble_eq_true rfl) (fun vz9 Mz9 qz9 => ?_) (fun Ez9 Mz9 qz9 => ?_)
      · obtain ⟨M42, eMz9⟩ : ∃ M42, M42 = Mz9 := ⟨_, rfl⟩; subst eMz9
        obtain ⟨v43, hxz9, h⟩ := qz9
        cases hxz9
        exact j_iret hX hM eX7_carriesOut_152 rfl h
      · obtain ⟨v43, hxz9, h⟩ := qz9
        cases hxz9
    · refine j_tableIn hX 115 eX7_carriesOut_24 hsw1 hsw2 (by rw [hk]; rfl) (by decide) ?_
      replace h := h.2.2.2.2.2.2.2.2.2.2.2.1 (am_i32 hk (by decide))
      refine j_aload_n hX eX7_carriesOut_115 2 rfl ?_
      refine j_iload_n hX eX7_carriesOut_116 1 rfl ?_
      refine j_callV (a := a0) (q := (RX7, TX7, 17)) (r' := rX7_removes) (As := [.int v6]) (rest := []) (d1 := d) hX eX7_carriesOut_117 mm_LiftGroupModel_116 rfl t1 (by decide) rfl h rfl (Nat.le_refl _) (Nat.zero_le _) (Nat.zero_le _) (Nat.le_of_ble_eq_true rfl) (fun vz9 Mz9 qz9 => ?_) (fun Ez9 Mz9 qz9 => ?_)
      · obtain ⟨M44, eMz9⟩ : ∃ M44, M44 = Mz9 := ⟨_, rfl⟩; subst eMz9
        obtain ⟨v45, hxz9, h⟩ := qz9
        cases hxz9
        exact j_iret hX hM eX7_carriesOut_120 rfl h
      · obtain ⟨v45, hxz9, h⟩ := qz9
        cases hxz9
    · refine j_tableIn hX 147 eX7_carriesOut_24 hsw1 hsw2 (by rw [hk]; rfl) (by decide) ?_
      replace h := h.2.2.2.2.2.2.2.2.2.2.2.2.1 (am_i32 hk (by decide))
      refine j_aload_n hX eX7_carriesOut_147 2 rfl ?_
      refine j_iload_n hX eX7_carriesOut_148 1 rfl ?_
      refine j_callV (a := a0) (q := (RX7, TX7, 17)) (r' := rX7_advances) (As := [.int v6]) (rest := []) (d1 := d) hX eX7_carriesOut_149 mm_LiftGroupModel_159 rfl t1 (by decide) rfl h rfl (Nat.le_refl _) (Nat.zero_le _) (Nat.zero_le _) (Nat.le_of_ble_eq_true rfl) (fun vz9 Mz9 qz9 => ?_) (fun Ez9 Mz9 qz9 => ?_)
      · obtain ⟨M46, eMz9⟩ : ∃ M46, M46 = Mz9 := ⟨_, rfl⟩; subst eMz9
        obtain ⟨v47, hxz9, h⟩ := qz9
        cases hxz9
        exact j_iret hX hM eX7_carriesOut_152 rfl h
      · obtain ⟨v47, hxz9, h⟩ := qz9
        cases hxz9
    · refine j_tableIn hX 147 eX7_carriesOut_24 hsw1 hsw2 (by rw [hk]; rfl) (by decide) ?_
      replace h := h.2.2.2.2.2.2.2.2.2.2.2.2.2.1 (am_i32 hk (by decide))
      refine j_aload_n hX eX7_carriesOut_147 2 rfl ?_
      refine j_iload_n hX eX7_carriesOut_148 1 rfl ?_
      refine j_callV (a := a0) (q := (RX7, TX7, 17)) (r' := rX7_advances) (As := [.int v6]) (rest := []) (d1 := d) hX eX7_carriesOut_149 mm_LiftGroupModel_159 rfl t1 (by decide) rfl h rfl (Nat.le_refl _) (Nat.zero_le _) (Nat.zero_le _) (Nat.le_of_ble_eq_true rfl) (fun vz9 Mz9 qz9 => ?_) (fun Ez9 Mz9 qz9 => ?_)
      · obtain ⟨M48, eMz9⟩ : ∃ M48, M48 = Mz9 := ⟨_, rfl⟩; subst eMz9
        obtain ⟨v49, hxz9, h⟩ := qz9
        cases hxz9
        exact j_iret hX hM eX7_carriesOut_152 rfl h
      · obtain ⟨v49, hxz9, h⟩ := qz9
        cases hxz9
    · refine j_tableIn hX 128 eX7_carriesOut_24 hsw1 hsw2 (by rw [hk]; rfl) (by decide) ?_
      replace h := h.2.2.2.2.2.2.2.2.2.2.2.2.2.2 (am_i32 hk (by decide))
      refine j_aload_n hX eX7_carriesOut_128 2 rfl ?_
      refine j_iload_n hX eX7_carriesOut_129 1 rfl ?_
      refine j_callV (a := a0) (q := (RX7, TX7, 17)) (r' := rX7_stops) (As := [.int v6]) (rest := []) (d1 := d) hX eX7_carriesOut_130 mm_LiftGroupModel_125 rfl t1 (by decide) rfl h rfl (Nat.le_refl _) (Nat.zero_le _) (Nat.zero_le _) (Nat.le_of_ble_eq_true rfl) (fun vz9 Mz9 qz9 => ?_) (fun Ez9 Mz9 qz9 => ?_)
      · obtain ⟨M50, eMz9⟩ : ∃ M50, M50 = Mz9 := ⟨_, rfl⟩; subst eMz9
        obtain ⟨v51, hxz9, h⟩ := qz9
        cases hxz9
        exact j_iret hX hM eX7_carriesOut_133 rfl h
      · obtain ⟨v51, hxz9, h⟩ := qz9
        cases hxz9

set_option maxHeartbeats 4000000 in
set_option maxRecDepth 20000 in
theorem vX7_runScript_0 {X : am_Cx} {G : am_Gx} {d : Nat} {Q : am_Q} (hX : am_ok X rX7_runScript G (d + 1)) (hM : am_me X rX7_runScript Q) {bc bs : Nat} (R14 : Nat → Int32 → Int32 → am_Hp → Prop) (k14 : ∀ (x0 : Nat) (x1 : Int32) (x2 : Int32) (M : am_Hp), R14 x0 x1 x2 M → am_J X 14 [(0, .ref x0), (1, .int x1), (2, .int x2)] [] M bc bs) {a0 : Nat} {M : am_Hp} (h : hp_T M (a0) = 8 ∧ (∀ M2 : am_Hp, M2 = hp_sI M 154 a0 (0 : Int32) → (am_bo (0 : Int32) ∧ (∀ M5 : am_Hp, M5 = hp_sI M2 155 a0 (0 : Int32) → (R14 a0 (0 : Int32) (1 : Int32) M5))))) : am_J X 0 [(0, .ref a0)] [] M bc bs := by
  refine j_aload_n hX eX7_runScript_0 0 rfl ?_
  refine j_iconst (v := (0 : Int32)) hX eX7_runScript_1 (by decide) ?_
  obtain ⟨t1, h⟩ := h
  refine j_putI (ty := .int) hX eX7_runScript_2 ff_LiftGroupModel_214 rfl t1 (by decide) pp_7_14 rfl rfl ?_
  refine j_nmM (fun M2 eM2 => ?_)
  replace h := h M2 eM2
  have t3 : hp_T M2 (a0) = 8 := by rw [eM2]; exact t1
  refine j_aload_n hX eX7_runScript_5 0 rfl ?_
  refine j_iconst (v := (0 : Int32)) hX eX7_runScript_6 (by decide) ?_
  obtain ⟨b4, h⟩ := h
  refine j_putI (ty := .boolean) hX eX7_runScript_7 ff_LiftGroupModel_217 rfl t3 (by decide) pp_7_15 (am_bo_n b4) (am_bo_f b4) ?_
  refine j_nmM (fun M5 eM5 => ?_)
  replace h := h M5 eM5
  have t6 : hp_T M5 (a0) = 8 := by rw [eM5]; exact t3
  refine j_iconst (v := (0 : Int32)) hX eX7_runScript_10 (by decide) ?_
  refine j_istore_n (lv' := [(1, .int (0 : Int32)), (0, .ref a0)]) hX eX7_runScript_11 rfl (by decide) rfl ?_
  refine j_iconst (v := (1 : Int32)) hX eX7_runScript_12 (by decide) ?_
  refine j_istore_n (lv' := [(2, .int (1 : Int32)), (1, .int (0 : Int32)), (0, .ref a0)]) hX eX7_runScript_13 rfl (by decide) rfl ?_
  exact j_sub [2, 1, 0] rfl (k14 _ _ _ _ h)
set_option maxHeartbeats 4000000 in
set_option maxRecDepth 20000 in
theorem vX7_runScript_14 {X : am_Cx} {G : am_Gx} {d : Nat} {Q : am_Q} (hX : am_ok X rX7_runScript G (d + 1)) (hM : am_me X rX7_runScript Q) {bc bs : Nat} (R14 : Nat → Int32 → Int32 → am_Hp → Prop) (k14 : ∀ (x0 : Nat) (x1 : Int32) (x2 : Int32) (M : am_Hp), R14 x0 x1 x2 M → am_J X 14 [(0, .ref x0), (1, .int x1), (2, .int x2)] [] M bc bs) (R130 : Nat → Int32 → Int32 → am_Hp → Prop) (k130 : ∀ (x0 : Nat) (x1 : Int32) (x3 : Int32) (M : am_Hp), R130 x0 x1 x3 M → am_J X 130 [(0, .ref x0), (1, .int x1), (3, .int x3)] [] M bc bs) {a0 : Nat} {a1 : Int32} {a2 : Int32} {M : am_Hp} (h : ((a2 = 0) → (hp_T M (a0) = 8 ∧ ((((hp_I M 155 a0) = 0) → ((((hp_I M 148 a0) ≤ (hp_I M 154 a0)) → (am_bo (0 : Int32) ∧ (∀ M18 : am_Hp, M18 = hp_sI M 155 a0 (0 : Int32) → (∀ M20 : am_Hp, M20 = hp_sI M18 148 a0 (0 : Int32) → ((((hp_I M20 155 a0) = 0) → (am_CT G d rX7_begin [.ref a0] M20 0 0 (fun oz9 M23 => oz9 = .inl none ∧ (R130 a0 a1 (0 : Int32) M23)))) ∧ (¬ ((hp_I M20 155 a0) = 0) → (∀ M25 : am_Hp, M25 = hp_sI M20 149 a0 (hp_I M20 154 a0) → (am_CT G d rX7_fails [.ref a0, .int (1 : Int32)] M25 0 0 (fun oz9 M27 => ∃ v28 : Int32, oz9 = .inl (some (.int v28)) ∧ (Q (.inl (some (.int v28))) M27)))))))))) ∧ (¬ ((hp_I M 148 a0) ≤ (hp_I M 154 a0)) → (am_bo (1 : Int32) ∧ (∀ M30 : am_Hp, M30 = hp_sI M 155 a0 (1 : Int32) → (∀ M32 : am_Hp, M32 = hp_sI M30 148 a0 (0 : Int32) → ((((hp_I M32 155 a0) = 0) → (am_CT G d rX7_begin [.ref a0] M32 0 0 (fun oz9 M35 => oz9 = .inl none ∧ (R130 a0 a1 (0 : Int32) M35)))) ∧ (¬ ((hp_I M32 155 a0) = 0) → (∀ M37 : am_Hp, M37 = hp_sI M32 149 a0 (hp_I M32 154 a0) → (am_CT G d rX7_fails [.ref a0, .int (1 : Int32)] M37 0 0 (fun oz9 M39 => ∃ v40 : Int32, oz9 = .inl (some (.int v40)) ∧ (Q (.inl (some (.int v40))) M39)))))))))))) ∧ (¬ ((hp_I M 155 a0) = 0) → (am_bo (1 : Int32) ∧ (∀ M5 : am_Hp, M5 = hp_sI M 155 a0 (1 : Int32) → (∀ M7 : am_Hp, M7 = hp_sI M5 148 a0 (0 : Int32) → ((((hp_I M7 155 a0) = 0) → (am_CT G d rX7_begin [.ref a0] M7 0 0 (fun oz9 M10 => oz9 = .inl none ∧ (R130 a0 a1 (0 : Int32) M10)))) ∧ (¬ ((hp_I M7 155 a0) = 0) → (∀ M12 : am_Hp, M12 = hp_sI M7 149 a0 (hp_I M7 154 a0) → (am_CT G d rX7_fails [.ref a0, .int (1 : Int32)] M12 0 0 (fun oz9 M14 => ∃ v15 : Int32, oz9 = .inl (some (.int v15)) ∧ (Q (.inl (some (.int v15))) M14))))))))))))) ∧ (¬ (a2 = 0) → (hp_T M (a0) = 8 ∧ (am_CT G d rX7_parsesCommand [.ref a0, .int ((4 : Int32) * a1)] M 0 0 (fun oz9 M41 => oz9 = .inl none ∧ (∀ v44 : Int32, v44 = a1 + (1 : Int32) → (hp_T M41 (a0) = 8 ∧ ((((hp_I M41 155 a0) = 0) → (am_CT G d rX7_here [.ref a0] M41 0 0 (fun oz9 M52 => ∃ v53 : Int32, oz9 = .inl (some (.int v53)) ∧ (((v53 = (59 : Int32)) → (hp_T M52 (a0) = 8 ∧ ((((1 : Int32) = 0) → (∀ M63 : am_Hp, M63 = hp_sI M52 154 a0 ((hp_I M52 154 a0) + (0 : Int32)) → (R14 a0 v44 (1 : Int32) M63))) ∧ (¬ ((1 : Int32) = 0) → (∀ M65 : am_Hp, M65 = hp_sI M52 154 a0 ((hp_I M52 154 a0) + (1 : Int32)) → (R14 a0 v44 (1 : Int32) M65)))))) ∧ (¬ (v53 = (59 : Int32)) → (hp_T M52 (a0) = 8 ∧ ((((0 : Int32) = 0) → (∀ M57 : am_Hp, M57 = hp_sI M52 154 a0 ((hp_I M52 154 a0) + (0 : Int32)) → (R14 a0 v44 (0 : Int32) M57))) ∧ (¬ ((0 : Int32) = 0) → (∀ M59 : am_Hp, M59 = hp_sI M52 154 a0 ((hp_I M52 154 a0) + (1 : Int32)) → (R14 a0 v44 (0 : Int32) M59)))))))))) ∧ (¬ ((hp_I M41 155 a0) = 0) → ((((0 : Int32) = 0) → (∀ M48 : am_Hp, M48 = hp_sI M41 154 a0 ((hp_I M41 154 a0) + (0 : Int32)) → (R14 a0 v44 (0 : Int32) M48))) ∧ (¬ ((0 : Int32) = 0) → (∀ M50 : am_Hp, M50 = hp_sI M41 154 a0 ((hp_I M41 154 a0) + (1 : Int32)) → (R14 a0 v44 (0 : Int32) M50))))))))))))) : am_J X 14 [(0, .ref a0), (1, .int a1), (2, .int a2)] [] M bc bs := by
  refine j_iload_n hX eX7_runScript_14 2 rfl ?_
  refine j_if_eq hX 71 eX7_runScript_15 (by decide) (fun c1 => ?_) (fun c1 => ?_)
  · replace h := h.1 c1
    refine j_aload_n hX eX7_runScript_71 0 rfl ?_
    refine j_aload_n hX eX7_runScript_72 0 rfl ?_
    obtain ⟨t2, h⟩ := h
    refine j_getI hX eX7_runScript_73 ff_LiftGroupModel_217 rfl t2 (by decide) ?_
    refine j_if_ne hX 90 eX7_runScript_76 (by decide) (fun c3 => ?_) (fun c3 => ?_)
    · replace h := h.2 c3
      refine j_iconst (v := (1 : Int32)) hX eX7_runScript_90 (by decide) ?_
      refine j_goto hX 95 eX7_runScript_91 (by decide) ?_
      obtain ⟨b4, h⟩ := h
      refine j_putI (ty := .boolean) hX eX7_runScript_95 ff_LiftGroupModel_217 rfl t2 (by decide) pp_7_15 (am_bo_n b4) (am_bo_f b4) ?_
      refine j_nmM (fun M5 eM5 => ?_)
      replace h := h M5 eM5
      have t6 : hp_T M5 (a0) = 8 := by rw [eM5]; exact t2
      refine j_aload_n hX eX7_runScript_98 0 rfl ?_
      refine j_iconst (v := (0 : Int32)) hX eX7_runScript_99 (by decide) ?_
      refine j_putI (ty := .int) hX eX7_runScript_100 ff_LiftGroupModel_211 rfl t6 (by decide) pp_7_8 rfl rfl ?_
      refine j_nmM (fun M7 eM7 => ?_)
      replace h := h M7 eM7
      have t8 : hp_T M7 (a0) = 8 := by rw [eM7]; exact t6
      refine j_aload_n hX eX7_runScript_103 0 rfl ?_
      refine j_getI hX eX7_runScript_104 ff_LiftGroupModel_217 rfl t8 (by decide) ?_
      refine j_if_eq hX 124 eX7_runScript_107 (by decide) (fun c9 => ?_) (fun c9 => ?_)
      · replace h := h.1 c9
        refine j_aload_n hX eX7_runScript_124 0 rfl ?_
        refine j_callV (a := a0) (q := (RX7, TX7, 17)) (r' := rX7_begin) (As := []) (rest := []) (d1 := d) hX eX7_runScript_125 mm_LiftGroupModel_100 rfl t8 (by decide) rfl h rfl (Nat.le_refl _) (Nat.zero_le _) (Nat.zero_le _) (Nat.le_of_ble_eq_true rfl) (fun vz9 Mz9 qz9 => ?_) (fun Ez9 Mz9 qz9 => ?_)
        · obtain ⟨M10, eMz9⟩ : ∃ M10, M10 = Mz9 := ⟨_, rfl⟩; subst eMz9
          obtain ⟨hxz9, h⟩ := qz9
          cases hxz9
          refine j_iconst (v := (0 : Int32)) hX eX7_runScript_128 (by decide) ?_
          refine j_istore_n (lv' := [(3, .int (0 : Int32)), (0, .ref a0), (1, .int a1), (2, .int a2)]) hX eX7_runScript_129 rfl (by decide) rfl ?_
          exact j_sub [1, 2, 0] rfl (k130 _ _ _ _ h)
        · obtain ⟨hxz9, h⟩ := qz9
          cases hxz9
      · replace h := h.2 c9
        refine j_aload_n hX eX7_runScript_110 0 rfl ?_
        refine j_aload_n hX eX7_runScript_111 0 rfl ?_
        refine j_getI hX eX7_runScript_112 ff_LiftGroupModel_214 rfl t8 (by decide) ?_
        refine j_putI (ty := .int) hX eX7_runScript_115 ff_LiftGroupModel_29 rfl t8 (by decide) pp_7_9 rfl rfl ?_
        refine j_nmM (fun M12 eM12 => ?_)
        replace h := h M12 eM12
        have t13 : hp_T M12 (a0) = 8 := by rw [eM12]; exact t8
        refine j_aload_n hX eX7_runScript_118 0 rfl ?_
        refine j_iconst (v := (1 : Int32)) hX eX7_runScript_119 (by decide) ?_
        refine j_callV (a := a0) (q := (RX7, TX7, 17)) (r' := rX7_fails) (As := [.int (1 : Int32)]) (rest := []) (d1 := d) hX eX7_runScript_120 mm_LiftGroupModel_90 rfl t13 (by decide) rfl h rfl (Nat.le_refl _) (Nat.zero_le _) (Nat.zero_le _) (Nat.le_of_ble_eq_true rfl) (fun vz9 Mz9 qz9 => ?_) (fun Ez9 Mz9 qz9 => ?_)
        · obtain ⟨M14, eMz9⟩ : ∃ M14, M14 = Mz9 := ⟨_, rfl⟩; subst eMz9
          obtain ⟨v15, hxz9, h⟩ := qz9
          cases hxz9
          exact j_iret hX hM eX7_runScript_123 rfl h
        · obtain ⟨v15, hxz9, h⟩ := qz9
          cases hxz9
    · replace h := h.1 c3
      refine j_aload_n hX eX7_runScript_79 0 rfl ?_
      refine j_getI hX eX7_runScript_80 ff_LiftGroupModel_214 rfl t2 (by decide) ?_
      refine j_aload_n hX eX7_runScript_83 0 rfl ?_
      refine j_getI hX eX7_runScript_84 ff_LiftGroupModel_211 rfl t2 (by decide) ?_
      refine j_icmp_ge hX 94 eX7_runScript_87 (by decide) (fun c16 => ?_) (fun c16 => ?_)
      · replace h := h.1 c16
        refine j_iconst (v := (0 : Int32)) hX eX7_runScript_94 (by decide) ?_
        obtain ⟨b17, h⟩ := h
        refine j_putI (ty := .boolean) hX eX7_runScript_95 ff_LiftGroupModel_217 rfl t2 (by decide) pp_7_15 (am_bo_n b17) (am_bo_f b17) ?_
        refine j_nmM (fun M18 eM18 => ?_)
        replace h := h M18 eM18
        have t19 : hp_T M18 (a0) = 8 := by rw [eM18]; exact t2
        refine j_aload_n hX eX7_runScript_98 0 rfl ?_
        refine j_iconst (v := (0 : Int32)) hX eX7_runScript_99 (by decide) ?_
        refine j_putI (ty := .int) hX eX7_runScript_100 ff_LiftGroupModel_211 rfl t19 (by decide) pp_7_8 rfl rfl ?_
        refine j_nmM (fun M20 eM20 => ?_)
        replace h := h M20 eM20
        have t21 : hp_T M20 (a0) = 8 := by rw [eM20]; exact t19
        refine j_aload_n hX eX7_runScript_103 0 rfl ?_
        refine j_getI hX eX7_runScript_104 ff_LiftGroupModel_217 rfl t21 (by decide) ?_
        refine j_if_eq hX 124 eX7_runScript_107 (by decide) (fun c22 => ?_) (fun c22 => ?_)
        · replace h := h.1 c22
          refine j_aload_n hX eX7_runScript_124 0 rfl ?_
          refine j_callV (a := a0) (q := (RX7, TX7, 17)) (r' := rX7_begin) (As := []) (rest := []) (d1 := d) hX eX7_runScript_125 mm_LiftGroupModel_100 rfl t21 (by decide) rfl h rfl (Nat.le_refl _) (Nat.zero_le _) (Nat.zero_le _) (Nat.le_of_ble_eq_true rfl) (fun vz9 Mz9 qz9 => ?_) (fun Ez9 Mz9 qz9 => ?_)
          · obtain ⟨M23, eMz9⟩ : ∃ M23, M23 = Mz9 := ⟨_, rfl⟩; subst eMz9
            obtain ⟨hxz9, h⟩ := qz9
            cases hxz9
            refine j_iconst (v := (0 : Int32)) hX eX7_runScript_128 (by decide) ?_
            refine j_istore_n (lv' := [(3, .int (0 : Int32)), (0, .ref a0), (1, .int a1), (2, .int a2)]) hX eX7_runScript_129 rfl (by decide) rfl ?_
            exact j_sub [1, 2, 0] rfl (k130 _ _ _ _ h)
          · obtain ⟨hxz9, h⟩ := qz9
            cases hxz9
        · replace h := h.2 c22
          refine j_aload_n hX eX7_runScript_110 0 rfl ?_
          refine j_aload_n hX eX7_runScript_111 0 rfl ?_
          refine j_getI hX eX7_runScript_112 ff_LiftGroupModel_214 rfl t21 (by decide) ?_
          refine j_putI (ty := .int) hX eX7_runScript_115 ff_LiftGroupModel_29 rfl t21 (by decide) pp_7_9 rfl rfl ?_
          refine j_nmM (fun M25 eM25 => ?_)
          replace h := h M25 eM25
          have t26 : hp_T M25 (a0) = 8 := by rw [eM25]; exact t21
          refine j_aload_n hX eX7_runScript_118 0 rfl ?_
          refine j_iconst (v := (1 : Int32)) hX eX7_runScript_119 (by decide) ?_
          refine j_callV (a := a0) (q := (RX7, TX7, 17)) (r' := rX7_fails) (As := [.int (1 : Int32)]) (rest := []) (d1 := d) hX eX7_runScript_120 mm_LiftGroupModel_90 rfl t26 (by decide) rfl h rfl (Nat.le_refl _) (Nat.zero_le _) (Nat.zero_le _) (Nat.le_of_ble_eq_true rfl) (fun vz9 Mz9 qz9 => ?_) (fun Ez9 Mz9 qz9 => ?_)
          · obtain ⟨M27, eMz9⟩ : ∃ M27, M27 = Mz9 := ⟨_, rfl⟩; subst eMz9
            obtain ⟨v28, hxz9, h⟩ := qz9
            cases hxz9
            exact j_iret hX hM eX7_runScript_123 rfl h
          · obtain ⟨v28, hxz9, h⟩ := qz9
            cases hxz9
      · replace h := h.2 c16
        refine j_iconst (v := (1 : Int32)) hX eX7_runScript_90 (by decide) ?_
        refine j_goto hX 95 eX7_runScript_91 (by decide) ?_
        obtain ⟨b29, h⟩ := h
        refine j_putI (ty := .boolean) hX eX7_runScript_95 ff_LiftGroupModel_217 rfl t2 (by decide) pp_7_15 (am_bo_n b29) (am_bo_f b29) ?_
        refine j_nmM (fun M30 eM30 => ?_)
        replace h := h M30 eM30
        have t31 : hp_T M30 (a0) = 8 := by rw [eM30]; exact t2
        refine j_aload_n hX eX7_runScript_98 0 rfl ?_
        refine j_iconst (v := (0 : Int32)) hX eX7_runScript_99 (by decide) ?_
        refine j_putI (ty := .int) hX eX7_runScript_100 ff_LiftGroupModel_211 rfl t31 (by decide) pp_7_8 rfl rfl ?_
        refine j_nmM (fun M32 eM32 => ?_)
        replace h := h M32 eM32
        have t33 : hp_T M32 (a0) = 8 := by rw [eM32]; exact t31
        refine j_aload_n hX eX7_runScript_103 0 rfl ?_
        refine j_getI hX eX7_runScript_104 ff_LiftGroupModel_217 rfl t33 (by decide) ?_
        refine j_if_eq hX 124 eX7_runScript_107 (by decide) (fun c34 => ?_) (fun c34 => ?_)
        · replace h := h.1 c34
          refine j_aload_n hX eX7_runScript_124 0 rfl ?_
          refine j_callV (a := a0) (q := (RX7, TX7, 17)) (r' := rX7_begin) (As := []) (rest := []) (d1 := d) hX eX7_runScript_125 mm_LiftGroupModel_100 rfl t33 (by decide) rfl h rfl (Nat.le_refl _) (Nat.zero_le _) (Nat.zero_le _) (Nat.le_of_ble_eq_true rfl) (fun vz9 Mz9 qz9 => ?_) (fun Ez9 Mz9 qz9 => ?_)
          · obtain ⟨M35, eMz9⟩ : ∃ M35, M35 = Mz9 := ⟨_, rfl⟩; subst eMz9
            obtain ⟨hxz9, h⟩ := qz9
            cases hxz9
            refine j_iconst (v := (0 : Int32)) hX eX7_runScript_128 (by decide) ?_
            refine j_istore_n (lv' := [(3, .int (0 : Int32)), (0, .ref a0), (1, .int a1), (2, .int a2)]) hX eX7_runScript_129 rfl (by decide) rfl ?_
            exact j_sub [1, 2, 0] rfl (k130 _ _ _ _ h)
          · obtain ⟨hxz9, h⟩ := qz9
            cases hxz9
        · replace h := h.2 c34
          refine j_aload_n hX eX7_runScript_110 0 rfl ?_
          refine j_aload_n hX eX7_runScript_111 0 rfl ?_
          refine j_getI hX eX7_runScript_112 ff_LiftGroupModel_214 rfl t33 (by decide) ?_
          refine j_putI (ty := .int) hX eX7_runScript_115 ff_LiftGroupModel_29 rfl t33 (by decide) pp_7_9 rfl rfl ?_
          refine j_nmM (fun M37 eM37 => ?_)
          replace h := h M37 eM37
          have t38 : hp_T M37 (a0) = 8 := by rw [eM37]; exact t33
          refine j_aload_n hX eX7_runScript_118 0 rfl ?_
          refine j_iconst (v := (1 : Int32)) hX eX7_runScript_119 (by decide) ?_
          refine j_callV (a := a0) (q := (RX7, TX7, 17)) (r' := rX7_fails) (As := [.int (1 : Int32)]) (rest := []) (d1 := d) hX eX7_runScript_120 mm_LiftGroupModel_90 rfl t38 (by decide) rfl h rfl (Nat.le_refl _) (Nat.zero_le _) (Nat.zero_le _) (Nat.le_of_ble_eq_true rfl) (fun vz9 Mz9 qz9 => ?_) (fun Ez9 Mz9 qz9 => ?_)
          · obtain ⟨M39, eMz9⟩ : ∃ M39, M39 = Mz9 := ⟨_, rfl⟩; subst eMz9
            obtain ⟨v40, hxz9, h⟩ := qz9
            cases hxz9
            exact j_iret hX hM eX7_runScript_123 rfl h
          · obtain ⟨v40, hxz9, h⟩ := qz9
            cases hxz9
  · replace h := h.2 c1
    refine j_aload_n hX eX7_runScript_18 0 rfl ?_
    refine j_iconst (v := (4 : Int32)) hX eX7_runScript_19 (by decide) ?_
    refine j_iload_n hX eX7_runScript_20 1 rfl ?_
    refine j_imul hX eX7_runScript_21 ?_
    obtain ⟨t43, h⟩ := h
    refine j_callV (a := a0) (q := (RX7, TX7, 17)) (r' := rX7_parsesCommand) (As := [.int ((4 : Int32) * a1)]) (rest := []) (d1 := d) hX eX7_runScript_22 mm_LiftGroupModel_238 rfl t43 (by decide) rfl h rfl (Nat.le_refl _) (Nat.zero_le _) (Nat.zero_le _) (Nat.le_of_ble_eq_true rfl) (fun vz9 Mz9 qz9 => ?_) (fun Ez9 Mz9 qz9 => ?_)
    · obtain ⟨M41, eMz9⟩ : ∃ M41, M41 = Mz9 := ⟨_, rfl⟩; subst eMz9
      obtain ⟨hxz9, h⟩ := qz9
      cases hxz9
      obtain ⟨v44, ev44⟩ : ∃ v44 : Int32, v44 = a1 + (1 : Int32) := ⟨_, rfl⟩
      replace h := h v44 ev44
      refine j_iinc (v := v44) (lv' := [(1, .int v44), (0, .ref a0), (2, .int a2)]) hX eX7_runScript_25 1 rfl (by rw [ev44]; rfl) (by decide) rfl ?_
      refine j_aload_n hX eX7_runScript_28 1 rfl ?_
      obtain ⟨t45, h⟩ := h
      refine j_getI hX eX7_runScript_29 ff_LiftGroupModel_217 rfl t45 (by decide) ?_
      refine j_if_ne hX 48 eX7_runScript_32 (by decide) (fun c46 => ?_) (fun c46 => ?_)
      · replace h := h.2 c46
        refine j_iconst (v := (0 : Int32)) hX eX7_runScript_48 (by decide) ?_
        refine j_istore_n (lv' := [(2, .int (0 : Int32)), (1, .int v44), (0, .ref a0)]) hX eX7_runScript_49 rfl (by decide) rfl ?_
        refine j_aload_n hX eX7_runScript_50 2 rfl ?_
        refine j_dup hX eX7_runScript_51 rfl ?_
        refine j_getI hX eX7_runScript_52 ff_LiftGroupModel_214 rfl t45 (by decide) ?_
        refine j_iload_n hX eX7_runScript_55 0 rfl ?_
        refine j_if_eq hX 63 eX7_runScript_56 (by decide) (fun c47 => ?_) (fun c47 => ?_)
        · replace h := h.1 c47
          refine j_iconst (v := (0 : Int32)) hX eX7_runScript_63 (by decide) ?_
          refine j_iadd hX eX7_runScript_64 ?_
          refine j_putI (ty := .int) hX eX7_runScript_65 ff_LiftGroupModel_214 rfl t45 (by decide) pp_7_14 rfl rfl ?_
          refine j_nmM (fun M48 eM48 => ?_)
          replace h := h M48 eM48
          have t49 : hp_T M48 (a0) = 8 := by rw [eM48]; exact t45
          refine j_goto hX 14 eX7_runScript_68 (by decide) ?_
          exact j_sub [2, 1, 0] rfl (k14 _ _ _ _ h)
        · replace h := h.2 c47
          refine j_iconst (v := (1 : Int32)) hX eX7_runScript_59 (by decide) ?_
          refine j_goto hX 64 eX7_runScript_60 (by decide) ?_
          refine j_iadd hX eX7_runScript_64 ?_
          refine j_putI (ty := .int) hX eX7_runScript_65 ff_LiftGroupModel_214 rfl t45 (by decide) pp_7_14 rfl rfl ?_
          refine j_nmM (fun M50 eM50 => ?_)
          replace h := h M50 eM50
          have t51 : hp_T M50 (a0) = 8 := by rw [eM50]; exact t45
          refine j_goto hX 14 eX7_runScript_68 (by decide) ?_
          exact j_sub [2, 1, 0] rfl (k14 _ _ _ _ h)
      · replace h := h.1 c46
        refine j_aload_n hX eX7_runScript_35 1 rfl ?_
        refine j_callV (a := a0) (q := (RX7, TX7, 17)) (r' := rX7_here) (As := []) (rest := []) (d1 := d) hX eX7_runScript_36 mm_LiftGroupModel_221 rfl t45 (by decide) rfl h rfl (Nat.le_refl _) (Nat.zero_le _) (Nat.zero_le _) (Nat.le_of_ble_eq_true rfl) (fun vz9 Mz9 qz9 => ?_) (fun Ez9 Mz9 qz9 => ?_)
        · obtain ⟨M52, eMz9⟩ : ∃ M52, M52 = Mz9 := ⟨_, rfl⟩; subst eMz9
          obtain ⟨v53, hxz9, h⟩ := qz9
          cases hxz9
          refine j_bipush (v := (59 : Int32)) hX eX7_runScript_39 (by decide) ?_
          refine j_icmp_ne hX 48 eX7_runScript_41 (by decide) (fun c54 => ?_) (fun c54 => ?_)
          · replace h := h.2 c54
            refine j_iconst (v := (0 : Int32)) hX eX7_runScript_48 (by decide) ?_
            refine j_istore_n (lv' := [(2, .int (0 : Int32)), (1, .int v44), (0, .ref a0)]) hX eX7_runScript_49 rfl (by decide) rfl ?_
            refine j_aload_n hX eX7_runScript_50 2 rfl ?_
            refine j_dup hX eX7_runScript_51 rfl ?_
            obtain ⟨t55, h⟩ := h
            refine j_getI hX eX7_runScript_52 ff_LiftGroupModel_214 rfl t55 (by decide) ?_
            refine j_iload_n hX eX7_runScript_55 0 rfl ?_
            refine j_if_eq hX 63 eX7_runScript_56 (by decide) (fun c56 => ?_) (fun c56 => ?_)
            · replace h := h.1 c56
              refine j_iconst (v := (0 : Int32)) hX eX7_runScript_63 (by decide) ?_
              refine j_iadd hX eX7_runScript_64 ?_
              refine j_putI (ty := .int) hX eX7_runScript_65 ff_LiftGroupModel_214 rfl t55 (by decide) pp_7_14 rfl rfl ?_
              refine j_nmM (fun M57 eM57 => ?_)
              replace h := h M57 eM57
              have t58 : hp_T M57 (a0) = 8 := by rw [eM57]; exact t55
              refine j_goto hX 14 eX7_runScript_68 (by decide) ?_
              exact j_sub [2, 1, 0] rfl (k14 _ _ _ _ h)
            · replace h := h.2 c56
              refine j_iconst (v := (1 : Int32)) hX eX7_runScript_59 (by decide) ?_
              refine j_goto hX 64 eX7_runScript_60 (by decide) ?_
              refine j_iadd hX eX7_runScript_64 ?_
              refine j_putI (ty := .int) hX eX7_runScript_65 ff_LiftGroupModel_214 rfl t55 (by decide) pp_7_14 rfl rfl ?_
              refine j_nmM (fun M59 eM59 => ?_)
              replace h := h M59 eM59
              have t60 : hp_T M59 (a0) = 8 := by rw [eM59]; exact t55
              refine j_goto hX 14 eX7_runScript_68 (by decide) ?_
              exact j_sub [2, 1, 0] rfl (k14 _ _ _ _ h)
          · replace h := h.1 c54
            refine j_iconst (v := (1 : Int32)) hX eX7_runScript_44 (by decide) ?_
            refine j_goto hX 49 eX7_runScript_45 (by decide) ?_
            refine j_istore_n (lv' := [(2, .int (1 : Int32)), (1, .int v44), (0, .ref a0)]) hX eX7_runScript_49 rfl (by decide) rfl ?_
            refine j_aload_n hX eX7_runScript_50 2 rfl ?_
            refine j_dup hX eX7_runScript_51 rfl ?_
            obtain ⟨t61, h⟩ := h
            refine j_getI hX eX7_runScript_52 ff_LiftGroupModel_214 rfl t61 (by decide) ?_
            refine j_iload_n hX eX7_runScript_55 0 rfl ?_
            refine j_if_eq hX 63 eX7_runScript_56 (by decide) (fun c62 => ?_) (fun c62 => ?_)
            · replace h := h.1 c62
              refine j_iconst (v := (0 : Int32)) hX eX7_runScript_63 (by decide) ?_
              refine j_iadd hX eX7_runScript_64 ?_
              refine j_putI (ty := .int) hX eX7_runScript_65 ff_LiftGroupModel_214 rfl t61 (by decide) pp_7_14 rfl rfl ?_
              refine j_nmM (fun M63 eM63 => ?_)
              replace h := h M63 eM63
              have t64 : hp_T M63 (a0) = 8 := by rw [eM63]; exact t61
              refine j_goto hX 14 eX7_runScript_68 (by decide) ?_
              exact j_sub [2, 1, 0] rfl (k14 _ _ _ _ h)
            · replace h := h.2 c62
              refine j_iconst (v := (1 : Int32)) hX eX7_runScript_59 (by decide) ?_
              refine j_goto hX 64 eX7_runScript_60 (by decide) ?_
              refine j_iadd hX eX7_runScript_64 ?_
              refine j_putI (ty := .int) hX eX7_runScript_65 ff_LiftGroupModel_214 rfl t61 (by decide) pp_7_14 rfl rfl ?_
              refine j_nmM (fun M65 eM65 => ?_)
              replace h := h M65 eM65
              have t66 : hp_T M65 (a0) = 8 := by rw [eM65]; exact t61
              refine j_goto hX 14 eX7_runScript_68 (by decide) ?_
              exact j_sub [2, 1, 0] rfl (k14 _ _ _ _ h)
        · obtain ⟨v53, hxz9, h⟩ := qz9
          cases hxz9
    · obtain ⟨hxz9, h⟩ := qz9
      cases hxz9
set_option maxHeartbeats 4000000 in
set_option maxRecDepth 20000 in
theorem vX7_runScript_130 {X : am_Cx} {G : am_Gx} {d : Nat} {Q : am_Q} (hX : am_ok X rX7_runScript G (d + 1)) (hM : am_me X rX7_runScript Q) {bc bs : Nat} (R130 : Nat → Int32 → Int32 → am_Hp → Prop) (k130 : ∀ (x0 : Nat) (x1 : Int32) (x3 : Int32) (M : am_Hp), R130 x0 x1 x3 M → am_J X 130 [(0, .ref x0), (1, .int x1), (3, .int x3)] [] M bc bs) {a0 : Nat} {a1 : Int32} {a3 : Int32} {M : am_Hp} (h : ((a1 ≤ a3) → (hp_T M (a0) = 8 ∧ (am_CT G d rX7_done [.ref a0, .int a1] M 0 0 (fun oz9 M2 => ∃ v3 : Int32, oz9 = .inl (some (.int v3)) ∧ (hp_T M2 (a0) = 8 ∧ (am_CT G d rX7_kept [.ref a0, .int v3] M2 0 0 (fun oz9 M5 => ∃ v6 : Int32, oz9 = .inl (some (.int v6)) ∧ (Q (.inl (some (.int v6))) M5)))))))) ∧ (¬ (a1 ≤ a3) → (hp_T M (a0) = 8 ∧ (am_CT G d rX7_carriesOut [.ref a0, .int ((4 : Int32) * a3)] M 0 0 (fun oz9 M8 => ∃ v9 : Int32, oz9 = .inl (some (.int v9)) ∧ (hp_T M8 (a0) = 8 ∧ ((((hp_I M8 153 a0) = 0) → (∀ v13 : Int32, v13 = a3 + (1 : Int32) → (R130 a0 a1 v13 M8))) ∧ (¬ ((hp_I M8 153 a0) = 0) → (∀ M14 : am_Hp, M14 = hp_sI M8 150 a0 a3 → (∀ M16 : am_Hp, M16 = hp_sI M14 153 a0 (2 : Int32) → (am_CT G d rX7_kept [.ref a0, .int v9] M16 0 0 (fun oz9 M18 => ∃ v19 : Int32, oz9 = .inl (some (.int v19)) ∧ (Q (.inl (some (.int v19))) M18))))))))))))) : am_J X 130 [(0, .ref a0), (1, .int a1), (3, .int a3)] [] M bc bs := by
  refine j_iload_n hX eX7_runScript_130 2 rfl ?_
  refine j_iload_n hX eX7_runScript_131 1 rfl ?_
  refine j_icmp_ge hX 174 eX7_runScript_132 (by decide) (fun c1 => ?_) (fun c1 => ?_)
  · replace h := h.1 c1
    refine j_aload_n hX eX7_runScript_174 0 rfl ?_
    refine j_aload_n hX eX7_runScript_175 0 rfl ?_
    refine j_iload_n hX eX7_runScript_176 1 rfl ?_
    obtain ⟨t4, h⟩ := h
    refine j_callV (a := a0) (q := (RX7, TX7, 17)) (r' := rX7_done) (As := [.int a1]) (rest := [.ref a0]) (d1 := d) hX eX7_runScript_177 mm_LiftGroupModel_97 rfl t4 (by decide) rfl h rfl (Nat.le_refl _) (Nat.zero_le _) (Nat.zero_le _) (Nat.le_of_ble_eq_true rfl) (fun vz9 Mz9 qz9 => ?_) (fun Ez9 Mz9 qz9 => ?_)
    · obtain ⟨M2, eMz9⟩ : ∃ M2, M2 = Mz9 := ⟨_, rfl⟩; subst eMz9
      obtain ⟨v3, hxz9, h⟩ := qz9
      cases hxz9
      obtain ⟨t7, h⟩ := h
      refine j_callV (a := a0) (q := (RX7, TX7, 17)) (r' := rX7_kept) (As := [.int v3]) (rest := []) (d1 := d) hX eX7_runScript_180 mm_LiftGroupModel_107 rfl t7 (by decide) rfl h rfl (Nat.le_refl _) (Nat.zero_le _) (Nat.zero_le _) (Nat.le_of_ble_eq_true rfl) (fun vz9 Mz9 qz9 => ?_) (fun Ez9 Mz9 qz9 => ?_)
      · obtain ⟨M5, eMz9⟩ : ∃ M5, M5 = Mz9 := ⟨_, rfl⟩; subst eMz9
        obtain ⟨v6, hxz9, h⟩ := qz9
        cases hxz9
        exact j_iret hX hM eX7_runScript_183 rfl h
      · obtain ⟨v6, hxz9, h⟩ := qz9
        cases hxz9
    · obtain ⟨v3, hxz9, h⟩ := qz9
      cases hxz9
  · replace h := h.2 c1
    refine j_aload_n hX eX7_runScript_135 0 rfl ?_
    refine j_iconst (v := (4 : Int32)) hX eX7_runScript_136 (by decide) ?_
    refine j_iload_n hX eX7_runScript_137 2 rfl ?_
    refine j_imul hX eX7_runScript_138 ?_
    obtain ⟨t10, h⟩ := h
    refine j_callV (a := a0) (q := (RX7, TX7, 17)) (r' := rX7_carriesOut) (As := [.int ((4 : Int32) * a3)]) (rest := []) (d1 := d) hX eX7_runScript_139 mm_LiftGroupModel_241 rfl t10 (by decide) rfl h rfl (Nat.le_refl _) (Nat.zero_le _) (Nat.zero_le _) (Nat.le_of_ble_eq_true rfl) (fun vz9 Mz9 qz9 => ?_) (fun Ez9 Mz9 qz9 => ?_)
    · obtain ⟨M8, eMz9⟩ : ∃ M8, M8 = Mz9 := ⟨_, rfl⟩; subst eMz9
      obtain ⟨v9, hxz9, h⟩ := qz9
      cases hxz9
      refine j_istore (lv' := [(4, .int v9), (0, .ref a0), (1, .int a1), (3, .int a3)]) hX eX7_runScript_142 (by decide) rfl ?_
      refine j_aload_n hX eX7_runScript_144 1 rfl ?_
      obtain ⟨t11, h⟩ := h
      refine j_getI hX eX7_runScript_145 ff_LiftGroupModel_42 rfl t11 (by decide) ?_
      refine j_if_eq hX 168 eX7_runScript_148 (by decide) (fun c12 => ?_) (fun c12 => ?_)
      · replace h := h.1 c12
        obtain ⟨v13, ev13⟩ : ∃ v13 : Int32, v13 = a3 + (1 : Int32) := ⟨_, rfl⟩
        replace h := h v13 ev13
        refine j_iinc (v := v13) (lv' := [(3, .int v13), (4, .int v9), (0, .ref a0), (1, .int a1)]) hX eX7_runScript_168 3 rfl (by rw [ev13]; rfl) (by decide) rfl ?_
        refine j_goto hX 130 eX7_runScript_171 (by decide) ?_
        exact j_sub [2, 3, 0] rfl (k130 _ _ _ _ h)
      · replace h := h.2 c12
        refine j_aload_n hX eX7_runScript_151 1 rfl ?_
        refine j_iload_n hX eX7_runScript_152 3 rfl ?_
        refine j_putI (ty := .int) hX eX7_runScript_153 ff_LiftGroupModel_33 rfl t11 (by decide) pp_7_10 rfl rfl ?_
        refine j_nmM (fun M14 eM14 => ?_)
        replace h := h M14 eM14
        have t15 : hp_T M14 (a0) = 8 := by rw [eM14]; exact t11
        refine j_aload_n hX eX7_runScript_156 1 rfl ?_
        refine j_iconst (v := (2 : Int32)) hX eX7_runScript_157 (by decide) ?_
        refine j_putI (ty := .int) hX eX7_runScript_158 ff_LiftGroupModel_42 rfl t15 (by decide) pp_7_13 rfl rfl ?_
        refine j_nmM (fun M16 eM16 => ?_)
        replace h := h M16 eM16
        have t17 : hp_T M16 (a0) = 8 := by rw [eM16]; exact t15
        refine j_aload_n hX eX7_runScript_161 1 rfl ?_
        refine j_iload hX eX7_runScript_162 0 rfl ?_
        refine j_callV (a := a0) (q := (RX7, TX7, 17)) (r' := rX7_kept) (As := [.int v9]) (rest := []) (d1 := d) hX eX7_runScript_164 mm_LiftGroupModel_107 rfl t17 (by decide) rfl h rfl (Nat.le_refl _) (Nat.zero_le _) (Nat.zero_le _) (Nat.le_of_ble_eq_true rfl) (fun vz9 Mz9 qz9 => ?_) (fun Ez9 Mz9 qz9 => ?_)
        · obtain ⟨M18, eMz9⟩ : ∃ M18, M18 = Mz9 := ⟨_, rfl⟩; subst eMz9
          obtain ⟨v19, hxz9, h⟩ := qz9
          cases hxz9
          exact j_iret hX hM eX7_runScript_167 rfl h
        · obtain ⟨v19, hxz9, h⟩ := qz9
          cases hxz9
    · obtain ⟨v9, hxz9, h⟩ := qz9
      cases hxz9

set_option maxHeartbeats 4000000 in
set_option maxRecDepth 20000 in
theorem vX7_errorPosition_0 {X : am_Cx} {G : am_Gx} {d : Nat} {Q : am_Q} (hX : am_ok X rX7_errorPosition G (d + 1)) (hM : am_me X rX7_errorPosition Q) {bc bs : Nat}  {a0 : Nat} {M : am_Hp} (h : hp_T M (a0) = 8 ∧ ((((hp_I M 149 a0) = (-1 : Int32)) → (am_CT G d rX7_fails [.ref a0, .int (1 : Int32)] M 0 0 (fun oz9 M5 => ∃ v6 : Int32, oz9 = .inl (some (.int v6)) ∧ (Q (.inl (some (.int v6))) M5)))) ∧ (¬ ((hp_I M 149 a0) = (-1 : Int32)) → (am_CT G d rX7_done [.ref a0, .int (hp_I M 149 a0)] M 0 0 (fun oz9 M3 => ∃ v4 : Int32, oz9 = .inl (some (.int v4)) ∧ (Q (.inl (some (.int v4))) M3)))))) : am_J X 0 [(0, .ref a0)] [] M bc bs := by
  refine j_aload_n hX eX7_errorPosition_0 0 rfl ?_
  obtain ⟨t1, h⟩ := h
  refine j_getI hX eX7_errorPosition_1 ff_LiftGroupModel_29 rfl t1 (by decide) ?_
  refine j_iconst (v := (-1 : Int32)) hX eX7_errorPosition_4 (by decide) ?_
  refine j_icmp_ne hX 16 eX7_errorPosition_5 (by decide) (fun c2 => ?_) (fun c2 => ?_)
  · replace h := h.2 c2
    refine j_aload_n hX eX7_errorPosition_16 0 rfl ?_
    refine j_aload_n hX eX7_errorPosition_17 0 rfl ?_
    refine j_getI hX eX7_errorPosition_18 ff_LiftGroupModel_29 rfl t1 (by decide) ?_
    refine j_callV (a := a0) (q := (RX7, TX7, 17)) (r' := rX7_done) (As := [.int (hp_I M 149 a0)]) (rest := []) (d1 := d) hX eX7_errorPosition_21 mm_LiftGroupModel_97 rfl t1 (by decide) rfl h rfl (Nat.le_refl _) (Nat.zero_le _) (Nat.zero_le _) (Nat.le_of_ble_eq_true rfl) (fun vz9 Mz9 qz9 => ?_) (fun Ez9 Mz9 qz9 => ?_)
    · obtain ⟨M3, eMz9⟩ : ∃ M3, M3 = Mz9 := ⟨_, rfl⟩; subst eMz9
      obtain ⟨v4, hxz9, h⟩ := qz9
      cases hxz9
      exact j_iret hX hM eX7_errorPosition_24 rfl h
    · obtain ⟨v4, hxz9, h⟩ := qz9
      cases hxz9
  · replace h := h.1 c2
    refine j_aload_n hX eX7_errorPosition_8 0 rfl ?_
    refine j_iconst (v := (1 : Int32)) hX eX7_errorPosition_9 (by decide) ?_
    refine j_callV (a := a0) (q := (RX7, TX7, 17)) (r' := rX7_fails) (As := [.int (1 : Int32)]) (rest := []) (d1 := d) hX eX7_errorPosition_10 mm_LiftGroupModel_90 rfl t1 (by decide) rfl h rfl (Nat.le_refl _) (Nat.zero_le _) (Nat.zero_le _) (Nat.le_of_ble_eq_true rfl) (fun vz9 Mz9 qz9 => ?_) (fun Ez9 Mz9 qz9 => ?_)
    · obtain ⟨M5, eMz9⟩ : ∃ M5, M5 = Mz9 := ⟨_, rfl⟩; subst eMz9
      obtain ⟨v6, hxz9, h⟩ := qz9
      cases hxz9
      refine j_goto hX 24 eX7_errorPosition_13 (by decide) ?_
      exact j_iret hX hM eX7_errorPosition_24 rfl h
    · obtain ⟨v6, hxz9, h⟩ := qz9
      cases hxz9

set_option maxHeartbeats 4000000 in
set_option maxRecDepth 20000 in
theorem vX7_failedCommand_0 {X : am_Cx} {G : am_Gx} {d : Nat} {Q : am_Q} (hX : am_ok X rX7_failedCommand G (d + 1)) (hM : am_me X rX7_failedCommand Q) {bc bs : Nat}  {a0 : Nat} {M : am_Hp} (h : hp_T M (a0) = 8 ∧ ((((hp_I M 150 a0) = (-1 : Int32)) → (am_CT G d rX7_fails [.ref a0, .int (1 : Int32)] M 0 0 (fun oz9 M5 => ∃ v6 : Int32, oz9 = .inl (some (.int v6)) ∧ (Q (.inl (some (.int v6))) M5)))) ∧ (¬ ((hp_I M 150 a0) = (-1 : Int32)) → (am_CT G d rX7_done [.ref a0, .int (hp_I M 150 a0)] M 0 0 (fun oz9 M3 => ∃ v4 : Int32, oz9 = .inl (some (.int v4)) ∧ (Q (.inl (some (.int v4))) M3)))))) : am_J X 0 [(0, .ref a0)] [] M bc bs := by
  refine j_aload_n hX eX7_failedCommand_0 0 rfl ?_
  obtain ⟨t1, h⟩ := h
  refine j_getI hX eX7_failedCommand_1 ff_LiftGroupModel_33 rfl t1 (by decide) ?_
  refine j_iconst (v := (-1 : Int32)) hX eX7_failedCommand_4 (by decide) ?_
  refine j_icmp_ne hX 16 eX7_failedCommand_5 (by decide) (fun c2 => ?_) (fun c2 => ?_)
  · replace h := h.2 c2
    refine j_aload_n hX eX7_failedCommand_16 0 rfl ?_
    refine j_aload_n hX eX7_failedCommand_17 0 rfl ?_
    refine j_getI hX eX7_failedCommand_18 ff_LiftGroupModel_33 rfl t1 (by decide) ?_
    refine j_callV (a := a0) (q := (RX7, TX7, 17)) (r' := rX7_done) (As := [.int (hp_I M 150 a0)]) (rest := []) (d1 := d) hX eX7_failedCommand_21 mm_LiftGroupModel_97 rfl t1 (by decide) rfl h rfl (Nat.le_refl _) (Nat.zero_le _) (Nat.zero_le _) (Nat.le_of_ble_eq_true rfl) (fun vz9 Mz9 qz9 => ?_) (fun Ez9 Mz9 qz9 => ?_)
    · obtain ⟨M3, eMz9⟩ : ∃ M3, M3 = Mz9 := ⟨_, rfl⟩; subst eMz9
      obtain ⟨v4, hxz9, h⟩ := qz9
      cases hxz9
      exact j_iret hX hM eX7_failedCommand_24 rfl h
    · obtain ⟨v4, hxz9, h⟩ := qz9
      cases hxz9
  · replace h := h.1 c2
    refine j_aload_n hX eX7_failedCommand_8 0 rfl ?_
    refine j_iconst (v := (1 : Int32)) hX eX7_failedCommand_9 (by decide) ?_
    refine j_callV (a := a0) (q := (RX7, TX7, 17)) (r' := rX7_fails) (As := [.int (1 : Int32)]) (rest := []) (d1 := d) hX eX7_failedCommand_10 mm_LiftGroupModel_90 rfl t1 (by decide) rfl h rfl (Nat.le_refl _) (Nat.zero_le _) (Nat.zero_le _) (Nat.le_of_ble_eq_true rfl) (fun vz9 Mz9 qz9 => ?_) (fun Ez9 Mz9 qz9 => ?_)
    · obtain ⟨M5, eMz9⟩ : ∃ M5, M5 = Mz9 := ⟨_, rfl⟩; subst eMz9
      obtain ⟨v6, hxz9, h⟩ := qz9
      cases hxz9
      refine j_goto hX 24 eX7_failedCommand_13 (by decide) ?_
      exact j_iret hX hM eX7_failedCommand_24 rfl h
    · obtain ⟨v6, hxz9, h⟩ := qz9
      cases hxz9

set_option maxHeartbeats 4000000 in
set_option maxRecDepth 20000 in
theorem vX7_undo_0 {X : am_Cx} {G : am_Gx} {d : Nat} {Q : am_Q} (hX : am_ok X rX7_undo G (d + 1)) (hM : am_me X rX7_undo Q) {bc bs : Nat}  {a0 : Nat} {M : am_Hp} (h : hp_T M (a0) = 8 ∧ ((((hp_I M 144 a0) = 0) → (am_CT G d rX7_fails [.ref a0, .int (1 : Int32)] M 0 0 (fun oz9 M14 => ∃ v15 : Int32, oz9 = .inl (some (.int v15)) ∧ (Q (.inl (some (.int v15))) M14)))) ∧ (¬ ((hp_I M 144 a0) = 0) → (∀ M3 : am_Hp, M3 = hp_sI M 144 a0 ((hp_I M 144 a0) - (1 : Int32)) → (hp_R M3 143 a0 ≠ 0 ∧ (∀ p6 : Nat, p6 = hp_R M3 143 a0 → (hp_R M3 140 a0 ≠ 0 ∧ (∀ p8 : Nat, p8 = hp_R M3 140 a0 → (am_CT G d rX7_copy [.ref p6, .int ((hp_I M3 144 a0) * (141 : Int32)), .ref p8, .int (0 : Int32)] M3 0 0 (fun oz9 M9 => oz9 = .inl none ∧ (hp_T M9 (a0) = 8 ∧ (am_CT G d rX7_done [.ref a0, .int (hp_I M9 144 a0)] M9 0 0 (fun oz9 M12 => ∃ v13 : Int32, oz9 = .inl (some (.int v13)) ∧ (Q (.inl (some (.int v13))) M12)))))))))))))) : am_J X 0 [(0, .ref a0)] [] M bc bs := by
  refine j_aload_n hX eX7_undo_0 0 rfl ?_
  obtain ⟨t1, h⟩ := h
  refine j_getI hX eX7_undo_1 ff_LiftGroupModel_49 rfl t1 (by decide) ?_
  refine j_if_ne hX 13 eX7_undo_4 (by decide) (fun c2 => ?_) (fun c2 => ?_)
  · replace h := h.2 c2
    refine j_aload_n hX eX7_undo_13 0 rfl ?_
    refine j_dup hX eX7_undo_14 rfl ?_
    refine j_getI hX eX7_undo_15 ff_LiftGroupModel_49 rfl t1 (by decide) ?_
    refine j_iconst (v := (1 : Int32)) hX eX7_undo_18 (by decide) ?_
    refine j_isub hX eX7_undo_19 ?_
    refine j_putI (ty := .int) hX eX7_undo_20 ff_LiftGroupModel_49 rfl t1 (by decide) pp_7_4 rfl rfl ?_
    refine j_nmM (fun M3 eM3 => ?_)
    replace h := h M3 eM3
    have t4 : hp_T M3 (a0) = 8 := by rw [eM3]; exact t1
    refine j_aload_n hX eX7_undo_23 0 rfl ?_
    obtain ⟨z5, h⟩ := h
    refine j_getR hX eX7_undo_24 ff_LiftGroupModel_19 rfl t4 (by decide) z5 ?_
    refine j_nmR (fun p6 ep6 => ?_)
    replace h := h p6 ep6
    refine j_aload_n hX eX7_undo_27 0 rfl ?_
    refine j_getI hX eX7_undo_28 ff_LiftGroupModel_49 rfl t4 (by decide) ?_
    refine j_sipush (v := (141 : Int32)) hX eX7_undo_31 (by decide) ?_
    refine j_imul hX eX7_undo_34 ?_
    refine j_aload_n hX eX7_undo_35 0 rfl ?_
    obtain ⟨z7, h⟩ := h
    refine j_getR hX eX7_undo_36 ff_LiftGroupModel_7 rfl t4 (by decide) z7 ?_
    refine j_nmR (fun p8 ep8 => ?_)
    replace h := h p8 ep8
    refine j_iconst (v := (0 : Int32)) hX eX7_undo_39 (by decide) ?_
    refine j_callS (r' := rX7_copy) (As := [.ref p6, .int ((hp_I M3 144 a0) * (141 : Int32)), .ref p8, .int (0 : Int32)]) (rest := []) (d1 := d) hX eX7_undo_40 mm_LiftGroupModel_45 rfl rfl h rfl (Nat.le_refl _) (Nat.zero_le _) (Nat.zero_le _) (Nat.le_of_ble_eq_true rfl) (fun vz9 Mz9 qz9 => ?_) (fun Ez9 Mz9 qz9 => ?_)
    · obtain ⟨M9, eMz9⟩ : ∃ M9, M9 = Mz9 := ⟨_, rfl⟩; subst eMz9
      obtain ⟨hxz9, h⟩ := qz9
      cases hxz9
      refine j_aload_n hX eX7_undo_43 0 rfl ?_
      refine j_aload_n hX eX7_undo_44 0 rfl ?_
      obtain ⟨t11, h⟩ := h
      refine j_getI hX eX7_undo_45 ff_LiftGroupModel_49 rfl t11 (by decide) ?_
      refine j_callV (a := a0) (q := (RX7, TX7, 17)) (r' := rX7_done) (As := [.int (hp_I M9 144 a0)]) (rest := []) (d1 := d) hX eX7_undo_48 mm_LiftGroupModel_97 rfl t11 (by decide) rfl h rfl (Nat.le_refl _) (Nat.zero_le _) (Nat.zero_le _) (Nat.le_of_ble_eq_true rfl) (fun vz9 Mz9 qz9 => ?_) (fun Ez9 Mz9 qz9 => ?_)
      · obtain ⟨M12, eMz9⟩ : ∃ M12, M12 = Mz9 := ⟨_, rfl⟩; subst eMz9
        obtain ⟨v13, hxz9, h⟩ := qz9
        cases hxz9
        exact j_iret hX hM eX7_undo_51 rfl h
      · obtain ⟨v13, hxz9, h⟩ := qz9
        cases hxz9
    · obtain ⟨hxz9, h⟩ := qz9
      cases hxz9
  · replace h := h.1 c2
    refine j_aload_n hX eX7_undo_7 0 rfl ?_
    refine j_iconst (v := (1 : Int32)) hX eX7_undo_8 (by decide) ?_
    refine j_callV (a := a0) (q := (RX7, TX7, 17)) (r' := rX7_fails) (As := [.int (1 : Int32)]) (rest := []) (d1 := d) hX eX7_undo_9 mm_LiftGroupModel_90 rfl t1 (by decide) rfl h rfl (Nat.le_refl _) (Nat.zero_le _) (Nat.zero_le _) (Nat.le_of_ble_eq_true rfl) (fun vz9 Mz9 qz9 => ?_) (fun Ez9 Mz9 qz9 => ?_)
    · obtain ⟨M14, eMz9⟩ : ∃ M14, M14 = Mz9 := ⟨_, rfl⟩; subst eMz9
      obtain ⟨v15, hxz9, h⟩ := qz9
      cases hxz9
      exact j_iret hX hM eX7_undo_12 rfl h
    · obtain ⟨v15, hxz9, h⟩ := qz9
      cases hxz9

set_option maxHeartbeats 4000000 in
set_option maxRecDepth 20000 in
theorem vX7_save_0 {X : am_Cx} {G : am_Gx} {d : Nat} {Q : am_Q} (hX : am_ok X rX7_save G (d + 1)) (hM : am_me X rX7_save Q) {bc bs : Nat}  {a0 : Nat} {M : am_Hp} (h : hp_T M (a0) = 8 ∧ (hp_R M 140 a0 ≠ 0 ∧ (∀ p3 : Nat, p3 = hp_R M 140 a0 → (hp_R M 145 a0 ≠ 0 ∧ (∀ p5 : Nat, p5 = hp_R M 145 a0 → (am_CT G d rX7_copy [.ref p3, .int (0 : Int32), .ref p5, .int (0 : Int32)] M 0 0 (fun oz9 M6 => oz9 = .inl none ∧ (hp_T M6 (a0) = 8 ∧ (am_bo (1 : Int32) ∧ (∀ M10 : am_Hp, M10 = hp_sI M6 146 a0 (1 : Int32) → (hp_R M10 140 a0 ≠ 0 ∧ (∀ p13 : Nat, p13 = hp_R M10 140 a0 → (hp_T M10 (p13) = 22 ∧ (vp_in (1 : Int32) (hp_N M10 p13) ∧ (am_CT G d rX7_done [.ref a0, .int (hp_E M10 p13 ((1 : Int32)).toNatClampNeg)] M10 0 0 (fun oz9 M16 => ∃ v17 : Int32, oz9 = .inl (some (.int v17)) ∧ (Q (.inl (some (.int v17))) M16))))))))))))))))) : am_J X 0 [(0, .ref a0)] [] M bc bs := by
  refine j_aload_n hX eX7_save_0 0 rfl ?_
  obtain ⟨t1, h⟩ := h
  obtain ⟨z2, h⟩ := h
  refine j_getR hX eX7_save_1 ff_LiftGroupModel_7 rfl t1 (by decide) z2 ?_
  refine j_nmR (fun p3 ep3 => ?_)
  replace h := h p3 ep3
  refine j_iconst (v := (0 : Int32)) hX eX7_save_4 (by decide) ?_
  refine j_aload_n hX eX7_save_5 0 rfl ?_
  obtain ⟨z4, h⟩ := h
  refine j_getR hX eX7_save_6 ff_LiftGroupModel_22 rfl t1 (by decide) z4 ?_
  refine j_nmR (fun p5 ep5 => ?_)
  replace h := h p5 ep5
  refine j_iconst (v := (0 : Int32)) hX eX7_save_9 (by decide) ?_
  refine j_callS (r' := rX7_copy) (As := [.ref p3, .int (0 : Int32), .ref p5, .int (0 : Int32)]) (rest := []) (d1 := d) hX eX7_save_10 mm_LiftGroupModel_45 rfl rfl h rfl (Nat.le_refl _) (Nat.zero_le _) (Nat.zero_le _) (Nat.le_of_ble_eq_true rfl) (fun vz9 Mz9 qz9 => ?_) (fun Ez9 Mz9 qz9 => ?_)
  · obtain ⟨M6, eMz9⟩ : ∃ M6, M6 = Mz9 := ⟨_, rfl⟩; subst eMz9
    obtain ⟨hxz9, h⟩ := qz9
    cases hxz9
    refine j_aload_n hX eX7_save_13 0 rfl ?_
    refine j_iconst (v := (1 : Int32)) hX eX7_save_14 (by decide) ?_
    obtain ⟨t8, h⟩ := h
    obtain ⟨b9, h⟩ := h
    refine j_putI (ty := .boolean) hX eX7_save_15 ff_LiftGroupModel_244 rfl t8 (by decide) pp_7_6 (am_bo_n b9) (am_bo_f b9) ?_
    refine j_nmM (fun M10 eM10 => ?_)
    replace h := h M10 eM10
    have t11 : hp_T M10 (a0) = 8 := by rw [eM10]; exact t8
    refine j_aload_n hX eX7_save_18 0 rfl ?_
    refine j_aload_n hX eX7_save_19 0 rfl ?_
    obtain ⟨z12, h⟩ := h
    refine j_getR hX eX7_save_20 ff_LiftGroupModel_7 rfl t11 (by decide) z12 ?_
    refine j_nmR (fun p13 ep13 => ?_)
    replace h := h p13 ep13
    refine j_iconst (v := (1 : Int32)) hX eX7_save_23 (by decide) ?_
    obtain ⟨t14, h⟩ := h
    obtain ⟨i15, h⟩ := h
    refine j_iald hX eX7_save_24 t14 i15 ?_
    refine j_callV (a := a0) (q := (RX7, TX7, 17)) (r' := rX7_done) (As := [.int (hp_E M10 p13 ((1 : Int32)).toNatClampNeg)]) (rest := []) (d1 := d) hX eX7_save_25 mm_LiftGroupModel_97 rfl t11 (by decide) rfl h rfl (Nat.le_refl _) (Nat.zero_le _) (Nat.zero_le _) (Nat.le_of_ble_eq_true rfl) (fun vz9 Mz9 qz9 => ?_) (fun Ez9 Mz9 qz9 => ?_)
    · obtain ⟨M16, eMz9⟩ : ∃ M16, M16 = Mz9 := ⟨_, rfl⟩; subst eMz9
      obtain ⟨v17, hxz9, h⟩ := qz9
      cases hxz9
      exact j_iret hX hM eX7_save_28 rfl h
    · obtain ⟨v17, hxz9, h⟩ := qz9
      cases hxz9
  · obtain ⟨hxz9, h⟩ := qz9
    cases hxz9

set_option maxHeartbeats 4000000 in
set_option maxRecDepth 20000 in
theorem vX7_restore_0 {X : am_Cx} {G : am_Gx} {d : Nat} {Q : am_Q} (hX : am_ok X rX7_restore G (d + 1)) (hM : am_me X rX7_restore Q) {bc bs : Nat}  {a0 : Nat} {M : am_Hp} (h : hp_T M (a0) = 8 ∧ ((((hp_I M 146 a0) = 0) → (am_CT G d rX7_fails [.ref a0, .int (1 : Int32)] M 0 0 (fun oz9 M18 => ∃ v19 : Int32, oz9 = .inl (some (.int v19)) ∧ (Q (.inl (some (.int v19))) M18)))) ∧ (¬ ((hp_I M 146 a0) = 0) → (hp_R M 145 a0 ≠ 0 ∧ (∀ p4 : Nat, p4 = hp_R M 145 a0 → (hp_R M 140 a0 ≠ 0 ∧ (∀ p6 : Nat, p6 = hp_R M 140 a0 → (am_CT G d rX7_copy [.ref p4, .int (0 : Int32), .ref p6, .int (0 : Int32)] M 0 0 (fun oz9 M7 => oz9 = .inl none ∧ (hp_T M7 (a0) = 8 ∧ (∀ M10 : am_Hp, M10 = hp_sI M7 144 a0 (0 : Int32) → (hp_R M10 140 a0 ≠ 0 ∧ (∀ p13 : Nat, p13 = hp_R M10 140 a0 → (hp_T M10 (p13) = 22 ∧ (vp_in (1 : Int32) (hp_N M10 p13) ∧ (am_CT G d rX7_done [.ref a0, .int (hp_E M10 p13 ((1 : Int32)).toNatClampNeg)] M10 0 0 (fun oz9 M16 => ∃ v17 : Int32, oz9 = .inl (some (.int v17)) ∧ (Q (.inl (some (.int v17))) M16)))))))))))))))))) : am_J X 0 [(0, .ref a0)] [] M bc bs := by
  refine j_aload_n hX eX7_restore_0 0 rfl ?_
  obtain ⟨t1, h⟩ := h
  refine j_getI hX eX7_restore_1 ff_LiftGroupModel_244 rfl t1 (by decide) ?_
  refine j_if_ne hX 13 eX7_restore_4 (by decide) (fun c2 => ?_) (fun c2 => ?_)
  · replace h := h.2 c2
    refine j_aload_n hX eX7_restore_13 0 rfl ?_
    obtain ⟨z3, h⟩ := h
    refine j_getR hX eX7_restore_14 ff_LiftGroupModel_22 rfl t1 (by decide) z3 ?_
    refine j_nmR (fun p4 ep4 => ?_)
    replace h := h p4 ep4
    refine j_iconst (v := (0 : Int32)) hX eX7_restore_17 (by decide) ?_
    refine j_aload_n hX eX7_restore_18 0 rfl ?_
    obtain ⟨z5, h⟩ := h
    refine j_getR hX eX7_restore_19 ff_LiftGroupModel_7 rfl t1 (by decide) z5 ?_
    refine j_nmR (fun p6 ep6 => ?_)
    replace h := h p6 ep6
    refine j_iconst (v := (0 : Int32)) hX eX7_restore_22 (by decide) ?_
    refine j_callS (r' := rX7_copy) (As := [.ref p4, .int (0 : Int32), .ref p6, .int (0 : Int32)]) (rest := []) (d1 := d) hX eX7_restore_23 mm_LiftGroupModel_45 rfl rfl h rfl (Nat.le_refl _) (Nat.zero_le _) (Nat.zero_le _) (Nat.le_of_ble_eq_true rfl) (fun vz9 Mz9 qz9 => ?_) (fun Ez9 Mz9 qz9 => ?_)
    · obtain ⟨M7, eMz9⟩ : ∃ M7, M7 = Mz9 := ⟨_, rfl⟩; subst eMz9
      obtain ⟨hxz9, h⟩ := qz9
      cases hxz9
      refine j_aload_n hX eX7_restore_26 0 rfl ?_
      refine j_iconst (v := (0 : Int32)) hX eX7_restore_27 (by decide) ?_
      obtain ⟨t9, h⟩ := h
      refine j_putI (ty := .int) hX eX7_restore_28 ff_LiftGroupModel_49 rfl t9 (by decide) pp_7_4 rfl rfl ?_
      refine j_nmM (fun M10 eM10 => ?_)
      replace h := h M10 eM10
      have t11 : hp_T M10 (a0) = 8 := by rw [eM10]; exact t9
      refine j_aload_n hX eX7_restore_31 0 rfl ?_
      refine j_aload_n hX eX7_restore_32 0 rfl ?_
      obtain ⟨z12, h⟩ := h
      refine j_getR hX eX7_restore_33 ff_LiftGroupModel_7 rfl t11 (by decide) z12 ?_
      refine j_nmR (fun p13 ep13 => ?_)
      replace h := h p13 ep13
      refine j_iconst (v := (1 : Int32)) hX eX7_restore_36 (by decide) ?_
      obtain ⟨t14, h⟩ := h
      obtain ⟨i15, h⟩ := h
      refine j_iald hX eX7_restore_37 t14 i15 ?_
      refine j_callV (a := a0) (q := (RX7, TX7, 17)) (r' := rX7_done) (As := [.int (hp_E M10 p13 ((1 : Int32)).toNatClampNeg)]) (rest := []) (d1 := d) hX eX7_restore_38 mm_LiftGroupModel_97 rfl t11 (by decide) rfl h rfl (Nat.le_refl _) (Nat.zero_le _) (Nat.zero_le _) (Nat.le_of_ble_eq_true rfl) (fun vz9 Mz9 qz9 => ?_) (fun Ez9 Mz9 qz9 => ?_)
      · obtain ⟨M16, eMz9⟩ : ∃ M16, M16 = Mz9 := ⟨_, rfl⟩; subst eMz9
        obtain ⟨v17, hxz9, h⟩ := qz9
        cases hxz9
        exact j_iret hX hM eX7_restore_41 rfl h
      · obtain ⟨v17, hxz9, h⟩ := qz9
        cases hxz9
    · obtain ⟨hxz9, h⟩ := qz9
      cases hxz9
  · replace h := h.1 c2
    refine j_aload_n hX eX7_restore_7 0 rfl ?_
    refine j_iconst (v := (1 : Int32)) hX eX7_restore_8 (by decide) ?_
    refine j_callV (a := a0) (q := (RX7, TX7, 17)) (r' := rX7_fails) (As := [.int (1 : Int32)]) (rest := []) (d1 := d) hX eX7_restore_9 mm_LiftGroupModel_90 rfl t1 (by decide) rfl h rfl (Nat.le_refl _) (Nat.zero_le _) (Nat.zero_le _) (Nat.le_of_ble_eq_true rfl) (fun vz9 Mz9 qz9 => ?_) (fun Ez9 Mz9 qz9 => ?_)
    · obtain ⟨M18, eMz9⟩ : ∃ M18, M18 = Mz9 := ⟨_, rfl⟩; subst eMz9
      obtain ⟨v19, hxz9, h⟩ := qz9
      cases hxz9
      exact j_iret hX hM eX7_restore_12 rfl h
    · obtain ⟨v19, hxz9, h⟩ := qz9
      cases hxz9
