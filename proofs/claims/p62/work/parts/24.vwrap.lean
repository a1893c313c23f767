theorem am_thIc {X : am_Cx} {r : am_Rec} {G : am_Gx} {d : Nat} (hX : am_ok X r G d) {pc bc bs : Nat} {lv : List (Nat × Value)} {M : am_Hp} {E name : String} (pre : List (Nat × Nat × Nat × Nat)) (x : Nat × Nat × Nat × Nat) (suf : List (Nat × Nat × Nat × Nat)) (hh : r.2.2.2.2 = pre ++ x :: suf) (hpass : ∀ z ∈ pre, covers ⟨z.1, z.2.1, z.2.2.1, z.2.2.2⟩ pc = false ∨ (z.2.2.2 ≠ 0 ∧ ∃ nm : String, Cond.classLink r.1.cls z.2.2.2 nm ∈ am_gt ∧ (E, nm) ∈ am_nc)) (hcov : covers ⟨x.1, x.2.1, x.2.2.1, x.2.2.2⟩ pc = true) (h0 : x.2.2.2 ≠ 0) (hlink : Cond.classLink r.1.cls x.2.2.2 name ∈ am_gt) (hcast : Cond.castable E name ∈ am_gt ∨ Cond.castable E name ∈ am_nw) (kk : ∀ q : Nat, am_J X x.2.2.1 lv [.ref q] M bc bs) : am_Th X pc lv E M bc bs := by
  obtain ⟨p, e, R, s, m, args, below, meth, c, Qf, nL, G', mc, ms, d'⟩ := X
  obtain ⟨hx, hb, hml, hown, hts, hU, hlk, htb, hmc, hms, hfr, hlo, hst, hnL, rfl, rfl⟩ := hX
  intro H locs cells slots ls rest q ce h1 h2 h3 h4 h5 h6 h7 h8
  refine vx_catch (name := name) hown (tableOf pre) ⟨x.1, x.2.1, x.2.2.1, x.2.2.2⟩ (tableOf suf) (by rw [htb, hh]; simp [tableOf]) (fun z hz => ?_) hcov h0 (hts _ hlink) (am_word hts hU hcast) h6 h7 h8 (kk q H locs cells slots ls h1 h2 h3 h4 h5)
  obtain ⟨y, hy, rfl⟩ := List.mem_map.mp hz
  rcases hpass y hy with g | ⟨g1, nm, g2, g3⟩
  · exact Or.inl g
  · exact Or.inr ⟨g1, nm, hts _ g2, hU.2.2.2.2.2.2.2.1 _ g3⟩
set_option maxHeartbeats 4000000 in
set_option maxRecDepth 20000 in
theorem vL_at_0 {X : am_Cx} {G : am_Gx} {d : Nat} {Q : am_Q} (hX : am_ok X rL_at G (d + 1)) (hM : am_me X rL_at Q) {bc bs : Nat}  {a0 : Nat} {a1 : Int32} {M : am_Hp} (h : hp_T M (a0) = 42 ∧ ((((Int32.ofNat (hp_N M a0)) ≤ a1) → (Q (.inl (some (.int (0 : Int32)))) M)) ∧ (¬ ((Int32.ofNat (hp_N M a0)) ≤ a1) → (vp_in a1 (hp_N M a0) ∧ (Q (.inl (some (.int (hp_E M a0 (a1).toNatClampNeg)))) M))))) : am_J X 0 [(0, .ref a0), (1, .int a1)] [] M bc bs := by
  refine j_iload_n hX eL_at_0 1 rfl ?_
  refine j_aload_n hX eL_at_1 0 rfl ?_
  obtain ⟨t1, h⟩ := h
  refine j_alen42 hX eL_at_2 t1 ?_
  refine j_icmp_ge hX 12 eL_at_3 (by decide) (fun c2 => ?_) (fun c2 => ?_)
  · replace h := h.1 c2
    refine j_iconst (v := (0 : Int32)) hX eL_at_12 (by decide) ?_
    exact j_iret hX hM eL_at_13 rfl h
  · replace h := h.2 c2
    refine j_aload_n hX eL_at_6 0 rfl ?_
    refine j_iload_n hX eL_at_7 1 rfl ?_
    obtain ⟨i3, h⟩ := h
    refine j_ialdx hX eL_at_8 t1 i3 ?_
    refine j_goto hX 13 eL_at_9 (by decide) ?_
    exact j_iret hX hM eL_at_13 rfl h

set_option maxHeartbeats 4000000 in
set_option maxRecDepth 20000 in
theorem vL_put_0 {X : am_Cx} {G : am_Gx} {d : Nat} {Q : am_Q} (hX : am_ok X rL_put G (d + 1)) (hM : am_me X rL_put Q) {bc bs : Nat} (R2 : Nat → Nat → Int32 → am_Hp → Nat → Nat → Prop) (k2 : ∀ (x0 : Nat) (x1 : Nat) (x2 : Int32) (M : am_Hp) (bc bs : Nat), R2 x0 x1 x2 M bc bs → am_J X 2 [(0, .ref x0), (1, .ref x1), (2, .int x2)] [] M bc bs) {a0 : Nat} {a1 : Nat} {M : am_Hp} (h : R2 a0 a1 (0 : Int32) M bc bs) : am_J X 0 [(0, .ref a0), (1, .ref a1)] [] M bc bs := by
  refine j_iconst (v := (0 : Int32)) hX eL_put_0 (by decide) ?_
  refine j_istore_n (lv' := [(2, .int (0 : Int32)), (0, .ref a0), (1, .ref a1)]) hX eL_put_1 rfl (by decide) rfl ?_
  exact j_sub [1, 2, 0] rfl (k2 _ _ _ _ _ _ h)
set_option maxHeartbeats 4000000 in
set_option maxRecDepth 20000 in
theorem vL_put_2 {X : am_Cx} {G : am_Gx} {d : Nat} {Q : am_Q} (hX : am_ok X rL_put G (d + 1)) (hM : am_me X rL_put Q) {bc bs : Nat} (R2 : Nat → Nat → Int32 → am_Hp → Nat → Nat → Prop) (k2 : ∀ (x0 : Nat) (x1 : Nat) (x2 : Int32) (M : am_Hp) (bc bs : Nat), R2 x0 x1 x2 M bc bs → am_J X 2 [(0, .ref x0), (1, .ref x1), (2, .int x2)] [] M bc bs) {a0 : Nat} {a1 : Nat} {a2 : Int32} {M : am_Hp} (h : hp_T M (a1) = 40 ∧ (am_CT G d rJ0_length_8abf5 [.ref a1] M 0 0 (fun oz9 M1 => ∃ v2 : Int32, oz9 = .inl (some (.int v2)) ∧ (((v2 ≤ a2) → (Q (.inl none) M1)) ∧ (¬ (v2 ≤ a2) → (hp_T M1 (a1) = 40 ∧ (am_CT G d rJ0_charAt_5068e [.ref a1, .int a2] M1 0 0 (fun oz9 M5 => ∃ v6 : Int32, oz9 = .inl (some (.int v6)) ∧ (hp_T M5 (a0) = 7 ∧ (1 ≤ bc ∧ (100 ≤ bs ∧ (am_CT G d rX6_type [.ref a0, .int v6] M5 1 100 (fun oz9 M8 => (∃ v9 : Int32, oz9 = .inl (some (.int v9)) ∧ (∀ v13 : Int32, v13 = a2 + (1 : Int32) → (R2 a0 a1 v13 M8 (bc - 1) (bs - 100)))) ∨ ((oz9 = .inr "java/lang/IllegalArgumentException" ∧ False)) ∨ ((oz9 = .inr "java/lang/IllegalStateException" ∧ False))))))))))))))) : am_J X 2 [(0, .ref a0), (1, .ref a1), (2, .int a2)] [] M bc bs := by
  refine j_iload_n hX eL_put_2 2 rfl ?_
  refine j_aload_n hX eL_put_3 1 rfl ?_
  obtain ⟨t3, h⟩ := h
  refine j_callVs (a := a1) (q := (RJ0, TJ0, 4)) (r' := rJ0_length_8abf5) (As := []) (rest := [.int a2]) (d1 := d) hX eL_put_4 mm_LiftGroupLaw_7 rfl t3 rfl h rfl (Nat.le_refl _) (Nat.zero_le _) (Nat.zero_le _) (Nat.le_of_ble_eq_true rfl) (fun vz9 Mz9 qz9 => ?_) (fun Ez9 Mz9 qz9 => ?_)
  · obtain ⟨M1, eMz9⟩ : ∃ M1, M1 = Mz9 := ⟨_, rfl⟩; subst eMz9
    obtain ⟨v2, hxz9, h⟩ := qz9
    cases hxz9
    refine j_icmp_ge hX 26 eL_put_7 (by decide) (fun c4 => ?_) (fun c4 => ?_)
    · replace h := h.1 c4
      exact j_vret hX hM eL_put_26 rfl h
    · replace h := h.2 c4
      refine j_aload_n hX eL_put_10 0 rfl ?_
      refine j_aload_n hX eL_put_11 1 rfl ?_
      refine j_iload_n hX eL_put_12 2 rfl ?_
      obtain ⟨t7, h⟩ := h
      refine j_callVs (a := a1) (q := (RJ0, TJ0, 4)) (r' := rJ0_charAt_5068e) (As := [.int a2]) (rest := [.ref a0]) (d1 := d) hX eL_put_13 mm_LiftGroupLaw_13 rfl t7 rfl h rfl (Nat.le_refl _) (Nat.zero_le _) (Nat.zero_le _) (Nat.le_of_ble_eq_true rfl) (fun vz9 Mz9 qz9 => ?_) (fun Ez9 Mz9 qz9 => ?_)
      · obtain ⟨M5, eMz9⟩ : ∃ M5, M5 = Mz9 := ⟨_, rfl⟩; subst eMz9
        obtain ⟨v6, hxz9, h⟩ := qz9
        cases hxz9
        obtain ⟨t10, h⟩ := h
        obtain ⟨b11, b12, h⟩ := h
        refine j_callV (a := a0) (q := (RX6, TX6, 9)) (r' := rX6_type) (As := [.int v6]) (rest := []) (d1 := d) hX eL_put_16 mm_LiftGroupLaw_17 rfl t10 (by decide) rfl h rfl (Nat.le_refl _) b11 b12 (Nat.le_of_ble_eq_true rfl) (fun vz9 Mz9 qz9 => ?_) (fun Ez9 Mz9 qz9 => ?_)
        · obtain ⟨M8, eMz9⟩ : ∃ M8, M8 = Mz9 := ⟨_, rfl⟩; subst eMz9
          rcases qz9 with ⟨v9, hxz9, h⟩ | ⟨hxz9, h⟩ | ⟨hxz9, h⟩ <;> cases hxz9
          refine j_pop hX eL_put_19 rfl ?_
          obtain ⟨v13, ev13⟩ : ∃ v13 : Int32, v13 = a2 + (1 : Int32) := ⟨_, rfl⟩
          replace h := h v13 ev13
          refine j_iinc (v := v13) (lv' := [(2, .int v13), (0, .ref a0), (1, .ref a1)]) hX eL_put_20 2 rfl (by rw [ev13]; rfl) (by decide) rfl ?_
          refine j_goto hX 2 eL_put_23 (by decide) ?_
          exact j_sub [1, 2, 0] rfl (k2 _ _ _ _ _ _ h)
        · obtain ⟨M8, eMz9⟩ : ∃ M8, M8 = Mz9 := ⟨_, rfl⟩; subst eMz9
          rcases qz9 with ⟨v9, hxz9, h⟩ | ⟨hxz9, h⟩ | ⟨hxz9, h⟩ <;> cases hxz9
          · exact h.elim
          · exact h.elim
      · obtain ⟨v6, hxz9, h⟩ := qz9
        cases hxz9
  · obtain ⟨v2, hxz9, h⟩ := qz9
    cases hxz9

set_option maxHeartbeats 4000000 in
set_option maxRecDepth 20000 in
theorem vL_build_0 {X : am_Cx} {G : am_Gx} {d : Nat} {Q : am_Q} (hX : am_ok X rL_build G (d + 1)) (hM : am_me X rL_build Q) {bc bs : Nat} (R8 : Nat → Nat → am_Hp → Nat → Nat → Prop) (k8 : ∀ (x0 : Nat) (x1 : Nat) (M : am_Hp) (bc bs : Nat), R8 x0 x1 M bc bs → am_J X 8 [(0, .ref x0), (1, .ref x1)] [] M bc bs) {a0 : Nat} {M : am_Hp} (h : 1 ≤ bc ∧ (9 ≤ bs ∧ (∀ p1 : Nat, hp_T M p1 = 0 → p1 ≠ 0 → (∀ M7 : am_Hp, M7 = hp_o M p1 7 → (264 ≤ (bc - 1) ∧ (1969 ≤ (bs - 9) ∧ (am_CT G d rX6_init [.ref p1] M7 264 1969 (fun oz9 M9 => oz9 = .inl none ∧ (R8 a0 p1 M9 ((bc - 1) - 264) ((bs - 9) - 1969)))))))))) : am_J X 0 [(0, .ref a0)] [] M bc bs := by
  obtain ⟨b5, b6, h⟩ := h
  refine j_new (q := (RX6, TX6, 9)) hX eL_build_0 rfl (by decide) tw_35 tw_36 tw_1 dv_6 b5 b6 (fun p1 o3 z4 => ?_)
  replace h := h p1 o3 z4
  refine j_nmM (fun M7 eM7 => ?_)
  replace h := h M7 eM7
  have t8 : hp_T M7 (p1) = 7 := by rw [eM7]; exact hp_Tn
  refine j_dup hX eL_build_3 rfl ?_
  obtain ⟨b11, b12, h⟩ := h
  refine j_callI (a := p1) (r' := rX6_init) (As := []) (rest := [.ref p1]) (d1 := d) hX eL_build_4 mm_LiftGroupLaw_23 rfl h rfl (Nat.le_refl _) b11 b12 (Nat.le_of_ble_eq_true rfl) (fun vz9 Mz9 qz9 => ?_) (fun Ez9 Mz9 qz9 => ?_)
  · obtain ⟨M9, eMz9⟩ : ∃ M9, M9 = Mz9 := ⟨_, rfl⟩; subst eMz9
    obtain ⟨hxz9, h⟩ := qz9
    cases hxz9
    refine j_astore_n (lv' := [(1, .ref p1), (0, .ref a0)]) hX eL_build_7 rfl (by decide) rfl ?_
    exact j_sub [1, 0] rfl (k8 _ _ _ _ _ h)
  · obtain ⟨hxz9, h⟩ := qz9
    cases hxz9
set_option maxHeartbeats 4000000 in
set_option maxRecDepth 20000 in
theorem vL_build_8 {X : am_Cx} {G : am_Gx} {d : Nat} {Q : am_Q} (hX : am_ok X rL_build G (d + 1)) (hM : am_me X rL_build Q) {bc bs : Nat} (R16 : Nat → Nat → Int32 → Int32 → am_Hp → Nat → Nat → Prop) (k16 : ∀ (x0 : Nat) (x1 : Nat) (x2 : Int32) (x3 : Int32) (M : am_Hp) (bc bs : Nat), R16 x0 x1 x2 x3 M bc bs → am_J X 16 [(0, .ref x0), (1, .ref x1), (2, .int x2), (3, .int x3)] [] M bc bs) {a0 : Nat} {a1 : Nat} {M : am_Hp} (h : am_CT G d rL_at [.ref a0, .int (0 : Int32)] M 0 0 (fun oz9 M1 => ∃ v2 : Int32, oz9 = .inl (some (.int v2)) ∧ (R16 a0 a1 v2 (0 : Int32) M1 bc bs))) : am_J X 8 [(0, .ref a0), (1, .ref a1)] [] M bc bs := by
  refine j_aload_n hX eL_build_8 0 rfl ?_
  refine j_iconst (v := (0 : Int32)) hX eL_build_9 (by decide) ?_
  refine j_callS (r' := rL_at) (As := [.ref a0, .int (0 : Int32)]) (rest := []) (d1 := d) hX eL_build_10 mm_LiftGroupLaw_24 rfl rfl h rfl (Nat.le_refl _) (Nat.zero_le _) (Nat.zero_le _) (Nat.le_of_ble_eq_true rfl) (fun vz9 Mz9 qz9 => ?_) (fun Ez9 Mz9 qz9 => ?_)
  · obtain ⟨M1, eMz9⟩ : ∃ M1, M1 = Mz9 := ⟨_, rfl⟩; subst eMz9
    obtain ⟨v2, hxz9, h⟩ := qz9
    cases hxz9
    refine j_istore_n (lv' := [(2, .int v2), (0, .ref a0), (1, .ref a1)]) hX eL_build_13 rfl (by decide) rfl ?_
    refine j_iconst (v := (0 : Int32)) hX eL_build_14 (by decide) ?_
    refine j_istore_n (lv' := [(3, .int (0 : Int32)), (2, .int v2), (0, .ref a0), (1, .ref a1)]) hX eL_build_15 rfl (by decide) rfl ?_
    exact j_sub [2, 3, 1, 0] rfl (k16 _ _ _ _ _ _ _ h)
  · obtain ⟨v2, hxz9, h⟩ := qz9
    cases hxz9
set_option maxHeartbeats 4000000 in
set_option maxRecDepth 20000 in
theorem vL_build_16 {X : am_Cx} {G : am_Gx} {d : Nat} {Q : am_Q} (hX : am_ok X rL_build G (d + 1)) (hM : am_me X rL_build Q) {bc bs : Nat} (R16 : Nat → Nat → Int32 → Int32 → am_Hp → Nat → Nat → Prop) (k16 : ∀ (x0 : Nat) (x1 : Nat) (x2 : Int32) (x3 : Int32) (M : am_Hp) (bc bs : Nat), R16 x0 x1 x2 x3 M bc bs → am_J X 16 [(0, .ref x0), (1, .ref x1), (2, .int x2), (3, .int x3)] [] M bc bs) (R72 : Nat → Nat → am_Hp → Nat → Nat → Prop) (k72 : ∀ (x0 : Nat) (x1 : Nat) (M : am_Hp) (bc bs : Nat), R72 x0 x1 M bc bs → am_J X 72 [(0, .ref x0), (1, .ref x1)] [] M bc bs) {a0 : Nat} {a1 : Nat} {a2 : Int32} {a3 : Int32} {M : am_Hp} (h : ((((1 : Int32) + (a2 &&& (3 : Int32))) ≤ a3) → (R72 a0 a1 M bc bs)) ∧ (¬ (((1 : Int32) + (a2 &&& (3 : Int32))) ≤ a3) → (1 ≤ bc ∧ (6 ≤ bs ∧ (am_CT G d rL_act [.ref a1, .int (0 : Int32), .int (((a2 >>> (((2 : Int32) + ((3 : Int32) * a3)) &&& 31)) &&& (15 : Int32)) - ((a2 >>> (((2 : Int32) + ((3 : Int32) * a3)) &&& 31)) &&& (15 : Int32)) / (10 : Int32) * (10 : Int32)), .int (((a2 >>> (((5 : Int32) + ((3 : Int32) * a3)) &&& 31)) &&& (15 : Int32)) - ((a2 >>> (((5 : Int32) + ((3 : Int32) * a3)) &&& 31)) &&& (15 : Int32)) / (10 : Int32) * (10 : Int32)), .int ((20 : Int32) + ((a2 >>> (a3 &&& 31)) &&& (127 : Int32)))] M 1 6 (fun oz9 M2 => ∃ v3 : Int32, oz9 = .inl (some (.int v3)) ∧ (∀ v6 : Int32, v6 = a3 + (1 : Int32) → (R16 a0 a1 a2 v6 M2 (bc - 1) (bs - 6))))))))) : am_J X 16 [(0, .ref a0), (1, .ref a1), (2, .int a2), (3, .int a3)] [] M bc bs := by
  refine j_iload_n hX eL_build_16 3 rfl ?_
  refine j_iconst (v := (1 : Int32)) hX eL_build_17 (by decide) ?_
  refine j_iload_n hX eL_build_18 2 rfl ?_
  refine j_iconst (v := (3 : Int32)) hX eL_build_19 (by decide) ?_
  refine j_iand hX eL_build_20 ?_
  refine j_iadd hX eL_build_21 ?_
  refine j_icmp_ge hX 72 eL_build_22 (by decide) (fun c1 => ?_) (fun c1 => ?_)
  · replace h := h.1 c1
    exact j_sub [0, 1] rfl (k72 _ _ _ _ _ h)
  · replace h := h.2 c1
    refine j_aload_n hX eL_build_25 1 rfl ?_
    refine j_iconst (v := (0 : Int32)) hX eL_build_26 (by decide) ?_
    refine j_iload_n hX eL_build_27 2 rfl ?_
    refine j_iconst (v := (2 : Int32)) hX eL_build_28 (by decide) ?_
    refine j_iconst (v := (3 : Int32)) hX eL_build_29 (by decide) ?_
    refine j_iload_n hX eL_build_30 3 rfl ?_
    refine j_imul hX eL_build_31 ?_
    refine j_iadd hX eL_build_32 ?_
    refine j_ishr hX eL_build_33 ?_
    refine j_bipush (v := (15 : Int32)) hX eL_build_34 (by decide) ?_
    refine j_iand hX eL_build_36 ?_
    refine j_bipush (v := (10 : Int32)) hX eL_build_37 (by decide) ?_
    refine j_irem hX eL_build_39 (by decide) ?_
    refine j_iload_n hX eL_build_40 2 rfl ?_
    refine j_iconst (v := (5 : Int32)) hX eL_build_41 (by decide) ?_
    refine j_iconst (v := (3 : Int32)) hX eL_build_42 (by decide) ?_
    refine j_iload_n hX eL_build_43 3 rfl ?_
    refine j_imul hX eL_build_44 ?_
    refine j_iadd hX eL_build_45 ?_
    refine j_ishr hX eL_build_46 ?_
    refine j_bipush (v := (15 : Int32)) hX eL_build_47 (by decide) ?_
    refine j_iand hX eL_build_49 ?_
    refine j_bipush (v := (10 : Int32)) hX eL_build_50 (by decide) ?_
    refine j_irem hX eL_build_52 (by decide) ?_
    refine j_bipush (v := (20 : Int32)) hX eL_build_53 (by decide) ?_
    refine j_iload_n hX eL_build_55 2 rfl ?_
    refine j_iload_n hX eL_build_56 3 rfl ?_
    refine j_ishr hX eL_build_57 ?_
    refine j_bipush (v := (127 : Int32)) hX eL_build_58 (by decide) ?_
    refine j_iand hX eL_build_60 ?_
    refine j_iadd hX eL_build_61 ?_
    obtain ⟨b4, b5, h⟩ := h
    refine j_callSX (r' := rL_act) (As := [.ref a1, .int (0 : Int32), .int (((a2 >>> (((2 : Int32) + ((3 : Int32) * a3)) &&& 31)) &&& (15 : Int32)) - ((a2 >>> (((2 : Int32) + ((3 : Int32) * a3)) &&& 31)) &&& (15 : Int32)) / (10 : Int32) * (10 : Int32)), .int (((a2 >>> (((5 : Int32) + ((3 : Int32) * a3)) &&& 31)) &&& (15 : Int32)) - ((a2 >>> (((5 : Int32) + ((3 : Int32) * a3)) &&& 31)) &&& (15 : Int32)) / (10 : Int32) * (10 : Int32)), .int ((20 : Int32) + ((a2 >>> (a3 &&& 31)) &&& (127 : Int32)))]) (rest := []) (d1 := d) hX eL_build_62 mm_LiftGroupLaw_30 (by decide) rfl h rfl (Nat.le_refl _) b4 b5 (Nat.le_of_ble_eq_true rfl) (fun vz9 Mz9 qz9 => ?_) (fun Ez9 Mz9 qz9 => ?_)
    · obtain ⟨M2, eMz9⟩ : ∃ M2, M2 = Mz9 := ⟨_, rfl⟩; subst eMz9
      obtain ⟨v3, hxz9, h⟩ := qz9
      cases hxz9
      refine j_pop hX eL_build_65 rfl ?_
      obtain ⟨v6, ev6⟩ : ∃ v6 : Int32, v6 = a3 + (1 : Int32) := ⟨_, rfl⟩
      replace h := h v6 ev6
      refine j_iinc (v := v6) (lv' := [(3, .int v6), (0, .ref a0), (1, .ref a1), (2, .int a2)]) hX eL_build_66 3 rfl (by rw [ev6]; rfl) (by decide) rfl ?_
      refine j_goto hX 16 eL_build_69 (by decide) ?_
      exact j_sub [1, 2, 3, 0] rfl (k16 _ _ _ _ _ _ _ h)
    · obtain ⟨v3, hxz9, h⟩ := qz9
      cases hxz9
set_option maxHeartbeats 4000000 in
set_option maxRecDepth 20000 in
theorem vL_build_72 {X : am_Cx} {G : am_Gx} {d : Nat} {Q : am_Q} (hX : am_ok X rL_build G (d + 1)) (hM : am_me X rL_build Q) {bc bs : Nat} (R74 : Nat → Nat → Int32 → am_Hp → Nat → Nat → Prop) (k74 : ∀ (x0 : Nat) (x1 : Nat) (x3 : Int32) (M : am_Hp) (bc bs : Nat), R74 x0 x1 x3 M bc bs → am_J X 74 [(0, .ref x0), (1, .ref x1), (3, .int x3)] [] M bc bs) {a0 : Nat} {a1 : Nat} {M : am_Hp} (h : R74 a0 a1 (1 : Int32) M bc bs) : am_J X 72 [(0, .ref a0), (1, .ref a1)] [] M bc bs := by
  refine j_iconst (v := (1 : Int32)) hX eL_build_72 (by decide) ?_
  refine j_istore_n (lv' := [(3, .int (1 : Int32)), (0, .ref a0), (1, .ref a1)]) hX eL_build_73 rfl (by decide) rfl ?_
  exact j_sub [1, 2, 0] rfl (k74 _ _ _ _ _ _ h)
set_option maxHeartbeats 4000000 in
set_option maxRecDepth 20000 in
theorem vL_build_74 {X : am_Cx} {G : am_Gx} {d : Nat} {Q : am_Q} (hX : am_ok X rL_build G (d + 1)) (hM : am_me X rL_build Q) {bc bs : Nat} (R122 : Nat → Nat → Int32 → Int32 → am_Hp → Nat → Nat → Prop) (k122 : ∀ (x0 : Nat) (x1 : Nat) (x3 : Int32) (x4 : Int32) (M : am_Hp) (bc bs : Nat), R122 x0 x1 x3 x4 M bc bs → am_J X 122 [(0, .ref x0), (1, .ref x1), (3, .int x3), (4, .int x4)] [] M bc bs) {a0 : Nat} {a1 : Nat} {a3 : Int32} {M : am_Hp} (h : (((13 : Int32) ≤ a3) → (Q (.inl (some (.ref a1))) M)) ∧ (¬ ((13 : Int32) ≤ a3) → (am_CT G d rL_at [.ref a0, .int a3] M 0 0 (fun oz9 M2 => ∃ v3 : Int32, oz9 = .inl (some (.int v3)) ∧ (1 ≤ bc ∧ (6 ≤ bs ∧ (am_CT G d rL_act [.ref a1, .int (0 : Int32), .int ((v3 &&& (15 : Int32)) - (v3 &&& (15 : Int32)) / (10 : Int32) * (10 : Int32)), .int (((v3 >>> ((4 : Int32) &&& 31)) &&& (15 : Int32)) - ((v3 >>> ((4 : Int32) &&& 31)) &&& (15 : Int32)) / (10 : Int32) * (10 : Int32)), .int ((10 : Int32) + ((v3 >>> ((8 : Int32) &&& 31)) &&& (127 : Int32)))] M2 1 6 (fun oz9 M4 => ∃ v5 : Int32, oz9 = .inl (some (.int v5)) ∧ (R122 a0 a1 a3 v3 M4 (bc - 1) (bs - 6)))))))))) : am_J X 74 [(0, .ref a0), (1, .ref a1), (3, .int a3)] [] M bc bs := by
  refine j_iload_n hX eL_build_74 2 rfl ?_
  refine j_bipush (v := (13 : Int32)) hX eL_build_75 (by decide) ?_
  refine j_icmp_ge hX 358 eL_build_77 (by decide) (fun c1 => ?_) (fun c1 => ?_)
  · replace h := h.1 c1
    refine j_aload_n hX eL_build_358 1 rfl ?_
    exact j_aret hX hM eL_build_359 rfl (by first | exact Or.inl ⟨_, rfl⟩ | exact Or.inr ⟨_, rfl⟩) h
  · replace h := h.2 c1
    refine j_aload_n hX eL_build_80 0 rfl ?_
    refine j_iload_n hX eL_build_81 2 rfl ?_
    refine j_callS (r' := rL_at) (As := [.ref a0, .int a3]) (rest := []) (d1 := d) hX eL_build_82 mm_LiftGroupLaw_24 rfl rfl h rfl (Nat.le_refl _) (Nat.zero_le _) (Nat.zero_le _) (Nat.le_of_ble_eq_true rfl) (fun vz9 Mz9 qz9 => ?_) (fun Ez9 Mz9 qz9 => ?_)
    · obtain ⟨M2, eMz9⟩ : ∃ M2, M2 = Mz9 := ⟨_, rfl⟩; subst eMz9
      obtain ⟨v3, hxz9, h⟩ := qz9
      cases hxz9
      refine j_istore (lv' := [(4, .int v3), (0, .ref a0), (1, .ref a1), (3, .int a3)]) hX eL_build_85 (by decide) rfl ?_
      refine j_aload_n hX eL_build_87 2 rfl ?_
      refine j_iconst (v := (0 : Int32)) hX eL_build_88 (by decide) ?_
      refine j_iload hX eL_build_89 0 rfl ?_
      refine j_bipush (v := (15 : Int32)) hX eL_build_91 (by decide) ?_
      refine j_iand hX eL_build_93 ?_
      refine j_bipush (v := (10 : Int32)) hX eL_build_94 (by decide) ?_
      refine j_irem hX eL_build_96 (by decide) ?_
      refine j_iload hX eL_build_97 0 rfl ?_
      refine j_iconst (v := (4 : Int32)) hX eL_build_99 (by decide) ?_
      refine j_ishr hX eL_build_100 ?_
      refine j_bipush (v := (15 : Int32)) hX eL_build_101 (by decide) ?_
      refine j_iand hX eL_build_103 ?_
      refine j_bipush (v := (10 : Int32)) hX eL_build_104 (by decide) ?_
      refine j_irem hX eL_build_106 (by decide) ?_
      refine j_bipush (v := (10 : Int32)) hX eL_build_107 (by decide) ?_
      refine j_iload hX eL_build_109 0 rfl ?_
      refine j_bipush (v := (8 : Int32)) hX eL_build_111 (by decide) ?_
      refine j_ishr hX eL_build_113 ?_
      refine j_bipush (v := (127 : Int32)) hX eL_build_114 (by decide) ?_
      refine j_iand hX eL_build_116 ?_
      refine j_iadd hX eL_build_117 ?_
      obtain ⟨b6, b7, h⟩ := h
      refine j_callSX (r' := rL_act) (As := [.ref a1, .int (0 : Int32), .int ((v3 &&& (15 : Int32)) - (v3 &&& (15 : Int32)) / (10 : Int32) * (10 : Int32)), .int (((v3 >>> ((4 : Int32) &&& 31)) &&& (15 : Int32)) - ((v3 >>> ((4 : Int32) &&& 31)) &&& (15 : Int32)) / (10 : Int32) * (10 : Int32)), .int ((10 : Int32) + ((v3 >>> ((8 : Int32) &&& 31)) &&& (127 : Int32)))]) (rest := []) (d1 := d) hX eL_build_118 mm_LiftGroupLaw_30 (by decide) rfl h rfl (Nat.le_refl _) b6 b7 (Nat.le_of_ble_eq_true rfl) (fun vz9 Mz9 qz9 => ?_) (fun Ez9 Mz9 qz9 => ?_)
      · obtain ⟨M4, eMz9⟩ : ∃ M4, M4 = Mz9 := ⟨_, rfl⟩; subst eMz9
        obtain ⟨v5, hxz9, h⟩ := qz9
        cases hxz9
        refine j_pop hX eL_build_121 rfl ?_
        exact j_sub [1, 2, 3, 0] rfl (k122 _ _ _ _ _ _ _ h)
      · obtain ⟨v5, hxz9, h⟩ := qz9
        cases hxz9
    · obtain ⟨v3, hxz9, h⟩ := qz9
      cases hxz9
set_option maxHeartbeats 4000000 in
set_option maxRecDepth 20000 in
theorem vL_build_122 {X : am_Cx} {G : am_Gx} {d : Nat} {Q : am_Q} (hX : am_ok X rL_build G (d + 1)) (hM : am_me X rL_build Q) {bc bs : Nat} (R151 : Nat → Nat → Int32 → Int32 → am_Hp → Nat → Nat → Prop) (k151 : ∀ (x0 : Nat) (x1 : Nat) (x3 : Int32) (x4 : Int32) (M : am_Hp) (bc bs : Nat), R151 x0 x1 x3 x4 M bc bs → am_J X 151 [(0, .ref x0), (1, .ref x1), (3, .int x3), (4, .int x4)] [] M bc bs) {a0 : Nat} {a1 : Nat} {a3 : Int32} {a4 : Int32} {M : am_Hp} (h : ((((a4 >>> ((15 : Int32) &&& 31)) &&& (1 : Int32)) = 0) → (1 ≤ bc ∧ (6 ≤ bs ∧ (am_CT G d rL_act [.ref a1, .int (6 : Int32), .int ((1 : Int32) + ((a4 >>> ((16 : Int32) &&& 31)) &&& (7 : Int32))), .int (0 : Int32), .int (0 : Int32)] M 1 6 (fun oz9 M2 => ∃ v3 : Int32, oz9 = .inl (some (.int v3)) ∧ (R151 a0 a1 a3 a4 M2 (bc - 1) (bs - 6))))))) ∧ (¬ (((a4 >>> ((15 : Int32) &&& 31)) &&& (1 : Int32)) = 0) → (R151 a0 a1 a3 a4 M bc bs))) : am_J X 122 [(0, .ref a0), (1, .ref a1), (3, .int a3), (4, .int a4)] [] M bc bs := by
  refine j_iload hX eL_build_122 3 rfl ?_
  refine j_bipush (v := (15 : Int32)) hX eL_build_124 (by decide) ?_
  refine j_ishr hX eL_build_126 ?_
  refine j_iconst (v := (1 : Int32)) hX eL_build_127 (by decide) ?_
  refine j_iand hX eL_build_128 ?_
  refine j_if_ne hX 151 eL_build_129 (by decide) (fun c1 => ?_) (fun c1 => ?_)
  · replace h := h.2 c1
    exact j_sub [0, 1, 2, 3] rfl (k151 _ _ _ _ _ _ _ h)
  · replace h := h.1 c1
    refine j_aload_n hX eL_build_132 1 rfl ?_
    refine j_bipush (v := (6 : Int32)) hX eL_build_133 (by decide) ?_
    refine j_iconst (v := (1 : Int32)) hX eL_build_135 (by decide) ?_
    refine j_iload hX eL_build_136 3 rfl ?_
    refine j_bipush (v := (16 : Int32)) hX eL_build_138 (by decide) ?_
    refine j_ishr hX eL_build_140 ?_
    refine j_bipush (v := (7 : Int32)) hX eL_build_141 (by decide) ?_
    refine j_iand hX eL_build_143 ?_
    refine j_iadd hX eL_build_144 ?_
    refine j_iconst (v := (0 : Int32)) hX eL_build_145 (by decide) ?_
    refine j_iconst (v := (0 : Int32)) hX eL_build_146 (by decide) ?_
    obtain ⟨b4, b5, h⟩ := h
    refine j_callSX (r' := rL_act) (As := [.ref a1, .int (6 : Int32), .int ((1 : Int32) + ((a4 >>> ((16 : Int32) &&& 31)) &&& (7 : Int32))), .int (0 : Int32), .int (0 : Int32)]) (rest := []) (d1 := d) hX eL_build_147 mm_LiftGroupLaw_30 (by decide) rfl h rfl (Nat.le_refl _) b4 b5 (Nat.le_of_ble_eq_true rfl) (fun vz9 Mz9 qz9 => ?_) (fun Ez9 Mz9 qz9 => ?_)
    · obtain ⟨M2, eMz9⟩ : ∃ M2, M2 = Mz9 := ⟨_, rfl⟩; subst eMz9
      obtain ⟨v3, hxz9, h⟩ := qz9
      cases hxz9
      refine j_pop hX eL_build_150 rfl ?_
      exact j_sub [0, 1, 2, 3] rfl (k151 _ _ _ _ _ _ _ h)
    · obtain ⟨v3, hxz9, h⟩ := qz9
      cases hxz9
set_option maxHeartbeats 4000000 in
set_option maxRecDepth 20000 in
theorem vL_build_151 {X : am_Cx} {G : am_Gx} {d : Nat} {Q : am_Q} (hX : am_ok X rL_build G (d + 1)) (hM : am_me X rL_build Q) {bc bs : Nat} (R189 : Nat → Nat → Int32 → Int32 → am_Hp → Nat → Nat → Prop) (k189 : ∀ (x0 : Nat) (x1 : Nat) (x3 : Int32) (x4 : Int32) (M : am_Hp) (bc bs : Nat), R189 x0 x1 x3 x4 M bc bs → am_J X 189 [(0, .ref x0), (1, .ref x1), (3, .int x3), (4, .int x4)] [] M bc bs) {a0 : Nat} {a1 : Nat} {a3 : Int32} {a4 : Int32} {M : am_Hp} (h : ((((a4 >>> ((19 : Int32) &&& 31)) &&& (7 : Int32)) = 0) → (1 ≤ bc ∧ (6 ≤ bs ∧ (am_CT G d rL_act [.ref a1, .int (2 : Int32), .int (((a4 >>> ((22 : Int32) &&& 31)) &&& (3 : Int32)) - ((a4 >>> ((22 : Int32) &&& 31)) &&& (3 : Int32)) / (3 : Int32) * (3 : Int32)), .int ((1 : Int32) + (((a4 >>> ((24 : Int32) &&& 31)) &&& (3 : Int32)) - ((a4 >>> ((24 : Int32) &&& 31)) &&& (3 : Int32)) / (3 : Int32) * (3 : Int32))), .int (0 : Int32)] M 1 6 (fun oz9 M2 => ∃ v3 : Int32, oz9 = .inl (some (.int v3)) ∧ (R189 a0 a1 a3 a4 M2 (bc - 1) (bs - 6))))))) ∧ (¬ (((a4 >>> ((19 : Int32) &&& 31)) &&& (7 : Int32)) = 0) → (R189 a0 a1 a3 a4 M bc bs))) : am_J X 151 [(0, .ref a0), (1, .ref a1), (3, .int a3), (4, .int a4)] [] M bc bs := by
  refine j_iload hX eL_build_151 3 rfl ?_
  refine j_bipush (v := (19 : Int32)) hX eL_build_153 (by decide) ?_
  refine j_ishr hX eL_build_155 ?_
  refine j_bipush (v := (7 : Int32)) hX eL_build_156 (by decide) ?_
  refine j_iand hX eL_build_158 ?_
  refine j_if_ne hX 189 eL_build_159 (by decide) (fun c1 => ?_) (fun c1 => ?_)
  · replace h := h.2 c1
    exact j_sub [0, 1, 2, 3] rfl (k189 _ _ _ _ _ _ _ h)
  · replace h := h.1 c1
    refine j_aload_n hX eL_build_162 1 rfl ?_
    refine j_iconst (v := (2 : Int32)) hX eL_build_163 (by decide) ?_
    refine j_iload hX eL_build_164 3 rfl ?_
    refine j_bipush (v := (22 : Int32)) hX eL_build_166 (by decide) ?_
    refine j_ishr hX eL_build_168 ?_
    refine j_iconst (v := (3 : Int32)) hX eL_build_169 (by decide) ?_
    refine j_iand hX eL_build_170 ?_
    refine j_iconst (v := (3 : Int32)) hX eL_build_171 (by decide) ?_
    refine j_irem hX eL_build_172 (by decide) ?_
    refine j_iconst (v := (1 : Int32)) hX eL_build_173 (by decide) ?_
    refine j_iload hX eL_build_174 3 rfl ?_
    refine j_bipush (v := (24 : Int32)) hX eL_build_176 (by decide) ?_
    refine j_ishr hX eL_build_178 ?_
    refine j_iconst (v := (3 : Int32)) hX eL_build_179 (by decide) ?_
    refine j_iand hX eL_build_180 ?_
    refine j_iconst (v := (3 : Int32)) hX eL_build_181 (by decide) ?_
    refine j_irem hX eL_build_182 (by decide) ?_
    refine j_iadd hX eL_build_183 ?_
    refine j_iconst (v := (0 : Int32)) hX eL_build_184 (by decide) ?_
    obtain ⟨b4, b5, h⟩ := h
    refine j_callSX (r' := rL_act) (As := [.ref a1, .int (2 : Int32), .int (((a4 >>> ((22 : Int32) &&& 31)) &&& (3 : Int32)) - ((a4 >>> ((22 : Int32) &&& 31)) &&& (3 : Int32)) / (3 : Int32) * (3 : Int32)), .int ((1 : Int32) + (((a4 >>> ((24 : Int32) &&& 31)) &&& (3 : Int32)) - ((a4 >>> ((24 : Int32) &&& 31)) &&& (3 : Int32)) / (3 : Int32) * (3 : Int32))), .int (0 : Int32)]) (rest := []) (d1 := d) hX eL_build_185 mm_LiftGroupLaw_30 (by decide) rfl h rfl (Nat.le_refl _) b4 b5 (Nat.le_of_ble_eq_true rfl) (fun vz9 Mz9 qz9 => ?_) (fun Ez9 Mz9 qz9 => ?_)
    · obtain ⟨M2, eMz9⟩ : ∃ M2, M2 = Mz9 := ⟨_, rfl⟩; subst eMz9
      obtain ⟨v3, hxz9, h⟩ := qz9
      cases hxz9
      refine j_pop hX eL_build_188 rfl ?_
      exact j_sub [0, 1, 2, 3] rfl (k189 _ _ _ _ _ _ _ h)
    · obtain ⟨v3, hxz9, h⟩ := qz9
      cases hxz9
set_option maxHeartbeats 4000000 in
set_option maxRecDepth 20000 in
theorem vL_build_189 {X : am_Cx} {G : am_Gx} {d : Nat} {Q : am_Q} (hX : am_ok X rL_build G (d + 1)) (hM : am_me X rL_build Q) {bc bs : Nat} (R218 : Nat → Nat → Int32 → Int32 → am_Hp → Nat → Nat → Prop) (k218 : ∀ (x0 : Nat) (x1 : Nat) (x3 : Int32) (x4 : Int32) (M : am_Hp) (bc bs : Nat), R218 x0 x1 x3 x4 M bc bs → am_J X 218 [(0, .ref x0), (1, .ref x1), (3, .int x3), (4, .int x4)] [] M bc bs) {a0 : Nat} {a1 : Nat} {a3 : Int32} {a4 : Int32} {M : am_Hp} (h : ((((a4 >>> ((19 : Int32) &&& 31)) &&& (7 : Int32)) = (1 : Int32)) → (1 ≤ bc ∧ (6 ≤ bs ∧ (am_CT G d rL_act [.ref a1, .int (3 : Int32), .int (((a4 >>> ((22 : Int32) &&& 31)) &&& (3 : Int32)) - ((a4 >>> ((22 : Int32) &&& 31)) &&& (3 : Int32)) / (3 : Int32) * (3 : Int32)), .int (0 : Int32), .int (0 : Int32)] M 1 6 (fun oz9 M2 => ∃ v3 : Int32, oz9 = .inl (some (.int v3)) ∧ (R218 a0 a1 a3 a4 M2 (bc - 1) (bs - 6))))))) ∧ (¬ (((a4 >>> ((19 : Int32) &&& 31)) &&& (7 : Int32)) = (1 : Int32)) → (R218 a0 a1 a3 a4 M bc bs))) : am_J X 189 [(0, .ref a0), (1, .ref a1), (3, .int a3), (4, .int a4)] [] M bc bs := by
  refine j_iload hX eL_build_189 3 rfl ?_
  refine j_bipush (v := (19 : Int32)) hX eL_build_191 (by decide) ?_
  refine j_ishr hX eL_build_193 ?_
  refine j_bipush (v := (7 : Int32)) hX eL_build_194 (by decide) ?_
  refine j_iand hX eL_build_196 ?_
  refine j_iconst (v := (1 : Int32)) hX eL_build_197 (by decide) ?_
  refine j_icmp_ne hX 218 eL_build_198 (by decide) (fun c1 => ?_) (fun c1 => ?_)
  · replace h := h.2 c1
    exact j_sub [0, 1, 2, 3] rfl (k218 _ _ _ _ _ _ _ h)
  · replace h := h.1 c1
    refine j_aload_n hX eL_build_201 1 rfl ?_
    refine j_iconst (v := (3 : Int32)) hX eL_build_202 (by decide) ?_
    refine j_iload hX eL_build_203 3 rfl ?_
    refine j_bipush (v := (22 : Int32)) hX eL_build_205 (by decide) ?_
    refine j_ishr hX eL_build_207 ?_
    refine j_iconst (v := (3 : Int32)) hX eL_build_208 (by decide) ?_
    refine j_iand hX eL_build_209 ?_
    refine j_iconst (v := (3 : Int32)) hX eL_build_210 (by decide) ?_
    refine j_irem hX eL_build_211 (by decide) ?_
    refine j_iconst (v := (0 : Int32)) hX eL_build_212 (by decide) ?_
    refine j_iconst (v := (0 : Int32)) hX eL_build_213 (by decide) ?_
    obtain ⟨b4, b5, h⟩ := h
    refine j_callSX (r' := rL_act) (As := [.ref a1, .int (3 : Int32), .int (((a4 >>> ((22 : Int32) &&& 31)) &&& (3 : Int32)) - ((a4 >>> ((22 : Int32) &&& 31)) &&& (3 : Int32)) / (3 : Int32) * (3 : Int32)), .int (0 : Int32), .int (0 : Int32)]) (rest := []) (d1 := d) hX eL_build_214 mm_LiftGroupLaw_30 (by decide) rfl h rfl (Nat.le_refl _) b4 b5 (Nat.le_of_ble_eq_true rfl) (fun vz9 Mz9 qz9 => ?_) (fun Ez9 Mz9 qz9 => ?_)
    · obtain ⟨M2, eMz9⟩ : ∃ M2, M2 = Mz9 := ⟨_, rfl⟩; subst eMz9
      obtain ⟨v3, hxz9, h⟩ := qz9
      cases hxz9
      refine j_pop hX eL_build_217 rfl ?_
      exact j_sub [0, 1, 2, 3] rfl (k218 _ _ _ _ _ _ _ h)
    · obtain ⟨v3, hxz9, h⟩ := qz9
      cases hxz9
set_option maxHeartbeats 4000000 in
set_option maxRecDepth 20000 in
theorem vL_build_218 {X : am_Cx} {G : am_Gx} {d : Nat} {Q : am_Q} (hX : am_ok X rL_build G (d + 1)) (hM : am_me X rL_build Q) {bc bs : Nat} (R246 : Nat → Nat → Int32 → Int32 → am_Hp → Nat → Nat → Prop) (k246 : ∀ (x0 : Nat) (x1 : Nat) (x3 : Int32) (x4 : Int32) (M : am_Hp) (bc bs : Nat), R246 x0 x1 x3 x4 M bc bs → am_J X 246 [(0, .ref x0), (1, .ref x1), (3, .int x3), (4, .int x4)] [] M bc bs) {a0 : Nat} {a1 : Nat} {a3 : Int32} {a4 : Int32} {M : am_Hp} (h : ((((a4 >>> ((19 : Int32) &&& 31)) &&& (3 : Int32)) = (2 : Int32)) → (1 ≤ bc ∧ (6 ≤ bs ∧ (am_CT G d rL_act [.ref a1, .int (4 : Int32), .int (((a4 >>> ((22 : Int32) &&& 31)) &&& (3 : Int32)) - ((a4 >>> ((22 : Int32) &&& 31)) &&& (3 : Int32)) / (3 : Int32) * (3 : Int32)), .int (0 : Int32), .int (0 : Int32)] M 1 6 (fun oz9 M2 => ∃ v3 : Int32, oz9 = .inl (some (.int v3)) ∧ (R246 a0 a1 a3 a4 M2 (bc - 1) (bs - 6))))))) ∧ (¬ (((a4 >>> ((19 : Int32) &&& 31)) &&& (3 : Int32)) = (2 : Int32)) → (R246 a0 a1 a3 a4 M bc bs))) : am_J X 218 [(0, .ref a0), (1, .ref a1), (3, .int a3), (4, .int a4)] [] M bc bs := by
  refine j_iload hX eL_build_218 3 rfl ?_
  refine j_bipush (v := (19 : Int32)) hX eL_build_220 (by decide) ?_
  refine j_ishr hX eL_build_222 ?_
  refine j_iconst (v := (3 : Int32)) hX eL_build_223 (by decide) ?_
  refine j_iand hX eL_build_224 ?_
  refine j_iconst (v := (2 : Int32)) hX eL_build_225 (by decide) ?_
  refine j_icmp_ne hX 246 eL_build_226 (by decide) (fun c1 => ?_) (fun c1 => ?_)
  · replace h := h.2 c1
    exact j_sub [0, 1, 2, 3] rfl (k246 _ _ _ _ _ _ _ h)
  · replace h := h.1 c1
    refine j_aload_n hX eL_build_229 1 rfl ?_
    refine j_iconst (v := (4 : Int32)) hX eL_build_230 (by decide) ?_
    refine j_iload hX eL_build_231 3 rfl ?_
    refine j_bipush (v := (22 : Int32)) hX eL_build_233 (by decide) ?_
    refine j_ishr hX eL_build_235 ?_
    refine j_iconst (v := (3 : Int32)) hX eL_build_236 (by decide) ?_
    refine j_iand hX eL_build_237 ?_
    refine j_iconst (v := (3 : Int32)) hX eL_build_238 (by decide) ?_
    refine j_irem hX eL_build_239 (by decide) ?_
    refine j_iconst (v := (0 : Int32)) hX eL_build_240 (by decide) ?_
    refine j_iconst (v := (0 : Int32)) hX eL_build_241 (by decide) ?_
    obtain ⟨b4, b5, h⟩ := h
    refine j_callSX (r' := rL_act) (As := [.ref a1, .int (4 : Int32), .int (((a4 >>> ((22 : Int32) &&& 31)) &&& (3 : Int32)) - ((a4 >>> ((22 : Int32) &&& 31)) &&& (3 : Int32)) / (3 : Int32) * (3 : Int32)), .int (0 : Int32), .int (0 : Int32)]) (rest := []) (d1 := d) hX eL_build_242 mm_LiftGroupLaw_30 (by decide) rfl h rfl (Nat.le_refl _) b4 b5 (Nat.le_of_ble_eq_true rfl) (fun vz9 Mz9 qz9 => ?_) (fun Ez9 Mz9 qz9 => ?_)
    · obtain ⟨M2, eMz9⟩ : ∃ M2, M2 = Mz9 := ⟨_, rfl⟩; subst eMz9
      obtain ⟨v3, hxz9, h⟩ := qz9
      cases hxz9
      refine j_pop hX eL_build_245 rfl ?_
      exact j_sub [0, 1, 2, 3] rfl (k246 _ _ _ _ _ _ _ h)
    · obtain ⟨v3, hxz9, h⟩ := qz9
      cases hxz9
set_option maxHeartbeats 4000000 in
set_option maxRecDepth 20000 in
theorem vL_build_246 {X : am_Cx} {G : am_Gx} {d : Nat} {Q : am_Q} (hX : am_ok X rL_build G (d + 1)) (hM : am_me X rL_build Q) {bc bs : Nat} (R286 : Nat → Nat → Int32 → Int32 → am_Hp → Nat → Nat → Prop) (k286 : ∀ (x0 : Nat) (x1 : Nat) (x3 : Int32) (x4 : Int32) (M : am_Hp) (bc bs : Nat), R286 x0 x1 x3 x4 M bc bs → am_J X 286 [(0, .ref x0), (1, .ref x1), (3, .int x3), (4, .int x4)] [] M bc bs) {a0 : Nat} {a1 : Nat} {a3 : Int32} {a4 : Int32} {M : am_Hp} (h : ((((a4 >>> ((19 : Int32) &&& 31)) &&& (7 : Int32)) = (3 : Int32)) → (1 ≤ bc ∧ (6 ≤ bs ∧ (am_CT G d rL_act [.ref a1, .int (5 : Int32), .int (((a4 >>> ((22 : Int32) &&& 31)) &&& (3 : Int32)) - ((a4 >>> ((22 : Int32) &&& 31)) &&& (3 : Int32)) / (3 : Int32) * (3 : Int32)), .int ((100 : Int32) + ((a4 >>> ((8 : Int32) &&& 31)) &&& (511 : Int32))), .int (0 : Int32)] M 1 6 (fun oz9 M2 => ∃ v3 : Int32, oz9 = .inl (some (.int v3)) ∧ (R286 a0 a1 a3 a4 M2 (bc - 1) (bs - 6))))))) ∧ (¬ (((a4 >>> ((19 : Int32) &&& 31)) &&& (7 : Int32)) = (3 : Int32)) → (R286 a0 a1 a3 a4 M bc bs))) : am_J X 246 [(0, .ref a0), (1, .ref a1), (3, .int a3), (4, .int a4)] [] M bc bs := by
  refine j_iload hX eL_build_246 3 rfl ?_
  refine j_bipush (v := (19 : Int32)) hX eL_build_248 (by decide) ?_
  refine j_ishr hX eL_build_250 ?_
  refine j_bipush (v := (7 : Int32)) hX eL_build_251 (by decide) ?_
  refine j_iand hX eL_build_253 ?_
  refine j_iconst (v := (3 : Int32)) hX eL_build_254 (by decide) ?_
  refine j_icmp_ne hX 286 eL_build_255 (by decide) (fun c1 => ?_) (fun c1 => ?_)
  · replace h := h.2 c1
    exact j_sub [0, 1, 2, 3] rfl (k286 _ _ _ _ _ _ _ h)
  · replace h := h.1 c1
    refine j_aload_n hX eL_build_258 1 rfl ?_
    refine j_iconst (v := (5 : Int32)) hX eL_build_259 (by decide) ?_
    refine j_iload hX eL_build_260 3 rfl ?_
    refine j_bipush (v := (22 : Int32)) hX eL_build_262 (by decide) ?_
    refine j_ishr hX eL_build_264 ?_
    refine j_iconst (v := (3 : Int32)) hX eL_build_265 (by decide) ?_
    refine j_iand hX eL_build_266 ?_
    refine j_iconst (v := (3 : Int32)) hX eL_build_267 (by decide) ?_
    refine j_irem hX eL_build_268 (by decide) ?_
    refine j_bipush (v := (100 : Int32)) hX eL_build_269 (by decide) ?_
    refine j_iload hX eL_build_271 3 rfl ?_
    refine j_bipush (v := (8 : Int32)) hX eL_build_273 (by decide) ?_
    refine j_ishr hX eL_build_275 ?_
    refine j_sipush (v := (511 : Int32)) hX eL_build_276 (by decide) ?_
    refine j_iand hX eL_build_279 ?_
    refine j_iadd hX eL_build_280 ?_
    refine j_iconst (v := (0 : Int32)) hX eL_build_281 (by decide) ?_
    obtain ⟨b4, b5, h⟩ := h
    refine j_callSX (r' := rL_act) (As := [.ref a1, .int (5 : Int32), .int (((a4 >>> ((22 : Int32) &&& 31)) &&& (3 : Int32)) - ((a4 >>> ((22 : Int32) &&& 31)) &&& (3 : Int32)) / (3 : Int32) * (3 : Int32)), .int ((100 : Int32) + ((a4 >>> ((8 : Int32) &&& 31)) &&& (511 : Int32))), .int (0 : Int32)]) (rest := []) (d1 := d) hX eL_build_282 mm_LiftGroupLaw_30 (by decide) rfl h rfl (Nat.le_refl _) b4 b5 (Nat.le_of_ble_eq_true rfl) (fun vz9 Mz9 qz9 => ?_) (fun Ez9 Mz9 qz9 => ?_)
    · obtain ⟨M2, eMz9⟩ : ∃ M2, M2 = Mz9 := ⟨_, rfl⟩; subst eMz9
      obtain ⟨v3, hxz9, h⟩ := qz9
      cases hxz9
      refine j_pop hX eL_build_285 rfl ?_
      exact j_sub [0, 1, 2, 3] rfl (k286 _ _ _ _ _ _ _ h)
    · obtain ⟨v3, hxz9, h⟩ := qz9
      cases hxz9
set_option maxHeartbeats 4000000 in
set_option maxRecDepth 20000 in
theorem vL_build_286 {X : am_Cx} {G : am_Gx} {d : Nat} {Q : am_Q} (hX : am_ok X rL_build G (d + 1)) (hM : am_me X rL_build Q) {bc bs : Nat} (R324 : Nat → Nat → Int32 → Int32 → am_Hp → Nat → Nat → Prop) (k324 : ∀ (x0 : Nat) (x1 : Nat) (x3 : Int32) (x4 : Int32) (M : am_Hp) (bc bs : Nat), R324 x0 x1 x3 x4 M bc bs → am_J X 324 [(0, .ref x0), (1, .ref x1), (3, .int x3), (4, .int x4)] [] M bc bs) {a0 : Nat} {a1 : Nat} {a3 : Int32} {a4 : Int32} {M : am_Hp} (h : ((((a4 >>> ((19 : Int32) &&& 31)) &&& (7 : Int32)) = (7 : Int32)) → (hp_T M (a1) = 7 ∧ (am_CT G d rX6_passengerCount [.ref a1] M 0 0 (fun oz9 M2 => ∃ v3 : Int32, oz9 = .inl (some (.int v3)) ∧ (∀ v5 : Int32, v5 = (if (1 : Int32) < v3 then v3 else (1 : Int32)) → (¬ v5 = 0 ∧ (1 ≤ bc ∧ (6 ≤ bs ∧ (am_CT G d rL_act [.ref a1, .int (1 : Int32), .int (((a4 >>> ((22 : Int32) &&& 31)) &&& (15 : Int32)) - ((a4 >>> ((22 : Int32) &&& 31)) &&& (15 : Int32)) / v5 * v5), .int (0 : Int32), .int (0 : Int32)] M2 1 6 (fun oz9 M7 => ∃ v8 : Int32, oz9 = .inl (some (.int v8)) ∧ (R324 a0 a1 a3 a4 M7 (bc - 1) (bs - 6)))))))))))) ∧ (¬ (((a4 >>> ((19 : Int32) &&& 31)) &&& (7 : Int32)) = (7 : Int32)) → (R324 a0 a1 a3 a4 M bc bs))) : am_J X 286 [(0, .ref a0), (1, .ref a1), (3, .int a3), (4, .int a4)] [] M bc bs := by
  refine j_iload hX eL_build_286 3 rfl ?_
  refine j_bipush (v := (19 : Int32)) hX eL_build_288 (by decide) ?_
  refine j_ishr hX eL_build_290 ?_
  refine j_bipush (v := (7 : Int32)) hX eL_build_291 (by decide) ?_
  refine j_iand hX eL_build_293 ?_
  refine j_bipush (v := (7 : Int32)) hX eL_build_294 (by decide) ?_
  refine j_icmp_ne hX 324 eL_build_296 (by decide) (fun c1 => ?_) (fun c1 => ?_)
  · replace h := h.2 c1
    exact j_sub [0, 1, 2, 3] rfl (k324 _ _ _ _ _ _ _ h)
  · replace h := h.1 c1
    refine j_aload_n hX eL_build_299 1 rfl ?_
    refine j_iconst (v := (1 : Int32)) hX eL_build_300 (by decide) ?_
    refine j_iload hX eL_build_301 3 rfl ?_
    refine j_bipush (v := (22 : Int32)) hX eL_build_303 (by decide) ?_
    refine j_ishr hX eL_build_305 ?_
    refine j_bipush (v := (15 : Int32)) hX eL_build_306 (by decide) ?_
    refine j_iand hX eL_build_308 ?_
    refine j_iconst (v := (1 : Int32)) hX eL_build_309 (by decide) ?_
    refine j_aload_n hX eL_build_310 1 rfl ?_
    obtain ⟨t4, h⟩ := h
    refine j_callV (a := a1) (q := (RX6, TX6, 9)) (r' := rX6_passengerCount) (As := []) (rest := [.int (1 : Int32), .int ((a4 >>> ((22 : Int32) &&& 31)) &&& (15 : Int32)), .int (1 : Int32), .ref a1]) (d1 := d) hX eL_build_311 mm_LiftGroupLaw_34 rfl t4 (by decide) rfl h rfl (Nat.le_refl _) (Nat.zero_le _) (Nat.zero_le _) (Nat.le_of_ble_eq_true rfl) (fun vz9 Mz9 qz9 => ?_) (fun Ez9 Mz9 qz9 => ?_)
    · obtain ⟨M2, eMz9⟩ : ∃ M2, M2 = Mz9 := ⟨_, rfl⟩; subst eMz9
      obtain ⟨v3, hxz9, h⟩ := qz9
      cases hxz9
      refine j_mmax hX eL_build_314 tw_1292 tw_950 tw_21 (Nat.le_of_ble_eq_true rfl) ?_
      refine j_nmI (fun v5 ev5 => ?_)
      replace h := h v5 ev5
      obtain ⟨n6, h⟩ := h
      refine j_irem hX eL_build_317 n6 ?_
      refine j_iconst (v := (0 : Int32)) hX eL_build_318 (by decide) ?_
      refine j_iconst (v := (0 : Int32)) hX eL_build_319 (by decide) ?_
      obtain ⟨b9, b10, h⟩ := h
      refine j_callSX (r' := rL_act) (As := [.ref a1, .int (1 : Int32), .int (((a4 >>> ((22 : Int32) &&& 31)) &&& (15 : Int32)) - ((a4 >>> ((22 : Int32) &&& 31)) &&& (15 : Int32)) / v5 * v5), .int (0 : Int32), .int (0 : Int32)]) (rest := []) (d1 := d) hX eL_build_320 mm_LiftGroupLaw_30 (by decide) rfl h rfl (Nat.le_refl _) b9 b10 (Nat.le_of_ble_eq_true rfl) (fun vz9 Mz9 qz9 => ?_) (fun Ez9 Mz9 qz9 => ?_)
      · obtain ⟨M7, eMz9⟩ : ∃ M7, M7 = Mz9 := ⟨_, rfl⟩; subst eMz9
        obtain ⟨v8, hxz9, h⟩ := qz9
        cases hxz9
        refine j_pop hX eL_build_323 rfl ?_
        exact j_sub [0, 1, 2, 3] rfl (k324 _ _ _ _ _ _ _ h)
      · obtain ⟨v8, hxz9, h⟩ := qz9
        cases hxz9
    · obtain ⟨v3, hxz9, h⟩ := qz9
      cases hxz9
set_option maxHeartbeats 4000000 in
set_option maxRecDepth 20000 in
theorem vL_build_324 {X : am_Cx} {G : am_Gx} {d : Nat} {Q : am_Q} (hX : am_ok X rL_build G (d + 1)) (hM : am_me X rL_build Q) {bc bs : Nat} (R352 : Nat → Nat → Int32 → am_Hp → Nat → Nat → Prop) (k352 : ∀ (x0 : Nat) (x1 : Nat) (x3 : Int32) (M : am_Hp) (bc bs : Nat), R352 x0 x1 x3 M bc bs → am_J X 352 [(0, .ref x0), (1, .ref x1), (3, .int x3)] [] M bc bs) {a0 : Nat} {a1 : Nat} {a3 : Int32} {a4 : Int32} {M : am_Hp} (h : ((((a4 >>> ((26 : Int32) &&& 31)) &&& (3 : Int32)) = 0) → (1 ≤ bc ∧ (6 ≤ bs ∧ (am_CT G d rL_act [.ref a1, .int (6 : Int32), .int ((1 : Int32) + ((a4 >>> ((28 : Int32) &&& 31)) &&& (3 : Int32))), .int (0 : Int32), .int (0 : Int32)] M 1 6 (fun oz9 M2 => ∃ v3 : Int32, oz9 = .inl (some (.int v3)) ∧ (R352 a0 a1 a3 M2 (bc - 1) (bs - 6))))))) ∧ (¬ (((a4 >>> ((26 : Int32) &&& 31)) &&& (3 : Int32)) = 0) → (R352 a0 a1 a3 M bc bs))) : am_J X 324 [(0, .ref a0), (1, .ref a1), (3, .int a3), (4, .int a4)] [] M bc bs := by
  refine j_iload hX eL_build_324 3 rfl ?_
  refine j_bipush (v := (26 : Int32)) hX eL_build_326 (by decide) ?_
  refine j_ishr hX eL_build_328 ?_
  refine j_iconst (v := (3 : Int32)) hX eL_build_329 (by decide) ?_
  refine j_iand hX eL_build_330 ?_
  refine j_if_ne hX 352 eL_build_331 (by decide) (fun c1 => ?_) (fun c1 => ?_)
  · replace h := h.2 c1
    exact j_sub [0, 1, 2] rfl (k352 _ _ _ _ _ _ h)
  · replace h := h.1 c1
    refine j_aload_n hX eL_build_334 1 rfl ?_
    refine j_bipush (v := (6 : Int32)) hX eL_build_335 (by decide) ?_
    refine j_iconst (v := (1 : Int32)) hX eL_build_337 (by decide) ?_
    refine j_iload hX eL_build_338 3 rfl ?_
    refine j_bipush (v := (28 : Int32)) hX eL_build_340 (by decide) ?_
    refine j_ishr hX eL_build_342 ?_
    refine j_iconst (v := (3 : Int32)) hX eL_build_343 (by decide) ?_
    refine j_iand hX eL_build_344 ?_
    refine j_iadd hX eL_build_345 ?_
    refine j_iconst (v := (0 : Int32)) hX eL_build_346 (by decide) ?_
    refine j_iconst (v := (0 : Int32)) hX eL_build_347 (by decide) ?_
    obtain ⟨b4, b5, h⟩ := h
    refine j_callSX (r' := rL_act) (As := [.ref a1, .int (6 : Int32), .int ((1 : Int32) + ((a4 >>> ((28 : Int32) &&& 31)) &&& (3 : Int32))), .int (0 : Int32), .int (0 : Int32)]) (rest := []) (d1 := d) hX eL_build_348 mm_LiftGroupLaw_30 (by decide) rfl h rfl (Nat.le_refl _) b4 b5 (Nat.le_of_ble_eq_true rfl) (fun vz9 Mz9 qz9 => ?_) (fun Ez9 Mz9 qz9 => ?_)
    · obtain ⟨M2, eMz9⟩ : ∃ M2, M2 = Mz9 := ⟨_, rfl⟩; subst eMz9
      obtain ⟨v3, hxz9, h⟩ := qz9
      cases hxz9
      refine j_pop hX eL_build_351 rfl ?_
      exact j_sub [0, 1, 2] rfl (k352 _ _ _ _ _ _ h)
    · obtain ⟨v3, hxz9, h⟩ := qz9
      cases hxz9
set_option maxHeartbeats 4000000 in
set_option maxRecDepth 20000 in
theorem vL_build_352 {X : am_Cx} {G : am_Gx} {d : Nat} {Q : am_Q} (hX : am_ok X rL_build G (d + 1)) (hM : am_me X rL_build Q) {bc bs : Nat} (R74 : Nat → Nat → Int32 → am_Hp → Nat → Nat → Prop) (k74 : ∀ (x0 : Nat) (x1 : Nat) (x3 : Int32) (M : am_Hp) (bc bs : Nat), R74 x0 x1 x3 M bc bs → am_J X 74 [(0, .ref x0), (1, .ref x1), (3, .int x3)] [] M bc bs) {a0 : Nat} {a1 : Nat} {a3 : Int32} {M : am_Hp} (h : ∀ v1 : Int32, v1 = a3 + (1 : Int32) → (R74 a0 a1 v1 M bc bs)) : am_J X 352 [(0, .ref a0), (1, .ref a1), (3, .int a3)] [] M bc bs := by
  obtain ⟨v1, ev1⟩ : ∃ v1 : Int32, v1 = a3 + (1 : Int32) := ⟨_, rfl⟩
  replace h := h v1 ev1
  refine j_iinc (v := v1) (lv' := [(3, .int v1), (0, .ref a0), (1, .ref a1)]) hX eL_build_352 2 rfl (by rw [ev1]; rfl) (by decide) rfl ?_
  refine j_goto hX 74 eL_build_355 (by decide) ?_
  exact j_sub [1, 2, 0] rfl (k74 _ _ _ _ _ _ h)

set_option maxHeartbeats 4000000 in
set_option maxRecDepth 20000 in
theorem vL_act_0 {X : am_Cx} {G : am_Gx} {d : Nat} {Q : am_Q} (hX : am_ok X rL_act G (d + 1)) (hM : am_me X rL_act Q) {bc bs : Nat}  {a0 : Nat} {a1 : Int32} {a2 : Int32} {a3 : Int32} {a4 : Int32} {M : am_Hp} (h : (a1.toInt < 0 ∨ 5 < a1.toInt → (hp_T M (a0) = 7 ∧ (1 ≤ bc ∧ (6 ≤ bs ∧ (am_CT G d rX6_advance [.ref a0, .int a2] M 1 6 (fun oz9 M1 => (∃ v2 : Int32, oz9 = .inl (some (.int v2)) ∧ (Q (.inl (some (.int v2))) M1)) ∨ ((oz9 = .inr "java/lang/IllegalArgumentException" ∧ ∀ p6 : Nat, Q (.inl (some (.int (-4 : Int32)))) M1)) ∨ ((oz9 = .inr "java/lang/IllegalStateException" ∧ ∀ p7 : Nat, Q (.inl (some (.int (-2 : Int32)))) M1)) ∨ ((oz9 = .inr "java/lang/IndexOutOfBoundsException" ∧ ∀ p8 : Nat, Q (.inl (some (.int (-4 : Int32)))) M1)) ∨ ((oz9 = .inr "java/lang/UnsupportedOperationException" ∧ ∀ p9 : Nat, Q (.inl (some (.int (-3 : Int32)))) M1)))))))) ∧ (a1 = (0 : Int32) → (hp_T M (a0) = 7 ∧ (1 ≤ bc ∧ (6 ≤ bs ∧ (am_CT G d rX6_addPassenger [.ref a0, .int a2, .int a3, .int a4] M 1 6 (fun oz9 M10 => (∃ v11 : Int32, oz9 = .inl (some (.int v11)) ∧ (Q (.inl (some (.int v11))) M10)) ∨ ((oz9 = .inr "java/lang/IllegalArgumentException" ∧ ∀ p15 : Nat, Q (.inl (some (.int (-4 : Int32)))) M10)) ∨ ((oz9 = .inr "java/lang/IllegalStateException" ∧ ∀ p16 : Nat, Q (.inl (some (.int (-2 : Int32)))) M10)) ∨ ((oz9 = .inr "java/lang/IndexOutOfBoundsException" ∧ ∀ p17 : Nat, Q (.inl (some (.int (-4 : Int32)))) M10)) ∨ ((oz9 = .inr "java/lang/UnsupportedOperationException" ∧ ∀ p18 : Nat, Q (.inl (some (.int (-3 : Int32)))) M10)))))))) ∧ (a1 = (1 : Int32) → (hp_T M (a0) = 7 ∧ (1 ≤ bc ∧ (6 ≤ bs ∧ (am_CT G d rX6_removePassenger [.ref a0, .int a2] M 1 6 (fun oz9 M19 => (∃ v20 : Int32, oz9 = .inl (some (.int v20)) ∧ (Q (.inl (some (.int v20))) M19)) ∨ ((oz9 = .inr "java/lang/IllegalArgumentException" ∧ ∀ p24 : Nat, Q (.inl (some (.int (-4 : Int32)))) M19)) ∨ ((oz9 = .inr "java/lang/IllegalStateException" ∧ ∀ p25 : Nat, Q (.inl (some (.int (-2 : Int32)))) M19)) ∨ ((oz9 = .inr "java/lang/IndexOutOfBoundsException" ∧ ∀ p26 : Nat, Q (.inl (some (.int (-4 : Int32)))) M19)) ∨ ((oz9 = .inr "java/lang/UnsupportedOperationException" ∧ ∀ p27 : Nat, Q (.inl (some (.int (-3 : Int32)))) M19)))))))) ∧ (a1 = (2 : Int32) → (hp_T M (a0) = 7 ∧ (1 ≤ bc ∧ (6 ≤ bs ∧ (am_CT G d rX6_holdDoors [.ref a0, .int a2, .int a3] M 1 6 (fun oz9 M28 => (∃ v29 : Int32, oz9 = .inl (some (.int v29)) ∧ (Q (.inl (some (.int v29))) M28)) ∨ ((oz9 = .inr "java/lang/IllegalArgumentException" ∧ ∀ p33 : Nat, Q (.inl (some (.int (-4 : Int32)))) M28)) ∨ ((oz9 = .inr "java/lang/IllegalStateException" ∧ ∀ p34 : Nat, Q (.inl (some (.int (-2 : Int32)))) M28)) ∨ ((oz9 = .inr "java/lang/IndexOutOfBoundsException" ∧ ∀ p35 : Nat, Q (.inl (some (.int (-4 : Int32)))) M28)) ∨ ((oz9 = .inr "java/lang/UnsupportedOperationException" ∧ ∀ p36 : Nat, Q (.inl (some (.int (-3 : Int32)))) M28)))))))) ∧ (a1 = (3 : Int32) → (hp_T M (a0) = 7 ∧ (1 ≤ bc ∧ (6 ≤ bs ∧ (am_CT G d rX6_stopCar [.ref a0, .int a2] M 1 6 (fun oz9 M37 => (∃ v38 : Int32, oz9 = .inl (some (.int v38)) ∧ (Q (.inl (some (.int v38))) M37)) ∨ ((oz9 = .inr "java/lang/IllegalArgumentException" ∧ ∀ p42 : Nat, Q (.inl (some (.int (-4 : Int32)))) M37)) ∨ ((oz9 = .inr "java/lang/IllegalStateException" ∧ ∀ p43 : Nat, Q (.inl (some (.int (-2 : Int32)))) M37)) ∨ ((oz9 = .inr "java/lang/IndexOutOfBoundsException" ∧ ∀ p44 : Nat, Q (.inl (some (.int (-4 : Int32)))) M37)) ∨ ((oz9 = .inr "java/lang/UnsupportedOperationException" ∧ ∀ p45 : Nat, Q (.inl (some (.int (-3 : Int32)))) M37)))))))) ∧ (a1 = (4 : Int32) → (hp_T M (a0) = 7 ∧ (1 ≤ bc ∧ (6 ≤ bs ∧ (am_CT G d rX6_startCar [.ref a0, .int a2] M 1 6 (fun oz9 M46 => (∃ v47 : Int32, oz9 = .inl (some (.int v47)) ∧ (Q (.inl (some (.int v47))) M46)) ∨ ((oz9 = .inr "java/lang/IllegalArgumentException" ∧ ∀ p51 : Nat, Q (.inl (some (.int (-4 : Int32)))) M46)) ∨ ((oz9 = .inr "java/lang/IllegalStateException" ∧ ∀ p52 : Nat, Q (.inl (some (.int (-2 : Int32)))) M46)) ∨ ((oz9 = .inr "java/lang/IndexOutOfBoundsException" ∧ ∀ p53 : Nat, Q (.inl (some (.int (-4 : Int32)))) M46)) ∨ ((oz9 = .inr "java/lang/UnsupportedOperationException" ∧ ∀ p54 : Nat, Q (.inl (some (.int (-3 : Int32)))) M46)))))))) ∧ (a1 = (5 : Int32) → (hp_T M (a0) = 7 ∧ (1 ≤ bc ∧ (6 ≤ bs ∧ (am_CT G d rX6_setCapacity [.ref a0, .int a2, .int a3] M 1 6 (fun oz9 M55 => (∃ v56 : Int32, oz9 = .inl (some (.int v56)) ∧ (Q (.inl (some (.int v56))) M55)) ∨ ((oz9 = .inr "java/lang/IllegalArgumentException" ∧ ∀ p60 : Nat, Q (.inl (some (.int (-4 : Int32)))) M55)) ∨ ((oz9 = .inr "java/lang/IllegalStateException" ∧ ∀ p61 : Nat, Q (.inl (some (.int (-2 : Int32)))) M55)) ∨ ((oz9 = .inr "java/lang/IndexOutOfBoundsException" ∧ ∀ p62 : Nat, Q (.inl (some (.int (-4 : Int32)))) M55)) ∨ ((oz9 = .inr "java/lang/UnsupportedOperationException" ∧ ∀ p63 : Nat, Q (.inl (some (.int (-3 : Int32)))) M55))))))))) : am_J X 0 [(0, .ref a0), (1, .int a1), (2, .int a2), (3, .int a3), (4, .int a4)] [] M bc bs := by
  refine j_iload_n hX eL_act_0 1 rfl ?_
  by_cases hsw : a1.toInt < 0 ∨ 5 < a1.toInt
  · refine j_tableOut hX 81 eL_act_1 hsw (by decide) ?_
    replace h := h.1 hsw
    refine j_aload_n hX eL_act_81 0 rfl ?_
    refine j_iload_n hX eL_act_82 2 rfl ?_
    obtain ⟨t3, h⟩ := h
    obtain ⟨b4, b5, h⟩ := h
    refine j_callV (a := a0) (q := (RX6, TX6, 9)) (r' := rX6_advance) (As := [.int a2]) (rest := []) (d1 := d) hX eL_act_83 mm_LiftGroupLaw_63 rfl t3 (by decide) rfl h rfl (Nat.le_refl _) b4 b5 (Nat.le_of_ble_eq_true rfl) (fun vz9 Mz9 qz9 => ?_) (fun Ez9 Mz9 qz9 => ?_)
    · obtain ⟨M1, eMz9⟩ : ∃ M1, M1 = Mz9 := ⟨_, rfl⟩; subst eMz9
      rcases qz9 with ⟨v2, hxz9, h⟩ | ⟨hxz9, h⟩ | ⟨hxz9, h⟩ | ⟨hxz9, h⟩ | ⟨hxz9, h⟩ <;> cases hxz9
      exact j_iret hX hM eL_act_86 rfl h
    · obtain ⟨M1, eMz9⟩ : ∃ M1, M1 = Mz9 := ⟨_, rfl⟩; subst eMz9
      rcases qz9 with ⟨v2, hxz9, h⟩ | ⟨hxz9, h⟩ | ⟨hxz9, h⟩ | ⟨hxz9, h⟩ | ⟨hxz9, h⟩ <;> cases hxz9
      · refine am_thIc (name := "java/lang/IllegalArgumentException") hX [(0, 48, 87, 66), (49, 54, 87, 66), (55, 61, 87, 66), (62, 67, 87, 66), (68, 73, 87, 66), (74, 80, 87, 66), (81, 86, 87, 66), (0, 48, 92, 68), (49, 54, 92, 68), (55, 61, 92, 68), (62, 67, 92, 68), (68, 73, 92, 68), (74, 80, 92, 68), (81, 86, 92, 68), (0, 48, 97, 70), (49, 54, 97, 70), (55, 61, 97, 70), (62, 67, 97, 70), (68, 73, 97, 70), (74, 80, 97, 70)] (81, 86, 97, 70) [(0, 48, 102, 72), (49, 54, 102, 72), (55, 61, 102, 72), (62, 67, 102, 72), (68, 73, 102, 72), (74, 80, 102, 72), (81, 86, 102, 72)] rfl (fun z hz => by simp only [List.mem_cons, List.not_mem_nil, or_false] at hz; rcases hz with rfl | rfl | rfl | rfl | rfl | rfl | rfl | rfl | rfl | rfl | rfl | rfl | rfl | rfl | rfl | rfl | rfl | rfl | rfl | rfl <;> first | exact .inl (by decide) | exact .inr ⟨by decide, _, tw_1280, by decide⟩ | exact .inr ⟨by decide, _, tw_1281, by decide⟩) (by decide) (by decide) tw_1282 (am_castN_IllegalArgumentException) (fun p6 => ?_)
        replace h := h p6
        refine j_astore (lv' := [(5, .ref p6), (0, .ref a0), (1, .int a1), (2, .int a2), (3, .int a3), (4, .int a4)]) hX eL_act_97 (by decide) rfl ?_
        refine j_bipush (v := (-4 : Int32)) hX eL_act_99 (by decide) ?_
        exact j_iret hX hM eL_act_101 rfl h
      · refine am_thIc (name := "java/lang/IllegalStateException") hX [(0, 48, 87, 66), (49, 54, 87, 66), (55, 61, 87, 66), (62, 67, 87, 66), (68, 73, 87, 66), (74, 80, 87, 66)] (81, 86, 87, 66) [(0, 48, 92, 68), (49, 54, 92, 68), (55, 61, 92, 68), (62, 67, 92, 68), (68, 73, 92, 68), (74, 80, 92, 68), (81, 86, 92, 68), (0, 48, 97, 70), (49, 54, 97, 70), (55, 61, 97, 70), (62, 67, 97, 70), (68, 73, 97, 70), (74, 80, 97, 70), (81, 86, 97, 70), (0, 48, 102, 72), (49, 54, 102, 72), (55, 61, 102, 72), (62, 67, 102, 72), (68, 73, 102, 72), (74, 80, 102, 72), (81, 86, 102, 72)] rfl (fun z hz => by simp only [List.mem_cons, List.not_mem_nil, or_false] at hz; rcases hz with rfl | rfl | rfl | rfl | rfl | rfl <;> first | exact .inl (by decide)) (by decide) (by decide) tw_1280 (am_castN_IllegalStateException) (fun p7 => ?_)
        replace h := h p7
        refine j_astore (lv' := [(5, .ref p7), (0, .ref a0), (1, .int a1), (2, .int a2), (3, .int a3), (4, .int a4)]) hX eL_act_87 (by decide) rfl ?_
        refine j_bipush (v := (-2 : Int32)) hX eL_act_89 (by decide) ?_
        exact j_iret hX hM eL_act_91 rfl h
      · refine am_thIc (name := "java/lang/IndexOutOfBoundsException") hX [(0, 48, 87, 66), (49, 54, 87, 66), (55, 61, 87, 66), (62, 67, 87, 66), (68, 73, 87, 66), (74, 80, 87, 66), (81, 86, 87, 66), (0, 48, 92, 68), (49, 54, 92, 68), (55, 61, 92, 68), (62, 67, 92, 68), (68, 73, 92, 68), (74, 80, 92, 68), (81, 86, 92, 68), (0, 48, 97, 70), (49, 54, 97, 70), (55, 61, 97, 70), (62, 67, 97, 70), (68, 73, 97, 70), (74, 80, 97, 70), (81, 86, 97, 70), (0, 48, 102, 72), (49, 54, 102, 72), (55, 61, 102, 72), (62, 67, 102, 72), (68, 73, 102, 72), (74, 80, 102, 72)] (81, 86, 102, 72) [] rfl (fun z hz => by simp only [List.mem_cons, List.not_mem_nil, or_false] at hz; rcases hz with rfl | rfl | rfl | rfl | rfl | rfl | rfl | rfl | rfl | rfl | rfl | rfl | rfl | rfl | rfl | rfl | rfl | rfl | rfl | rfl | rfl | rfl | rfl | rfl | rfl | rfl | rfl <;> first | exact .inl (by decide) | exact .inr ⟨by decide, _, tw_1280, by decide⟩ | exact .inr ⟨by decide, _, tw_1281, by decide⟩ | exact .inr ⟨by decide, _, tw_1282, by decide⟩) (by decide) (by decide) tw_1283 (am_castN_IndexOutOfBoundsException) (fun p8 => ?_)
        replace h := h p8
        refine j_astore (lv' := [(5, .ref p8), (0, .ref a0), (1, .int a1), (2, .int a2), (3, .int a3), (4, .int a4)]) hX eL_act_102 (by decide) rfl ?_
        refine j_bipush (v := (-4 : Int32)) hX eL_act_104 (by decide) ?_
        exact j_iret hX hM eL_act_106 rfl h
      · refine am_thIc (name := "java/lang/UnsupportedOperationException") hX [(0, 48, 87, 66), (49, 54, 87, 66), (55, 61, 87, 66), (62, 67, 87, 66), (68, 73, 87, 66), (74, 80, 87, 66), (81, 86, 87, 66), (0, 48, 92, 68), (49, 54, 92, 68), (55, 61, 92, 68), (62, 67, 92, 68), (68, 73, 92, 68), (74, 80, 92, 68)] (81, 86, 92, 68) [(0, 48, 97, 70), (49, 54, 97, 70), (55, 61, 97, 70), (62, 67, 97, 70), (68, 73, 97, 70), (74, 80, 97, 70), (81, 86, 97, 70), (0, 48, 102, 72), (49, 54, 102, 72), (55, 61, 102, 72), (62, 67, 102, 72), (68, 73, 102, 72), (74, 80, 102, 72), (81, 86, 102, 72)] rfl (fun z hz => by simp only [List.mem_cons, List.not_mem_nil, or_false] at hz; rcases hz with rfl | rfl | rfl | rfl | rfl | rfl | rfl | rfl | rfl | rfl | rfl | rfl | rfl <;> first | exact .inl (by decide) | exact .inr ⟨by decide, _, tw_1280, by decide⟩) (by decide) (by decide) tw_1281 (am_castN_UnsupportedOperationException) (fun p9 => ?_)
        replace h := h p9
        refine j_astore (lv' := [(5, .ref p9), (0, .ref a0), (1, .int a1), (2, .int a2), (3, .int a3), (4, .int a4)]) hX eL_act_92 (by decide) rfl ?_
        refine j_bipush (v := (-3 : Int32)) hX eL_act_94 (by decide) ?_
        exact j_iret hX hM eL_act_96 rfl h
  · replace h := h.2
    have hsw1 : ¬ a1.toInt < 0 := fun z => hsw (Or.inl z)
    have hsw2 : ¬ 5 < a1.toInt := fun z => hsw (Or.inr z)
    have hsw3 : a1.toInt = 0 ∨ a1.toInt = 1 ∨ a1.toInt = 2 ∨ a1.toInt = 3 ∨ a1.toInt = 4 ∨ a1.toInt = 5 := by omega
    rcases hsw3 with hk | hk | hk | hk | hk | hk
    · refine j_tableIn hX 40 eL_act_1 hsw1 hsw2 (by rw [hk]; rfl) (by decide) ?_
      replace h := h.1 (am_i32 hk (by decide))
      refine j_aload_n hX eL_act_40 0 rfl ?_
      refine j_iload_n hX eL_act_41 2 rfl ?_
      refine j_iload_n hX eL_act_42 3 rfl ?_
      refine j_iload hX eL_act_43 4 rfl ?_
      obtain ⟨t12, h⟩ := h
      obtain ⟨b13, b14, h⟩ := h
      refine j_callV (a := a0) (q := (RX6, TX6, 9)) (r' := rX6_addPassenger) (As := [.int a2, .int a3, .int a4]) (rest := []) (d1 := d) hX eL_act_45 mm_LiftGroupLaw_43 rfl t12 (by decide) rfl h rfl (Nat.le_refl _) b13 b14 (Nat.le_of_ble_eq_true rfl) (fun vz9 Mz9 qz9 => ?_) (fun Ez9 Mz9 qz9 => ?_)
      · obtain ⟨M10, eMz9⟩ : ∃ M10, M10 = Mz9 := ⟨_, rfl⟩; subst eMz9
        rcases qz9 with ⟨v11, hxz9, h⟩ | ⟨hxz9, h⟩ | ⟨hxz9, h⟩ | ⟨hxz9, h⟩ | ⟨hxz9, h⟩ <;> cases hxz9
        exact j_iret hX hM eL_act_48 rfl h
      · obtain ⟨M10, eMz9⟩ : ∃ M10, M10 = Mz9 := ⟨_, rfl⟩; subst eMz9
        rcases qz9 with ⟨v11, hxz9, h⟩ | ⟨hxz9, h⟩ | ⟨hxz9, h⟩ | ⟨hxz9, h⟩ | ⟨hxz9, h⟩ <;> cases hxz9
        · refine am_thIc (name := "java/lang/IllegalArgumentException") hX [(0, 48, 87, 66), (49, 54, 87, 66), (55, 61, 87, 66), (62, 67, 87, 66), (68, 73, 87, 66), (74, 80, 87, 66), (81, 86, 87, 66), (0, 48, 92, 68), (49, 54, 92, 68), (55, 61, 92, 68), (62, 67, 92, 68), (68, 73, 92, 68), (74, 80, 92, 68), (81, 86, 92, 68)] (0, 48, 97, 70) [(49, 54, 97, 70), (55, 61, 97, 70), (62, 67, 97, 70), (68, 73, 97, 70), (74, 80, 97, 70), (81, 86, 97, 70), (0, 48, 102, 72), (49, 54, 102, 72), (55, 61, 102, 72), (62, 67, 102, 72), (68, 73, 102, 72), (74, 80, 102, 72), (81, 86, 102, 72)] rfl (fun z hz => by simp only [List.mem_cons, List.not_mem_nil, or_false] at hz; rcases hz with rfl | rfl | rfl | rfl | rfl | rfl | rfl | rfl | rfl | rfl | rfl | rfl | rfl | rfl <;> first | exact .inr ⟨by decide, _, tw_1280, by decide⟩ | exact .inl (by decide) | exact .inr ⟨by decide, _, tw_1281, by decide⟩) (by decide) (by decide) tw_1282 (am_castN_IllegalArgumentException) (fun p15 => ?_)
          replace h := h p15
          refine j_astore (lv' := [(5, .ref p15), (0, .ref a0), (1, .int a1), (2, .int a2), (3, .int a3), (4, .int a4)]) hX eL_act_97 (by decide) rfl ?_
          refine j_bipush (v := (-4 : Int32)) hX eL_act_99 (by decide) ?_
          exact j_iret hX hM eL_act_101 rfl h
        · refine am_thIc (name := "java/lang/IllegalStateException") hX [] (0, 48, 87, 66) [(49, 54, 87, 66), (55, 61, 87, 66), (62, 67, 87, 66), (68, 73, 87, 66), (74, 80, 87, 66), (81, 86, 87, 66), (0, 48, 92, 68), (49, 54, 92, 68), (55, 61, 92, 68), (62, 67, 92, 68), (68, 73, 92, 68), (74, 80, 92, 68), (81, 86, 92, 68), (0, 48, 97, 70), (49, 54, 97, 70), (55, 61, 97, 70), (62, 67, 97, 70), (68, 73, 97, 70), (74, 80, 97, 70), (81, 86, 97, 70), (0, 48, 102, 72), (49, 54, 102, 72), (55, 61, 102, 72), (62, 67, 102, 72), (68, 73, 102, 72), (74, 80, 102, 72), (81, 86, 102, 72)] rfl (fun z hz => by cases hz) (by decide) (by decide) tw_1280 (am_castN_IllegalStateException) (fun p16 => ?_)
          replace h := h p16
          refine j_astore (lv' := [(5, .ref p16), (0, .ref a0), (1, .int a1), (2, .int a2), (3, .int a3), (4, .int a4)]) hX eL_act_87 (by decide) rfl ?_
          refine j_bipush (v := (-2 : Int32)) hX eL_act_89 (by decide) ?_
          exact j_iret hX hM eL_act_91 rfl h
        · refine am_thIc (name := "java/lang/IndexOutOfBoundsException") hX [(0, 48, 87, 66), (49, 54, 87, 66), (55, 61, 87, 66), (62, 67, 87, 66), (68, 73, 87, 66), (74, 80, 87, 66), (81, 86, 87, 66), (0, 48, 92, 68), (49, 54, 92, 68), (55, 61, 92, 68), (62, 67, 92, 68), (68, 73, 92, 68), (74, 80, 92, 68), (81, 86, 92, 68), (0, 48, 97, 70), (49, 54, 97, 70), (55, 61, 97, 70), (62, 67, 97, 70), (68, 73, 97, 70), (74, 80, 97, 70), (81, 86, 97, 70)] (0, 48, 102, 72) [(49, 54, 102, 72), (55, 61, 102, 72), (62, 67, 102, 72), (68, 73, 102, 72), (74, 80, 102, 72), (81, 86, 102, 72)] rfl (fun z hz => by simp only [List.mem_cons, List.not_mem_nil, or_false] at hz; rcases hz with rfl | rfl | rfl | rfl | rfl | rfl | rfl | rfl | rfl | rfl | rfl | rfl | rfl | rfl | rfl | rfl | rfl | rfl | rfl | rfl | rfl <;> first | exact .inr ⟨by decide, _, tw_1280, by decide⟩ | exact .inl (by decide) | exact .inr ⟨by decide, _, tw_1281, by decide⟩ | exact .inr ⟨by decide, _, tw_1282, by decide⟩) (by decide) (by decide) tw_1283 (am_castN_IndexOutOfBoundsException) (fun p17 => ?_)
          replace h := h p17
          refine j_astore (lv' := [(5, .ref p17), (0, .ref a0), (1, .int a1), (2, .int a2), (3, .int a3), (4, .int a4)]) hX eL_act_102 (by decide) rfl ?_
          refine j_bipush (v := (-4 : Int32)) hX eL_act_104 (by decide) ?_
          exact j_iret hX hM eL_act_106 rfl h
        · refine am_thIc (name := "java/lang/UnsupportedOperationException") hX [(0, 48, 87, 66), (49, 54, 87, 66), (55, 61, 87, 66), (62, 67, 87, 66), (68, 73, 87, 66), (74, 80, 87, 66), (81, 86, 87, 66)] (0, 48, 92, 68) [(49, 54, 92, 68), (55, 61, 92, 68), (62, 67, 92, 68), (68, 73, 92, 68), (74, 80, 92, 68), (81, 86, 92, 68), (0, 48, 97, 70), (49, 54, 97, 70), (55, 61, 97, 70), (62, 67, 97, 70), (68, 73, 97, 70), (74, 80, 97, 70), (81, 86, 97, 70), (0, 48, 102, 72), (49, 54, 102, 72), (55, 61, 102, 72), (62, 67, 102, 72), (68, 73, 102, 72), (74, 80, 102, 72), (81, 86, 102, 72)] rfl (fun z hz => by simp only [List.mem_cons, List.not_mem_nil, or_false] at hz; rcases hz with rfl | rfl | rfl | rfl | rfl | rfl | rfl <;> first | exact .inr ⟨by decide, _, tw_1280, by decide⟩ | exact .inl (by decide)) (by decide) (by decide) tw_1281 (am_castN_UnsupportedOperationException) (fun p18 => ?_)
          replace h := h p18
          refine j_astore (lv' := [(5, .ref p18), (0, .ref a0), (1, .int a1), (2, .int a2), (3, .int a3), (4, .int a4)]) hX eL_act_92 (by decide) rfl ?_
          refine j_bipush (v := (-3 : Int32)) hX eL_act_94 (by decide) ?_
          exact j_iret hX hM eL_act_96 rfl h
    · refine j_tableIn hX 49 eL_act_1 hsw1 hsw2 (by rw [hk]; rfl) (by decide) ?_
      replace h := h.2.1 (am_i32 hk (by decide))
      refine j_aload_n hX eL_act_49 0 rfl ?_
      refine j_iload_n hX eL_act_50 2 rfl ?_
      obtain ⟨t21, h⟩ := h
      obtain ⟨b22, b23, h⟩ := h
      refine j_callV (a := a0) (q := (RX6, TX6, 9)) (r' := rX6_removePassenger) (As := [.int a2]) (rest := []) (d1 := d) hX eL_act_51 mm_LiftGroupLaw_47 rfl t21 (by decide) rfl h rfl (Nat.le_refl _) b22 b23 (Nat.le_of_ble_eq_true rfl) (fun vz9 Mz9 qz9 => ?_) (fun Ez9 Mz9 qz9 => ?_)
      · obtain ⟨M19, eMz9⟩ : ∃ M19, M19 = Mz9 := ⟨_, rfl⟩; subst eMz9
        rcases qz9 with ⟨v20, hxz9, h⟩ | ⟨hxz9, h⟩ | ⟨hxz9, h⟩ | ⟨hxz9, h⟩ | ⟨hxz9, h⟩ <;> cases hxz9
        exact j_iret hX hM eL_act_54 rfl h
      · obtain ⟨M19, eMz9⟩ : ∃ M19, M19 = Mz9 := ⟨_, rfl⟩; subst eMz9
        rcases qz9 with ⟨v20, hxz9, h⟩ | ⟨hxz9, h⟩ | ⟨hxz9, h⟩ | ⟨hxz9, h⟩ | ⟨hxz9, h⟩ <;> cases hxz9
        · refine am_thIc (name := "java/lang/IllegalArgumentException") hX [(0, 48, 87, 66), (49, 54, 87, 66), (55, 61, 87, 66), (62, 67, 87, 66), (68, 73, 87, 66), (74, 80, 87, 66), (81, 86, 87, 66), (0, 48, 92, 68), (49, 54, 92, 68), (55, 61, 92, 68), (62, 67, 92, 68), (68, 73, 92, 68), (74, 80, 92, 68), (81, 86, 92, 68), (0, 48, 97, 70)] (49, 54, 97, 70) [(55, 61, 97, 70), (62, 67, 97, 70), (68, 73, 97, 70), (74, 80, 97, 70), (81, 86, 97, 70), (0, 48, 102, 72), (49, 54, 102, 72), (55, 61, 102, 72), (62, 67, 102, 72), (68, 73, 102, 72), (74, 80, 102, 72), (81, 86, 102, 72)] rfl (fun z hz => by simp only [List.mem_cons, List.not_mem_nil, or_false] at hz; rcases hz with rfl | rfl | rfl | rfl | rfl | rfl | rfl | rfl | rfl | rfl | rfl | rfl | rfl | rfl | rfl <;> first | exact .inl (by decide) | exact .inr ⟨by decide, _, tw_1280, by decide⟩ | exact .inr ⟨by decide, _, tw_1281, by decide⟩) (by decide) (by decide) tw_1282 (am_castN_IllegalArgumentException) (fun p24 => ?_)
          replace h := h p24
          refine j_astore (lv' := [(5, .ref p24), (0, .ref a0), (1, .int a1), (2, .int a2), (3, .int a3), (4, .int a4)]) hX eL_act_97 (by decide) rfl ?_
          refine j_bipush (v := (-4 : Int32)) hX eL_act_99 (by decide) ?_
          exact j_iret hX hM eL_act_101 rfl h
        · refine am_thIc (name := "java/lang/IllegalStateException") hX [(0, 48, 87, 66)] (49, 54, 87, 66) [(55, 61, 87, 66), (62, 67, 87, 66), (68, 73, 87, 66), (74, 80, 87, 66), (81, 86, 87, 66), (0, 48, 92, 68), (49, 54, 92, 68), (55, 61, 92, 68), (62, 67, 92, 68), (68, 73, 92, 68), (74, 80, 92, 68), (81, 86, 92, 68), (0, 48, 97, 70), (49, 54, 97, 70), (55, 61, 97, 70), (62, 67, 97, 70), (68, 73, 97, 70), (74, 80, 97, 70), (81, 86, 97, 70), (0, 48, 102, 72), (49, 54, 102, 72), (55, 61, 102, 72), (62, 67, 102, 72), (68, 73, 102, 72), (74, 80, 102, 72), (81, 86, 102, 72)] rfl (fun z hz => by simp only [List.mem_cons, List.not_mem_nil, or_false] at hz; rcases hz with rfl; exact .inl (by decide)) (by decide) (by decide) tw_1280 (am_castN_IllegalStateException) (fun p25 => ?_)
          replace h := h p25
          refine j_astore (lv' := [(5, .ref p25), (0, .ref a0), (1, .int a1), (2, .int a2), (3, .int a3), (4, .int a4)]) hX eL_act_87 (by decide) rfl ?_
          refine j_bipush (v := (-2 : Int32)) hX eL_act_89 (by decide) ?_
          exact j_iret hX hM eL_act_91 rfl h
        · refine am_thIc (name := "java/lang/IndexOutOfBoundsException") hX [(0, 48, 87, 66), (49, 54, 87, 66), (55, 61, 87, 66), (62, 67, 87, 66), (68, 73, 87, 66), (74, 80, 87, 66), (81, 86, 87, 66), (0, 48, 92, 68), (49, 54, 92, 68), (55, 61, 92, 68), (62, 67, 92, 68), (68, 73, 92, 68), (74, 80, 92, 68), (81, 86, 92, 68), (0, 48, 97, 70), (49, 54, 97, 70), (55, 61, 97, 70), (62, 67, 97, 70), (68, 73, 97, 70), (74, 80, 97, 70), (81, 86, 97, 70), (0, 48, 102, 72)] (49, 54, 102, 72) [(55, 61, 102, 72), (62, 67, 102, 72), (68, 73, 102, 72), (74, 80, 102, 72), (81, 86, 102, 72)] rfl (fun z hz => by simp only [List.mem_cons, List.not_mem_nil, or_false] at hz; rcases hz with rfl | rfl | rfl | rfl | rfl | rfl | rfl | rfl | rfl | rfl | rfl | rfl | rfl | rfl | rfl | rfl | rfl | rfl | rfl | rfl | rfl | rfl <;> first | exact .inl (by decide) | exact .inr ⟨by decide, _, tw_1280, by decide⟩ | exact .inr ⟨by decide, _, tw_1281, by decide⟩ | exact .inr ⟨by decide, _, tw_1282, by decide⟩) (by decide) (by decide) tw_1283 (am_castN_IndexOutOfBoundsException) (fun p26 => ?_)
          replace h := h p26
          refine j_astore (lv' := [(5, .ref p26), (0, .ref a0), (1, .int a1), (2, .int a2), (3, .int a3), (4, .int a4)]) hX eL_act_102 (by decide) rfl ?_
          refine j_bipush (v := (-4 : Int32)) hX eL_act_104 (by decide) ?_
          exact j_iret hX hM eL_act_106 rfl h
        · refine am_thIc (name := "java/lang/UnsupportedOperationException") hX [(0, 48, 87, 66), (49, 54, 87, 66), (55, 61, 87, 66), (62, 67, 87, 66), (68, 73, 87, 66), (74, 80, 87, 66), (81, 86, 87, 66), (0, 48, 92, 68)] (49, 54, 92, 68) [(55, 61, 92, 68), (62, 67, 92, 68), (68, 73, 92, 68), (74, 80, 92, 68), (81, 86, 92, 68), (0, 48, 97, 70), (49, 54, 97, 70), (55, 61, 97, 70), (62, 67, 97, 70), (68, 73, 97, 70), (74, 80, 97, 70), (81, 86, 97, 70), (0, 48, 102, 72), (49, 54, 102, 72), (55, 61, 102, 72), (62, 67, 102, 72), (68, 73, 102, 72), (74, 80, 102, 72), (81, 86, 102, 72)] rfl (fun z hz => by simp only [List.mem_cons, List.not_mem_nil, or_false] at hz; rcases hz with rfl | rfl | rfl | rfl | rfl | rfl | rfl | rfl <;> first | exact .inl (by decide) | exact .inr ⟨by decide, _, tw_1280, by decide⟩) (by decide) (by decide) tw_1281 (am_castN_UnsupportedOperationException) (fun p27 => ?_)
          replace h := h p27
          refine j_astore (lv' := [(5, .ref p27), (0, .ref a0), (1, .int a1), (2, .int a2), (3, .int a3), (4, .int a4)]) hX eL_act_92 (by decide) rfl ?_
          refine j_bipush (v := (-3 : Int32)) hX eL_act_94 (by decide) ?_
          exact j_iret hX hM eL_act_96 rfl h
    · refine j_tableIn hX 55 eL_act_1 hsw1 hsw2 (by rw [hk]; rfl) (by decide) ?_
      replace h := h.2.2.1 (am_i32 hk (by decide))
      refine j_aload_n hX eL_act_55 0 rfl ?_
      refine j_iload_n hX eL_act_56 2 rfl ?_
      refine j_iload_n hX eL_act_57 3 rfl ?_
      obtain ⟨t30, h⟩ := h
      obtain ⟨b31, b32, h⟩ := h
      refine j_callV (a := a0) (q := (RX6, TX6, 9)) (r' := rX6_holdDoors) (As := [.int a2, .int a3]) (rest := []) (d1 := d) hX eL_act_58 mm_LiftGroupLaw_51 rfl t30 (by decide) rfl h rfl (Nat.le_refl _) b31 b32 (Nat.le_of_ble_eq_true rfl) (fun vz9 Mz9 qz9 => ?_) (fun Ez9 Mz9 qz9 => ?_)
      · obtain ⟨M28, eMz9⟩ : ∃ M28, M28 = Mz9 := ⟨_, rfl⟩; subst eMz9
        rcases qz9 with ⟨v29, hxz9, h⟩ | ⟨hxz9, h⟩ | ⟨hxz9, h⟩ | ⟨hxz9, h⟩ | ⟨hxz9, h⟩ <;> cases hxz9
        exact j_iret hX hM eL_act_61 rfl h
      · obtain ⟨M28, eMz9⟩ : ∃ M28, M28 = Mz9 := ⟨_, rfl⟩; subst eMz9
        rcases qz9 with ⟨v29, hxz9, h⟩ | ⟨hxz9, h⟩ | ⟨hxz9, h⟩ | ⟨hxz9, h⟩ | ⟨hxz9, h⟩ <;> cases hxz9
        · refine am_thIc (name := "java/lang/IllegalArgumentException") hX [(0, 48, 87, 66), (49, 54, 87, 66), (55, 61, 87, 66), (62, 67, 87, 66), (68, 73, 87, 66), (74, 80, 87, 66), (81, 86, 87, 66), (0, 48, 92, 68), (49, 54, 92, 68), (55, 61, 92, 68), (62, 67, 92, 68), (68, 73, 92, 68), (74, 80, 92, 68), (81, 86, 92, 68), (0, 48, 97, 70), (49, 54, 97, 70)] (55, 61, 97, 70) [(62, 67, 97, 70), (68, 73, 97, 70), (74, 80, 97, 70), (81, 86, 97, 70), (0, 48, 102, 72), (49, 54, 102, 72), (55, 61, 102, 72), (62, 67, 102, 72), (68, 73, 102, 72), (74, 80, 102, 72), (81, 86, 102, 72)] rfl (fun z hz => by simp only [List.mem_cons, List.not_mem_nil, or_false] at hz; rcases hz with rfl | rfl | rfl | rfl | rfl | rfl | rfl | rfl | rfl | rfl | rfl | rfl | rfl | rfl | rfl | rfl <;> first | exact .inl (by decide) | exact .inr ⟨by decide, _, tw_1280, by decide⟩ | exact .inr ⟨by decide, _, tw_1281, by decide⟩) (by decide) (by decide) tw_1282 (am_castN_IllegalArgumentException) (fun p33 => ?_)
          replace h := h p33
          refine j_astore (lv' := [(5, .ref p33), (0, .ref a0), (1, .int a1), (2, .int a2), (3, .int a3), (4, .int a4)]) hX eL_act_97 (by decide) rfl ?_
          refine j_bipush (v := (-4 : Int32)) hX eL_act_99 (by decide) ?_
          exact j_iret hX hM eL_act_101 rfl h
        · refine am_thIc (name := "java/lang/IllegalStateException") hX [(0, 48, 87, 66), (49, 54, 87, 66)] (55, 61, 87, 66) [(62, 67, 87, 66), (68, 73, 87, 66), (74, 80, 87, 66), (81, 86, 87, 66), (0, 48, 92, 68), (49, 54, 92, 68), (55, 61, 92, 68), (62, 67, 92, 68), (68, 73, 92, 68), (74, 80, 92, 68), (81, 86, 92, 68), (0, 48, 97, 70), (49, 54, 97, 70), (55, 61, 97, 70), (62, 67, 97, 70), (68, 73, 97, 70), (74, 80, 97, 70), (81, 86, 97, 70), (0, 48, 102, 72), (49, 54, 102, 72), (55, 61, 102, 72), (62, 67, 102, 72), (68, 73, 102, 72), (74, 80, 102, 72), (81, 86, 102, 72)] rfl (fun z hz => by simp only [List.mem_cons, List.not_mem_nil, or_false] at hz; rcases hz with rfl | rfl <;> first | exact .inl (by decide)) (by decide) (by decide) tw_1280 (am_castN_IllegalStateException) (fun p34 => ?_)
          replace h := h p34
          refine j_astore (lv' := [(5, .ref p34), (0, .ref a0), (1, .int a1), (2, .int a2), (3, .int a3), (4, .int a4)]) hX eL_act_87 (by decide) rfl ?_
          refine j_bipush (v := (-2 : Int32)) hX eL_act_89 (by decide) ?_
          exact j_iret hX hM eL_act_91 rfl h
        · refine am_thIc (name := "java/lang/IndexOutOfBoundsException") hX [(0, 48, 87, 66), (49, 54, 87, 66), (55, 61, 87, 66), (62, 67, 87, 66), (68, 73, 87, 66), (74, 80, 87, 66), (81, 86, 87, 66), (0, 48, 92, 68), (49, 54, 92, 68), (55, 61, 92, 68), (62, 67, 92, 68), (68, 73, 92, 68), (74, 80, 92, 68), (81, 86, 92, 68), (0, 48, 97, 70), (49, 54, 97, 70), (55, 61, 97, 70), (62, 67, 97, 70), (68, 73, 97, 70), (74, 80, 97, 70), (81, 86, 97, 70), (0, 48, 102, 72), (49, 54, 102, 72)] (55, 61, 102, 72) [(62, 67, 102, 72), (68, 73, 102, 72), (74, 80, 102, 72), (81, 86, 102, 72)] rfl (fun z hz => by simp only [List.mem_cons, List.not_mem_nil, or_false] at hz; rcases hz with rfl | rfl | rfl | rfl | rfl | rfl | rfl | rfl | rfl | rfl | rfl | rfl | rfl | rfl | rfl | rfl | rfl | rfl | rfl | rfl | rfl | rfl | rfl <;> first | exact .inl (by decide) | exact .inr ⟨by decide, _, tw_1280, by decide⟩ | exact .inr ⟨by decide, _, tw_1281, by decide⟩ | exact .inr ⟨by decide, _, tw_1282, by decide⟩) (by decide) (by decide) tw_1283 (am_castN_IndexOutOfBoundsException) (fun p35 => ?_)
          replace h := h p35
          refine j_astore (lv' := [(5, .ref p35), (0, .ref a0), (1, .int a1), (2, .int a2), (3, .int a3), (4, .int a4)]) hX eL_act_102 (by decide) rfl ?_
          refine j_bipush (v := (-4 : Int32)) hX eL_act_104 (by decide) ?_
          exact j_iret hX hM eL_act_106 rfl h
        · refine am_thIc (name := "java/lang/UnsupportedOperationException") hX [(0, 48, 87, 66), (49, 54, 87, 66), (55, 61, 87, 66), (62, 67, 87, 66), (68, 73, 87, 66), (74, 80, 87, 66), (81, 86, 87, 66), (0, 48, 92, 68), (49, 54, 92, 68)] (55, 61, 92, 68) [(62, 67, 92, 68), (68, 73, 92, 68), (74, 80, 92, 68), (81, 86, 92, 68), (0, 48, 97, 70), (49, 54, 97, 70), (55, 61, 97, 70), (62, 67, 97, 70), (68, 73, 97, 70), (74, 80, 97, 70), (81, 86, 97, 70), (0, 48, 102, 72), (49, 54, 102, 72), (55, 61, 102, 72), (62, 67, 102, 72), (68, 73, 102, 72), (74, 80, 102, 72), (81, 86, 102, 72)] rfl (fun z hz => by simp only [List.mem_cons, List.not_mem_nil, or_false] at hz; rcases hz with rfl | rfl | rfl | rfl | rfl | rfl | rfl | rfl | rfl <;> first | exact .inl (by decide) | exact .inr ⟨by decide, _, tw_1280, by decide⟩) (by decide) (by decide) tw_1281 (am_castN_UnsupportedOperationException) (fun p36 => ?_)
          replace h := h p36
          refine j_astore (lv' := [(5, .ref p36), (0, .ref a0), (1, .int a1), (2, .int a2), (3, .int a3), (4, .int a4)]) hX eL_act_92 (by decide) rfl ?_
          refine j_bipush (v := (-3 : Int32)) hX eL_act_94 (by decide) ?_
          exact j_iret hX hM eL_act_96 rfl h
    · refine j_tableIn hX 62 eL_act_1 hsw1 hsw2 (by rw [hk]; rfl) (by decide) ?_
      replace h := h.2.2.2.1 (am_i32 hk (by decide))
      refine j_aload_n hX eL_act_62 0 rfl ?_
      refine j_iload_n hX eL_act_63 2 rfl ?_
      obtain ⟨t39, h⟩ := h
      obtain ⟨b40, b41, h⟩ := h
      refine j_callV (a := a0) (q := (RX6, TX6, 9)) (r' := rX6_stopCar) (As := [.int a2]) (rest := []) (d1 := d) hX eL_act_64 mm_LiftGroupLaw_54 rfl t39 (by decide) rfl h rfl (Nat.le_refl _) b40 b41 (Nat.le_of_ble_eq_true rfl) (fun vz9 Mz9 qz9 => ?_) (fun Ez9 Mz9 qz9 => ?_)
      · obtain ⟨M37, eMz9⟩ : ∃ M37, M37 = Mz9 := ⟨_, rfl⟩; subst eMz9
        rcases qz9 with ⟨v38, hxz9, h⟩ | ⟨hxz9, h⟩ | ⟨hxz9, h⟩ | ⟨hxz9, h⟩ | ⟨hxz9, h⟩ <;> cases hxz9
        exact j_iret hX hM eL_act_67 rfl h
      · obtain ⟨M37, eMz9⟩ : ∃ M37, M37 = Mz9 := ⟨_, rfl⟩; subst eMz9
        rcases qz9 with ⟨v38, hxz9, h⟩ | ⟨hxz9, h⟩ | ⟨hxz9, h⟩ | ⟨hxz9, h⟩ | ⟨hxz9, h⟩ <;> cases hxz9
        · refine am_thIc (name := "java/lang/IllegalArgumentException") hX [(0, 48, 87, 66), (49, 54, 87, 66), (55, 61, 87, 66), (62, 67, 87, 66), (68, 73, 87, 66), (74, 80, 87, 66), (81, 86, 87, 66), (0, 48, 92, 68), (49, 54, 92, 68), (55, 61, 92, 68), (62, 67, 92, 68), (68, 73, 92, 68), (74, 80, 92, 68), (81, 86, 92, 68), (0, 48, 97, 70), (49, 54, 97, 70), (55, 61, 97, 70)] (62, 67, 97, 70) [(68, 73, 97, 70), (74, 80, 97, 70), (81, 86, 97, 70), (0, 48, 102, 72), (49, 54, 102, 72), (55, 61, 102, 72), (62, 67, 102, 72), (68, 73, 102, 72), (74, 80, 102, 72), (81, 86, 102, 72)] rfl (fun z hz => by simp only [List.mem_cons, List.not_mem_nil, or_false] at hz; rcases hz with rfl | rfl | rfl | rfl | rfl | rfl | rfl | rfl | rfl | rfl | rfl | rfl | rfl | rfl | rfl | rfl | rfl <;> first | exact .inl (by decide) | exact .inr ⟨by decide, _, tw_1280, by decide⟩ | exact .inr ⟨by decide, _, tw_1281, by decide⟩) (by decide) (by decide) tw_1282 (am_castN_IllegalArgumentException) (fun p42 => ?_)
          replace h := h p42
          refine j_astore (lv' := [(5, .ref p42), (0, .ref a0), (1, .int a1), (2, .int a2), (3, .int a3), (4, .int a4)]) hX eL_act_97 (by decide) rfl ?_
          refine j_bipush (v := (-4 : Int32)) hX eL_act_99 (by decide) ?_
          exact j_iret hX hM eL_act_101 rfl h
        · refine am_thIc (name := "java/lang/IllegalStateException") hX [(0, 48, 87, 66), (49, 54, 87, 66), (55, 61, 87, 66)] (62, 67, 87, 66) [(68, 73, 87, 66), (74, 80, 87, 66), (81, 86, 87, 66), (0, 48, 92, 68), (49, 54, 92, 68), (55, 61, 92, 68), (62, 67, 92, 68), (68, 73, 92, 68), (74, 80, 92, 68), (81, 86, 92, 68), (0, 48, 97, 70), (49, 54, 97, 70), (55, 61, 97, 70), (62, 67, 97, 70), (68, 73, 97, 70), (74, 80, 97, 70), (81, 86, 97, 70), (0, 48, 102, 72), (49, 54, 102, 72), (55, 61, 102, 72), (62, 67, 102, 72), (68, 73, 102, 72), (74, 80, 102, 72), (81, 86, 102, 72)] rfl (fun z hz => by simp only [List.mem_cons, List.not_mem_nil, or_false] at hz; rcases hz with rfl | rfl | rfl <;> first | exact .inl (by decide)) (by decide) (by decide) tw_1280 (am_castN_IllegalStateException) (fun p43 => ?_)
          replace h := h p43
          refine j_astore (lv' := [(5, .ref p43), (0, .ref a0), (1, .int a1), (2, .int a2), (3, .int a3), (4, .int a4)]) hX eL_act_87 (by decide) rfl ?_
          refine j_bipush (v := (-2 : Int32)) hX eL_act_89 (by decide) ?_
          exact j_iret hX hM eL_act_91 rfl h
        · refine am_thIc (name := "java/lang/IndexOutOfBoundsException") hX [(0, 48, 87, 66), (49, 54, 87, 66), (55, 61, 87, 66), (62, 67, 87, 66), (68, 73, 87, 66), (74, 80, 87, 66), (81, 86, 87, 66), (0, 48, 92, 68), (49, 54, 92, 68), (55, 61, 92, 68), (62, 67, 92, 68), (68, 73, 92, 68), (74, 80, 92, 68), (81, 86, 92, 68), (0, 48, 97, 70), (49, 54, 97, 70), (55, 61, 97, 70), (62, 67, 97, 70), (68, 73, 97, 70), (74, 80, 97, 70), (81, 86, 97, 70), (0, 48, 102, 72), (49, 54, 102, 72), (55, 61, 102, 72)] (62, 67, 102, 72) [(68, 73, 102, 72), (74, 80, 102, 72), (81, 86, 102, 72)] rfl (fun z hz => by simp only [List.mem_cons, List.not_mem_nil, or_false] at hz; rcases hz with rfl | rfl | rfl | rfl | rfl | rfl | rfl | rfl | rfl | rfl | rfl | rfl | rfl | rfl | rfl | rfl | rfl | rfl | rfl | rfl | rfl | rfl | rfl | rfl <;> first | exact .inl (by decide) | exact .inr ⟨by decide, _, tw_1280, by decide⟩ | exact .inr ⟨by decide, _, tw_1281, by decide⟩ | exact .inr ⟨by decide, _, tw_1282, by decide⟩) (by decide) (by decide) tw_1283 (am_castN_IndexOutOfBoundsException) (fun p44 => ?_)
          replace h := h p44
          refine j_astore (lv' := [(5, .ref p44), (0, .ref a0), (1, .int a1), (2, .int a2), (3, .int a3), (4, .int a4)]) hX eL_act_102 (by decide) rfl ?_
          refine j_bipush (v := (-4 : Int32)) hX eL_act_104 (by decide) ?_
          exact j_iret hX hM eL_act_106 rfl h
        · refine am_thIc (name := "java/lang/UnsupportedOperationException") hX [(0, 48, 87, 66), (49, 54, 87, 66), (55, 61, 87, 66), (62, 67, 87, 66), (68, 73, 87, 66), (74, 80, 87, 66), (81, 86, 87, 66), (0, 48, 92, 68), (49, 54, 92, 68), (55, 61, 92, 68)] (62, 67, 92, 68) [(68, 73, 92, 68), (74, 80, 92, 68), (81, 86, 92, 68), (0, 48, 97, 70), (49, 54, 97, 70), (55, 61, 97, 70), (62, 67, 97, 70), (68, 73, 97, 70), (74, 80, 97, 70), (81, 86, 97, 70), (0, 48, 102, 72), (49, 54, 102, 72), (55, 61, 102, 72), (62, 67, 102, 72), (68, 73, 102, 72), (74, 80, 102, 72), (81, 86, 102, 72)] rfl (fun z hz => by simp only [List.mem_cons, List.not_mem_nil, or_false] at hz; rcases hz with rfl | rfl | rfl | rfl | rfl | rfl | rfl | rfl | rfl | rfl <;> first | exact .inl (by decide) | exact .inr ⟨by decide, _, tw_1280, by decide⟩) (by decide) (by decide) tw_1281 (am_castN_UnsupportedOperationException) (fun p45 => ?_)
          replace h := h p45
          refine j_astore (lv' := [(5, .ref p45), (0, .ref a0), (1, .int a1), (2, .int a2), (3, .int a3), (4, .int a4)]) hX eL_act_92 (by decide) rfl ?_
          refine j_bipush (v := (-3 : Int32)) hX eL_act_94 (by decide) ?_
          exact j_iret hX hM eL_act_96 rfl h
    · refine j_tableIn hX 68 eL_act_1 hsw1 hsw2 (by rw [hk]; rfl) (by decide) ?_
      replace h := h.2.2.2.2.1 (am_i32 hk (by decide))
      refine j_aload_n hX eL_act_68 0 rfl ?_
      refine j_iload_n hX eL_act_69 2 rfl ?_
      obtain ⟨t48, h⟩ := h
      obtain ⟨b49, b50, h⟩ := h
      refine j_callV (a := a0) (q := (RX6, TX6, 9)) (r' := rX6_startCar) (As := [.int a2]) (rest := []) (d1 := d) hX eL_act_70 mm_LiftGroupLaw_57 rfl t48 (by decide) rfl h rfl (Nat.le_refl _) b49 b50 (Nat.le_of_ble_eq_true rfl) (fun vz9 Mz9 qz9 => ?_) (fun Ez9 Mz9 qz9 => ?_)
      · obtain ⟨M46, eMz9⟩ : ∃ M46, M46 = Mz9 := ⟨_, rfl⟩; subst eMz9
        rcases qz9 with ⟨v47, hxz9, h⟩ | ⟨hxz9, h⟩ | ⟨hxz9, h⟩ | ⟨hxz9, h⟩ | ⟨hxz9, h⟩ <;> cases hxz9
        exact j_iret hX hM eL_act_73 rfl h
      · obtain ⟨M46, eMz9⟩ : ∃ M46, M46 = Mz9 := ⟨_, rfl⟩; subst eMz9
        rcases qz9 with ⟨v47, hxz9, h⟩ | ⟨hxz9, h⟩ | ⟨hxz9, h⟩ | ⟨hxz9, h⟩ | ⟨hxz9, h⟩ <;> cases hxz9
        · refine am_thIc (name := "java/lang/IllegalArgumentException") hX [(0, 48, 87, 66), (49, 54, 87, 66), (55, 61, 87, 66), (62, 67, 87, 66), (68, 73, 87, 66), (74, 80, 87, 66), (81, 86, 87, 66), (0, 48, 92, 68), (49, 54, 92, 68), (55, 61, 92, 68), (62, 67, 92, 68), (68, 73, 92, 68), (74, 80, 92, 68), (81, 86, 92, 68), (0, 48, 97, 70), (49, 54, 97, 70), (55, 61, 97, 70), (62, 67, 97, 70)] (68, 73, 97, 70) [(74, 80, 97, 70), (81, 86, 97, 70), (0, 48, 102, 72), (49, 54, 102, 72), (55, 61, 102, 72), (62, 67, 102, 72), (68, 73, 102, 72), (74, 80, 102, 72), (81, 86, 102, 72)] rfl (fun z hz => by simp only [List.mem_cons, List.not_mem_nil, or_false] at hz; rcases hz with rfl | rfl | rfl | rfl | rfl | rfl | rfl | rfl | rfl | rfl | rfl | rfl | rfl | rfl | rfl | rfl | rfl | rfl <;> first | exact .inl (by decide) | exact .inr ⟨by decide, _, tw_1280, by decide⟩ | exact .inr ⟨by decide, _, tw_1281, by decide⟩) (by decide) (by decide) tw_1282 (am_castN_IllegalArgumentException) (fun p51 => ?_)
          replace h := h p51
          refine j_astore (lv' := [(5, .ref p51), (0, .ref a0), (1, .int a1), (2, .int a2), (3, .int a3), (4, .int a4)]) hX eL_act_97 (by decide) rfl ?_
          refine j_bipush (v := (-4 : Int32)) hX eL_act_99 (by decide) ?_
          exact j_iret hX hM eL_act_101 rfl h
        · refine am_thIc (name := "java/lang/IllegalStateException") hX [(0, 48, 87, 66), (49, 54, 87, 66), (55, 61, 87, 66), (62, 67, 87, 66)] (68, 73, 87, 66) [(74, 80, 87, 66), (81, 86, 87, 66), (0, 48, 92, 68), (49, 54, 92, 68), (55, 61, 92, 68), (62, 67, 92, 68), (68, 73, 92, 68), (74, 80, 92, 68), (81, 86, 92, 68), (0, 48, 97, 70), (49, 54, 97, 70), (55, 61, 97, 70), (62, 67, 97, 70), (68, 73, 97, 70), (74, 80, 97, 70), (81, 86, 97, 70), (0, 48, 102, 72), (49, 54, 102, 72), (55, 61, 102, 72), (62, 67, 102, 72), (68, 73, 102, 72), (74, 80, 102, 72), (81, 86, 102, 72)] rfl (fun z hz => by simp only [List.mem_cons, List.not_mem_nil, or_false] at hz; rcases hz with rfl | rfl | rfl | rfl <;> first | exact .inl (by decide)) (by decide) (by decide) tw_1280 (am_castN_IllegalStateException) (fun p52 => ?_)
          replace h := h p52
          refine j_astore (lv' := [(5, .ref p52), (0, .ref a0), (1, .int a1), (2, .int a2), (3, .int a3), (4, .int a4)]) hX eL_act_87 (by decide) rfl ?_
          refine j_bipush (v := (-2 : Int32)) hX eL_act_89 (by decide) ?_
          exact j_iret hX hM eL_act_91 rfl h
        · refine am_thIc (name := "java/lang/IndexOutOfBoundsException") hX [(0, 48, 87, 66), (49, 54, 87, 66), (55, 61, 87, 66), (62, 67, 87, 66), (68, 73, 87, 66), (74, 80, 87, 66), (81, 86, 87, 66), (0, 48, 92, 68), (49, 54, 92, 68), (55, 61, 92, 68), (62, 67, 92, 68), (68, 73, 92, 68), (74, 80, 92, 68), (81, 86, 92, 68), (0, 48, 97, 70), (49, 54, 97, 70), (55, 61, 97, 70), (62, 67, 97, 70), (68, 73, 97, 70), (74, 80, 97, 70), (81, 86, 97, 70), (0, 48, 102, 72), (49, 54, 102, 72), (55, 61, 102, 72), (62, 67, 102, 72)] (68, 73, 102, 72) [(74, 80, 102, 72), (81, 86, 102, 72)] rfl (fun z hz => by simp only [List.mem_cons, List.not_mem_nil, or_false] at hz; rcases hz with rfl | rfl | rfl | rfl | rfl | rfl | rfl | rfl | rfl | rfl | rfl | rfl | rfl | rfl | rfl | rfl | rfl | rfl | rfl | rfl | rfl | rfl | rfl | rfl | rfl <;> first | exact .inl (by decide) | exact .inr ⟨by decide, _, tw_1280, by decide⟩ | exact .inr ⟨by decide, _, tw_1281, by decide⟩ | exact .inr ⟨by decide, _, tw_1282, by decide⟩) (by decide) (by decide) tw_1283 (am_castN_IndexOutOfBoundsException) (fun p53 => ?_)
          replace h := h p53
          refine j_astore (lv' := [(5, .ref p53), (0, .ref a0), (1, .int a1), (2, .int a2), (3, .int a3), (4, .int a4)]) hX eL_act_102 (by decide) rfl ?_
          refine j_bipush (v := (-4 : Int32)) hX eL_act_104 (by decide) ?_
          exact j_iret hX hM eL_act_106 rfl h
        · refine am_thIc (name := "java/lang/UnsupportedOperationException") hX [(0, 48, 87, 66), (49, 54, 87, 66), (55, 61, 87, 66), (62, 67, 87, 66), (68, 73, 87, 66), (74, 80, 87, 66), (81, 86, 87, 66), (0, 48, 92, 68), (49, 54, 92, 68), (55, 61, 92, 68), (62, 67, 92, 68)] (68, 73, 92, 68) [(74, 80, 92, 68), (81, 86, 92, 68), (0, 48, 97, 70), (49, 54, 97, 70), (55, 61, 97, 70), (62, 67, 97, 70), (68, 73, 97, 70), (74, 80, 97, 70), (81, 86, 97, 70), (0, 48, 102, 72), (49, 54, 102, 72), (55, 61, 102, 72), (62, 67, 102, 72), (68, 73, 102, 72), (74, 80, 102, 72), (81, 86, 102, 72)] rfl (fun z hz => by simp only [List.mem_cons, List.not_mem_nil, or_false] at hz; rcases hz with rfl | rfl | rfl | rfl | rfl | rfl | rfl | rfl | rfl | rfl | rfl <;> first | exact .inl (by decide) | exact .inr ⟨by decide, _, tw_1280, by decide⟩) (by decide) (by decide) tw_1281 (am_castN_UnsupportedOperationException) (fun p54 => ?_)
          replace h := h p54
          refine j_astore (lv' := [(5, .ref p54), (0, .ref a0), (1, .int a1), (2, .int a2), (3, .int a3), (4, .int a4)]) hX eL_act_92 (by decide) rfl ?_
          refine j_bipush (v := (-3 : Int32)) hX eL_act_94 (by decide) ?_
          exact j_iret hX hM eL_act_96 rfl h
    · refine j_tableIn hX 74 eL_act_1 hsw1 hsw2 (by rw [hk]; rfl) (by decide) ?_
      replace h := h.2.2.2.2.2 (am_i32 hk (by decide))
      refine j_aload_n hX eL_act_74 0 rfl ?_
      refine j_iload_n hX eL_act_75 2 rfl ?_
      refine j_iload_n hX eL_act_76 3 rfl ?_
      obtain ⟨t57, h⟩ := h
      obtain ⟨b58, b59, h⟩ := h
      refine j_callV (a := a0) (q := (RX6, TX6, 9)) (r' := rX6_setCapacity) (As := [.int a2, .int a3]) (rest := []) (d1 := d) hX eL_act_77 mm_LiftGroupLaw_60 rfl t57 (by decide) rfl h rfl (Nat.le_refl _) b58 b59 (Nat.le_of_ble_eq_true rfl) (fun vz9 Mz9 qz9 => ?_) (fun Ez9 Mz9 qz9 => ?_)
      · obtain ⟨M55, eMz9⟩ : ∃ M55, M55 = Mz9 := ⟨_, rfl⟩; subst eMz9
        rcases qz9 with ⟨v56, hxz9, h⟩ | ⟨hxz9, h⟩ | ⟨hxz9, h⟩ | ⟨hxz9, h⟩ | ⟨hxz9, h⟩ <;> cases hxz9
        exact j_iret hX hM eL_act_80 rfl h
      · obtain ⟨M55, eMz9⟩ : ∃ M55, M55 = Mz9 := ⟨_, rfl⟩; subst eMz9
        rcases qz9 with ⟨v56, hxz9, h⟩ | ⟨hxz9, h⟩ | ⟨hxz9, h⟩ | ⟨hxz9, h⟩ | ⟨hxz9, h⟩ <;> cases hxz9
        · refine am_thIc (name := "java/lang/IllegalArgumentException") hX [(0, 48, 87, 66), (49, 54, 87, 66), (55, 61, 87, 66), (62, 67, 87, 66), (68, 73, 87, 66), (74, 80, 87, 66), (81, 86, 87, 66), (0, 48, 92, 68), (49, 54, 92, 68), (55, 61, 92, 68), (62, 67, 92, 68), (68, 73, 92, 68), (74, 80, 92, 68), (81, 86, 92, 68), (0, 48, 97, 70), (49, 54, 97, 70), (55, 61, 97, 70), (62, 67, 97, 70), (68, 73, 97, 70)] (74, 80, 97, 70) [(81, 86, 97, 70), (0, 48, 102, 72), (49, 54, 102, 72), (55, 61, 102, 72), (62, 67, 102, 72), (68, 73, 102, 72), (74, 80, 102, 72), (81, 86, 102, 72)] rfl (fun z hz => by simp only [List.mem_cons, List.not_mem_nil, or_false] at hz; rcases hz with rfl | rfl | rfl | rfl | rfl | rfl | rfl | rfl | rfl | rfl | rfl | rfl | rfl | rfl | rfl | rfl | rfl | rfl | rfl <;> first | exact .inl (by decide) | exact .inr ⟨by decide, _, tw_1280, by decide⟩ | exact .inr ⟨by decide, _, tw_1281, by decide⟩) (by decide) (by decide) tw_1282 (am_castN_IllegalArgumentException) (fun p60 => ?_)
          replace h := h p60
          refine j_astore (lv' := [(5, .ref p60), (0, .ref a0), (1, .int a1), (2, .int a2), (3, .int a3), (4, .int a4)]) hX eL_act_97 (by decide) rfl ?_
          refine j_bipush (v := (-4 : Int32)) hX eL_act_99 (by decide) ?_
          exact j_iret hX hM eL_act_101 rfl h
        · refine am_thIc (name := "java/lang/IllegalStateException") hX [(0, 48, 87, 66), (49, 54, 87, 66), (55, 61, 87, 66), (62, 67, 87, 66), (68, 73, 87, 66)] (74, 80, 87, 66) [(81, 86, 87, 66), (0, 48, 92, 68), (49, 54, 92, 68), (55, 61, 92, 68), (62, 67, 92, 68), (68, 73, 92, 68), (74, 80, 92, 68), (81, 86, 92, 68), (0, 48, 97, 70), (49, 54, 97, 70), (55, 61, 97, 70), (62, 67, 97, 70), (68, 73, 97, 70), (74, 80, 97, 70), (81, 86, 97, 70), (0, 48, 102, 72), (49, 54, 102, 72), (55, 61, 102, 72), (62, 67, 102, 72), (68, 73, 102, 72), (74, 80, 102, 72), (81, 86, 102, 72)] rfl (fun z hz => by simp only [List.mem_cons, List.not_mem_nil, or_false] at hz; rcases hz with rfl | rfl | rfl | rfl | rfl <;> first | exact .inl (by decide)) (by decide) (by decide) tw_1280 (am_castN_IllegalStateException) (fun p61 => ?_)
          replace h := h p61
          refine j_astore (lv' := [(5, .ref p61), (0, .ref a0), (1, .int a1), (2, .int a2), (3, .int a3), (4, .int a4)]) hX eL_act_87 (by decide) rfl ?_
          refine j_bipush (v := (-2 : Int32)) hX eL_act_89 (by decide) ?_
          exact j_iret hX hM eL_act_91 rfl h
        · refine am_thIc (name := "java/lang/IndexOutOfBoundsException") hX [(0, 48, 87, 66), (49, 54, 87, 66), (55, 61, 87, 66), (62, 67, 87, 66), (68, 73, 87, 66), (74, 80, 87, 66), (81, 86, 87, 66), (0, 48, 92, 68), (49, 54, 92, 68), (55, 61, 92, 68), (62, 67, 92, 68), (68, 73, 92, 68), (74, 80, 92, 68), (81, 86, 92, 68), (0, 48, 97, 70), (49, 54, 97, 70), (55, 61, 97, 70), (62, 67, 97, 70), (68, 73, 97, 70), (74, 80, 97, 70), (81, 86, 97, 70), (0, 48, 102, 72), (49, 54, 102, 72), (55, 61, 102, 72), (62, 67, 102, 72), (68, 73, 102, 72)] (74, 80, 102, 72) [(81, 86, 102, 72)] rfl (fun z hz => by simp only [List.mem_cons, List.not_mem_nil, or_false] at hz; rcases hz with rfl | rfl | rfl | rfl | rfl | rfl | rfl | rfl | rfl | rfl | rfl | rfl | rfl | rfl | rfl | rfl | rfl | rfl | rfl | rfl | rfl | rfl | rfl | rfl | rfl | rfl <;> first | exact .inl (by decide) | exact .inr ⟨by decide, _, tw_1280, by decide⟩ | exact .inr ⟨by decide, _, tw_1281, by decide⟩ | exact .inr ⟨by decide, _, tw_1282, by decide⟩) (by decide) (by decide) tw_1283 (am_castN_IndexOutOfBoundsException) (fun p62 => ?_)
          replace h := h p62
          refine j_astore (lv' := [(5, .ref p62), (0, .ref a0), (1, .int a1), (2, .int a2), (3, .int a3), (4, .int a4)]) hX eL_act_102 (by decide) rfl ?_
          refine j_bipush (v := (-4 : Int32)) hX eL_act_104 (by decide) ?_
          exact j_iret hX hM eL_act_106 rfl h
        · refine am_thIc (name := "java/lang/UnsupportedOperationException") hX [(0, 48, 87, 66), (49, 54, 87, 66), (55, 61, 87, 66), (62, 67, 87, 66), (68, 73, 87, 66), (74, 80, 87, 66), (81, 86, 87, 66), (0, 48, 92, 68), (49, 54, 92, 68), (55, 61, 92, 68), (62, 67, 92, 68), (68, 73, 92, 68)] (74, 80, 92, 68) [(81, 86, 92, 68), (0, 48, 97, 70), (49, 54, 97, 70), (55, 61, 97, 70), (62, 67, 97, 70), (68, 73, 97, 70), (74, 80, 97, 70), (81, 86, 97, 70), (0, 48, 102, 72), (49, 54, 102, 72), (55, 61, 102, 72), (62, 67, 102, 72), (68, 73, 102, 72), (74, 80, 102, 72), (81, 86, 102, 72)] rfl (fun z hz => by simp only [List.mem_cons, List.not_mem_nil, or_false] at hz; rcases hz with rfl | rfl | rfl | rfl | rfl | rfl | rfl | rfl | rfl | rfl | rfl | rfl <;> first | exact .inl (by decide) | exact .inr ⟨by decide, _, tw_1280, by decide⟩) (by decide) (by decide) tw_1281 (am_castN_UnsupportedOperationException) (fun p63 => ?_)
          replace h := h p63
          refine j_astore (lv' := [(5, .ref p63), (0, .ref a0), (1, .int a1), (2, .int a2), (3, .int a3), (4, .int a4)]) hX eL_act_92 (by decide) rfl ?_
          refine j_bipush (v := (-3 : Int32)) hX eL_act_94 (by decide) ?_
          exact j_iret hX hM eL_act_96 rfl h

set_option maxHeartbeats 4000000 in
set_option maxRecDepth 20000 in
theorem vL_cars_0 {X : am_Cx} {G : am_Gx} {d : Nat} {Q : am_Q} (hX : am_ok X rL_cars G (d + 1)) (hM : am_me X rL_cars Q) {bc bs : Nat} (R7 : Nat → Nat → Int32 → am_Hp → Nat → Nat → Prop) (k7 : ∀ (x0 : Nat) (x1 : Nat) (x2 : Int32) (M : am_Hp) (bc bs : Nat), R7 x0 x1 x2 M bc bs → am_J X 7 [(0, .ref x0), (1, .ref x1), (2, .int x2)] [] M bc bs) {a0 : Nat} {M : am_Hp} (h : ¬ (3 : Int32) < 0 ∧ (((3 : Int32)).toNatClampNeg * 4 ≤ 536870912 ∧ (1 ≤ bc ∧ (((3 : Int32)).toNatClampNeg ≤ bs ∧ (∀ p5 : Nat, hp_T M p5 = 0 → p5 ≠ 0 → (∀ M8 : am_Hp, M8 = hp_a M p5 28 ((3 : Int32)).toNatClampNeg → (R7 a0 p5 (0 : Int32) M8 (bc - 1) (bs - ((3 : Int32)).toNatClampNeg)))))))) : am_J X 0 [(0, .ref a0)] [] M bc bs := by
  refine j_iconst (v := (3 : Int32)) hX eL_cars_0 (by decide) ?_
  obtain ⟨n1, n2, b3, b4, h⟩ := h
  refine j_anew28 hX eL_cars_1 tw_1307 n1 n2 b3 b4 (fun p5 o6 z7 => ?_)
  replace h := h p5 o6 z7
  refine j_nmM (fun M8 eM8 => ?_)
  replace h := h M8 eM8
  have t9 : hp_T M8 (p5) = 28 := by rw [eM8]; exact hp_Tna
  refine j_astore_n (lv' := [(1, .ref p5), (0, .ref a0)]) hX eL_cars_4 rfl (by decide) rfl ?_
  refine j_iconst (v := (0 : Int32)) hX eL_cars_5 (by decide) ?_
  refine j_istore_n (lv' := [(2, .int (0 : Int32)), (1, .ref p5), (0, .ref a0)]) hX eL_cars_6 rfl (by decide) rfl ?_
  exact j_sub [2, 1, 0] rfl (k7 _ _ _ _ _ _ h)
set_option maxHeartbeats 4000000 in
set_option maxRecDepth 20000 in
theorem vL_cars_7 {X : am_Cx} {G : am_Gx} {d : Nat} {Q : am_Q} (hX : am_ok X rL_cars G (d + 1)) (hM : am_me X rL_cars Q) {bc bs : Nat} (R65 : Nat → Nat → Int32 → Int32 → Int32 → Nat → Nat → Int32 → Nat → am_Hp → Nat → Nat → Prop) (k65 : ∀ (x0 : Nat) (x1 : Nat) (x2 : Int32) (y0 : Int32) (y1 : Int32) (y2 : Nat) (y3 : Nat) (y4 : Int32) (y5 : Nat) (M : am_Hp) (bc bs : Nat), R65 x0 x1 x2 y0 y1 y2 y3 y4 y5 M bc bs → am_J X 65 [(0, .ref x0), (1, .ref x1), (2, .int x2)] [.int y0, .int y1, .ref y2, .ref y3, .int y4, .ref y5] M bc bs) {a0 : Nat} {a1 : Nat} {a2 : Int32} {M : am_Hp} (h : (((3 : Int32) ≤ a2) → (Q (.inl (some (.ref a1))) M)) ∧ (¬ ((3 : Int32) ≤ a2) → (¬ (6 : Int32) < 0 ∧ (((6 : Int32)).toNatClampNeg * componentBytes .int ≤ 536870912 ∧ (1 ≤ bc ∧ (((6 : Int32)).toNatClampNeg ≤ bs ∧ (∀ p6 : Nat, hp_T M p6 = 0 → p6 ≠ 0 → (∀ M9 : am_Hp, M9 = hp_a M p6 22 ((6 : Int32)).toNatClampNeg → (hp_T M9 (a0) = 7 ∧ (1 ≤ (bc - 1) ∧ (6 ≤ (bs - ((6 : Int32)).toNatClampNeg) ∧ (am_CT G d rX6_floor [.ref a0, .int a2] M9 1 6 (fun oz9 M11 => (∃ v12 : Int32, oz9 = .inl (some (.int v12)) ∧ (hp_T M11 (p6) = 22 ∧ (vp_in (0 : Int32) (hp_N M11 p6) ∧ (∀ M18 : am_Hp, M18 = hp_sE M11 p6 ((0 : Int32)).toNatClampNeg v12 → (hp_T M18 (a0) = 7 ∧ (1 ≤ ((bc - 1) - 1) ∧ (6 ≤ ((bs - ((6 : Int32)).toNatClampNeg) - 6) ∧ (am_CT G d rX6_direction [.ref a0, .int a2] M18 1 6 (fun oz9 M20 => (∃ v21 : Int32, oz9 = .inl (some (.int v21)) ∧ (hp_T M20 (p6) = 22 ∧ (vp_in (1 : Int32) (hp_N M20 p6) ∧ (∀ M27 : am_Hp, M27 = hp_sE M20 p6 ((1 : Int32)).toNatClampNeg v21 → (hp_T M27 (a0) = 7 ∧ (1 ≤ (((bc - 1) - 1) - 1) ∧ (6 ≤ (((bs - ((6 : Int32)).toNatClampNeg) - 6) - 6) ∧ (am_CT G d rX6_capacity [.ref a0, .int a2] M27 1 6 (fun oz9 M29 => (∃ v30 : Int32, oz9 = .inl (some (.int v30)) ∧ (hp_T M29 (p6) = 22 ∧ (vp_in (2 : Int32) (hp_N M29 p6) ∧ (∀ M36 : am_Hp, M36 = hp_sE M29 p6 ((2 : Int32)).toNatClampNeg v30 → (hp_T M36 (a0) = 7 ∧ (1 ≤ ((((bc - 1) - 1) - 1) - 1) ∧ (6 ≤ ((((bs - ((6 : Int32)).toNatClampNeg) - 6) - 6) - 6) ∧ (am_CT G d rX6_doorSteps [.ref a0, .int a2] M36 1 6 (fun oz9 M38 => (∃ v39 : Int32, oz9 = .inl (some (.int v39)) ∧ (hp_T M38 (p6) = 22 ∧ (vp_in (3 : Int32) (hp_N M38 p6) ∧ (∀ M45 : am_Hp, M45 = hp_sE M38 p6 ((3 : Int32)).toNatClampNeg v39 → (hp_T M45 (a0) = 7 ∧ (1 ≤ (((((bc - 1) - 1) - 1) - 1) - 1) ∧ (6 ≤ (((((bs - ((6 : Int32)).toNatClampNeg) - 6) - 6) - 6) - 6) ∧ (am_CT G d rX6_isInService [.ref a0, .int a2] M45 1 6 (fun oz9 M47 => (∃ v48 : Int32, oz9 = .inl (some (.int v48)) ∧ (((v48 = 0) → (R65 a0 a1 a2 (1 : Int32) (4 : Int32) p6 p6 a2 a1 M47 ((((((bc - 1) - 1) - 1) - 1) - 1) - 1) ((((((bs - ((6 : Int32)).toNatClampNeg) - 6) - 6) - 6) - 6) - 6))) ∧ (¬ (v48 = 0) → (R65 a0 a1 a2 (0 : Int32) (4 : Int32) p6 p6 a2 a1 M47 ((((((bc - 1) - 1) - 1) - 1) - 1) - 1) ((((((bs - ((6 : Int32)).toNatClampNeg) - 6) - 6) - 6) - 6) - 6))))) ∨ ((oz9 = .inr "java/lang/IndexOutOfBoundsException" ∧ False))))))))))) ∨ ((oz9 = .inr "java/lang/IndexOutOfBoundsException" ∧ False))))))))))) ∨ ((oz9 = .inr "java/lang/IndexOutOfBoundsException" ∧ False))))))))))) ∨ ((oz9 = .inr "java/lang/IndexOutOfBoundsException" ∧ False))))))))))) ∨ ((oz9 = .inr "java/lang/IndexOutOfBoundsException" ∧ False))))))))))))))) : am_J X 7 [(0, .ref a0), (1, .ref a1), (2, .int a2)] [] M bc bs := by
  refine j_iload_n hX eL_cars_7 2 rfl ?_
  refine j_iconst (v := (3 : Int32)) hX eL_cars_8 (by decide) ?_
  refine j_icmp_ge hX 81 eL_cars_9 (by decide) (fun c1 => ?_) (fun c1 => ?_)
  · replace h := h.1 c1
    refine j_aload_n hX eL_cars_81 1 rfl ?_
    exact j_aret hX hM eL_cars_82 rfl (by first | exact Or.inl ⟨_, rfl⟩ | exact Or.inr ⟨_, rfl⟩) h
  · replace h := h.2 c1
    refine j_aload_n hX eL_cars_12 1 rfl ?_
    refine j_iload_n hX eL_cars_13 2 rfl ?_
    refine j_bipush (v := (6 : Int32)) hX eL_cars_14 (by decide) ?_
    obtain ⟨n2, n3, b4, b5, h⟩ := h
    refine j_newa_i hX eL_cars_16 tw_81 n2 n3 b4 b5 (fun p6 o7 z8 => ?_)
    replace h := h p6 o7 z8
    refine j_nmM (fun M9 eM9 => ?_)
    replace h := h M9 eM9
    have t10 : hp_T M9 (p6) = 22 := by rw [eM9]; exact hp_Tna
    refine j_dup hX eL_cars_18 rfl ?_
    refine j_iconst (v := (0 : Int32)) hX eL_cars_19 (by decide) ?_
    refine j_aload_n hX eL_cars_20 0 rfl ?_
    refine j_iload_n hX eL_cars_21 2 rfl ?_
    obtain ⟨t13, h⟩ := h
    obtain ⟨b14, b15, h⟩ := h
    refine j_callV (a := a0) (q := (RX6, TX6, 9)) (r' := rX6_floor) (As := [.int a2]) (rest := [.int (0 : Int32), .ref p6, .ref p6, .int a2, .ref a1]) (d1 := d) hX eL_cars_22 mm_LiftGroupLaw_76 rfl t13 (by decide) rfl h rfl (Nat.le_refl _) b14 b15 (Nat.le_of_ble_eq_true rfl) (fun vz9 Mz9 qz9 => ?_) (fun Ez9 Mz9 qz9 => ?_)
    · obtain ⟨M11, eMz9⟩ : ∃ M11, M11 = Mz9 := ⟨_, rfl⟩; subst eMz9
      rcases qz9 with ⟨v12, hxz9, h⟩ | ⟨hxz9, h⟩ <;> cases hxz9
      obtain ⟨t16, h⟩ := h
      obtain ⟨i17, h⟩ := h
      refine j_iast hX eL_cars_25 t16 i17 ?_
      refine j_nmM (fun M18 eM18 => ?_)
      replace h := h M18 eM18
      have t19 : hp_T M18 (p6) = 22 := by rw [eM18]; exact t16
      refine j_dup hX eL_cars_26 rfl ?_
      refine j_iconst (v := (1 : Int32)) hX eL_cars_27 (by decide) ?_
      refine j_aload_n hX eL_cars_28 0 rfl ?_
      refine j_iload_n hX eL_cars_29 2 rfl ?_
      obtain ⟨t22, h⟩ := h
      obtain ⟨b23, b24, h⟩ := h
      refine j_callV (a := a0) (q := (RX6, TX6, 9)) (r' := rX6_direction) (As := [.int a2]) (rest := [.int (1 : Int32), .ref p6, .ref p6, .int a2, .ref a1]) (d1 := d) hX eL_cars_30 mm_LiftGroupLaw_79 rfl t22 (by decide) rfl h rfl (Nat.le_refl _) b23 b24 (Nat.le_of_ble_eq_true rfl) (fun vz9 Mz9 qz9 => ?_) (fun Ez9 Mz9 qz9 => ?_)
      · obtain ⟨M20, eMz9⟩ : ∃ M20, M20 = Mz9 := ⟨_, rfl⟩; subst eMz9
        rcases qz9 with ⟨v21, hxz9, h⟩ | ⟨hxz9, h⟩ <;> cases hxz9
        obtain ⟨t25, h⟩ := h
        obtain ⟨i26, h⟩ := h
        refine j_iast hX eL_cars_33 t25 i26 ?_
        refine j_nmM (fun M27 eM27 => ?_)
        replace h := h M27 eM27
        have t28 : hp_T M27 (p6) = 22 := by rw [eM27]; exact t25
        refine j_dup hX eL_cars_34 rfl ?_
        refine j_iconst (v := (2 : Int32)) hX eL_cars_35 (by decide) ?_
        refine j_aload_n hX eL_cars_36 0 rfl ?_
        refine j_iload_n hX eL_cars_37 2 rfl ?_
        obtain ⟨t31, h⟩ := h
        obtain ⟨b32, b33, h⟩ := h
        refine j_callV (a := a0) (q := (RX6, TX6, 9)) (r' := rX6_capacity) (As := [.int a2]) (rest := [.int (2 : Int32), .ref p6, .ref p6, .int a2, .ref a1]) (d1 := d) hX eL_cars_38 mm_LiftGroupLaw_82 rfl t31 (by decide) rfl h rfl (Nat.le_refl _) b32 b33 (Nat.le_of_ble_eq_true rfl) (fun vz9 Mz9 qz9 => ?_) (fun Ez9 Mz9 qz9 => ?_)
        · obtain ⟨M29, eMz9⟩ : ∃ M29, M29 = Mz9 := ⟨_, rfl⟩; subst eMz9
          rcases qz9 with ⟨v30, hxz9, h⟩ | ⟨hxz9, h⟩ <;> cases hxz9
          obtain ⟨t34, h⟩ := h
          obtain ⟨i35, h⟩ := h
          refine j_iast hX eL_cars_41 t34 i35 ?_
          refine j_nmM (fun M36 eM36 => ?_)
          replace h := h M36 eM36
          have t37 : hp_T M36 (p6) = 22 := by rw [eM36]; exact t34
          refine j_dup hX eL_cars_42 rfl ?_
          refine j_iconst (v := (3 : Int32)) hX eL_cars_43 (by decide) ?_
          refine j_aload_n hX eL_cars_44 0 rfl ?_
          refine j_iload_n hX eL_cars_45 2 rfl ?_
          obtain ⟨t40, h⟩ := h
          obtain ⟨b41, b42, h⟩ := h
          refine j_callV (a := a0) (q := (RX6, TX6, 9)) (r' := rX6_doorSteps) (As := [.int a2]) (rest := [.int (3 : Int32), .ref p6, .ref p6, .int a2, .ref a1]) (d1 := d) hX eL_cars_46 mm_LiftGroupLaw_85 rfl t40 (by decide) rfl h rfl (Nat.le_refl _) b41 b42 (Nat.le_of_ble_eq_true rfl) (fun vz9 Mz9 qz9 => ?_) (fun Ez9 Mz9 qz9 => ?_)
          · obtain ⟨M38, eMz9⟩ : ∃ M38, M38 = Mz9 := ⟨_, rfl⟩; subst eMz9
            rcases qz9 with ⟨v39, hxz9, h⟩ | ⟨hxz9, h⟩ <;> cases hxz9
            obtain ⟨t43, h⟩ := h
            obtain ⟨i44, h⟩ := h
            refine j_iast hX eL_cars_49 t43 i44 ?_
            refine j_nmM (fun M45 eM45 => ?_)
            replace h := h M45 eM45
            have t46 : hp_T M45 (p6) = 22 := by rw [eM45]; exact t43
            refine j_dup hX eL_cars_50 rfl ?_
            refine j_iconst (v := (4 : Int32)) hX eL_cars_51 (by decide) ?_
            refine j_aload_n hX eL_cars_52 0 rfl ?_
            refine j_iload_n hX eL_cars_53 2 rfl ?_
            obtain ⟨t49, h⟩ := h
            obtain ⟨b50, b51, h⟩ := h
            refine j_callV (a := a0) (q := (RX6, TX6, 9)) (r' := rX6_isInService) (As := [.int a2]) (rest := [.int (4 : Int32), .ref p6, .ref p6, .int a2, .ref a1]) (d1 := d) hX eL_cars_54 mm_LiftGroupLaw_88 rfl t49 (by decide) rfl h rfl (Nat.le_refl _) b50 b51 (Nat.le_of_ble_eq_true rfl) (fun vz9 Mz9 qz9 => ?_) (fun Ez9 Mz9 qz9 => ?_)
            · obtain ⟨M47, eMz9⟩ : ∃ M47, M47 = Mz9 := ⟨_, rfl⟩; subst eMz9
              rcases qz9 with ⟨v48, hxz9, h⟩ | ⟨hxz9, h⟩ <;> cases hxz9
              refine j_if_eq hX 64 eL_cars_57 (by decide) (fun c52 => ?_) (fun c52 => ?_)
              · replace h := h.1 c52
                refine j_iconst (v := (1 : Int32)) hX eL_cars_64 (by decide) ?_
                exact j_sub [0, 1, 2] rfl (k65 _ _ _ _ _ _ _ _ _ _ _ _ h)
              · replace h := h.2 c52
                refine j_iconst (v := (0 : Int32)) hX eL_cars_60 (by decide) ?_
                refine j_goto hX 65 eL_cars_61 (by decide) ?_
                exact j_sub [0, 1, 2] rfl (k65 _ _ _ _ _ _ _ _ _ _ _ _ h)
            · obtain ⟨M47, eMz9⟩ : ∃ M47, M47 = Mz9 := ⟨_, rfl⟩; subst eMz9
              rcases qz9 with ⟨v48, hxz9, h⟩ | ⟨hxz9, h⟩ <;> cases hxz9
              exact h.elim
          · obtain ⟨M38, eMz9⟩ : ∃ M38, M38 = Mz9 := ⟨_, rfl⟩; subst eMz9
            rcases qz9 with ⟨v39, hxz9, h⟩ | ⟨hxz9, h⟩ <;> cases hxz9
            exact h.elim
        · obtain ⟨M29, eMz9⟩ : ∃ M29, M29 = Mz9 := ⟨_, rfl⟩; subst eMz9
          rcases qz9 with ⟨v30, hxz9, h⟩ | ⟨hxz9, h⟩ <;> cases hxz9
          exact h.elim
      · obtain ⟨M20, eMz9⟩ : ∃ M20, M20 = Mz9 := ⟨_, rfl⟩; subst eMz9
        rcases qz9 with ⟨v21, hxz9, h⟩ | ⟨hxz9, h⟩ <;> cases hxz9
        exact h.elim
    · obtain ⟨M11, eMz9⟩ : ∃ M11, M11 = Mz9 := ⟨_, rfl⟩; subst eMz9
      rcases qz9 with ⟨v12, hxz9, h⟩ | ⟨hxz9, h⟩ <;> cases hxz9
      exact h.elim
set_option maxHeartbeats 4000000 in
set_option maxRecDepth 20000 in
theorem vL_cars_65 {X : am_Cx} {G : am_Gx} {d : Nat} {Q : am_Q} (hX : am_ok X rL_cars G (d + 1)) (hM : am_me X rL_cars Q) {bc bs : Nat} (R7 : Nat → Nat → Int32 → am_Hp → Nat → Nat → Prop) (k7 : ∀ (x0 : Nat) (x1 : Nat) (x2 : Int32) (M : am_Hp) (bc bs : Nat), R7 x0 x1 x2 M bc bs → am_J X 7 [(0, .ref x0), (1, .ref x1), (2, .int x2)] [] M bc bs) {a0 : Nat} {a1 : Nat} {a2 : Int32} {s0 : Int32} {s1 : Int32} {s2 : Nat} {s3 : Nat} {s4 : Int32} {s5 : Nat} {M : am_Hp} (h : hp_T M (s2) = 22 ∧ (vp_in s1 (hp_N M s2) ∧ (∀ M3 : am_Hp, M3 = hp_sE M s2 (s1).toNatClampNeg s0 → (hp_T M3 (a0) = 7 ∧ (1 ≤ bc ∧ (6 ≤ bs ∧ (am_CT G d rX6_energy [.ref a0, .int a2] M3 1 6 (fun oz9 M5 => (∃ v6 : Int32, oz9 = .inl (some (.int v6)) ∧ (hp_T M5 (s3) = 22 ∧ (vp_in (5 : Int32) (hp_N M5 s3) ∧ (∀ M12 : am_Hp, M12 = hp_sE M5 s3 ((5 : Int32)).toNatClampNeg v6 → (hp_T M12 (s5) = 28 ∧ (s3 ≠ 0 ∧ (vp_in s4 (hp_N M12 s5) ∧ (∀ M17 : am_Hp, M17 = hp_sQ M12 s5 (s4).toNatClampNeg s3 → (∀ v20 : Int32, v20 = a2 + (1 : Int32) → (R7 a0 a1 v20 M17 (bc - 1) (bs - 6))))))))))) ∨ ((oz9 = .inr "java/lang/IndexOutOfBoundsException" ∧ False)))))))))) : am_J X 65 [(0, .ref a0), (1, .ref a1), (2, .int a2)] [.int s0, .int s1, .ref s2, .ref s3, .int s4, .ref s5] M bc bs := by
  obtain ⟨t1, h⟩ := h
  obtain ⟨i2, h⟩ := h
  refine j_iast hX eL_cars_65 t1 i2 ?_
  refine j_nmM (fun M3 eM3 => ?_)
  replace h := h M3 eM3
  have t4 : hp_T M3 (s2) = 22 := by rw [eM3]; exact t1
  refine j_dup hX eL_cars_66 rfl ?_
  refine j_iconst (v := (5 : Int32)) hX eL_cars_67 (by decide) ?_
  refine j_aload_n hX eL_cars_68 0 rfl ?_
  refine j_iload_n hX eL_cars_69 2 rfl ?_
  obtain ⟨t7, h⟩ := h
  obtain ⟨b8, b9, h⟩ := h
  refine j_callV (a := a0) (q := (RX6, TX6, 9)) (r' := rX6_energy) (As := [.int a2]) (rest := [.int (5 : Int32), .ref s3, .ref s3, .int s4, .ref s5]) (d1 := d) hX eL_cars_70 mm_LiftGroupLaw_92 rfl t7 (by decide) rfl h rfl (Nat.le_refl _) b8 b9 (Nat.le_of_ble_eq_true rfl) (fun vz9 Mz9 qz9 => ?_) (fun Ez9 Mz9 qz9 => ?_)
  · obtain ⟨M5, eMz9⟩ : ∃ M5, M5 = Mz9 := ⟨_, rfl⟩; subst eMz9
    rcases qz9 with ⟨v6, hxz9, h⟩ | ⟨hxz9, h⟩ <;> cases hxz9
    obtain ⟨t10, h⟩ := h
    obtain ⟨i11, h⟩ := h
    refine j_iast hX eL_cars_73 t10 i11 ?_
    refine j_nmM (fun M12 eM12 => ?_)
    replace h := h M12 eM12
    have t13 : hp_T M12 (s3) = 22 := by rw [eM12]; exact t10
    obtain ⟨t14, h⟩ := h
    obtain ⟨z15, h⟩ := h
    obtain ⟨i16, h⟩ := h
    refine j_aast28 hX eL_cars_74 t14 t13 z15 i16 ?_
    refine j_nmM (fun M17 eM17 => ?_)
    replace h := h M17 eM17
    have t18 : hp_T M17 (s3) = 22 := by rw [eM17]; exact t13
    have t19 : hp_T M17 (s5) = 28 := by rw [eM17]; exact t14
    obtain ⟨v20, ev20⟩ : ∃ v20 : Int32, v20 = a2 + (1 : Int32) := ⟨_, rfl⟩
    replace h := h v20 ev20
    refine j_iinc (v := v20) (lv' := [(2, .int v20), (0, .ref a0), (1, .ref a1)]) hX eL_cars_75 2 rfl (by rw [ev20]; rfl) (by decide) rfl ?_
    refine j_goto hX 7 eL_cars_78 (by decide) ?_
    exact j_sub [1, 2, 0] rfl (k7 _ _ _ _ _ _ h)
  · obtain ⟨M5, eMz9⟩ : ∃ M5, M5 = Mz9 := ⟨_, rfl⟩; subst eMz9
    rcases qz9 with ⟨v6, hxz9, h⟩ | ⟨hxz9, h⟩ <;> cases hxz9
    exact h.elim

set_option maxHeartbeats 4000000 in
set_option maxRecDepth 20000 in
theorem vL_people_0 {X : am_Cx} {G : am_Gx} {d : Nat} {Q : am_Q} (hX : am_ok X rL_people G (d + 1)) (hM : am_me X rL_people Q) {bc bs : Nat} (R10 : Nat → Nat → Int32 → am_Hp → Nat → Nat → Prop) (k10 : ∀ (x0 : Nat) (x1 : Nat) (x2 : Int32) (M : am_Hp) (bc bs : Nat), R10 x0 x1 x2 M bc bs → am_J X 10 [(0, .ref x0), (1, .ref x1), (2, .int x2)] [] M bc bs) {a0 : Nat} {M : am_Hp} (h : 1 ≤ bc ∧ (3 ≤ bs ∧ (∀ p1 : Nat, hp_T M p1 = 0 → p1 ≠ 0 → (∀ M7 : am_Hp, M7 = hp_o M p1 8 → (am_CT G d rJx4a65c_init_da8c8 [.ref p1] M7 0 0 (fun oz9 M9 => oz9 = .inl none ∧ (R10 a0 p1 (0 : Int32) M9 (bc - 1) (bs - 3)))))))) : am_J X 0 [(0, .ref a0)] [] M bc bs := by
  obtain ⟨b5, b6, h⟩ := h
  refine j_new (q := (RJx4a65c, TJx4a65c, 3)) hX eL_people_0 rfl (by decide) tw_1319 tw_1320 tw_24 dv_7 b5 b6 (fun p1 o3 z4 => ?_)
  replace h := h p1 o3 z4
  refine j_nmM (fun M7 eM7 => ?_)
  replace h := h M7 eM7
  have t8 : hp_T M7 (p1) = 8 := by rw [eM7]; exact hp_Tn
  refine j_dup hX eL_people_3 rfl ?_
  refine j_callI (a := p1) (r' := rJx4a65c_init_da8c8) (As := []) (rest := [.ref p1]) (d1 := d) hX eL_people_4 mm_LiftGroupLaw_97 rfl h rfl (Nat.le_refl _) (Nat.zero_le _) (Nat.zero_le _) (Nat.le_of_ble_eq_true rfl) (fun vz9 Mz9 qz9 => ?_) (fun Ez9 Mz9 qz9 => ?_)
  · obtain ⟨M9, eMz9⟩ : ∃ M9, M9 = Mz9 := ⟨_, rfl⟩; subst eMz9
    obtain ⟨hxz9, h⟩ := qz9
    cases hxz9
    refine j_astore_n (lv' := [(1, .ref p1), (0, .ref a0)]) hX eL_people_7 rfl (by decide) rfl ?_
    refine j_iconst (v := (0 : Int32)) hX eL_people_8 (by decide) ?_
    refine j_istore_n (lv' := [(2, .int (0 : Int32)), (1, .ref p1), (0, .ref a0)]) hX eL_people_9 rfl (by decide) rfl ?_
    exact j_sub [2, 1, 0] rfl (k10 _ _ _ _ _ _ h)
  · obtain ⟨hxz9, h⟩ := qz9
    cases hxz9
set_option maxHeartbeats 4000000 in
set_option maxRecDepth 20000 in
theorem vL_people_10 {X : am_Cx} {G : am_Gx} {d : Nat} {Q : am_Q} (hX : am_ok X rL_people G (d + 1)) (hM : am_me X rL_people Q) {bc bs : Nat} (R87 : Nat → Nat → Int32 → Int32 → Int32 → Nat → Nat → Nat → am_Hp → Nat → Nat → Prop) (k87 : ∀ (x0 : Nat) (x1 : Nat) (x2 : Int32) (y0 : Int32) (y1 : Int32) (y2 : Nat) (y3 : Nat) (y4 : Nat) (M : am_Hp) (bc bs : Nat), R87 x0 x1 x2 y0 y1 y2 y3 y4 M bc bs → am_J X 87 [(0, .ref x0), (1, .ref x1), (2, .int x2)] [.int y0, .int y1, .ref y2, .ref y3, .ref y4] M bc bs) {a0 : Nat} {a1 : Nat} {a2 : Int32} {M : am_Hp} (h : hp_T M (a0) = 7 ∧ (am_CT G d rX6_passengerCount [.ref a0] M 0 0 (fun oz9 M1 => ∃ v2 : Int32, oz9 = .inl (some (.int v2)) ∧ (((v2 ≤ a2) → (Q (.inl (some (.ref a1))) M1)) ∧ (¬ (v2 ≤ a2) → (¬ (7 : Int32) < 0 ∧ (((7 : Int32)).toNatClampNeg * componentBytes .int ≤ 536870912 ∧ (1 ≤ bc ∧ (((7 : Int32)).toNatClampNeg ≤ bs ∧ (∀ p9 : Nat, hp_T M1 p9 = 0 → p9 ≠ 0 → (∀ M12 : am_Hp, M12 = hp_a M1 p9 22 ((7 : Int32)).toNatClampNeg → (hp_T M12 (a0) = 7 ∧ (1 ≤ (bc - 1) ∧ (6 ≤ (bs - ((7 : Int32)).toNatClampNeg) ∧ (am_CT G d rX6_number [.ref a0, .int a2] M12 1 6 (fun oz9 M14 => (∃ v15 : Int32, oz9 = .inl (some (.int v15)) ∧ (hp_T M14 (p9) = 22 ∧ (vp_in (0 : Int32) (hp_N M14 p9) ∧ (∀ M21 : am_Hp, M21 = hp_sE M14 p9 ((0 : Int32)).toNatClampNeg v15 → (hp_T M21 (a0) = 7 ∧ (1 ≤ ((bc - 1) - 1) ∧ (6 ≤ ((bs - ((7 : Int32)).toNatClampNeg) - 6) ∧ (am_CT G d rX6_start [.ref a0, .int a2] M21 1 6 (fun oz9 M23 => (∃ v24 : Int32, oz9 = .inl (some (.int v24)) ∧ (hp_T M23 (p9) = 22 ∧ (vp_in (1 : Int32) (hp_N M23 p9) ∧ (∀ M30 : am_Hp, M30 = hp_sE M23 p9 ((1 : Int32)).toNatClampNeg v24 → (hp_T M30 (a0) = 7 ∧ (1 ≤ (((bc - 1) - 1) - 1) ∧ (6 ≤ (((bs - ((7 : Int32)).toNatClampNeg) - 6) - 6) ∧ (am_CT G d rX6_destination [.ref a0, .int a2] M30 1 6 (fun oz9 M32 => (∃ v33 : Int32, oz9 = .inl (some (.int v33)) ∧ (hp_T M32 (p9) = 22 ∧ (vp_in (2 : Int32) (hp_N M32 p9) ∧ (∀ M39 : am_Hp, M39 = hp_sE M32 p9 ((2 : Int32)).toNatClampNeg v33 → (hp_T M39 (a0) = 7 ∧ (1 ≤ ((((bc - 1) - 1) - 1) - 1) ∧ (6 ≤ ((((bs - ((7 : Int32)).toNatClampNeg) - 6) - 6) - 6) ∧ (am_CT G d rX6_weight [.ref a0, .int a2] M39 1 6 (fun oz9 M41 => (∃ v42 : Int32, oz9 = .inl (some (.int v42)) ∧ (hp_T M41 (p9) = 22 ∧ (vp_in (3 : Int32) (hp_N M41 p9) ∧ (∀ M48 : am_Hp, M48 = hp_sE M41 p9 ((3 : Int32)).toNatClampNeg v42 → (hp_T M48 (a0) = 7 ∧ (1 ≤ (((((bc - 1) - 1) - 1) - 1) - 1) ∧ (6 ≤ (((((bs - ((7 : Int32)).toNatClampNeg) - 6) - 6) - 6) - 6) ∧ (am_CT G d rX6_waitingTime [.ref a0, .int a2] M48 1 6 (fun oz9 M50 => (∃ v51 : Int32, oz9 = .inl (some (.int v51)) ∧ (hp_T M50 (p9) = 22 ∧ (vp_in (4 : Int32) (hp_N M50 p9) ∧ (∀ M57 : am_Hp, M57 = hp_sE M50 p9 ((4 : Int32)).toNatClampNeg v51 → (2 ≤ ((((((bc - 1) - 1) - 1) - 1) - 1) - 1) ∧ (12 ≤ ((((((bs - ((7 : Int32)).toNatClampNeg) - 6) - 6) - 6) - 6) - 6) ∧ (am_CT G d rL_carOf [.ref a0, .int a2] M57 2 12 (fun oz9 M59 => (∃ v60 : Int32, oz9 = .inl (some (.int v60)) ∧ (hp_T M59 (p9) = 22 ∧ (vp_in (5 : Int32) (hp_N M59 p9) ∧ (∀ M65 : am_Hp, M65 = hp_sE M59 p9 ((5 : Int32)).toNatClampNeg v60 → (hp_T M65 (a0) = 7 ∧ (1 ≤ (((((((bc - 1) - 1) - 1) - 1) - 1) - 1) - 2) ∧ (6 ≤ (((((((bs - ((7 : Int32)).toNatClampNeg) - 6) - 6) - 6) - 6) - 6) - 12) ∧ (am_CT G d rX6_isInCar [.ref a0, .int a2] M65 1 6 (fun oz9 M67 => (∃ v68 : Int32, oz9 = .inl (some (.int v68)) ∧ (((v68 = 0) → (R87 a0 a1 a2 (0 : Int32) (6 : Int32) p9 p9 a1 M67 ((((((((bc - 1) - 1) - 1) - 1) - 1) - 1) - 2) - 1) ((((((((bs - ((7 : Int32)).toNatClampNeg) - 6) - 6) - 6) - 6) - 6) - 12) - 6))) ∧ (¬ (v68 = 0) → (R87 a0 a1 a2 (1 : Int32) (6 : Int32) p9 p9 a1 M67 ((((((((bc - 1) - 1) - 1) - 1) - 1) - 1) - 2) - 1) ((((((((bs - ((7 : Int32)).toNatClampNeg) - 6) - 6) - 6) - 6) - 6) - 12) - 6))))) ∨ ((oz9 = .inr "java/lang/IndexOutOfBoundsException" ∧ False))))))))))) ∨ ((oz9 = .inr "java/lang/IndexOutOfBoundsException" ∧ False)))))))))) ∨ ((oz9 = .inr "java/lang/IndexOutOfBoundsException" ∧ False))))))))))) ∨ ((oz9 = .inr "java/lang/IndexOutOfBoundsException" ∧ False))))))))))) ∨ ((oz9 = .inr "java/lang/IndexOutOfBoundsException" ∧ False))))))))))) ∨ ((oz9 = .inr "java/lang/IndexOutOfBoundsException" ∧ False))))))))))) ∨ ((oz9 = .inr "java/lang/IndexOutOfBoundsException" ∧ False)))))))))))))))))) : am_J X 10 [(0, .ref a0), (1, .ref a1), (2, .int a2)] [] M bc bs := by
  refine j_iload_n hX eL_people_10 2 rfl ?_
  refine j_aload_n hX eL_people_11 0 rfl ?_
  obtain ⟨t3, h⟩ := h
  refine j_callV (a := a0) (q := (RX6, TX6, 9)) (r' := rX6_passengerCount) (As := []) (rest := [.int a2]) (d1 := d) hX eL_people_12 mm_LiftGroupLaw_34 rfl t3 (by decide) rfl h rfl (Nat.le_refl _) (Nat.zero_le _) (Nat.zero_le _) (Nat.le_of_ble_eq_true rfl) (fun vz9 Mz9 qz9 => ?_) (fun Ez9 Mz9 qz9 => ?_)
  · obtain ⟨M1, eMz9⟩ : ∃ M1, M1 = Mz9 := ⟨_, rfl⟩; subst eMz9
    obtain ⟨v2, hxz9, h⟩ := qz9
    cases hxz9
    refine j_icmp_ge hX 98 eL_people_15 (by decide) (fun c4 => ?_) (fun c4 => ?_)
    · replace h := h.1 c4
      refine j_aload_n hX eL_people_98 1 rfl ?_
      exact j_aret hX hM eL_people_99 rfl (by first | exact Or.inl ⟨_, rfl⟩ | exact Or.inr ⟨_, rfl⟩) h
    · replace h := h.2 c4
      refine j_aload_n hX eL_people_18 1 rfl ?_
      refine j_bipush (v := (7 : Int32)) hX eL_people_19 (by decide) ?_
      obtain ⟨n5, n6, b7, b8, h⟩ := h
      refine j_newa_i hX eL_people_21 tw_81 n5 n6 b7 b8 (fun p9 o10 z11 => ?_)
      replace h := h p9 o10 z11
      refine j_nmM (fun M12 eM12 => ?_)
      replace h := h M12 eM12
      have t13 : hp_T M12 (p9) = 22 := by rw [eM12]; exact hp_Tna
      refine j_dup hX eL_people_23 rfl ?_
      refine j_iconst (v := (0 : Int32)) hX eL_people_24 (by decide) ?_
      refine j_aload_n hX eL_people_25 0 rfl ?_
      refine j_iload_n hX eL_people_26 2 rfl ?_
      obtain ⟨t16, h⟩ := h
      obtain ⟨b17, b18, h⟩ := h
      refine j_callV (a := a0) (q := (RX6, TX6, 9)) (r' := rX6_number) (As := [.int a2]) (rest := [.int (0 : Int32), .ref p9, .ref p9, .ref a1]) (d1 := d) hX eL_people_27 mm_LiftGroupLaw_98 rfl t16 (by decide) rfl h rfl (Nat.le_refl _) b17 b18 (Nat.le_of_ble_eq_true rfl) (fun vz9 Mz9 qz9 => ?_) (fun Ez9 Mz9 qz9 => ?_)
      · obtain ⟨M14, eMz9⟩ : ∃ M14, M14 = Mz9 := ⟨_, rfl⟩; subst eMz9
        rcases qz9 with ⟨v15, hxz9, h⟩ | ⟨hxz9, h⟩ <;> cases hxz9
        obtain ⟨t19, h⟩ := h
        obtain ⟨i20, h⟩ := h
        refine j_iast hX eL_people_30 t19 i20 ?_
        refine j_nmM (fun M21 eM21 => ?_)
        replace h := h M21 eM21
        have t22 : hp_T M21 (p9) = 22 := by rw [eM21]; exact t19
        refine j_dup hX eL_people_31 rfl ?_
        refine j_iconst (v := (1 : Int32)) hX eL_people_32 (by decide) ?_
        refine j_aload_n hX eL_people_33 0 rfl ?_
        refine j_iload_n hX eL_people_34 2 rfl ?_
        obtain ⟨t25, h⟩ := h
        obtain ⟨b26, b27, h⟩ := h
        refine j_callV (a := a0) (q := (RX6, TX6, 9)) (r' := rX6_start) (As := [.int a2]) (rest := [.int (1 : Int32), .ref p9, .ref p9, .ref a1]) (d1 := d) hX eL_people_35 mm_LiftGroupLaw_101 rfl t25 (by decide) rfl h rfl (Nat.le_refl _) b26 b27 (Nat.le_of_ble_eq_true rfl) (fun vz9 Mz9 qz9 => ?_) (fun Ez9 Mz9 qz9 => ?_)
        · obtain ⟨M23, eMz9⟩ : ∃ M23, M23 = Mz9 := ⟨_, rfl⟩; subst eMz9
          rcases qz9 with ⟨v24, hxz9, h⟩ | ⟨hxz9, h⟩ <;> cases hxz9
          obtain ⟨t28, h⟩ := h
          obtain ⟨i29, h⟩ := h
          refine j_iast hX eL_people_38 t28 i29 ?_
          refine j_nmM (fun M30 eM30 => ?_)
          replace h := h M30 eM30
          have t31 : hp_T M30 (p9) = 22 := by rw [eM30]; exact t28
          refine j_dup hX eL_people_39 rfl ?_
          refine j_iconst (v := (2 : Int32)) hX eL_people_40 (by decide) ?_
          refine j_aload_n hX eL_people_41 0 rfl ?_
          refine j_iload_n hX eL_people_42 2 rfl ?_
          obtain ⟨t34, h⟩ := h
          obtain ⟨b35, b36, h⟩ := h
          refine j_callV (a := a0) (q := (RX6, TX6, 9)) (r' := rX6_destination) (As := [.int a2]) (rest := [.int (2 : Int32), .ref p9, .ref p9, .ref a1]) (d1 := d) hX eL_people_43 mm_LiftGroupLaw_104 rfl t34 (by decide) rfl h rfl (Nat.le_refl _) b35 b36 (Nat.le_of_ble_eq_true rfl) (fun vz9 Mz9 qz9 => ?_) (fun Ez9 Mz9 qz9 => ?_)
          · obtain ⟨M32, eMz9⟩ : ∃ M32, M32 = Mz9 := ⟨_, rfl⟩; subst eMz9
            rcases qz9 with ⟨v33, hxz9, h⟩ | ⟨hxz9, h⟩ <;> cases hxz9
            obtain ⟨t37, h⟩ := h
            obtain ⟨i38, h⟩ := h
            refine j_iast hX eL_people_46 t37 i38 ?_
            refine j_nmM (fun M39 eM39 => ?_)
            replace h := h M39 eM39
            have t40 : hp_T M39 (p9) = 22 := by rw [eM39]; exact t37
            refine j_dup hX eL_people_47 rfl ?_
            refine j_iconst (v := (3 : Int32)) hX eL_people_48 (by decide) ?_
            refine j_aload_n hX eL_people_49 0 rfl ?_
            refine j_iload_n hX eL_people_50 2 rfl ?_
            obtain ⟨t43, h⟩ := h
            obtain ⟨b44, b45, h⟩ := h
            refine j_callV (a := a0) (q := (RX6, TX6, 9)) (r' := rX6_weight) (As := [.int a2]) (rest := [.int (3 : Int32), .ref p9, .ref p9, .ref a1]) (d1 := d) hX eL_people_51 mm_LiftGroupLaw_107 rfl t43 (by decide) rfl h rfl (Nat.le_refl _) b44 b45 (Nat.le_of_ble_eq_true rfl) (fun vz9 Mz9 qz9 => ?_) (fun Ez9 Mz9 qz9 => ?_)
            · obtain ⟨M41, eMz9⟩ : ∃ M41, M41 = Mz9 := ⟨_, rfl⟩; subst eMz9
              rcases qz9 with ⟨v42, hxz9, h⟩ | ⟨hxz9, h⟩ <;> cases hxz9
              obtain ⟨t46, h⟩ := h
              obtain ⟨i47, h⟩ := h
              refine j_iast hX eL_people_54 t46 i47 ?_
              refine j_nmM (fun M48 eM48 => ?_)
              replace h := h M48 eM48
              have t49 : hp_T M48 (p9) = 22 := by rw [eM48]; exact t46
              refine j_dup hX eL_people_55 rfl ?_
              refine j_iconst (v := (4 : Int32)) hX eL_people_56 (by decide) ?_
              refine j_aload_n hX eL_people_57 0 rfl ?_
              refine j_iload_n hX eL_people_58 2 rfl ?_
              obtain ⟨t52, h⟩ := h
              obtain ⟨b53, b54, h⟩ := h
              refine j_callV (a := a0) (q := (RX6, TX6, 9)) (r' := rX6_waitingTime) (As := [.int a2]) (rest := [.int (4 : Int32), .ref p9, .ref p9, .ref a1]) (d1 := d) hX eL_people_59 mm_LiftGroupLaw_110 rfl t52 (by decide) rfl h rfl (Nat.le_refl _) b53 b54 (Nat.le_of_ble_eq_true rfl) (fun vz9 Mz9 qz9 => ?_) (fun Ez9 Mz9 qz9 => ?_)
              · obtain ⟨M50, eMz9⟩ : ∃ M50, M50 = Mz9 := ⟨_, rfl⟩; subst eMz9
                rcases qz9 with ⟨v51, hxz9, h⟩ | ⟨hxz9, h⟩ <;> cases hxz9
                obtain ⟨t55, h⟩ := h
                obtain ⟨i56, h⟩ := h
                refine j_iast hX eL_people_62 t55 i56 ?_
                refine j_nmM (fun M57 eM57 => ?_)
                replace h := h M57 eM57
                have t58 : hp_T M57 (p9) = 22 := by rw [eM57]; exact t55
                refine j_dup hX eL_people_63 rfl ?_
                refine j_iconst (v := (5 : Int32)) hX eL_people_64 (by decide) ?_
                refine j_aload_n hX eL_people_65 0 rfl ?_
                refine j_iload_n hX eL_people_66 2 rfl ?_
                obtain ⟨b61, b62, h⟩ := h
                refine j_callSX (r' := rL_carOf) (As := [.ref a0, .int a2]) (rest := [.int (5 : Int32), .ref p9, .ref p9, .ref a1]) (d1 := d) hX eL_people_67 mm_LiftGroupLaw_113 (by decide) rfl h rfl (Nat.le_refl _) b61 b62 (Nat.le_of_ble_eq_true rfl) (fun vz9 Mz9 qz9 => ?_) (fun Ez9 Mz9 qz9 => ?_)
                · obtain ⟨M59, eMz9⟩ : ∃ M59, M59 = Mz9 := ⟨_, rfl⟩; subst eMz9
                  rcases qz9 with ⟨v60, hxz9, h⟩ | ⟨hxz9, h⟩ <;> cases hxz9
                  obtain ⟨t63, h⟩ := h
                  obtain ⟨i64, h⟩ := h
                  refine j_iast hX eL_people_70 t63 i64 ?_
                  refine j_nmM (fun M65 eM65 => ?_)
                  replace h := h M65 eM65
                  have t66 : hp_T M65 (p9) = 22 := by rw [eM65]; exact t63
                  refine j_dup hX eL_people_71 rfl ?_
                  refine j_bipush (v := (6 : Int32)) hX eL_people_72 (by decide) ?_
                  refine j_aload_n hX eL_people_74 0 rfl ?_
                  refine j_iload_n hX eL_people_75 2 rfl ?_
                  obtain ⟨t69, h⟩ := h
                  obtain ⟨b70, b71, h⟩ := h
                  refine j_callV (a := a0) (q := (RX6, TX6, 9)) (r' := rX6_isInCar) (As := [.int a2]) (rest := [.int (6 : Int32), .ref p9, .ref p9, .ref a1]) (d1 := d) hX eL_people_76 mm_LiftGroupLaw_117 rfl t69 (by decide) rfl h rfl (Nat.le_refl _) b70 b71 (Nat.le_of_ble_eq_true rfl) (fun vz9 Mz9 qz9 => ?_) (fun Ez9 Mz9 qz9 => ?_)
                  · obtain ⟨M67, eMz9⟩ : ∃ M67, M67 = Mz9 := ⟨_, rfl⟩; subst eMz9
                    rcases qz9 with ⟨v68, hxz9, h⟩ | ⟨hxz9, h⟩ <;> cases hxz9
                    refine j_if_eq hX 86 eL_people_79 (by decide) (fun c72 => ?_) (fun c72 => ?_)
                    · replace h := h.1 c72
                      refine j_iconst (v := (0 : Int32)) hX eL_people_86 (by decide) ?_
                      exact j_sub [0, 1, 2] rfl (k87 _ _ _ _ _ _ _ _ _ _ _ h)
                    · replace h := h.2 c72
                      refine j_iconst (v := (1 : Int32)) hX eL_people_82 (by decide) ?_
                      refine j_goto hX 87 eL_people_83 (by decide) ?_
                      exact j_sub [0, 1, 2] rfl (k87 _ _ _ _ _ _ _ _ _ _ _ h)
                  · obtain ⟨M67, eMz9⟩ : ∃ M67, M67 = Mz9 := ⟨_, rfl⟩; subst eMz9
                    rcases qz9 with ⟨v68, hxz9, h⟩ | ⟨hxz9, h⟩ <;> cases hxz9
                    exact h.elim
                · obtain ⟨M59, eMz9⟩ : ∃ M59, M59 = Mz9 := ⟨_, rfl⟩; subst eMz9
                  rcases qz9 with ⟨v60, hxz9, h⟩ | ⟨hxz9, h⟩ <;> cases hxz9
                  exact h.elim
              · obtain ⟨M50, eMz9⟩ : ∃ M50, M50 = Mz9 := ⟨_, rfl⟩; subst eMz9
                rcases qz9 with ⟨v51, hxz9, h⟩ | ⟨hxz9, h⟩ <;> cases hxz9
                exact h.elim
            · obtain ⟨M41, eMz9⟩ : ∃ M41, M41 = Mz9 := ⟨_, rfl⟩; subst eMz9
              rcases qz9 with ⟨v42, hxz9, h⟩ | ⟨hxz9, h⟩ <;> cases hxz9
              exact h.elim
          · obtain ⟨M32, eMz9⟩ : ∃ M32, M32 = Mz9 := ⟨_, rfl⟩; subst eMz9
            rcases qz9 with ⟨v33, hxz9, h⟩ | ⟨hxz9, h⟩ <;> cases hxz9
            exact h.elim
        · obtain ⟨M23, eMz9⟩ : ∃ M23, M23 = Mz9 := ⟨_, rfl⟩; subst eMz9
          rcases qz9 with ⟨v24, hxz9, h⟩ | ⟨hxz9, h⟩ <;> cases hxz9
          exact h.elim
      · obtain ⟨M14, eMz9⟩ : ∃ M14, M14 = Mz9 := ⟨_, rfl⟩; subst eMz9
        rcases qz9 with ⟨v15, hxz9, h⟩ | ⟨hxz9, h⟩ <;> cases hxz9
        exact h.elim
  · obtain ⟨v2, hxz9, h⟩ := qz9
    cases hxz9
set_option maxHeartbeats 4000000 in
set_option maxRecDepth 20000 in
theorem vL_people_87 {X : am_Cx} {G : am_Gx} {d : Nat} {Q : am_Q} (hX : am_ok X rL_people G (d + 1)) (hM : am_me X rL_people Q) {bc bs : Nat} (R10 : Nat → Nat → Int32 → am_Hp → Nat → Nat → Prop) (k10 : ∀ (x0 : Nat) (x1 : Nat) (x2 : Int32) (M : am_Hp) (bc bs : Nat), R10 x0 x1 x2 M bc bs → am_J X 10 [(0, .ref x0), (1, .ref x1), (2, .int x2)] [] M bc bs) {a0 : Nat} {a1 : Nat} {a2 : Int32} {s0 : Int32} {s1 : Int32} {s2 : Nat} {s3 : Nat} {s4 : Nat} {M : am_Hp} (h : hp_T M (s2) = 22 ∧ (vp_in s1 (hp_N M s2) ∧ (∀ M3 : am_Hp, M3 = hp_sE M s2 (s1).toNatClampNeg s0 → (hp_T M3 (s4) = 8 ∧ (1 ≤ bc ∧ (15 ≤ bs ∧ (am_CT G d rJx4a65c_add_9ea2d [.ref s4, .ref s3] M3 1 15 (fun oz9 M5 => ∃ v6 : Int32, oz9 = .inl (some (.int v6)) ∧ (∀ v10 : Int32, v10 = a2 + (1 : Int32) → (R10 a0 a1 v10 M5 (bc - 1) (bs - 15))))))))))) : am_J X 87 [(0, .ref a0), (1, .ref a1), (2, .int a2)] [.int s0, .int s1, .ref s2, .ref s3, .ref s4] M bc bs := by
  obtain ⟨t1, h⟩ := h
  obtain ⟨i2, h⟩ := h
  refine j_iast hX eL_people_87 t1 i2 ?_
  refine j_nmM (fun M3 eM3 => ?_)
  replace h := h M3 eM3
  have t4 : hp_T M3 (s2) = 22 := by rw [eM3]; exact t1
  obtain ⟨t7, h⟩ := h
  obtain ⟨b8, b9, h⟩ := h
  refine j_callV (a := s4) (q := (RJx4a65c, TJx4a65c, 3)) (r' := rJx4a65c_add_9ea2d) (As := [.ref s3]) (rest := []) (d1 := d) hX eL_people_88 mm_LiftGroupLaw_120 rfl t7 (by decide) rfl h rfl (Nat.le_refl _) b8 b9 (Nat.le_of_ble_eq_true rfl) (fun vz9 Mz9 qz9 => ?_) (fun Ez9 Mz9 qz9 => ?_)
  · obtain ⟨M5, eMz9⟩ : ∃ M5, M5 = Mz9 := ⟨_, rfl⟩; subst eMz9
    obtain ⟨v6, hxz9, h⟩ := qz9
    cases hxz9
    refine j_pop hX eL_people_91 rfl ?_
    obtain ⟨v10, ev10⟩ : ∃ v10 : Int32, v10 = a2 + (1 : Int32) := ⟨_, rfl⟩
    replace h := h v10 ev10
    refine j_iinc (v := v10) (lv' := [(2, .int v10), (0, .ref a0), (1, .ref a1)]) hX eL_people_92 2 rfl (by rw [ev10]; rfl) (by decide) rfl ?_
    refine j_goto hX 10 eL_people_95 (by decide) ?_
    exact j_sub [1, 2, 0] rfl (k10 _ _ _ _ _ _ h)
  · obtain ⟨v6, hxz9, h⟩ := qz9
    cases hxz9

set_option maxHeartbeats 4000000 in
set_option maxRecDepth 20000 in
theorem vL_carOf_0 {X : am_Cx} {G : am_Gx} {d : Nat} {Q : am_Q} (hX : am_ok X rL_carOf G (d + 1)) (hM : am_me X rL_carOf Q) {bc bs : Nat}  {a0 : Nat} {a1 : Int32} {M : am_Hp} (h : hp_T M (a0) = 7 ∧ (2 ≤ bc ∧ (12 ≤ bs ∧ (am_CT G d rX6_carOf [.ref a0, .int a1] M 2 12 (fun oz9 M1 => (∃ v2 : Int32, oz9 = .inl (some (.int v2)) ∧ (Q (.inl (some (.int v2))) M1)) ∨ ((oz9 = .inr "java/lang/IndexOutOfBoundsException" ∧ False)) ∨ ((oz9 = .inr "java/util/NoSuchElementException" ∧ ∀ p6 : Nat, Q (.inl (some (.int (-1 : Int32)))) M1))))))) : am_J X 0 [(0, .ref a0), (1, .int a1)] [] M bc bs := by
  refine j_aload_n hX eL_carOf_0 0 rfl ?_
  refine j_iload_n hX eL_carOf_1 1 rfl ?_
  obtain ⟨t3, h⟩ := h
  obtain ⟨b4, b5, h⟩ := h
  refine j_callV (a := a0) (q := (RX6, TX6, 9)) (r' := rX6_carOf) (As := [.int a1]) (rest := []) (d1 := d) hX eL_carOf_2 mm_LiftGroupLaw_124 rfl t3 (by decide) rfl h rfl (Nat.le_refl _) b4 b5 (Nat.le_of_ble_eq_true rfl) (fun vz9 Mz9 qz9 => ?_) (fun Ez9 Mz9 qz9 => ?_)
  · obtain ⟨M1, eMz9⟩ : ∃ M1, M1 = Mz9 := ⟨_, rfl⟩; subst eMz9
    rcases qz9 with ⟨v2, hxz9, h⟩ | ⟨hxz9, h⟩ | ⟨hxz9, h⟩ <;> cases hxz9
    exact j_iret hX hM eL_carOf_5 rfl h
  · obtain ⟨M1, eMz9⟩ : ∃ M1, M1 = Mz9 := ⟨_, rfl⟩; subst eMz9
    rcases qz9 with ⟨v2, hxz9, h⟩ | ⟨hxz9, h⟩ | ⟨hxz9, h⟩ <;> cases hxz9
    · exact h.elim
    · refine am_thIc (name := "java/util/NoSuchElementException") hX [] (0, 5, 6, 126) [] rfl (fun z hz => by cases hz) (by decide) (by decide) tw_1363 (am_castN_NoSuchElementException) (fun p6 => ?_)
      replace h := h p6
      refine j_astore_n (lv' := [(2, .ref p6), (0, .ref a0), (1, .int a1)]) hX eL_carOf_6 rfl (by decide) rfl ?_
      refine j_iconst (v := (-1 : Int32)) hX eL_carOf_7 (by decide) ?_
      exact j_iret hX hM eL_carOf_8 rfl h

set_option maxHeartbeats 4000000 in
set_option maxRecDepth 20000 in
theorem vL_state_0 {X : am_Cx} {G : am_Gx} {d : Nat} {Q : am_Q} (hX : am_ok X rL_state G (d + 1)) (hM : am_me X rL_state Q) {bc bs : Nat} (R33 : Nat → Int32 → Nat → Int32 → Int32 → am_Hp → Nat → Nat → Prop) (k33 : ∀ (x0 : Nat) (x1 : Int32) (x2 : Nat) (x3 : Int32) (x4 : Int32) (M : am_Hp) (bc bs : Nat), R33 x0 x1 x2 x3 x4 M bc bs → am_J X 33 [(0, .ref x0), (1, .int x1), (2, .ref x2), (3, .int x3), (4, .int x4)] [] M bc bs) {a0 : Nat} {M : am_Hp} (h : hp_T M (a0) = 7 ∧ (am_CT G d rX6_time [.ref a0] M 0 0 (fun oz9 M1 => ∃ v2 : Int32, oz9 = .inl (some (.int v2)) ∧ (hp_T M1 (a0) = 7 ∧ (am_CT G d rX6_tripCount [.ref a0] M1 0 0 (fun oz9 M4 => ∃ v5 : Int32, oz9 = .inl (some (.int v5)) ∧ (hp_T M4 (a0) = 7 ∧ (am_CT G d rX6_totalEnergy [.ref a0] M4 0 0 (fun oz9 M7 => ∃ l8 : Int64, oz9 = .inl (some (.long l8)) ∧ (∀ v10 : Int32, v10 = (((31 : Int32) * (((31 : Int32) * v2) + v5)) + ((l8).toInt32)) → (30 ≤ bc ∧ (200 ≤ bs ∧ (am_CT G d rL_cars [.ref a0] M7 30 200 (fun oz9 M11 => (∃ p12 : Nat, oz9 = .inl (some (.ref p12)) ∧ (hp_T M11 (p12) = 28 ∧ (∀ v16 : Int32, v16 = (Int32.ofNat (hp_N M11 p12)) → (R33 a0 v10 p12 v16 (0 : Int32) M11 (bc - 30) (bs - 200))))) ∨ ((oz9 = .inr "java/lang/IndexOutOfBoundsException" ∧ False)))))))))))))))) : am_J X 0 [(0, .ref a0)] [] M bc bs := by
  refine j_bipush (v := (31 : Int32)) hX eL_state_0 (by decide) ?_
  refine j_bipush (v := (31 : Int32)) hX eL_state_2 (by decide) ?_
  refine j_aload_n hX eL_state_4 0 rfl ?_
  obtain ⟨t3, h⟩ := h
  refine j_callV (a := a0) (q := (RX6, TX6, 9)) (r' := rX6_time) (As := []) (rest := [.int (31 : Int32), .int (31 : Int32)]) (d1 := d) hX eL_state_5 mm_LiftGroupLaw_128 rfl t3 (by decide) rfl h rfl (Nat.le_refl _) (Nat.zero_le _) (Nat.zero_le _) (Nat.le_of_ble_eq_true rfl) (fun vz9 Mz9 qz9 => ?_) (fun Ez9 Mz9 qz9 => ?_)
  · obtain ⟨M1, eMz9⟩ : ∃ M1, M1 = Mz9 := ⟨_, rfl⟩; subst eMz9
    obtain ⟨v2, hxz9, h⟩ := qz9
    cases hxz9
    refine j_imul hX eL_state_8 ?_
    refine j_aload_n hX eL_state_9 0 rfl ?_
    obtain ⟨t6, h⟩ := h
    refine j_callV (a := a0) (q := (RX6, TX6, 9)) (r' := rX6_tripCount) (As := []) (rest := [.int ((31 : Int32) * v2), .int (31 : Int32)]) (d1 := d) hX eL_state_10 mm_LiftGroupLaw_131 rfl t6 (by decide) rfl h rfl (Nat.le_refl _) (Nat.zero_le _) (Nat.zero_le _) (Nat.le_of_ble_eq_true rfl) (fun vz9 Mz9 qz9 => ?_) (fun Ez9 Mz9 qz9 => ?_)
    · obtain ⟨M4, eMz9⟩ : ∃ M4, M4 = Mz9 := ⟨_, rfl⟩; subst eMz9
      obtain ⟨v5, hxz9, h⟩ := qz9
      cases hxz9
      refine j_iadd hX eL_state_13 ?_
      refine j_imul hX eL_state_14 ?_
      refine j_aload_n hX eL_state_15 0 rfl ?_
      obtain ⟨t9, h⟩ := h
      refine j_callV (a := a0) (q := (RX6, TX6, 9)) (r' := rX6_totalEnergy) (As := []) (rest := [.int ((31 : Int32) * (((31 : Int32) * v2) + v5))]) (d1 := d) hX eL_state_16 mm_LiftGroupLaw_134 rfl t9 (by decide) rfl h rfl (Nat.le_refl _) (Nat.zero_le _) (Nat.zero_le _) (Nat.le_of_ble_eq_true rfl) (fun vz9 Mz9 qz9 => ?_) (fun Ez9 Mz9 qz9 => ?_)
      · obtain ⟨M7, eMz9⟩ : ∃ M7, M7 = Mz9 := ⟨_, rfl⟩; subst eMz9
        obtain ⟨l8, hxz9, h⟩ := qz9
        cases hxz9
        refine j_l2i hX eL_state_19 ?_
        refine j_iadd hX eL_state_20 ?_
        refine j_nmI (fun v10 ev10 => ?_)
        replace h := h v10 ev10
        refine j_istore_n (lv' := [(1, .int v10), (0, .ref a0)]) hX eL_state_21 rfl (by decide) rfl ?_
        refine j_aload_n hX eL_state_22 1 rfl ?_
        obtain ⟨b13, b14, h⟩ := h
        refine j_callS (r' := rL_cars) (As := [.ref a0]) (rest := []) (d1 := d) hX eL_state_23 mm_LiftGroupLaw_138 rfl rfl h rfl (Nat.le_refl _) b13 b14 (Nat.le_of_ble_eq_true rfl) (fun vz9 Mz9 qz9 => ?_) (fun Ez9 Mz9 qz9 => ?_)
        · obtain ⟨M11, eMz9⟩ : ∃ M11, M11 = Mz9 := ⟨_, rfl⟩; subst eMz9
          rcases qz9 with ⟨p12, hxz9, h⟩ | ⟨hxz9, h⟩ <;> cases hxz9
          refine j_astore_n (lv' := [(2, .ref p12), (1, .int v10), (0, .ref a0)]) hX eL_state_26 rfl (by decide) rfl ?_
          refine j_aload_n hX eL_state_27 0 rfl ?_
          obtain ⟨t15, h⟩ := h
          refine j_alen28 hX eL_state_28 t15 ?_
          refine j_nmI (fun v16 ev16 => ?_)
          replace h := h v16 ev16
          refine j_istore_n (lv' := [(3, .int v16), (2, .ref p12), (1, .int v10), (0, .ref a0)]) hX eL_state_29 rfl (by decide) rfl ?_
          refine j_iconst (v := (0 : Int32)) hX eL_state_30 (by decide) ?_
          refine j_istore (lv' := [(4, .int (0 : Int32)), (3, .int v16), (2, .ref p12), (1, .int v10), (0, .ref a0)]) hX eL_state_31 (by decide) rfl ?_
          exact j_sub [4, 3, 2, 1, 0] rfl (k33 _ _ _ _ _ _ _ _ h)
        · obtain ⟨M11, eMz9⟩ : ∃ M11, M11 = Mz9 := ⟨_, rfl⟩; subst eMz9
          rcases qz9 with ⟨p12, hxz9, h⟩ | ⟨hxz9, h⟩ <;> cases hxz9
          exact h.elim
      · obtain ⟨l8, hxz9, h⟩ := qz9
        cases hxz9
    · obtain ⟨v5, hxz9, h⟩ := qz9
      cases hxz9
  · obtain ⟨v2, hxz9, h⟩ := qz9
    cases hxz9
set_option maxHeartbeats 4000000 in
set_option maxRecDepth 20000 in
theorem vL_state_33 {X : am_Cx} {G : am_Gx} {d : Nat} {Q : am_Q} (hX : am_ok X rL_state G (d + 1)) (hM : am_me X rL_state Q) {bc bs : Nat} (R57 : Nat → Int32 → Nat → Int32 → Int32 → Nat → Int32 → Int32 → am_Hp → Nat → Nat → Prop) (k57 : ∀ (x0 : Nat) (x1 : Int32) (x2 : Nat) (x3 : Int32) (x4 : Int32) (x6 : Nat) (x7 : Int32) (x8 : Int32) (M : am_Hp) (bc bs : Nat), R57 x0 x1 x2 x3 x4 x6 x7 x8 M bc bs → am_J X 57 [(0, .ref x0), (1, .int x1), (2, .ref x2), (3, .int x3), (4, .int x4), (6, .ref x6), (7, .int x7), (8, .int x8)] [] M bc bs) (R99 : Nat → Int32 → Nat → am_Hp → Nat → Nat → Prop) (k99 : ∀ (x0 : Nat) (x1 : Int32) (x2 : Nat) (M : am_Hp) (bc bs : Nat), R99 x0 x1 x2 M bc bs → am_J X 99 [(0, .ref x0), (1, .int x1), (2, .ref x2)] [] M bc bs) {a0 : Nat} {a1 : Int32} {a2 : Nat} {a3 : Int32} {a4 : Int32} {M : am_Hp} (h : ((a3 ≤ a4) → (130 ≤ bc ∧ (900 ≤ bs ∧ (am_CT G d rL_people [.ref a0] M 130 900 (fun oz9 M2 => (∃ p3 : Nat, oz9 = .inl (some (.ref p3)) ∧ (hp_T M2 (p3) = 8 ∧ (1 ≤ (bc - 130) ∧ (4 ≤ (bs - 900) ∧ (am_CT G d rJx4a65c_iterator_32c93 [.ref p3] M2 1 4 (fun oz9 M6 => ∃ p7 : Nat, oz9 = .inl (some (.ref p7)) ∧ (R99 a0 a1 p7 M6 ((bc - 130) - 1) ((bs - 900) - 4)))))))) ∨ ((oz9 = .inr "java/lang/IndexOutOfBoundsException" ∧ False))))))) ∧ (¬ (a3 ≤ a4) → (hp_T M (a2) = 28 ∧ (vp_in a4 (hp_N M a2) ∧ (hp_Q M a2 (a4).toNatClampNeg ≠ 0 ∧ (∀ p14 : Nat, p14 = hp_Q M a2 (a4).toNatClampNeg → (hp_T M (p14) = 22 ∧ (∀ v16 : Int32, v16 = (Int32.ofNat (hp_N M p14)) → (R57 a0 a1 a2 a3 a4 p14 v16 (0 : Int32) M bc bs))))))))) : am_J X 33 [(0, .ref a0), (1, .int a1), (2, .ref a2), (3, .int a3), (4, .int a4)] [] M bc bs := by
  refine j_iload hX eL_state_33 4 rfl ?_
  refine j_iload_n hX eL_state_35 3 rfl ?_
  refine j_icmp_ge hX 91 eL_state_36 (by decide) (fun c1 => ?_) (fun c1 => ?_)
  · replace h := h.1 c1
    refine j_aload_n hX eL_state_91 0 rfl ?_
    obtain ⟨b4, b5, h⟩ := h
    refine j_callS (r' := rL_people) (As := [.ref a0]) (rest := []) (d1 := d) hX eL_state_92 mm_LiftGroupLaw_142 rfl rfl h rfl (Nat.le_refl _) b4 b5 (Nat.le_of_ble_eq_true rfl) (fun vz9 Mz9 qz9 => ?_) (fun Ez9 Mz9 qz9 => ?_)
    · obtain ⟨M2, eMz9⟩ : ∃ M2, M2 = Mz9 := ⟨_, rfl⟩; subst eMz9
      rcases qz9 with ⟨p3, hxz9, h⟩ | ⟨hxz9, h⟩ <;> cases hxz9
      obtain ⟨t8, h⟩ := h
      obtain ⟨b9, b10, h⟩ := h
      refine j_callV (a := p3) (q := (RJx4a65c, TJx4a65c, 3)) (r' := rJx4a65c_iterator_32c93) (As := []) (rest := []) (d1 := d) hX eL_state_95 mm_LiftGroupLaw_146 rfl t8 (by decide) rfl h rfl (Nat.le_refl _) b9 b10 (Nat.le_of_ble_eq_true rfl) (fun vz9 Mz9 qz9 => ?_) (fun Ez9 Mz9 qz9 => ?_)
      · obtain ⟨M6, eMz9⟩ : ∃ M6, M6 = Mz9 := ⟨_, rfl⟩; subst eMz9
        obtain ⟨p7, hxz9, h⟩ := qz9
        cases hxz9
        refine j_astore_n (lv' := [(2, .ref p7), (0, .ref a0), (1, .int a1), (3, .int a3), (4, .int a4)]) hX eL_state_98 rfl (by decide) rfl ?_
        exact j_sub [1, 2, 0] rfl (k99 _ _ _ _ _ _ h)
      · obtain ⟨p7, hxz9, h⟩ := qz9
        cases hxz9
    · obtain ⟨M2, eMz9⟩ : ∃ M2, M2 = Mz9 := ⟨_, rfl⟩; subst eMz9
      rcases qz9 with ⟨p3, hxz9, h⟩ | ⟨hxz9, h⟩ <;> cases hxz9
      exact h.elim
  · replace h := h.2 c1
    refine j_aload_n hX eL_state_39 2 rfl ?_
    refine j_iload hX eL_state_40 4 rfl ?_
    obtain ⟨t11, h⟩ := h
    obtain ⟨i12, h⟩ := h
    obtain ⟨z13, h⟩ := h
    refine j_aald28 hX eL_state_42 t11 i12 z13 ?_
    refine j_nmR (fun p14 ep14 => ?_)
    replace h := h p14 ep14
    refine j_astore (lv' := [(5, .ref p14), (0, .ref a0), (1, .int a1), (2, .ref a2), (3, .int a3), (4, .int a4)]) hX eL_state_43 (by decide) rfl ?_
    refine j_aload hX eL_state_45 0 rfl ?_
    refine j_astore (lv' := [(6, .ref p14), (5, .ref p14), (0, .ref a0), (1, .int a1), (2, .ref a2), (3, .int a3), (4, .int a4)]) hX eL_state_47 (by decide) rfl ?_
    refine j_aload hX eL_state_49 0 rfl ?_
    obtain ⟨t15, h⟩ := h
    refine j_alen22 hX eL_state_51 t15 ?_
    refine j_nmI (fun v16 ev16 => ?_)
    replace h := h v16 ev16
    refine j_istore (lv' := [(7, .int v16), (6, .ref p14), (5, .ref p14), (0, .ref a0), (1, .int a1), (2, .ref a2), (3, .int a3), (4, .int a4)]) hX eL_state_52 (by decide) rfl ?_
    refine j_iconst (v := (0 : Int32)) hX eL_state_54 (by decide) ?_
    refine j_istore (lv' := [(8, .int (0 : Int32)), (7, .int v16), (6, .ref p14), (5, .ref p14), (0, .ref a0), (1, .int a1), (2, .ref a2), (3, .int a3), (4, .int a4)]) hX eL_state_55 (by decide) rfl ?_
    exact j_sub [4, 5, 6, 7, 8, 2, 1, 0] rfl (k57 _ _ _ _ _ _ _ _ _ _ _ h)
set_option maxHeartbeats 4000000 in
set_option maxRecDepth 20000 in
theorem vL_state_99 {X : am_Cx} {G : am_Gx} {d : Nat} {Q : am_Q} (hX : am_ok X rL_state G (d + 1)) (hM : am_me X rL_state Q) {bc bs : Nat} (R129 : Nat → Int32 → Nat → Nat → Int32 → Int32 → am_Hp → Nat → Nat → Prop) (k129 : ∀ (x0 : Nat) (x1 : Int32) (x2 : Nat) (x4 : Nat) (x5 : Int32) (x6 : Int32) (M : am_Hp) (bc bs : Nat), R129 x0 x1 x2 x4 x5 x6 M bc bs → am_J X 129 [(0, .ref x0), (1, .int x1), (2, .ref x2), (4, .ref x4), (5, .int x5), (6, .int x6)] [] M bc bs) {a0 : Nat} {a1 : Int32} {a2 : Nat} {M : am_Hp} (h : hp_T M (a2) = 11 ∧ (am_CT G d rJx35411_hasNext_aae02 [.ref a2] M 0 0 (fun oz9 M2 => ∃ v3 : Int32, oz9 = .inl (some (.int v3)) ∧ (((v3 = 0) → (hp_T M2 (a0) = 7 ∧ (am_CT G d rX6_passengerCount [.ref a0] M2 0 0 (fun oz9 M5 => ∃ v6 : Int32, oz9 = .inl (some (.int v6)) ∧ (Q (.inl (some (.int (((31 : Int32) * a1) + v6)))) M5))))) ∧ (¬ (v3 = 0) → (hp_T M2 (a2) = 11 ∧ (am_CT G d rJx35411_next_0502b [.ref a2] M2 0 0 (fun oz9 M9 => ∃ p10 : Nat, oz9 = .inl (some (.ref p10)) ∧ (hp_T M9 (p10) = 22 ∧ (∀ v12 : Int32, v12 = (Int32.ofNat (hp_N M9 p10)) → (R129 a0 a1 a2 p10 v12 (0 : Int32) M9 bc bs))))))))))) : am_J X 99 [(0, .ref a0), (1, .int a1), (2, .ref a2)] [] M bc bs := by
  refine j_aload_n hX eL_state_99 2 rfl ?_
  obtain ⟨t1, h⟩ := h
  refine j_callF (a := a2) (q := (RJx35411, TJx35411, 4)) (r' := rJx35411_hasNext_aae02) (As := []) (rest := []) (d1 := d) hX eL_state_100 mf_LiftGroupLaw_150 (fun U hU => (hU.2.2.2.2.2.2.2.2 0).2.2.2.2.2.1) rfl t1 (by decide) rfl h rfl (Nat.le_refl _) (Nat.zero_le _) (Nat.zero_le _) (Nat.le_of_ble_eq_true rfl) (fun Ez9 Mz9 qz9 => ?_) (fun vz9 Mz9 qz9 => ?_)
  · obtain ⟨_, hz9, -⟩ := qz9; cases hz9
  · obtain ⟨M2, eMz9⟩ : ∃ M2, M2 = Mz9 := ⟨_, rfl⟩; subst eMz9
    obtain ⟨v3, hxz9, h⟩ := qz9
    cases hxz9
    refine j_if_eq hX 160 eL_state_105 (by decide) (fun c4 => ?_) (fun c4 => ?_)
    · replace h := h.1 c4
      refine j_bipush (v := (31 : Int32)) hX eL_state_160 (by decide) ?_
      refine j_iload_n hX eL_state_162 1 rfl ?_
      refine j_imul hX eL_state_163 ?_
      refine j_aload_n hX eL_state_164 0 rfl ?_
      obtain ⟨t7, h⟩ := h
      refine j_callV (a := a0) (q := (RX6, TX6, 9)) (r' := rX6_passengerCount) (As := []) (rest := [.int ((31 : Int32) * a1)]) (d1 := d) hX eL_state_165 mm_LiftGroupLaw_34 rfl t7 (by decide) rfl h rfl (Nat.le_refl _) (Nat.zero_le _) (Nat.zero_le _) (Nat.le_of_ble_eq_true rfl) (fun vz9 Mz9 qz9 => ?_) (fun Ez9 Mz9 qz9 => ?_)
      · obtain ⟨M5, eMz9⟩ : ∃ M5, M5 = Mz9 := ⟨_, rfl⟩; subst eMz9
        obtain ⟨v6, hxz9, h⟩ := qz9
        cases hxz9
        refine j_iadd hX eL_state_168 ?_
        exact j_iret hX hM eL_state_169 rfl h
      · obtain ⟨v6, hxz9, h⟩ := qz9
        cases hxz9
    · replace h := h.2 c4
      refine j_aload_n hX eL_state_108 2 rfl ?_
      obtain ⟨t8, h⟩ := h
      refine j_callF (a := a2) (q := (RJx35411, TJx35411, 4)) (r' := rJx35411_next_0502b) (As := []) (rest := []) (d1 := d) hX eL_state_109 mf_LiftGroupLaw_156 (fun U hU => (hU.2.2.2.2.2.2.2.2 0).2.2.2.2.2.2) rfl t8 (by decide) rfl h rfl (Nat.le_refl _) (Nat.zero_le _) (Nat.zero_le _) (Nat.le_of_ble_eq_true rfl) (fun Ez9 Mz9 qz9 => ?_) (fun vz9 Mz9 qz9 => ?_)
      · obtain ⟨_, hz9, -⟩ := qz9; cases hz9
      · obtain ⟨M9, eMz9⟩ : ∃ M9, M9 = Mz9 := ⟨_, rfl⟩; subst eMz9
        obtain ⟨p10, hxz9, h⟩ := qz9
        cases hxz9
        obtain ⟨t11, h⟩ := h
        refine j_castA22 hX eL_state_114 tw_1307 t11 ?_
        refine j_astore_n (lv' := [(3, .ref p10), (0, .ref a0), (1, .int a1), (2, .ref a2)]) hX eL_state_117 rfl (by decide) rfl ?_
        refine j_aload_n hX eL_state_118 0 rfl ?_
        refine j_astore (lv' := [(4, .ref p10), (3, .ref p10), (0, .ref a0), (1, .int a1), (2, .ref a2)]) hX eL_state_119 (by decide) rfl ?_
        refine j_aload hX eL_state_121 0 rfl ?_
        refine j_alen22 hX eL_state_123 t11 ?_
        refine j_nmI (fun v12 ev12 => ?_)
        replace h := h v12 ev12
        refine j_istore (lv' := [(5, .int v12), (4, .ref p10), (3, .ref p10), (0, .ref a0), (1, .int a1), (2, .ref a2)]) hX eL_state_124 (by decide) rfl ?_
        refine j_iconst (v := (0 : Int32)) hX eL_state_126 (by decide) ?_
        refine j_istore (lv' := [(6, .int (0 : Int32)), (5, .int v12), (4, .ref p10), (3, .ref p10), (0, .ref a0), (1, .int a1), (2, .ref a2)]) hX eL_state_127 (by decide) rfl ?_
        exact j_sub [4, 5, 6, 2, 1, 0] rfl (k129 _ _ _ _ _ _ _ _ _ h)
set_option maxHeartbeats 4000000 in
set_option maxRecDepth 20000 in
theorem vL_state_57 {X : am_Cx} {G : am_Gx} {d : Nat} {Q : am_Q} (hX : am_ok X rL_state G (d + 1)) (hM : am_me X rL_state Q) {bc bs : Nat} (R33 : Nat → Int32 → Nat → Int32 → Int32 → am_Hp → Nat → Nat → Prop) (k33 : ∀ (x0 : Nat) (x1 : Int32) (x2 : Nat) (x3 : Int32) (x4 : Int32) (M : am_Hp) (bc bs : Nat), R33 x0 x1 x2 x3 x4 M bc bs → am_J X 33 [(0, .ref x0), (1, .int x1), (2, .ref x2), (3, .int x3), (4, .int x4)] [] M bc bs) (R57 : Nat → Int32 → Nat → Int32 → Int32 → Nat → Int32 → Int32 → am_Hp → Nat → Nat → Prop) (k57 : ∀ (x0 : Nat) (x1 : Int32) (x2 : Nat) (x3 : Int32) (x4 : Int32) (x6 : Nat) (x7 : Int32) (x8 : Int32) (M : am_Hp) (bc bs : Nat), R57 x0 x1 x2 x3 x4 x6 x7 x8 M bc bs → am_J X 57 [(0, .ref x0), (1, .int x1), (2, .ref x2), (3, .int x3), (4, .int x4), (6, .ref x6), (7, .int x7), (8, .int x8)] [] M bc bs) {a0 : Nat} {a1 : Int32} {a2 : Nat} {a3 : Int32} {a4 : Int32} {a6 : Nat} {a7 : Int32} {a8 : Int32} {M : am_Hp} (h : ((a7 ≤ a8) → (∀ v2 : Int32, v2 = a4 + (1 : Int32) → (R33 a0 a1 a2 a3 v2 M bc bs))) ∧ (¬ (a7 ≤ a8) → (hp_T M (a6) = 22 ∧ (vp_in a8 (hp_N M a6) ∧ (∀ v5 : Int32, v5 = (hp_E M a6 (a8).toNatClampNeg) → (∀ v6 : Int32, v6 = (((31 : Int32) * a1) + v5) → (∀ v7 : Int32, v7 = a8 + (1 : Int32) → (R57 a0 v6 a2 a3 a4 a6 a7 v7 M bc bs)))))))) : am_J X 57 [(0, .ref a0), (1, .int a1), (2, .ref a2), (3, .int a3), (4, .int a4), (6, .ref a6), (7, .int a7), (8, .int a8)] [] M bc bs := by
  refine j_iload hX eL_state_57 7 rfl ?_
  refine j_iload hX eL_state_59 6 rfl ?_
  refine j_icmp_ge hX 85 eL_state_61 (by decide) (fun c1 => ?_) (fun c1 => ?_)
  · replace h := h.1 c1
    obtain ⟨v2, ev2⟩ : ∃ v2 : Int32, v2 = a4 + (1 : Int32) := ⟨_, rfl⟩
    replace h := h v2 ev2
    refine j_iinc (v := v2) (lv' := [(4, .int v2), (0, .ref a0), (1, .int a1), (2, .ref a2), (3, .int a3), (6, .ref a6), (7, .int a7), (8, .int a8)]) hX eL_state_85 4 rfl (by rw [ev2]; rfl) (by decide) rfl ?_
    refine j_goto hX 33 eL_state_88 (by decide) ?_
    exact j_sub [1, 2, 3, 4, 0] rfl (k33 _ _ _ _ _ _ _ _ h)
  · replace h := h.2 c1
    refine j_aload hX eL_state_64 5 rfl ?_
    refine j_iload hX eL_state_66 7 rfl ?_
    obtain ⟨t3, h⟩ := h
    obtain ⟨i4, h⟩ := h
    refine j_iald hX eL_state_68 t3 i4 ?_
    refine j_nmI (fun v5 ev5 => ?_)
    replace h := h v5 ev5
    refine j_istore (lv' := [(9, .int v5), (0, .ref a0), (1, .int a1), (2, .ref a2), (3, .int a3), (4, .int a4), (6, .ref a6), (7, .int a7), (8, .int a8)]) hX eL_state_69 (by decide) rfl ?_
    refine j_bipush (v := (31 : Int32)) hX eL_state_71 (by decide) ?_
    refine j_iload_n hX eL_state_73 2 rfl ?_
    refine j_imul hX eL_state_74 ?_
    refine j_iload hX eL_state_75 0 rfl ?_
    refine j_iadd hX eL_state_77 ?_
    refine j_nmI (fun v6 ev6 => ?_)
    replace h := h v6 ev6
    refine j_istore_n (lv' := [(1, .int v6), (9, .int v5), (0, .ref a0), (2, .ref a2), (3, .int a3), (4, .int a4), (6, .ref a6), (7, .int a7), (8, .int a8)]) hX eL_state_78 rfl (by decide) rfl ?_
    obtain ⟨v7, ev7⟩ : ∃ v7 : Int32, v7 = a8 + (1 : Int32) := ⟨_, rfl⟩
    replace h := h v7 ev7
    refine j_iinc (v := v7) (lv' := [(8, .int v7), (1, .int v6), (9, .int v5), (0, .ref a0), (2, .ref a2), (3, .int a3), (4, .int a4), (6, .ref a6), (7, .int a7)]) hX eL_state_79 8 rfl (by rw [ev7]; rfl) (by decide) rfl ?_
    refine j_goto hX 57 eL_state_82 (by decide) ?_
    exact j_sub [3, 1, 4, 5, 6, 7, 8, 0] rfl (k57 _ _ _ _ _ _ _ _ _ _ _ h)
set_option maxHeartbeats 4000000 in
set_option maxRecDepth 20000 in
theorem vL_state_129 {X : am_Cx} {G : am_Gx} {d : Nat} {Q : am_Q} (hX : am_ok X rL_state G (d + 1)) (hM : am_me X rL_state Q) {bc bs : Nat} (R99 : Nat → Int32 → Nat → am_Hp → Nat → Nat → Prop) (k99 : ∀ (x0 : Nat) (x1 : Int32) (x2 : Nat) (M : am_Hp) (bc bs : Nat), R99 x0 x1 x2 M bc bs → am_J X 99 [(0, .ref x0), (1, .int x1), (2, .ref x2)] [] M bc bs) (R129 : Nat → Int32 → Nat → Nat → Int32 → Int32 → am_Hp → Nat → Nat → Prop) (k129 : ∀ (x0 : Nat) (x1 : Int32) (x2 : Nat) (x4 : Nat) (x5 : Int32) (x6 : Int32) (M : am_Hp) (bc bs : Nat), R129 x0 x1 x2 x4 x5 x6 M bc bs → am_J X 129 [(0, .ref x0), (1, .int x1), (2, .ref x2), (4, .ref x4), (5, .int x5), (6, .int x6)] [] M bc bs) {a0 : Nat} {a1 : Int32} {a2 : Nat} {a4 : Nat} {a5 : Int32} {a6 : Int32} {M : am_Hp} (h : ((a5 ≤ a6) → (R99 a0 a1 a2 M bc bs)) ∧ (¬ (a5 ≤ a6) → (hp_T M (a4) = 22 ∧ (vp_in a6 (hp_N M a4) ∧ (∀ v4 : Int32, v4 = (hp_E M a4 (a6).toNatClampNeg) → (∀ v5 : Int32, v5 = (((31 : Int32) * a1) + v4) → (∀ v6 : Int32, v6 = a6 + (1 : Int32) → (R129 a0 v5 a2 a4 a5 v6 M bc bs)))))))) : am_J X 129 [(0, .ref a0), (1, .int a1), (2, .ref a2), (4, .ref a4), (5, .int a5), (6, .int a6)] [] M bc bs := by
  refine j_iload hX eL_state_129 5 rfl ?_
  refine j_iload hX eL_state_131 4 rfl ?_
  refine j_icmp_ge hX 157 eL_state_133 (by decide) (fun c1 => ?_) (fun c1 => ?_)
  · replace h := h.1 c1
    refine j_goto hX 99 eL_state_157 (by decide) ?_
    exact j_sub [0, 1, 2] rfl (k99 _ _ _ _ _ _ h)
  · replace h := h.2 c1
    refine j_aload hX eL_state_136 3 rfl ?_
    refine j_iload hX eL_state_138 5 rfl ?_
    obtain ⟨t2, h⟩ := h
    obtain ⟨i3, h⟩ := h
    refine j_iald hX eL_state_140 t2 i3 ?_
    refine j_nmI (fun v4 ev4 => ?_)
    replace h := h v4 ev4
    refine j_istore (lv' := [(7, .int v4), (0, .ref a0), (1, .int a1), (2, .ref a2), (4, .ref a4), (5, .int a5), (6, .int a6)]) hX eL_state_141 (by decide) rfl ?_
    refine j_bipush (v := (31 : Int32)) hX eL_state_143 (by decide) ?_
    refine j_iload_n hX eL_state_145 2 rfl ?_
    refine j_imul hX eL_state_146 ?_
    refine j_iload hX eL_state_147 0 rfl ?_
    refine j_iadd hX eL_state_149 ?_
    refine j_nmI (fun v5 ev5 => ?_)
    replace h := h v5 ev5
    refine j_istore_n (lv' := [(1, .int v5), (7, .int v4), (0, .ref a0), (2, .ref a2), (4, .ref a4), (5, .int a5), (6, .int a6)]) hX eL_state_150 rfl (by decide) rfl ?_
    obtain ⟨v6, ev6⟩ : ∃ v6 : Int32, v6 = a6 + (1 : Int32) := ⟨_, rfl⟩
    replace h := h v6 ev6
    refine j_iinc (v := v6) (lv' := [(6, .int v6), (1, .int v5), (7, .int v4), (0, .ref a0), (2, .ref a2), (4, .ref a4), (5, .int a5)]) hX eL_state_151 6 rfl (by rw [ev6]; rfl) (by decide) rfl ?_
    refine j_goto hX 129 eL_state_154 (by decide) ?_
    exact j_sub [3, 1, 4, 5, 6, 0] rfl (k129 _ _ _ _ _ _ _ _ _ h)

set_option maxHeartbeats 4000000 in
set_option maxRecDepth 20000 in
theorem vL_runs_0 {X : am_Cx} {G : am_Gx} {d : Nat} {Q : am_Q} (hX : am_ok X rL_runs G (d + 1)) (hM : am_me X rL_runs Q) {bc bs : Nat}  {a0 : Nat} {M : am_Hp} (h : hp_T M (a0) = 7 ∧ (1 ≤ bc ∧ (6 ≤ bs ∧ (am_CT G d rX6_runScript [.ref a0] M 1 6 (fun oz9 M1 => (∃ v2 : Int32, oz9 = .inl (some (.int v2)) ∧ (Q (.inl (some (.int v2))) M1)) ∨ ((oz9 = .inr "java/lang/IllegalArgumentException" ∧ ∀ p6 : Nat, Q (.inl (some (.int (-1 : Int32)))) M1)) ∨ ((oz9 = .inr "java/lang/IllegalStateException" ∧ ∀ p7 : Nat, Q (.inl (some (.int (-2 : Int32)))) M1))))))) : am_J X 0 [(0, .ref a0)] [] M bc bs := by
  refine j_aload_n hX eL_runs_0 0 rfl ?_
  obtain ⟨t3, h⟩ := h
  obtain ⟨b4, b5, h⟩ := h
  refine j_callV (a := a0) (q := (RX6, TX6, 9)) (r' := rX6_runScript) (As := []) (rest := []) (d1 := d) hX eL_runs_1 mm_LiftGroupLaw_192 rfl t3 (by decide) rfl h rfl (Nat.le_refl _) b4 b5 (Nat.le_of_ble_eq_true rfl) (fun vz9 Mz9 qz9 => ?_) (fun Ez9 Mz9 qz9 => ?_)
  · obtain ⟨M1, eMz9⟩ : ∃ M1, M1 = Mz9 := ⟨_, rfl⟩; subst eMz9
    rcases qz9 with ⟨v2, hxz9, h⟩ | ⟨hxz9, h⟩ | ⟨hxz9, h⟩ <;> cases hxz9
    exact j_iret hX hM eL_runs_4 rfl h
  · obtain ⟨M1, eMz9⟩ : ∃ M1, M1 = Mz9 := ⟨_, rfl⟩; subst eMz9
    rcases qz9 with ⟨v2, hxz9, h⟩ | ⟨hxz9, h⟩ | ⟨hxz9, h⟩ <;> cases hxz9
    · refine am_thIc (name := "java/lang/IllegalArgumentException") hX [] (0, 4, 5, 70) [(0, 4, 8, 66)] rfl (fun z hz => by cases hz) (by decide) (by decide) tw_1282 (am_castN_IllegalArgumentException) (fun p6 => ?_)
      replace h := h p6
      refine j_astore_n (lv' := [(1, .ref p6), (0, .ref a0)]) hX eL_runs_5 rfl (by decide) rfl ?_
      refine j_iconst (v := (-1 : Int32)) hX eL_runs_6 (by decide) ?_
      exact j_iret hX hM eL_runs_7 rfl h
    · refine am_thIc (name := "java/lang/IllegalStateException") hX [(0, 4, 5, 70)] (0, 4, 8, 66) [] rfl (fun z hz => by simp only [List.mem_cons, List.not_mem_nil, or_false] at hz; rcases hz with rfl; exact .inr ⟨by decide, _, tw_1282, by decide⟩) (by decide) (by decide) tw_1280 (am_castN_IllegalStateException) (fun p7 => ?_)
      replace h := h p7
      refine j_astore_n (lv' := [(1, .ref p7), (0, .ref a0)]) hX eL_runs_8 rfl (by decide) rfl ?_
      refine j_bipush (v := (-2 : Int32)) hX eL_runs_9 (by decide) ?_
      exact j_iret hX hM eL_runs_11 rfl h

set_option maxHeartbeats 4000000 in
set_option maxRecDepth 20000 in
theorem vL_fails_0 {X : am_Cx} {G : am_Gx} {d : Nat} {Q : am_Q} (hX : am_ok X rL_fails G (d + 1)) (hM : am_me X rL_fails Q) {bc bs : Nat}  {a0 : Nat} {a1 : Nat} {a2 : Int32} {M : am_Hp} (h : 30 ≤ bc ∧ (3000 ≤ bs ∧ (am_CT G d rL_put [.ref a0, .ref a1] M 30 3000 (fun oz9 M1 => (oz9 = .inl none ∧ (1 ≤ (bc - 30) ∧ (6 ≤ (bs - 3000) ∧ (am_CT G d rL_runs [.ref a0] M1 1 6 (fun oz9 M5 => ∃ v6 : Int32, oz9 = .inl (some (.int v6)) ∧ (((v6 = (-1 : Int32)) → (hp_T M5 (a0) = 7 ∧ (1 ≤ ((bc - 30) - 1) ∧ (6 ≤ ((bs - 3000) - 6) ∧ (am_CT G d rX6_errorPosition [.ref a0] M5 1 6 (fun oz9 M10 => (∃ v11 : Int32, oz9 = .inl (some (.int v11)) ∧ (((v11 = a2) → (Q (.inl (some (.int (1 : Int32)))) M10)) ∧ (¬ (v11 = a2) → (Q (.inl (some (.int (0 : Int32)))) M10)))) ∨ ((oz9 = .inr "java/util/NoSuchElementException" ∧ False)))))))) ∧ (¬ (v6 = (-1 : Int32)) → (Q (.inl (some (.int (0 : Int32)))) M5)))))))) ∨ ((oz9 = .inr "java/lang/IllegalArgumentException" ∧ False)) ∨ ((oz9 = .inr "java/lang/IllegalStateException" ∧ False)))))) : am_J X 0 [(0, .ref a0), (1, .ref a1), (2, .int a2)] [] M bc bs := by
  refine j_aload_n hX eL_fails_0 0 rfl ?_
  refine j_aload_n hX eL_fails_1 1 rfl ?_
  obtain ⟨b3, b4, h⟩ := h
  refine j_callS (r' := rL_put) (As := [.ref a0, .ref a1]) (rest := []) (d1 := d) hX eL_fails_2 mm_LiftGroupLaw_188 rfl rfl h rfl (Nat.le_refl _) b3 b4 (Nat.le_of_ble_eq_true rfl) (fun vz9 Mz9 qz9 => ?_) (fun Ez9 Mz9 qz9 => ?_)
  · obtain ⟨M1, eMz9⟩ : ∃ M1, M1 = Mz9 := ⟨_, rfl⟩; subst eMz9
    rcases qz9 with ⟨hxz9, h⟩ | ⟨hxz9, h⟩ | ⟨hxz9, h⟩ <;> cases hxz9
    refine j_aload_n hX eL_fails_5 0 rfl ?_
    obtain ⟨b7, b8, h⟩ := h
    refine j_callSX (r' := rL_runs) (As := [.ref a0]) (rest := []) (d1 := d) hX eL_fails_6 mm_LiftGroupLaw_200 (by decide) rfl h rfl (Nat.le_refl _) b7 b8 (Nat.le_of_ble_eq_true rfl) (fun vz9 Mz9 qz9 => ?_) (fun Ez9 Mz9 qz9 => ?_)
    · obtain ⟨M5, eMz9⟩ : ∃ M5, M5 = Mz9 := ⟨_, rfl⟩; subst eMz9
      obtain ⟨v6, hxz9, h⟩ := qz9
      cases hxz9
      refine j_iconst (v := (-1 : Int32)) hX eL_fails_9 (by decide) ?_
      refine j_icmp_ne hX 25 eL_fails_10 (by decide) (fun c9 => ?_) (fun c9 => ?_)
      · replace h := h.2 c9
        refine j_iconst (v := (0 : Int32)) hX eL_fails_25 (by decide) ?_
        exact j_zret hX hM eL_fails_26 rfl (by decide) h
      · replace h := h.1 c9
        refine j_aload_n hX eL_fails_13 0 rfl ?_
        obtain ⟨t12, h⟩ := h
        obtain ⟨b13, b14, h⟩ := h
        refine j_callV (a := a0) (q := (RX6, TX6, 9)) (r' := rX6_errorPosition) (As := []) (rest := []) (d1 := d) hX eL_fails_14 mm_LiftGroupLaw_297 rfl t12 (by decide) rfl h rfl (Nat.le_refl _) b13 b14 (Nat.le_of_ble_eq_true rfl) (fun vz9 Mz9 qz9 => ?_) (fun Ez9 Mz9 qz9 => ?_)
        · obtain ⟨M10, eMz9⟩ : ∃ M10, M10 = Mz9 := ⟨_, rfl⟩; subst eMz9
          rcases qz9 with ⟨v11, hxz9, h⟩ | ⟨hxz9, h⟩ <;> cases hxz9
          refine j_iload_n hX eL_fails_17 2 rfl ?_
          refine j_icmp_ne hX 25 eL_fails_18 (by decide) (fun c15 => ?_) (fun c15 => ?_)
          · replace h := h.2 c15
            refine j_iconst (v := (0 : Int32)) hX eL_fails_25 (by decide) ?_
            exact j_zret hX hM eL_fails_26 rfl (by decide) h
          · replace h := h.1 c15
            refine j_iconst (v := (1 : Int32)) hX eL_fails_21 (by decide) ?_
            refine j_goto hX 26 eL_fails_22 (by decide) ?_
            exact j_zret hX hM eL_fails_26 rfl (by decide) h
        · obtain ⟨M10, eMz9⟩ : ∃ M10, M10 = Mz9 := ⟨_, rfl⟩; subst eMz9
          rcases qz9 with ⟨v11, hxz9, h⟩ | ⟨hxz9, h⟩ <;> cases hxz9
          exact h.elim
    · obtain ⟨v6, hxz9, h⟩ := qz9
      cases hxz9
  · obtain ⟨M1, eMz9⟩ : ∃ M1, M1 = Mz9 := ⟨_, rfl⟩; subst eMz9
    rcases qz9 with ⟨hxz9, h⟩ | ⟨hxz9, h⟩ | ⟨hxz9, h⟩ <;> cases hxz9
    · exact h.elim
    · exact h.elim
