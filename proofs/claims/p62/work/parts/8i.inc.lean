/-! .. the constructors of the history and of the group -/
theorem bL_C {M : am_Hp} {C : Nat → Nat} (h : bL M C) {i : Nat} (hi : i < 22) : C i ≠ 0 := h.2.2.2.1 i hi
theorem ih_loop {X : am_Cx} {G : am_Gx} {d h E : Nat} {M : am_Hp} {Q : am_Q} (hX : am_ok X rX2_init G (d + 3)) (hM : am_me X rX2_init Q) (hh : hp_T M h = 3) (zE : E ≠ 0) (fE : hp_T M E = 0) (hQ : ∀ (M1 : am_Hp) (H : Nat → Nat → Nat), (hp_T M1 h = 3 ∧ hp_R M1 40 h = E ∧ hp_T M1 E = 25 ∧ hp_N M1 E = 8 ∧ hp_I M1 41 h = 0 ∧ hp_I M1 42 h = 0) → (∀ i, i < 8 → hp_Q M1 E i = H i 0 ∧ bL M1 (H i) ∧ bQ M1 (H i)) → (∀ i j, i < 8 → j < 8 → i ≠ j → ∀ a b, a < 22 → b < 22 → H i a ≠ H j b) → (∀ i x, i < 8 → x < 22 → hp_T M (H i x) = 0 ∧ H i x ≠ E) → fr (fun x => x = h) M M1 → Q (.inl none) M1) : ∀ (j k : Nat) (M1 : am_Hp) (H : Nat → Nat → Nat) (bc bs : Nat), k + j = 8 → 22 * j ≤ bc → 168 * j ≤ bs → (hp_T M1 h = 3 ∧ hp_R M1 40 h = E ∧ hp_T M1 E = 25 ∧ hp_N M1 E = 8 ∧ hp_I M1 41 h = 0 ∧ hp_I M1 42 h = 0) → (∀ i, i < k → hp_Q M1 E i = H i 0 ∧ bL M1 (H i) ∧ bQ M1 (H i)) → (∀ i j, i < k → j < k → i ≠ j → ∀ a b, a < 22 → b < 22 → H i a ≠ H j b) → (∀ i x, i < k → x < 22 → hp_T M (H i x) = 0 ∧ H i x ≠ E) → fr (fun x => x = h) M M1 → am_J X 25 [(0, .ref h), (1, .int (i3 k))] [] M1 bc bs := by
  intro j
  induction j with
  | zero =>
    intro k M1 H bc bs hk _ _ a1 a2 a3 a4 a5
    obtain rfl : k = 8 := by omega
    exact vX2_init_25 hX hM (fun x0 x1 M bc bs => am_J X 25 [(0, .ref x0), (1, .int x1)] [] M bc bs) (fun _ _ _ _ _ h => h) ⟨fun _ => hQ M1 H a1 a2 a3 a4 a5, fun z => absurd (by decide) z⟩
  | succ j ih =>
    intro k M1 H bc bs hk hbc hbs a1 a2 a3 a4 a5
    obtain ⟨th, r40, tE, nE, i41, i42⟩ := a1
    refine vX2_init_25 hX hM (fun x0 x1 M bc bs => am_J X 25 [(0, .ref x0), (1, .int x1)] [] M bc bs) (fun _ _ _ _ _ h => h) ⟨fun z => absurd ((i3_le (a := 8) (by omega) (by omega)).mp z) (by omega), fun _ => ⟨th, by rw [r40]; exact zE, fun p4 e4 => ⟨by omega, by omega, fun p hp zp M11 e11 => ⟨by omega, by omega, ?_⟩⟩⟩⟩
    rw [r40] at e4
    subst e4
    obtain ⟨o1, -, -⟩ := o_at M1 p 1
    rw [← e11] at o1
    refine am_CT.mono ?_ (i_X0 (d := d) o1 zp)
    rintro o M14 ⟨e, B, hB, fB, hR, f⟩
    have so : ∀ x, x ≠ p → sm M1 M11 x := fun x hx => by rw [e11]; exact sm_o hx
    have S1 : ∀ x, hp_T M1 x ≠ 0 → sm M1 M14 x := fun x x1 => by
      have xp := ne_fr x1 hp
      exact (so x xp).tr (f x (by rw [(so x xp).1]; exact x1) xp)
    have fr1 : ∀ x, x < 22 → hp_T M1 (B x) = 0 := fun x hx => by
      by_cases c : x = 0
      · rw [c, hB]; exact hp
      · have h1 := fB x (by omega) hx
        refine Classical.byContradiction (fun z => ?_)
        rw [(so _ (ne_fr z hp)).1] at h1
        exact z h1
    have tE0 : hp_T M1 p4 ≠ 0 := by rw [tE]; decide
    have th0 : hp_T M1 h ≠ 0 := by rw [th]; decide
    have sE := S1 p4 tE0
    have hE : h ≠ p4 := fun z => by rw [z, tE] at th; exact absurd th (by decide)
    refine ⟨e, sE.1.trans tE, by have := hR.1.1.1; rw [hB] at this; exact this, zp, by rw [sE.2.1, nE]; exact vp_in_i3 (by omega) (by omega), fun M22 e22 v25 e25 => ?_⟩
    rw [i3_toNat (by omega)] at e22
    rw [show i3 k + 1 = i3 (k + 1) from i3_one k] at e25
    subst e25
    have S2 : ∀ x, x ≠ p4 → sm M14 M22 x := fun x hx => by rw [e22]; exact sm_sQ hx
    have S3 : ∀ x, hp_T M1 x ≠ 0 → x ≠ p4 → sm M1 M22 x := fun x x1 x2 => (S1 x x1).tr (S2 x x2)
    have Q2 : hp_Q M22 p4 = va_up (hp_Q M14 p4) k p := by rw [e22]; exact hp_Q_sQ _ _ _ _
    have BE : ∀ x, x < 22 → B x ≠ p4 := fun x hx => (ne_fr tE0 (fr1 x hx)).symm
    have fM : ∀ x, x < 22 → hp_T M (B x) = 0 := fun x hx => Classical.byContradiction (fun z => by
      have h1 := fr1 x hx
      rw [(a5 (B x) z (fun y => ne_fr th0 h1 y.symm)).1] at h1
      exact z h1)
    have sh := S3 h th0 hE
    have eH : ∀ i, i < k → va_up H k B i = H i := fun i hi => if_neg (by omega)
    have eB : va_up H k B k = B := if_pos rfl
    refine ih (k + 1) M22 (va_up H k B) _ _ (by omega) (by omega) (by omega) ⟨sh.1.trans th, (sh.2.2.2.1 _).trans r40, by rw [e22]; exact sE.1.trans tE, by rw [e22]; exact sE.2.1.trans nE, (sh.2.2.1 _).trans i41, (sh.2.2.1 _).trans i42⟩ (fun i hi => ?_) (fun i i' hi hi' hne x y hx hy => ?_) (fun i x hi hx => ?_) (fun x x1 x2 => ?_)
    · by_cases c : i = k
      · rw [c, eB, Q2, up_e, hB]
        exact ⟨rfl, bL_sm (fun x hx => S2 _ (BE x hx)) hR.1, bQ_sm (fun x hx => S2 _ (BE x hx)) hR.2.1⟩
      · rw [eH i (by omega), Q2, up_n _ _ c, sE.2.2.2.2.2.1]
        obtain ⟨y1, y2, y3⟩ := a2 i (by omega)
        have sC : ∀ x, x < 22 → sm M1 M22 (H i x) := fun x hx => S3 _ (bL_T y2 hx) (a4 i x (by omega) hx).2
        exact ⟨y1, bL_sm sC y2, bQ_sm sC y3⟩
    · by_cases c : i = k
      · by_cases c' : i' = k
        · omega
        · rw [c, eB, eH i' (by omega)]
          exact (ne_fr (bL_T (a2 i' (by omega)).2.1 hy) (fr1 x hx)).symm
      · by_cases c' : i' = k
        · rw [c', eB, eH i (by omega)]
          exact ne_fr (bL_T (a2 i (by omega)).2.1 hx) (fr1 y hy)
        · rw [eH i (by omega), eH i' (by omega)]
          exact a3 i i' (by omega) (by omega) hne x y hx hy
    · by_cases c : i = k
      · rw [c, eB]; exact ⟨fM x hx, BE x hx⟩
      · rw [eH i (by omega)]; exact a4 i x (by omega) hx
    · have s1 := a5 x x1 x2
      exact s1.tr (S3 x (by rw [s1.1]; exact x1) (fun z => x1 (z ▸ fE)))
theorem i_X2 {G : am_Gx} {d h : Nat} {M : am_Hp} (hh : hp_T M h = 3) : am_CT G (d + 3) rX2_init [.ref h] M 177 1352 (fun o M' => o = .inl none ∧ ∃ (E : Nat) (H : Nat → Nat → Nat), hp_T M E = 0 ∧ (∀ i x, i < 8 → x < 22 → hp_T M (H i x) = 0) ∧ (∀ hist, yR 0 M' h E H 0 0 hist) ∧ fr (fun x => x = h) M M') := by
  refine am_intro mkX2_init rfl (Nat.le_of_ble_eq_true rfl) rfl (fun X hX hM => ?_)
  have hh0 : hp_T M h ≠ 0 := by rw [hh]; decide
  refine vX2_init_0 hX hM (fun x0 x1 M bc bs => am_J X 25 [(0, .ref x0), (1, .int x1)] [] M bc bs) (fun _ _ _ _ _ h => h) ⟨by decide, by decide, by omega, by decide, fun E fE zE M8 e8 => ⟨by rw [e8, (sm_a (ne_fr hh0 fE)).1]; exact hh, zE, fun M12 e12 M15 e15 M18 e18 => ?_⟩⟩
  rw [show ((8 : Int32)).toNatClampNeg = 8 by decide] at e8
  obtain ⟨x1, x2, x3, -, x5, -, -, x8⟩ := sx_arr e8 e12 hh0 fE
  have g : ∀ x, x ≠ h → sm M12 M18 x := fun x hx => by rw [e18, e15]; exact (sm_sI hx).tr (sm_sI hx)
  have hE : E ≠ h := (ne_fr hh0 fE).symm
  refine ih_loop (E := E) (M := M) (d := d) hX hM hh zE fE (fun M1 H b1 b2 b3 b4 b5 => ?_) 8 0 M18 (fun _ _ => 0) _ _ rfl (by decide) (by decide) ⟨by rw [e18, e15]; exact x1.trans hh, by rw [e18, e15]; exact x5, (g E hE).1.trans x2, (g E hE).2.1.trans x3, by rw [e18, hp_I_sIu _ _ _ _ (by decide), e15, hp_I_sI], by rw [e18, hp_I_sI]⟩ (fun i hi => absurd hi (Nat.not_lt_zero _)) (fun i j hi => absurd hi (Nat.not_lt_zero _)) (fun i x hi => absurd hi (Nat.not_lt_zero _)) (fun x x1' x2' => (x8 x x1' x2').tr (g x x2'))
  obtain ⟨th, r40, tE, nE, i41, i42⟩ := b1
  exact ⟨rfl, E, H, fE, fun i x hi hx => (b4 i x hi hx).1, fun hist => ⟨⟨th, r40, tE, nE, zE, i41, i42, by omega, by omega⟩, b2, b3, fun i a hi ha => ⟨fun z => by have := (b4 i a hi ha).1; rw [z] at this; exact hh0 this, (b4 i a hi ha).2⟩, hE.symm, fun j hj => absurd hj (Nat.not_lt_zero _)⟩, b5⟩
theorem st_obj {M M7 M9 M15 : am_Hp} {a p t u : Nat} (e7 : M7 = hp_o M p t) (f : fr (fun x => x = p) M7 M9) (e15 : M15 = hp_sR M9 u a p) (ha : hp_T M a ≠ 0) (hp : hp_T M p = 0) : hp_T M9 a = hp_T M a ∧ hp_T M15 a = hp_T M a ∧ hp_R M15 u a = p ∧ (∀ v, v ≠ u → hp_R M15 v a = hp_R M v a) ∧ (∀ v, hp_I M15 v a = hp_I M v a) ∧ (∀ x, hp_T M x ≠ 0 → x ≠ a → sm M M15 x) ∧ (∀ x, x ≠ a → sm M9 M15 x) ∧ ∀ x, hp_T M7 x = 0 → hp_T M x = 0 := by
  have so : ∀ x, x ≠ p → sm M M7 x := fun x hx => by rw [e7]; exact sm_o hx
  have S1 : ∀ x, hp_T M x ≠ 0 → sm M M9 x := fun x x1 => by
    have xp := ne_fr x1 hp
    exact (so x xp).tr (f x (by rw [(so x xp).1]; exact x1) xp)
  have sa := S1 a ha
  subst e15
  exact ⟨sa.1, sa.1, R_at _ _ _ _, fun v hv => (R_ne hv).trans (sa.2.2.2.1 v), sa.2.2.1, fun x x1 x2 => (S1 x x1).tr (sm_sR x2), fun x hx => sm_sR hx, fun x x1 => Classical.byContradiction (fun z => by rw [(so x (ne_fr z hp)).1] at x1; exact z x1)⟩
/-- the class's places -/
def cS (a h E : Nat) (L : Nat → Nat → Nat) (sc st ks rs so : Nat) (x : Nat) : Prop := x = a ∨ x = h ∨ x = E ∨ (∃ i j, i < 11 ∧ j < 22 ∧ x = L i j) ∨ x = sc ∨ x = st ∨ x = ks ∨ (∃ j, j ≤ 13 ∧ x = rs + j) ∨ x = so
/-- .. and what makes them apart -/
def cJ (a h E : Nat) (L : Nat → Nat → Nat) (sc st ks rs so : Nat) : Prop := gJ a h E L ∧ (∀ i j, i < 11 → j < 22 → L i j ≠ ks ∧ ∀ k, k ≤ 13 → L i j ≠ rs + k) ∧ (∀ k, k ≤ 13 → ks ≠ rs + k) ∧ st ≠ so ∧ st ≠ 0 ∧ so ≠ 0 ∧ sc ≠ 0
/-- the class's state -/
def cL (T : Nat) (M : am_Hp) (a h E n c : Nat) (L : Nat → Nat → Nat) (g sn : md_R) (hist : Nat → md_R) (sc st b1 m1 ks rs so b2 m2 : Nat) (tx ou : List Nat) (e1 e2 : Int32) : Prop := gL T M a h E n c L g sn hist ∧ (hp_R M 124 a = sc ∧ hp_R M 125 a = so ∧ hp_I M 127 a = e1 ∧ hp_I M 128 a = e2) ∧ scR M sc st ks rs ∧ sT M st b1 m1 tx ∧ sT M so b2 m2 ou ∧ b1 ≠ b2
theorem i_X6 {G : am_Gx} {d a : Nat} {M : am_Hp} (hz : cz G) (ta : hp_T M a = 7) : am_CT G (d + 4) rX6_init [.ref a] M 264 1969 (fun o M' => o = .inl none ∧ ∃ (h E : Nat) (L : Nat → Nat → Nat) (sc st b1 ks rs so b2 : Nat), cJ a h E L sc st ks rs so ∧ (∀ sn hist, cL 0 M' a h E 0 0 L md_g0 sn hist sc st b1 16 ks rs so b2 16 [] [] (-1) (-1)) ∧ (∀ x, cS a h E L sc st ks rs so x → x ≠ a → hp_T M x = 0) ∧ hp_T M b1 = 0 ∧ hp_T M b2 = 0 ∧ fr (fun x => x = a) M M') := by
  refine am_intro mkX6_init rfl (Nat.le_of_ble_eq_true rfl) rfl (fun X hX hM => ?_)
  have a0 : hp_T M a ≠ 0 := by rw [ta]; decide
  refine vX6_init_0 hX hM ⟨by omega, by omega, fun p1 hp1 zp1 M7 e7 => ⟨by omega, by omega, am_CT.mono ?_ (i_X0 (d := d + 1) (by rw [e7]; exact (o_at M p1 1).1) zp1)⟩⟩
  rintro o M9 ⟨e, B1, hB1, fB1, hR1, f1⟩
  refine ⟨e, ?_⟩
  clear e o
  have t9 := (st_obj (u := 120) e7 f1 rfl a0 hp1).1
  refine ⟨t9.trans ta, zp1, fun N1 eN1 => ?_⟩
  obtain ⟨-, A1, R1, R1', I1, S1, U1, F1⟩ := st_obj e7 f1 eN1 a0 hp1
  have a1 : hp_T N1 a ≠ 0 := by rw [A1]; exact a0
  have fr1 : ∀ x, x < 22 → hp_T M (B1 x) = 0 := fun x hx => by
    by_cases c : x = 0
    · rw [c, hB1]; exact hp1
    · exact F1 _ (fB1 x (by omega) hx)
  refine ⟨by omega, by omega, fun p2 hp2 zp2 M23 e23 => ⟨by omega, by omega, am_CT.mono ?_ (i_X0 (d := d + 1) (by rw [e23]; exact (o_at N1 p2 1).1) zp2)⟩⟩
  rintro o M26 ⟨e, B2, hB2, fB2, hR2, f2⟩
  refine ⟨e, ?_⟩
  clear e o
  have t26 := (st_obj (u := 121) e23 f2 rfl a1 hp2).1
  refine ⟨t26.trans (A1.trans ta), zp2, fun N2 eN2 => ?_⟩
  obtain ⟨-, A2, R2, R2', I2, S2, U2, F2⟩ := st_obj e23 f2 eN2 a1 hp2
  have a2 : hp_T N2 a ≠ 0 := by rw [A2]; exact a1
  have fr2 : ∀ x, x < 22 → hp_T N1 (B2 x) = 0 := fun x hx => by
    by_cases c : x = 0
    · rw [c, hB2]; exact hp2
    · exact F2 _ (fB2 x (by omega) hx)
  refine ⟨by omega, by omega, fun p3 hp3 zp3 M40 e40 => ⟨by omega, by omega, am_CT.mono ?_ (i_X0 (d := d + 1) (by rw [e40]; exact (o_at N2 p3 1).1) zp3)⟩⟩
  rintro o M43 ⟨e, B3, hB3, fB3, hR3, f3⟩
  refine ⟨e, ?_⟩
  clear e o
  have t43 := (st_obj (u := 122) e40 f3 rfl a2 hp3).1
  refine ⟨t43.trans (A2.trans (A1.trans ta)), zp3, fun N3 eN3 => ?_⟩
  obtain ⟨-, A3, R3, R3', I3, S3, U3, F3⟩ := st_obj e40 f3 eN3 a2 hp3
  have a3 : hp_T N3 a ≠ 0 := by rw [A3]; exact a2
  have fr3 : ∀ x, x < 22 → hp_T N2 (B3 x) = 0 := fun x hx => by
    by_cases c : x = 0
    · rw [c, hB3]; exact hp3
    · exact F3 _ (fB3 x (by omega) hx)
  refine ⟨by omega, by omega, fun h hh zh M57 e57 => ⟨by omega, by omega, am_CT.mono ?_ (i_X2 (d := d) (by rw [e57]; exact (o_at N3 h 3).1))⟩⟩
  rintro o M60 ⟨e, E, H, fE, fH, hY, f4⟩
  refine ⟨e, ?_⟩
  clear e o
  have t60 := (st_obj (u := 123) e57 f4 rfl a3 hh).1
  refine ⟨t60.trans (A3.trans (A2.trans (A1.trans ta))), zh, fun N4 eN4 => ?_⟩
  obtain ⟨-, A4, R4, R4', I4, S4, U4, F4⟩ := st_obj e57 f4 eN4 a3 hh
  have a4 : hp_T N4 a ≠ 0 := by rw [A4]; exact a3
  have fE3 := F4 _ fE
  have fH3 : ∀ i x, i < 8 → x < 22 → hp_T N3 (H i x) = 0 := fun i x hi hx => F4 _ (fH i x hi hx)
  refine ⟨by omega, by omega, fun sc hsc zsc M74 e74 => ⟨by omega, by omega, am_CT.mono ?_ (i_X4 (d := d) hz (by rw [e74]; exact (o_at N4 sc 5).1))⟩⟩
  rintro o M77 ⟨e, st, b1, ks, rs, fst, fb1, fks, frs, dkr, hSc, hT1, f5⟩
  refine ⟨e, ?_⟩
  clear e o
  have t77 := (st_obj (u := 124) e74 f5 rfl a4 hsc).1
  refine ⟨t77.trans (A4.trans (A3.trans (A2.trans (A1.trans ta)))), zsc, fun N5 eN5 => ?_⟩
  obtain ⟨-, A5, R5, R5', I5, S5, U5, F5⟩ := st_obj e74 f5 eN5 a4 hsc
  have a5 : hp_T N5 a ≠ 0 := by rw [A5]; exact a4
  have gst := F5 _ fst
  have gb1 := F5 _ fb1
  have gks := F5 _ fks
  have grs : ∀ j, j ≤ 13 → hp_T N4 (rs + j) = 0 := fun j hj => F5 _ (frs j hj)
  refine ⟨by omega, by omega, fun so hso zso M91 e91 => ⟨by omega, by omega, am_CT.mono ?_ (i_J4 (d := d + 1) hz (by rw [e91]; exact (o_at N5 so 9).1) (by rw [e91]; exact (o_at N5 so 9).2.1 163))⟩⟩
  rintro o M94 ⟨e, b2, fb2, hT2, f6⟩
  refine ⟨e, ?_⟩
  clear e o
  have t94 := (st_obj (u := 125) e91 f6 rfl a5 hso).1
  have tN5 : hp_T N5 a = 7 := A5.trans (A4.trans (A3.trans (A2.trans (A1.trans ta))))
  refine ⟨t94.trans tN5, zso, fun N6 eN6 => ?_⟩
  obtain ⟨-, A6, R6, R6', I6, S6, U6, F6⟩ := st_obj e91 f6 eN6 a5 hso
  have gb2 := F6 _ fb2
  refine ⟨Or.inl rfl, fun M103 e103 M105 e105 N7 e107 => ?_⟩
  have U7 : ∀ x, x ≠ a → sm N6 N7 x := fun x hx => by rw [e107, e105, e103]; exact ((sm_sI hx).tr (sm_sI hx)).tr (sm_sI hx)
  have R7 : hp_R N7 = hp_R N6 ∧ hp_T N7 = hp_T N6 := by rw [e107, e105, e103]; exact ⟨rfl, rfl⟩
  -- from each stage to the end
  have G6 : ∀ x, hp_T N5 x ≠ 0 → x ≠ a → sm N5 N7 x := fun x x1 x2 => (S6 x x1 x2).tr (U7 x x2)
  have G5 : ∀ x, hp_T N4 x ≠ 0 → x ≠ a → sm N4 N7 x := fun x x1 x2 => (S5 x x1 x2).tr (G6 x (by rw [(S5 x x1 x2).1]; exact x1) x2)
  have G4 : ∀ x, hp_T N3 x ≠ 0 → x ≠ a → sm N3 N7 x := fun x x1 x2 => (S4 x x1 x2).tr (G5 x (by rw [(S4 x x1 x2).1]; exact x1) x2)
  have G3 : ∀ x, hp_T N2 x ≠ 0 → x ≠ a → sm N2 N7 x := fun x x1 x2 => (S3 x x1 x2).tr (G4 x (by rw [(S3 x x1 x2).1]; exact x1) x2)
  have G2 : ∀ x, hp_T N1 x ≠ 0 → x ≠ a → sm N1 N7 x := fun x x1 x2 => (S2 x x1 x2).tr (G3 x (by rw [(S2 x x1 x2).1]; exact x1) x2)
  have G1 : ∀ x, hp_T M x ≠ 0 → x ≠ a → sm M N7 x := fun x x1 x2 => (S1 x x1 x2).tr (G2 x (by rw [(S1 x x1 x2).1]; exact x1) x2)
  -- what is fresh late was fresh early
  have D : ∀ {A B : am_Hp} {x : Nat}, (∀ y, hp_T A y ≠ 0 → y ≠ a → sm A B y) → hp_T A a ≠ 0 → hp_T B a = hp_T A a → hp_T B x = 0 → hp_T A x = 0 := fun {A B x} hS hA hBA hx => Classical.byContradiction (fun z => by
    by_cases c : x = a
    · rw [c, hBA] at hx; exact hA hx
    · rw [(hS x z c).1] at hx; exact z hx)
  have D1 : ∀ {x}, hp_T N1 x = 0 → hp_T M x = 0 := fun hx => D S1 a0 A1 hx
  have D2 : ∀ {x}, hp_T N2 x = 0 → hp_T N1 x = 0 := fun hx => D S2 a1 A2 hx
  have D3 : ∀ {x}, hp_T N3 x = 0 → hp_T N2 x = 0 := fun hx => D S3 a2 A3 hx
  have D4 : ∀ {x}, hp_T N4 x = 0 → hp_T N3 x = 0 := fun hx => D S4 a3 A4 hx
  have D5 : ∀ {x}, hp_T N5 x = 0 → hp_T N4 x = 0 := fun hx => D S5 a4 A5 hx
  -- the buildings at their stages
  have na1 : ∀ x, x < 22 → B1 x ≠ a := fun x hx => (ne_fr a0 (fr1 x hx)).symm
  have na2 : ∀ x, x < 22 → B2 x ≠ a := fun x hx => (ne_fr a1 (fr2 x hx)).symm
  have na3 : ∀ x, x < 22 → B3 x ≠ a := fun x hx => (ne_fr a2 (fr3 x hx)).symm
  have na4 : ∀ i x, i < 8 → x < 22 → H i x ≠ a := fun i x hi hx => (ne_fr a3 (fH3 i x hi hx)).symm
  have ha : h ≠ a := (ne_fr a3 hh).symm
  have Ea : E ≠ a := (ne_fr a3 fE3).symm
  have ok0 : md_ok md_g0 := md_wf_ok md_wf_g0
  have b1N := bR_sm (fun x hx => U1 _ (na1 x hx)) ok0 hR1
  have b2N := bR_sm (fun x hx => U2 _ (na2 x hx)) ok0 hR2
  have b3N := bR_sm (fun x hx => U3 _ (na3 x hx)) ok0 hR3
  have yN : ∀ hist, yR 0 N4 h E H 0 0 hist := fun hist => yR_sm (U4 h ha) (U4 E Ea) (fun i j hi hj => U4 _ (na4 i j hi hj)) (hY hist)
  have tH : hp_T N4 h ≠ 0 := by rw [(yN (fun _ => md_g0)).1.1]; decide
  have tE4 : hp_T N4 E ≠ 0 := by rw [(yN (fun _ => md_g0)).1.2.2.1]; decide
  have lH : ∀ i, i < 8 → bL N4 (H i) := fun i hi => ((yN (fun _ => md_g0)).2.1 i hi).2.1
  have sca : sc ≠ a := (ne_fr a4 hsc).symm
  have sta : st ≠ a := (ne_fr a4 gst).symm
  have b1a : b1 ≠ a := (ne_fr a4 gb1).symm
  have ksa : ks ≠ a := (ne_fr a4 gks).symm
  have rsa : ∀ j, j ≤ 13 → rs + j ≠ a := fun j hj => (ne_fr a4 (grs j hj)).symm
  have scN : scR N5 sc st ks rs := scR_sm (U5 sc sca) (U5 ks ksa) (U5 rs (rsa 0 (by omega))) (fun j hj => by rw [Nat.add_assoc]; exact U5 _ (rsa (1 + j) (by omega))) hSc
  have T1N : sT N5 st b1 16 [] := sT_sm (U5 st sta) (U5 b1 b1a) hT1
  have soa : so ≠ a := (ne_fr a5 hso).symm
  have b2a : b2 ≠ a := (ne_fr a5 gb2).symm
  have T2N : sT N6 so b2 16 [] := sT_sm (U6 so soa) (U6 b2 b2a) hT2
  have w1 : ∀ x, x < 22 → hp_T N1 (B1 x) ≠ 0 := fun x hx => bL_T b1N.1 hx
  have w1' : ∀ x, x < 22 → hp_T N2 (B1 x) ≠ 0 := fun x hx => by rw [(S2 _ (w1 x hx) (na1 x hx)).1]; exact w1 x hx
  have w1'' : ∀ x, x < 22 → hp_T N3 (B1 x) ≠ 0 := fun x hx => by rw [(S3 _ (w1' x hx) (na1 x hx)).1]; exact w1' x hx
  have w2 : ∀ x, x < 22 → hp_T N2 (B2 x) ≠ 0 := fun x hx => bL_T b2N.1 hx
  have w2' : ∀ x, x < 22 → hp_T N3 (B2 x) ≠ 0 := fun x hx => by rw [(S3 _ (w2 x hx) (na2 x hx)).1]; exact w2 x hx
  have w3 : ∀ x, x < 22 → hp_T N3 (B3 x) ≠ 0 := fun x hx => bL_T b3N.1 hx
  have v : ∀ {y}, hp_T N3 y ≠ 0 → y ≠ a → hp_T N4 y ≠ 0 := fun {y} h1 h2 => by rw [(S4 y h1 h2).1]; exact h1
  have L8 : ∀ i x, i < 11 → x < 22 → hp_T N4 ((fun i => if i < 8 then H i else if i = 8 then B1 else if i = 9 then B2 else B3) i x) ≠ 0 := fun i x hi hx => by
    dsimp only
    split
    · exact bL_T (lH i (by omega)) hx
    · split
      · exact v (w1'' x hx) (na1 x hx)
      · split
        · exact v (w2' x hx) (na2 x hx)
        · exact v (w3 x hx) (na3 x hx)
  have L0 : ∀ i x, i < 11 → x < 22 → hp_T M ((fun i => if i < 8 then H i else if i = 8 then B1 else if i = 9 then B2 else B3) i x) = 0 := fun i x hi hx => by
    dsimp only
    split
    · exact D1 (D2 (D3 (fH3 i x (by omega) hx)))
    · split
      · exact fr1 x hx
      · split
        · exact D1 (fr2 x hx)
        · exact D1 (D2 (fr3 x hx))
  have gj : gJ a h E (fun i => if i < 8 then H i else if i = 8 then B1 else if i = 9 then B2 else B3) := by
    refine ⟨fun i j hi hj hne x y hx hy => ?_, fun i x hi hx => ⟨fun z => ?_, fun z => ?_, fun z => ?_⟩, ha.symm, Ea.symm, (yN (fun _ => md_g0)).2.2.2.2.1, zh⟩
    · have p12 : ∀ x y, x < 22 → y < 22 → B1 x ≠ B2 y := fun x y hx hy => ne_fr (w1 x hx) (fr2 y hy)
      have p13 : ∀ x y, x < 22 → y < 22 → B1 x ≠ B3 y := fun x y hx hy => ne_fr (w1' x hx) (fr3 y hy)
      have p23 : ∀ x y, x < 22 → y < 22 → B2 x ≠ B3 y := fun x y hx hy => ne_fr (w2 x hx) (fr3 y hy)
      have p1H : ∀ i x y, i < 8 → x < 22 → y < 22 → B1 x ≠ H i y := fun i x y hi hx hy => ne_fr (w1'' x hx) (fH3 i y hi hy)
      have p2H : ∀ i x y, i < 8 → x < 22 → y < 22 → B2 x ≠ H i y := fun i x y hi hx hy => ne_fr (w2' x hx) (fH3 i y hi hy)
      have p3H : ∀ i x y, i < 8 → x < 22 → y < 22 → B3 x ≠ H i y := fun i x y hi hx hy => ne_fr (w3 x hx) (fH3 i y hi hy)
      by_cases i8 : i < 8
      · by_cases j8 : j < 8
        · dsimp only; rw [if_pos i8, if_pos j8]; exact (yN (fun _ => md_g0)).2.2.1 i j i8 j8 hne x y hx hy
        · rcases (by omega : j = 8 ∨ j = 9 ∨ j = 10) with rfl | rfl | rfl
          · dsimp only; rw [if_pos i8]; exact (p1H i y x i8 hy hx).symm
          · dsimp only; rw [if_pos i8]; exact (p2H i y x i8 hy hx).symm
          · dsimp only; rw [if_pos i8]; exact (p3H i y x i8 hy hx).symm
      · by_cases j8 : j < 8
        · rcases (by omega : i = 8 ∨ i = 9 ∨ i = 10) with rfl | rfl | rfl
          · dsimp only; rw [if_pos j8]; exact p1H j x y j8 hx hy
          · dsimp only; rw [if_pos j8]; exact p2H j x y j8 hx hy
          · dsimp only; rw [if_pos j8]; exact p3H j x y j8 hx hy
        · rcases (by omega : i = 8 ∨ i = 9 ∨ i = 10) with rfl | rfl | rfl <;> rcases (by omega : j = 8 ∨ j = 9 ∨ j = 10) with rfl | rfl | rfl
          · exact absurd rfl hne
          · exact p12 x y hx hy
          · exact p13 x y hx hy
          · exact (p12 y x hy hx).symm
          · exact absurd rfl hne
          · exact p23 x y hx hy
          · exact (p13 y x hy hx).symm
          · exact (p23 y x hy hx).symm
          · exact absurd rfl hne
    · have := L0 i x hi hx
      rw [z] at this; exact a0 this
    · by_cases i8 : i < 8
      · dsimp only at z; rw [if_pos i8] at z; exact ((yN (fun _ => md_g0)).2.2.2.1 i x i8 hx).1 z
      · rcases (by omega : i = 8 ∨ i = 9 ∨ i = 10) with rfl | rfl | rfl
        · exact ne_fr (w1'' x hx) hh z
        · exact ne_fr (w2' x hx) hh z
        · exact ne_fr (w3 x hx) hh z
    · by_cases i8 : i < 8
      · dsimp only at z; rw [if_pos i8] at z; exact ((yN (fun _ => md_g0)).2.2.2.1 i x i8 hx).2 z
      · rcases (by omega : i = 8 ∨ i = 9 ∨ i = 10) with rfl | rfl | rfl
        · exact ne_fr (w1'' x hx) fE3 z
        · exact ne_fr (w2' x hx) fE3 z
        · exact ne_fr (w3 x hx) fE3 z
  refine ⟨rfl, h, E, fun i => if i < 8 then H i else if i = 8 then B1 else if i = 9 then B2 else B3, sc, st, b1, ks, rs, so, b2, ⟨gj, fun i j hi hj => ⟨ne_fr (L8 i j hi hj) gks, fun k hk => ne_fr (L8 i j hi hj) (grs k hk)⟩, dkr, ne_fr (by rw [T1N.1.1]; decide) hso, scN.2.2.2.2.1, zso, zsc⟩, fun sn hist => ⟨⟨?_, ⟨?_, ?_, ?_, ?_⟩, ⟨?_, md_wf_g0⟩, ⟨?_, ?_⟩, ⟨?_, ?_⟩, ?_, .inl ?_⟩, ⟨?_, ?_, ?_, ?_⟩, ?_, ?_, ?_, ?_⟩, fun x hx xa => ?_, ?_, ?_, fun x x1 x2 => G1 x x1 x2⟩
  · rw [R7.2, A6]; exact tN5
  · rw [R7.1, R6' _ (by decide), R5' _ (by decide), R4' _ (by decide), R3' _ (by decide), R2' _ (by decide), R1]; exact hB1.symm
  · rw [R7.1, R6' _ (by decide), R5' _ (by decide), R4' _ (by decide), R3' _ (by decide), R2]; exact hB2.symm
  · rw [R7.1, R6' _ (by decide), R5' _ (by decide), R4' _ (by decide), R3]; exact hB3.symm
  · rw [R7.1, R6' _ (by decide), R5' _ (by decide), R4]
  · exact bR_sm (fun x hx => G2 _ (w1 x hx) (na1 x hx)) ok0 b1N
  · exact bL_sm (fun x hx => G3 _ (w2 x hx) (na2 x hx)) b2N.1
  · exact bQ_sm (fun x hx => G3 _ (w2 x hx) (na2 x hx)) b2N.2.1
  · exact bL_sm (fun x hx => G4 _ (w3 x hx) (na3 x hx)) b3N.1
  · exact bQ_sm (fun x hx => G4 _ (w3 x hx) (na3 x hx)) b3N.2.1
  · have y9 := yR_sm (G5 h tH ha) (G5 E tE4 Ea) (fun i j hi hj => G5 _ (bL_T (lH i hi) hj) (na4 i j hi hj)) (yN hist)
    have eL : ∀ i, i < 8 → (fun i => if i < 8 then H i else if i = 8 then B1 else if i = 9 then B2 else B3) i = H i := fun i hi => if_pos hi
    obtain ⟨q1, q2, q3, q4, q5, q6⟩ := y9
    refine ⟨q1, fun i hi => by rw [eL i hi]; exact q2 i hi, fun i j hi hj hne x y hx hy => by rw [eL i hi, eL j hj]; exact q3 i j hi hj hne x y hx hy, fun i x hi hx => by rw [eL i hi]; exact q4 i x hi hx, q5, fun j hj => absurd hj (Nat.not_lt_zero _)⟩
  · rw [e107, hp_I_sIu _ _ _ _ (by decide), e105, hp_I_sIu _ _ _ _ (by decide), e103, hp_I_sI]; rfl
  · rw [R7.1, R6' _ (by decide), R5]
  · rw [R7.1, R6]
  · rw [e107, hp_I_sIu _ _ _ _ (by decide), e105, hp_I_sI]
  · rw [e107, hp_I_sI]
  · exact scR_sm (G6 sc (by rw [scN.1]; decide) sca) (G6 ks (by rw [scN.2.2.2.2.2.2.2.1]; decide) ksa) (G6 rs (by rw [scN.2.2.2.2.2.2.2.2.2.1]; decide) (rsa 0 (by omega))) (fun j hj => G6 _ (by rw [(scN.2.2.2.2.2.2.2.2.2.2.2 j hj).2.1]; decide) (by rw [Nat.add_assoc]; exact rsa (1 + j) (by omega))) scN
  · exact sT_sm (G6 st (by rw [T1N.1.1]; decide) sta) (G6 b1 (by rw [T1N.1.2.2.2.1]; decide) b1a) T1N
  · exact sT_sm (U7 so soa) (U7 b2 b2a) T2N
  · exact ne_fr (by rw [T1N.1.2.2.2.1]; decide) gb2
  · rcases hx with z | z | z | ⟨i, j, hi, hj, z⟩ | z | z | z | ⟨j, hj, z⟩ | z
    · exact absurd z xa
    · rw [z]; exact D1 (D2 (D3 hh))
    · rw [z]; exact D1 (D2 (D3 fE3))
    · rw [z]; exact L0 i j hi hj
    · rw [z]; exact D1 (D2 (D3 (D4 hsc)))
    · rw [z]; exact D1 (D2 (D3 (D4 gst)))
    · rw [z]; exact D1 (D2 (D3 (D4 gks)))
    · rw [z]; exact D1 (D2 (D3 (D4 (grs j hj))))
    · rw [z]; exact D1 (D2 (D3 (D4 (D5 hso))))
  · exact D1 (D2 (D3 (D4 gb1)))
  · exact D1 (D2 (D3 (D4 (D5 gb2))))
