/-! .. what the reference writes (made by gen/mk/mk8j.py) -/
/-- the reference's letters hold l -/
def wT (M : am_Hp) (A : Nat → Nat) (l : List Nat) : Prop := hp_I M 152 (A 0) = i3 l.length ∧ l.length ≤ 60 ∧ ∀ i, i < l.length → l.getD i 0 < 128 ∧ hp_E M (A 7) i = i3 (l.getD i 0)
def wF (M M' : am_Hp) (A : Nat → Nat) : Prop := ∃ f v, M' = hp_sI (hp_sA M (A 7) f) 152 (A 0) v
def wN (M M' : am_Hp) (A : Nat → Nat) (l : List Nat) : Prop := wT M' A l ∧ wF M M' A
theorem wF.tr {M M1 M2 : am_Hp} {A : Nat → Nat} (h : wF M M1 A) (k : wF M1 M2 A) : wF M M2 A := by
  obtain ⟨f, v, rfl⟩ := h
  obtain ⟨f2, v2, rfl⟩ := k
  exact ⟨f2, v2, by rw [hp_sA_sI, hp_sA_sA, hp_sI_sI]⟩
theorem wN.tr {M M1 M2 : am_Hp} {A : Nat → Nat} {l l' : List Nat} (h : wN M M1 A l) (k : wN M1 M2 A l') : wN M M2 A l' := ⟨k.1, h.2.tr k.2⟩
theorem wN_f {M M1 : am_Hp} {A : Nat → Nat} {l : List Nat} (h : mL M A) (w : wN M M1 A l) : mL M1 A ∧ hp_E M1 (A 1) = hp_E M (A 1) ∧ hp_T M1 (A 0) = 8 ∧ hp_R M1 140 (A 0) = A 1 ∧ hp_T M1 (A 1) = 22 ∧ hp_N M1 (A 1) = 141 ∧ hp_I M1 152 (A 0) = i3 l.length := by
  obtain ⟨w1, f, v, rfl⟩ := w
  have h1 : mL (hp_sI (hp_sA M (A 7) f) 152 (A 0) v) A := h
  have h2 := h1
  obtain ⟨t0, r1, r2, r3, r4, r5, r6, r7, r8, t1, t2, t3, t4, t5, t6, t7, t8, n1, n2, n3, n4, n5, n6, n7, n8, z1, z2, z3, z4, z5, z6, z7, z8, hJ⟩ := h2
  exact ⟨h1, mL_E (i := 7) (j := 1) h (by omega) (by omega) (by omega), t0, r1, t1, n1, w1.1⟩
theorem ch16 {c : Nat} (h : c < 128) : (((i3 c).toUInt32 % 65536).toInt32) = i3 c := by
  have : ∀ k : Fin 128, (((i3 k.1).toUInt32 % 65536).toInt32) = i3 k.1 := by decide +kernel
  exact this ⟨c, h⟩
theorem narc {c : Nat} (h : c < 128) : vp_nar .char (i3 c) = i3 c := by
  have : ∀ k : Fin 128, vp_nar .char (i3 k.1) = i3 k.1 := by decide +kernel
  exact this ⟨c, h⟩
theorem c_writes {G : am_Gx} {d c : Nat} {M : am_Hp} {A : Nat → Nat} {l : List Nat} (h : mL M A) (hw : wT M A l) (hc : c < 128) (hl : l.length < 60) : am_CT G (d + 1) rX7_writes [.ref (A 0), .int (i3 c)] M 0 0 (fun o M' => o = .inl none ∧ wN M M' A (l ++ [c])) := by
  obtain ⟨e1, e2, e3⟩ := hw
  obtain ⟨t0, r1, r2, r3, r4, r5, r6, r7, r8, t1, t2, t3, t4, t5, t6, t7, t8, n1, n2, n3, n4, n5, n6, n7, n8, z1, z2, z3, z4, z5, z6, z7, z8, hJ⟩ := h
  refine am_intro mkX7_writes rfl (Nat.le_of_ble_eq_true rfl) rfl (fun X hX hM => ?_)
  refine vX7_writes_0 hX hM ?_
  simp only [forall_eq]
  rw [r7, e1, n7, ch16 hc, i3_toNat (by omega), hp_sE_sA]
  refine ⟨t0, z7, t7, vp_in_i3 hl (by omega), narc hc, by trivial, ⟨?_, ?_, fun i hi => ?_⟩, _, _, rfl⟩
  · rw [hp_I_sI, hp_I_sA, e1, i3_one, List.length_append]
    rfl
  · rw [List.length_append]
    exact hl
  · rw [List.length_append] at hi
    simp only [List.length_singleton] at hi
    rw [hp_E_sI, hp_E_sA]
    by_cases c1 : i < l.length
    · rw [getD_l c1, up_n _ _ (by omega)]
      exact e3 i c1
    · obtain rfl : i = l.length := by omega
      have := getD_r (l := l) (ds := [c]) (j := 0)
      rw [Nat.add_zero] at this
      rw [this, up_e]
      exact ⟨hc, rfl⟩
theorem n_writes {G : am_Gx} {d c : Nat} {M M1 : am_Hp} {A : Nat → Nat} {l : List Nat} (h : mL M A) (hw : wN M M1 A l) (hc : c < 128) (hl : l.length < 60) : am_CT G (d + 1) rX7_writes [.ref (A 0), .int (i3 c)] M1 0 0 (fun o M' => o = .inl none ∧ wN M M' A (l ++ [c])) := by
  refine am_CT.mono ?_ (c_writes (wN_f h hw).1 hw.1 hc hl)
  rintro o M' ⟨e, k⟩
  exact ⟨e, hw.tr k⟩
theorem w_dig {k u : Nat} (hk : k < 1000) (hu : 0 < u) (hu2 : u ≤ 100) : (48 : Int32) + ((i3 k / i3 u) - (i3 k / i3 u) / (10 : Int32) * (10 : Int32)) = i3 (48 + k / u % 10) := by
  have h1 : k / u ≤ k := Nat.div_le_self _ _
  rw [i3_div (by omega) (by omega)]
  have h2 := i3_mod (a := k / u) (b := 10) (by omega) (by omega)
  rw [show ((10 : Int32)) = i3 10 from rfl, h2]
  exact i3_add 48 _
theorem w_1 {X : am_Cx} {G : am_Gx} {d k : Nat} {M M1 : am_Hp} {A : Nat → Nat} {l : List Nat} {Q : am_Q} (hX : am_ok X rX7_writesNumber G (d + 2)) (hM : am_me X rX7_writesNumber Q) (h : mL M A) (hk : k < 1000) (hw : wN M M1 A l) (hl : l.length < 60) (hQ : ∀ M2, wN M M2 A (l ++ [48 + k % 10]) → Q (.inl none) M2) : am_J X 21 [(0, .ref (A 0)), (1, .int (i3 k)), (2, .int (1 : Int32))] [] M1 0 0 := by
  refine vX7_writesNumber_21 hX hM (fun x0 x1 x2 M => am_J X 21 [(0, .ref x0), (1, .int x1), (2, .int x2)] [] M 0 0) (fun _ _ _ _ h => h) ⟨fun z => absurd z (by decide), fun _ => ⟨by decide, (wN_f h hw).2.2.1, ?_⟩⟩
  have e := w_dig (u := 1) hk (by omega) (by omega)
  rw [Nat.div_one] at e
  rw [show (1 : Int32) = i3 1 from rfl, e]
  refine am_CT.mono ?_ (n_writes h hw (by omega) hl)
  rintro o M2 ⟨e2, k2⟩
  refine ⟨e2, fun v6 e6 => ?_⟩
  subst e6
  exact vX7_writesNumber_21 hX hM (fun x0 x1 x2 M => am_J X 21 [(0, .ref x0), (1, .int x1), (2, .int x2)] [] M 0 0) (fun _ _ _ _ h => h) ⟨fun _ => hQ M2 k2, fun z => absurd (by decide) z⟩
theorem w_10 {X : am_Cx} {G : am_Gx} {d k : Nat} {M M1 : am_Hp} {A : Nat → Nat} {l : List Nat} {Q : am_Q} (hX : am_ok X rX7_writesNumber G (d + 2)) (hM : am_me X rX7_writesNumber Q) (h : mL M A) (hk : k < 1000) (hw : wN M M1 A l) (hl : l.length + 1 < 60) (hQ : ∀ M2, wN M M2 A (l ++ [48 + k / 10 % 10] ++ [48 + k % 10]) → Q (.inl none) M2) : am_J X 21 [(0, .ref (A 0)), (1, .int (i3 k)), (2, .int (10 : Int32))] [] M1 0 0 := by
  refine vX7_writesNumber_21 hX hM (fun x0 x1 x2 M => am_J X 21 [(0, .ref x0), (1, .int x1), (2, .int x2)] [] M 0 0) (fun _ _ _ _ h => h) ⟨fun z => absurd z (by decide), fun _ => ⟨by decide, (wN_f h hw).2.2.1, ?_⟩⟩
  have e := w_dig (u := 10) hk (by omega) (by omega)
  rw [show i3 k / (10 : Int32) = i3 k / i3 10 from rfl, e]
  refine am_CT.mono ?_ (n_writes h hw (by omega) (by omega))
  rintro o M2 ⟨e2, k2⟩
  refine ⟨e2, fun v6 e6 => ?_⟩
  subst e6
  exact w_1 hX hM h hk k2 (by rw [List.length_append]; exact hl) hQ
theorem w_100 {X : am_Cx} {G : am_Gx} {d k : Nat} {M M1 : am_Hp} {A : Nat → Nat} {l : List Nat} {Q : am_Q} (hX : am_ok X rX7_writesNumber G (d + 2)) (hM : am_me X rX7_writesNumber Q) (h : mL M A) (hk : k < 1000) (hw : wN M M1 A l) (hl : l.length + 2 < 60) (hQ : ∀ M2, wN M M2 A (l ++ [48 + k / 100 % 10] ++ [48 + k / 10 % 10] ++ [48 + k % 10]) → Q (.inl none) M2) : am_J X 21 [(0, .ref (A 0)), (1, .int (i3 k)), (2, .int (100 : Int32))] [] M1 0 0 := by
  refine vX7_writesNumber_21 hX hM (fun x0 x1 x2 M => am_J X 21 [(0, .ref x0), (1, .int x1), (2, .int x2)] [] M 0 0) (fun _ _ _ _ h => h) ⟨fun z => absurd z (by decide), fun _ => ⟨by decide, (wN_f h hw).2.2.1, ?_⟩⟩
  have e := w_dig (u := 100) hk (by omega) (by omega)
  rw [show i3 k / (100 : Int32) = i3 k / i3 100 from rfl, e]
  refine am_CT.mono ?_ (n_writes h hw (by omega) (by omega))
  rintro o M2 ⟨e2, k2⟩
  refine ⟨e2, fun v6 e6 => ?_⟩
  subst e6
  exact w_10 hX hM h hk k2 (by rw [List.length_append]; exact hl) hQ
theorem n_writesNumber {G : am_Gx} {d k : Nat} {M M1 : am_Hp} {A : Nat → Nat} {l : List Nat} (h : mL M A) (hw : wN M M1 A l) (hk : k < 1000) (hl : l.length + (dg k).length ≤ 60) : am_CT G (d + 2) rX7_writesNumber [.ref (A 0), .int (i3 k)] M1 0 0 (fun o M' => o = .inl none ∧ wN M M' A (l ++ dg k)) := by
  rw [dg_len] at hl
  refine am_intro mkX7_writesNumber rfl (Nat.le_of_ble_eq_true rfl) rfl (fun X hX hM => ?_)
  refine vX7_writesNumber_0 hX hM (fun x0 x1 x2 M => am_J X 3 [(0, .ref x0), (1, .int x1), (2, .int x2)] [] M 0 0) (fun _ _ _ _ h => h) ?_
  refine vX7_writesNumber_3 hX hM (fun x0 x1 x2 M => am_J X 3 [(0, .ref x0), (1, .int x1), (2, .int x2)] [] M 0 0) (fun _ _ _ _ h => h) (fun x0 x1 x2 M => am_J X 21 [(0, .ref x0), (1, .int x1), (2, .int x2)] [] M 0 0) (fun _ _ _ _ h => h) ⟨fun z => absurd z (by decide), fun _ => ⟨fun z => ?_, fun z => ?_⟩⟩
  · have z1 := (i3_le (a := 100) (by omega) (by omega)).mp z
    rw [if_neg (by omega), if_neg (by omega)] at hl
    refine w_100 hX hM h hk hw (by omega) (fun M2 h2 => ⟨rfl, ?_⟩)
    rw [dg, if_neg (by omega), if_neg (by omega), ← Nat.mod_eq_of_lt (show k / 100 < 10 by omega)]
    rw [List.append_assoc, List.append_assoc] at h2
    exact h2
  · have z1 : k < 100 := Nat.lt_of_not_le (fun y => z ((i3_le (a := 100) (by omega) (by omega)).mpr y))
    intro v3 e3
    subst e3
    refine vX7_writesNumber_3 hX hM (fun x0 x1 x2 M => am_J X 3 [(0, .ref x0), (1, .int x1), (2, .int x2)] [] M 0 0) (fun _ _ _ _ h => h) (fun x0 x1 x2 M => am_J X 21 [(0, .ref x0), (1, .int x1), (2, .int x2)] [] M 0 0) (fun _ _ _ _ h => h) ⟨fun z => absurd z (by decide), fun _ => ⟨fun z => ?_, fun z => ?_⟩⟩
    · have z2 := (i3_le (a := 10) (by omega) (by omega)).mp z
      rw [if_neg (by omega), if_pos z1] at hl
      refine w_10 hX hM h hk hw (by omega) (fun M2 h2 => ⟨rfl, ?_⟩)
      rw [dg, if_neg (by omega), if_pos z1, ← Nat.mod_eq_of_lt (show k / 10 < 10 by omega)]
      rw [List.append_assoc] at h2
      exact h2
    · have z2 : k < 10 := Nat.lt_of_not_le (fun y => z ((i3_le (a := 10) (by omega) (by omega)).mpr y))
      rw [if_pos z2] at hl
      intro v3 e3
      subst e3
      refine vX7_writesNumber_3 hX hM (fun x0 x1 x2 M => am_J X 3 [(0, .ref x0), (1, .int x1), (2, .int x2)] [] M 0 0) (fun _ _ _ _ h => h) (fun x0 x1 x2 M => am_J X 21 [(0, .ref x0), (1, .int x1), (2, .int x2)] [] M 0 0) (fun _ _ _ _ h => h) ⟨fun _ => ?_, fun z => absurd (by decide) z⟩
      refine w_1 hX hM h hk hw (by omega) (fun M2 h2 => ⟨rfl, ?_⟩)
      rw [dg, if_pos z2]
      rw [Nat.mod_eq_of_lt z2] at h2
      exact h2
theorem ct_wn {G : am_Gx} {d : Nat} {r : am_Rec} {as : List Value} {M M1 : am_Hp} {A : Nat → Nat} {l : List Nat} {P : am_Hp → Prop} (h : am_CT G d r as M1 0 0 (fun o M' => o = .inl none ∧ wN M M' A l)) (k : ∀ M2, wN M M2 A l → P M2) : am_CT G d r as M1 0 0 (fun o M2 => o = .inl none ∧ P M2) :=
  am_CT.mono (fun _ M' h => ⟨h.1, k M' h.2⟩) h
theorem wN_0 {M : am_Hp} {A : Nat → Nat} : wN M (hp_sI M 152 (A 0) 0) A [] := ⟨⟨hp_I_sI _ _ _ _, Nat.zero_le _, fun i hi => absurd hi (Nat.not_lt_zero _)⟩, hp_E M (A 7), 0, by rw [hp_sA_id]⟩
/-- after a rendering: the text l stands, nothing was thrown -/
def wR (M M' : am_Hp) (A : Nat → Nat) (l : List Nat) : Prop := ∃ M1, wN M M1 A l ∧ M' = hp_sI M1 153 (A 0) (i3 0)
theorem c_renderCar {G : am_Gx} {d T : Nat} {M : am_Hp} {A : Nat → Nat} {g : md_R} {v : Int32} (h : mL M A) (hg : hp_E M (A 1) = g) (hw : md_wf T g) : am_CT G (d + 3) rX7_renderCar [.ref (A 0), .int v] M 0 0 (fun o M' => (md_ic v = false ∧ o = .inl (some (.int (i3 0))) ∧ M' = hp_sI M 153 (A 0) (i3 1)) ∨ (∃ c, c < 3 ∧ v = i3 c ∧ o = .inl (some (.int (i3 (tx_car g c).length))) ∧ wR M M' A (tx_car g c))) := by
  have ok := md_wf_ok hw
  have h12 := ok.2
  refine am_intro mkX7_renderCar rfl (Nat.le_of_ble_eq_true rfl) rfl (fun X hX hM => ?_)
  refine vX7_renderCar_0 hX hM (ct_i c_isCar ⟨fun z => ⟨h.1, ?_⟩, fun z => ?_⟩)
  · exact ct_i (c_fails h) (.inl ⟨(bI_0 _).mp z, rfl, rfl⟩)
  · have c1 : md_ic v = true := Bool.not_eq_false _ |>.mp (fun y => z ((bI_0 _).mpr y))
    obtain ⟨c, hc, rfl⟩ := md_ic_iff.mp c1
    obtain ⟨⟨f, hf, ef⟩, hdir, ⟨kk, -, hk9, -, hld⟩, ⟨dq, hdq, eq⟩, hout, -⟩ := hw.2.1 c hc
    have hcn := md_cN_le g c
    have L1 := dg_le3 c
    have L2 := dg_le3 f
    have L3 := dg_le3 (md_cN g c)
    have L4 := dg_le3 (md_lN g c)
    have z1 : A 1 ≠ 0 := h.2.2.2.2.2.2.2.2.2.2.2.2.2.2.2.2.2.2.2.2.2.2.2.2.2.1
    have i9 : (9 : Int32) + i3 c = i3 (9 + c) := i3_add 9 c
    have i12 : (12 : Int32) + i3 c = i3 (12 + c) := i3_add 12 c
    have i18 : (18 : Int32) + i3 c = i3 (18 + c) := i3_add 18 c
    have i21 : (21 : Int32) + i3 c = i3 (21 + c) := i3_add 21 c
    rw [i9, i12, i18, i21]
    simp only [forall_eq]
    have h1 := wN_0 (M := M) (A := A)
    refine ⟨h.1, ct_wn (n_writesNumber h h1 (by omega) (by simp; omega)) (fun M2 h2 => ?_)⟩
    obtain ⟨y1, y2, y3, y4, y5, y6, y7⟩ := wN_f h h2
    refine ⟨y3, ct_wn (n_writes (c := 64) h h2 (by omega) (by simp; omega)) (fun M3 h3 => ?_)⟩
    obtain ⟨y1, y2, y3, y4, y5, y6, y7⟩ := wN_f h h3
    rw [y4, y6, y2, hg, i3_toNat (by omega), ef]
    refine ⟨y3, z1, y5, vp_in_i3 (by omega) (by omega), ct_wn (n_writesNumber h h3 (by omega) (by simp; omega)) (fun M4 h4 => ?_)⟩
    obtain ⟨y1, y2, y3, y4, y5, y6, y7⟩ := wN_f h h4
    rw [y4, y6, y2, hg, i3_toNat (by omega)]
    refine ⟨y3, z1, y5, vp_in_i3 (by omega) (by omega), fun a1 => ⟨z1, y5, vp_in_i3 (by omega) (by omega), fun a2 => ?_, fun a2 => ?_⟩, fun a1 => ?_⟩
    · have hd0 : g (12 + c) = 0 := Int32.le_antisymm a1 a2
      have hn1 : ¬ g (12 + c) = 1 := by rw [hd0]; decide
      have hn2 : ¬ g (12 + c) = -1 := by rw [hd0]; decide
      have hdc : (if g (12 + c) = 1 then 94 else if g (12 + c) = -1 then 118 else 45) = 45 := by rw [if_neg hn1, if_neg hn2]
      refine ct_wn (n_writes (c := 45) h h4 (by omega) (by simp; omega)) (fun M5 h5 => ?_)
      obtain ⟨y1, y2, y3, y4, y5, y6, y7⟩ := wN_f h h5
      refine ⟨y3, ct_i (c_inside y1 (y2.trans hg) ok) ⟨y3, ?_⟩⟩
      rw [md_is_N]
      refine ct_wn (n_writesNumber h h5 (by omega) (by simp; omega)) (fun M6 h6 => ?_)
      obtain ⟨y1, y2, y3, y4, y5, y6, y7⟩ := wN_f h h6
      refine ⟨y3, ct_wn (n_writes (c := 47) h h6 (by omega) (by simp; omega)) (fun M7 h7 => ?_)⟩
      obtain ⟨y1, y2, y3, y4, y5, y6, y7⟩ := wN_f h h7
      refine ⟨y3, ct_i (c_loadOf y1 (y2.trans hg) ok) ⟨y3, ?_⟩⟩
      rw [md_ld_N hw.2.2.1]
      refine ct_wn (n_writesNumber h h7 (by omega) (by simp; omega)) (fun M8 h8 => ?_)
      obtain ⟨y1, y2, y3, y4, y5, y6, y7⟩ := wN_f h h8
      rw [y4, y6, y2, hg, i3_toNat (by omega)]
      refine ⟨y3, z1, y5, vp_in_i3 (by omega) (by omega), fun b1 => ?_, fun b1 => ?_⟩
      · refine ct_wn (n_writes (c := 124) h h8 (by omega) (by simp; omega)) (fun M9 h9 => ?_)
        obtain ⟨y1, y2, y3, y4, y5, y6, y7⟩ := wN_f h h9
        rw [y4, y6, y2, hg, i3_toNat (by omega)]
        refine ⟨y3, z1, y5, vp_in_i3 (by omega) (by omega), fun c2 => ?_, fun c2 => ?_⟩
        · have w2 : ¬ g (21 + c) = 0 := by rw [c2]; decide
          have et : tx_car g c = [] ++ dg c ++ [64] ++ dg f ++ [45] ++ dg (md_cN g c) ++ [47] ++ dg (md_lN g c) ++ [124] ++ [120] := by
            unfold tx_car
            dsimp only
            rw [if_neg w2, ef, i3_toNat (by omega), hdc, if_pos b1]
          refine ct_wn (n_writes (c := 120) h h9 (by omega) (by simp; omega)) (fun M10 h10 => ?_)
          obtain ⟨y1, y2, y3, y4, y5, y6, y7⟩ := wN_f h h10
          rw [y7]
          exact ⟨y3, ct_i (c_done y1) (.inr ⟨c, hc, rfl, by rw [et], M10, by rw [et]; exact h10, rfl⟩)⟩
        · have w2 : g (21 + c) = 0 := hout.resolve_right c2
          have et : tx_car g c = [] ++ dg c ++ [64] ++ dg f ++ [45] ++ dg (md_cN g c) ++ [47] ++ dg (md_lN g c) ++ [124] := by
            unfold tx_car
            dsimp only
            rw [if_pos w2, ef, i3_toNat (by omega), hdc, if_pos b1]
          rw [y7]
          exact ct_i (c_done y1) (.inr ⟨c, hc, rfl, by rw [et], M9, by rw [et]; exact h9, rfl⟩)
      · refine ct_wn (n_writes (c := 111) h h8 (by omega) (by simp; omega)) (fun M9 h9 => ?_)
        obtain ⟨y1, y2, y3, y4, y5, y6, y7⟩ := wN_f h h9
        rw [y4, y6, y2, hg, i3_toNat (by omega)]
        refine ⟨y3, z1, y5, vp_in_i3 (by omega) (by omega), fun c2 => ?_, fun c2 => ?_⟩
        · have w2 : ¬ g (21 + c) = 0 := by rw [c2]; decide
          have et : tx_car g c = [] ++ dg c ++ [64] ++ dg f ++ [45] ++ dg (md_cN g c) ++ [47] ++ dg (md_lN g c) ++ [111] ++ [120] := by
            unfold tx_car
            dsimp only
            rw [if_neg w2, ef, i3_toNat (by omega), hdc, if_neg b1]
          refine ct_wn (n_writes (c := 120) h h9 (by omega) (by simp; omega)) (fun M10 h10 => ?_)
          obtain ⟨y1, y2, y3, y4, y5, y6, y7⟩ := wN_f h h10
          rw [y7]
          exact ⟨y3, ct_i (c_done y1) (.inr ⟨c, hc, rfl, by rw [et], M10, by rw [et]; exact h10, rfl⟩)⟩
        · have w2 : g (21 + c) = 0 := hout.resolve_right c2
          have et : tx_car g c = [] ++ dg c ++ [64] ++ dg f ++ [45] ++ dg (md_cN g c) ++ [47] ++ dg (md_lN g c) ++ [111] := by
            unfold tx_car
            dsimp only
            rw [if_pos w2, ef, i3_toNat (by omega), hdc, if_neg b1]
          rw [y7]
          exact ct_i (c_done y1) (.inr ⟨c, hc, rfl, by rw [et], M9, by rw [et]; exact h9, rfl⟩)
    · have hdm : g (12 + c) = -1 := by
        rcases hdir with z | z | z
        · rw [z] at a2; exact absurd (by decide) a2
        · rw [z] at a2; exact absurd (by decide) a2
        · exact z
      have hn1 : ¬ g (12 + c) = 1 := by rw [hdm]; decide
      have hdc : (if g (12 + c) = 1 then 94 else if g (12 + c) = -1 then 118 else 45) = 118 := by rw [if_neg hn1, if_pos hdm]
      refine ct_wn (n_writes (c := 118) h h4 (by omega) (by simp; omega)) (fun M5 h5 => ?_)
      obtain ⟨y1, y2, y3, y4, y5, y6, y7⟩ := wN_f h h5
      refine ⟨y3, ct_i (c_inside y1 (y2.trans hg) ok) ⟨y3, ?_⟩⟩
      rw [md_is_N]
      refine ct_wn (n_writesNumber h h5 (by omega) (by simp; omega)) (fun M6 h6 => ?_)
      obtain ⟨y1, y2, y3, y4, y5, y6, y7⟩ := wN_f h h6
      refine ⟨y3, ct_wn (n_writes (c := 47) h h6 (by omega) (by simp; omega)) (fun M7 h7 => ?_)⟩
      obtain ⟨y1, y2, y3, y4, y5, y6, y7⟩ := wN_f h h7
      refine ⟨y3, ct_i (c_loadOf y1 (y2.trans hg) ok) ⟨y3, ?_⟩⟩
      rw [md_ld_N hw.2.2.1]
      refine ct_wn (n_writesNumber h h7 (by omega) (by simp; omega)) (fun M8 h8 => ?_)
      obtain ⟨y1, y2, y3, y4, y5, y6, y7⟩ := wN_f h h8
      rw [y4, y6, y2, hg, i3_toNat (by omega)]
      refine ⟨y3, z1, y5, vp_in_i3 (by omega) (by omega), fun b1 => ?_, fun b1 => ?_⟩
      · refine ct_wn (n_writes (c := 124) h h8 (by omega) (by simp; omega)) (fun M9 h9 => ?_)
        obtain ⟨y1, y2, y3, y4, y5, y6, y7⟩ := wN_f h h9
        rw [y4, y6, y2, hg, i3_toNat (by omega)]
        refine ⟨y3, z1, y5, vp_in_i3 (by omega) (by omega), fun c2 => ?_, fun c2 => ?_⟩
        · have w2 : ¬ g (21 + c) = 0 := by rw [c2]; decide
          have et : tx_car g c = [] ++ dg c ++ [64] ++ dg f ++ [118] ++ dg (md_cN g c) ++ [47] ++ dg (md_lN g c) ++ [124] ++ [120] := by
            unfold tx_car
            dsimp only
            rw [if_neg w2, ef, i3_toNat (by omega), hdc, if_pos b1]
          refine ct_wn (n_writes (c := 120) h h9 (by omega) (by simp; omega)) (fun M10 h10 => ?_)
          obtain ⟨y1, y2, y3, y4, y5, y6, y7⟩ := wN_f h h10
          rw [y7]
          exact ⟨y3, ct_i (c_done y1) (.inr ⟨c, hc, rfl, by rw [et], M10, by rw [et]; exact h10, rfl⟩)⟩
        · have w2 : g (21 + c) = 0 := hout.resolve_right c2
          have et : tx_car g c = [] ++ dg c ++ [64] ++ dg f ++ [118] ++ dg (md_cN g c) ++ [47] ++ dg (md_lN g c) ++ [124] := by
            unfold tx_car
            dsimp only
            rw [if_pos w2, ef, i3_toNat (by omega), hdc, if_pos b1]
          rw [y7]
          exact ct_i (c_done y1) (.inr ⟨c, hc, rfl, by rw [et], M9, by rw [et]; exact h9, rfl⟩)
      · refine ct_wn (n_writes (c := 111) h h8 (by omega) (by simp; omega)) (fun M9 h9 => ?_)
        obtain ⟨y1, y2, y3, y4, y5, y6, y7⟩ := wN_f h h9
        rw [y4, y6, y2, hg, i3_toNat (by omega)]
        refine ⟨y3, z1, y5, vp_in_i3 (by omega) (by omega), fun c2 => ?_, fun c2 => ?_⟩
        · have w2 : ¬ g (21 + c) = 0 := by rw [c2]; decide
          have et : tx_car g c = [] ++ dg c ++ [64] ++ dg f ++ [118] ++ dg (md_cN g c) ++ [47] ++ dg (md_lN g c) ++ [111] ++ [120] := by
            unfold tx_car
            dsimp only
            rw [if_neg w2, ef, i3_toNat (by omega), hdc, if_neg b1]
          refine ct_wn (n_writes (c := 120) h h9 (by omega) (by simp; omega)) (fun M10 h10 => ?_)
          obtain ⟨y1, y2, y3, y4, y5, y6, y7⟩ := wN_f h h10
          rw [y7]
          exact ⟨y3, ct_i (c_done y1) (.inr ⟨c, hc, rfl, by rw [et], M10, by rw [et]; exact h10, rfl⟩)⟩
        · have w2 : g (21 + c) = 0 := hout.resolve_right c2
          have et : tx_car g c = [] ++ dg c ++ [64] ++ dg f ++ [118] ++ dg (md_cN g c) ++ [47] ++ dg (md_lN g c) ++ [111] := by
            unfold tx_car
            dsimp only
            rw [if_pos w2, ef, i3_toNat (by omega), hdc, if_neg b1]
          rw [y7]
          exact ct_i (c_done y1) (.inr ⟨c, hc, rfl, by rw [et], M9, by rw [et]; exact h9, rfl⟩)
    · have hd1 : g (12 + c) = 1 := by
        rcases hdir with z | z | z
        · rw [z] at a1; exact absurd (by decide) a1
        · exact z
        · rw [z] at a1; exact absurd (by decide) a1
      have hdc : (if g (12 + c) = 1 then 94 else if g (12 + c) = -1 then 118 else 45) = 94 := by rw [if_pos hd1]
      refine ct_wn (n_writes (c := 94) h h4 (by omega) (by simp; omega)) (fun M5 h5 => ?_)
      obtain ⟨y1, y2, y3, y4, y5, y6, y7⟩ := wN_f h h5
      refine ⟨y3, ct_i (c_inside y1 (y2.trans hg) ok) ⟨y3, ?_⟩⟩
      rw [md_is_N]
      refine ct_wn (n_writesNumber h h5 (by omega) (by simp; omega)) (fun M6 h6 => ?_)
      obtain ⟨y1, y2, y3, y4, y5, y6, y7⟩ := wN_f h h6
      refine ⟨y3, ct_wn (n_writes (c := 47) h h6 (by omega) (by simp; omega)) (fun M7 h7 => ?_)⟩
      obtain ⟨y1, y2, y3, y4, y5, y6, y7⟩ := wN_f h h7
      refine ⟨y3, ct_i (c_loadOf y1 (y2.trans hg) ok) ⟨y3, ?_⟩⟩
      rw [md_ld_N hw.2.2.1]
      refine ct_wn (n_writesNumber h h7 (by omega) (by simp; omega)) (fun M8 h8 => ?_)
      obtain ⟨y1, y2, y3, y4, y5, y6, y7⟩ := wN_f h h8
      rw [y4, y6, y2, hg, i3_toNat (by omega)]
      refine ⟨y3, z1, y5, vp_in_i3 (by omega) (by omega), fun b1 => ?_, fun b1 => ?_⟩
      · refine ct_wn (n_writes (c := 124) h h8 (by omega) (by simp; omega)) (fun M9 h9 => ?_)
        obtain ⟨y1, y2, y3, y4, y5, y6, y7⟩ := wN_f h h9
        rw [y4, y6, y2, hg, i3_toNat (by omega)]
        refine ⟨y3, z1, y5, vp_in_i3 (by omega) (by omega), fun c2 => ?_, fun c2 => ?_⟩
        · have w2 : ¬ g (21 + c) = 0 := by rw [c2]; decide
          have et : tx_car g c = [] ++ dg c ++ [64] ++ dg f ++ [94] ++ dg (md_cN g c) ++ [47] ++ dg (md_lN g c) ++ [124] ++ [120] := by
            unfold tx_car
            dsimp only
            rw [if_neg w2, ef, i3_toNat (by omega), hdc, if_pos b1]
          refine ct_wn (n_writes (c := 120) h h9 (by omega) (by simp; omega)) (fun M10 h10 => ?_)
          obtain ⟨y1, y2, y3, y4, y5, y6, y7⟩ := wN_f h h10
          rw [y7]
          exact ⟨y3, ct_i (c_done y1) (.inr ⟨c, hc, rfl, by rw [et], M10, by rw [et]; exact h10, rfl⟩)⟩
        · have w2 : g (21 + c) = 0 := hout.resolve_right c2
          have et : tx_car g c = [] ++ dg c ++ [64] ++ dg f ++ [94] ++ dg (md_cN g c) ++ [47] ++ dg (md_lN g c) ++ [124] := by
            unfold tx_car
            dsimp only
            rw [if_pos w2, ef, i3_toNat (by omega), hdc, if_pos b1]
          rw [y7]
          exact ct_i (c_done y1) (.inr ⟨c, hc, rfl, by rw [et], M9, by rw [et]; exact h9, rfl⟩)
      · refine ct_wn (n_writes (c := 111) h h8 (by omega) (by simp; omega)) (fun M9 h9 => ?_)
        obtain ⟨y1, y2, y3, y4, y5, y6, y7⟩ := wN_f h h9
        rw [y4, y6, y2, hg, i3_toNat (by omega)]
        refine ⟨y3, z1, y5, vp_in_i3 (by omega) (by omega), fun c2 => ?_, fun c2 => ?_⟩
        · have w2 : ¬ g (21 + c) = 0 := by rw [c2]; decide
          have et : tx_car g c = [] ++ dg c ++ [64] ++ dg f ++ [94] ++ dg (md_cN g c) ++ [47] ++ dg (md_lN g c) ++ [111] ++ [120] := by
            unfold tx_car
            dsimp only
            rw [if_neg w2, ef, i3_toNat (by omega), hdc, if_neg b1]
          refine ct_wn (n_writes (c := 120) h h9 (by omega) (by simp; omega)) (fun M10 h10 => ?_)
          obtain ⟨y1, y2, y3, y4, y5, y6, y7⟩ := wN_f h h10
          rw [y7]
          exact ⟨y3, ct_i (c_done y1) (.inr ⟨c, hc, rfl, by rw [et], M10, by rw [et]; exact h10, rfl⟩)⟩
        · have w2 : g (21 + c) = 0 := hout.resolve_right c2
          have et : tx_car g c = [] ++ dg c ++ [64] ++ dg f ++ [94] ++ dg (md_cN g c) ++ [47] ++ dg (md_lN g c) ++ [111] := by
            unfold tx_car
            dsimp only
            rw [if_pos w2, ef, i3_toNat (by omega), hdc, if_neg b1]
          rw [y7]
          exact ct_i (c_done y1) (.inr ⟨c, hc, rfl, by rw [et], M9, by rw [et]; exact h9, rfl⟩)
theorem m_floors {X : am_Cx} {G : am_Gx} {d : Nat} {M : am_Hp} {A : Nat → Nat} {g : md_R} {Q : am_Q} (hX : am_ok X rX7_renderFloors G (d + 3)) (hM : am_me X rX7_renderFloors Q) (h : mL M A) (hg : hp_E M (A 1) = g) (ok : md_ok g) (hQ : ∀ M1, wN M M1 A (tx_flo g 10) → Q (.inl (some (.int (i3 (tx_flo g 10).length)))) (hp_sI M1 153 (A 0) (i3 0))) : ∀ j k M1, k + j = 10 → wN M M1 A (tx_flo g k) → am_J X 7 [(0, .ref (A 0)), (1, .int (i3 k))] [] M1 0 0 := by
  have h12 := ok.2
  intro j
  induction j with
  | zero =>
    intro k M1 hk h1
    obtain rfl : k = 10 := by omega
    obtain ⟨y1, y2, y3, y4, y5, y6, y7⟩ := wN_f h h1
    refine vX7_renderFloors_7 hX hM (fun x0 x1 M => am_J X 7 [(0, .ref x0), (1, .int x1)] [] M 0 0) (fun _ _ _ h => h) ⟨fun _ => ⟨y3, ?_⟩, fun z => absurd (by decide) z⟩
    rw [y7]
    exact ct_i (c_done y1) (hQ M1 h1)
  | succ j ih =>
    intro k M1 hk h1
    obtain ⟨y1, y2, y3, y4, y5, y6, y7⟩ := wN_f h h1
    have hw := md_wN_le g k
    have hlen := tx_flo_len ok k
    have L1 := dg_le3 (md_wN g k)
    refine vX7_renderFloors_7 hX hM (fun x0 x1 M => am_J X 7 [(0, .ref x0), (1, .int x1)] [] M 0 0) (fun _ _ _ h => h) ⟨fun z => absurd ((i3_le (a := 10) (by omega) (by omega)).mp z) (by omega), fun _ => ⟨fun z => ?_, fun z => ?_⟩⟩
    · obtain rfl : k = 0 := by
        have := (i3_le (b := 0) (by omega) (by omega)).mp z
        omega
      refine ⟨y3, ct_i (c_waitingOn y1 (y2.trans hg) ok) ⟨y3, ?_⟩⟩
      rw [md_wt_N]
      refine ct_wn (n_writesNumber h h1 (by omega) (by omega)) (fun M2 h2 => ?_)
      intro v e
      subst e
      exact ih 1 M2 (by omega) h2
    · have hk0 : k ≠ 0 := fun y => z (by rw [y]; decide)
      refine ⟨y3, ct_wn (n_writes (c := 44) h h1 (by omega) (by omega)) (fun M2 h2 => ?_)⟩
      obtain ⟨y1, y2, y3, y4, y5, y6, y7⟩ := wN_f h h2
      refine ⟨y3, ct_i (c_waitingOn y1 (y2.trans hg) ok) ⟨y3, ?_⟩⟩
      rw [md_wt_N]
      refine ct_wn (n_writesNumber h h2 (by omega) (by simp; omega)) (fun M3 h3 => ?_)
      intro v e
      rw [show i3 k + 1 = i3 (k + 1) from i3_one k] at e
      subst e
      refine ih (k + 1) M3 (by omega) ?_
      rw [tx_flo, if_neg hk0]
      exact h3
theorem c_renderFloors {G : am_Gx} {d : Nat} {M : am_Hp} {A : Nat → Nat} {g : md_R} (h : mL M A) (hg : hp_E M (A 1) = g) (ok : md_ok g) : am_CT G (d + 3) rX7_renderFloors [.ref (A 0)] M 0 0 (fun o M' => o = .inl (some (.int (i3 (tx_flo g 10).length))) ∧ wR M M' A (tx_flo g 10)) := by
  refine am_intro mkX7_renderFloors rfl (Nat.le_of_ble_eq_true rfl) rfl (fun X hX hM => ?_)
  refine vX7_renderFloors_0 hX hM (fun x0 x1 M => am_J X 7 [(0, .ref x0), (1, .int x1)] [] M 0 0) (fun _ _ _ h => h) ⟨h.1, fun M2 e2 => ?_⟩
  subst e2
  exact m_floors hX hM h hg ok (fun M1 h1 => ⟨rfl, M1, h1, rfl⟩) 10 0 _ rfl wN_0
theorem nc128 {k : Nat} (h : k < 128) : narrow .char (.int (i3 k)) = .int (i3 k) := nc_i3 h
theorem c_outputAt {G : am_Gx} {d : Nat} {M : am_Hp} {A : Nat → Nat} {l : List Nat} {v : Int32} (h : mL M A) (hw : wT M A l) : am_CT G (d + 2) rX7_outputAt [.ref (A 0), .int v] M 0 0 (qa (if 0 ≤ v ∧ v < i3 l.length then (0, i3 (l.getD v.toNatClampNeg 0)) else (1, i3 0)) M A) := by
  obtain ⟨e1, e2, e3⟩ := hw
  obtain ⟨t0, r1, r2, r3, r4, r5, r6, r7, r8, t1, t2, t3, t4, t5, t6, t7, t8, n1, n2, n3, n4, n5, n6, n7, n8, z1, z2, z3, z4, z5, z6, z7, z8, hJ⟩ := h
  refine am_intro mkX7_outputAt rfl (Nat.le_of_ble_eq_true rfl) rfl (fun X hX hM => ?_)
  refine vX7_outputAt_0 hX hM ⟨t0, ct_i c_in ?_⟩
  rw [e1]
  by_cases c : 0 ≤ v ∧ v < i3 l.length
  · obtain ⟨i, hi, rfl⟩ := i3_of (n := l.length) c.1 c.2 (by omega)
    have b : (decide ((0 : Int32) ≤ i3 i) && decide (i3 i ≤ i3 l.length - 1)) = true := by
      rw [Bool.and_eq_true, decide_eq_true_eq, decide_eq_true_eq]
      refine ⟨c.1, ?_⟩
      rw [show (1 : Int32) = i3 1 from rfl, i3_sub' (by omega)]
      exact (i3_le (by omega) (by omega)).mpr (by omega)
    rw [b]
    refine ⟨fun z => absurd z (by decide), fun _ => ⟨t0, fun M6 e6 => ⟨fun _ => ?_, fun z => ?_⟩⟩⟩
    · subst e6
      simp only [forall_eq]
      rw [hp_R_sI, r7, hp_N_sI, n7, i3_toNat (by omega), hp_E_sI, (e3 i hi).2]
      refine ⟨z7, t7, vp_in_i3 (by omega) (by omega), nc_i3 (e3 i hi).1, ?_, ?_⟩
      · rw [if_pos c]
      · rw [if_pos c]; rfl
    · rw [e6, hp_I_sI] at z
      exact absurd rfl z
  · have b : (decide ((0 : Int32) ≤ v) && decide (v ≤ i3 l.length - 1)) = false := by
      cases hb : (decide ((0 : Int32) ≤ v) && decide (v ≤ i3 l.length - 1)) with
      | false => rfl
      | true =>
        rw [Bool.and_eq_true, decide_eq_true_eq, decide_eq_true_eq] at hb
        refine absurd ⟨hb.1, ?_⟩ c
        rcases Nat.eq_zero_or_pos l.length with z | z
        · rw [z] at hb
          exact absurd (Int32.le_trans hb.1 hb.2) (by decide)
        · refine Int32.lt_of_le_of_lt hb.2 ?_
          rw [show (1 : Int32) = i3 1 from rfl, i3_sub' (by omega)]
          exact (i3_lt (by omega) (by omega)).mpr (by omega)
    rw [b]
    refine ⟨fun _ => ⟨t0, fun M6 e6 => ⟨fun z => ?_, fun _ => ⟨by decide, ?_, ?_⟩⟩⟩, fun z => absurd rfl z⟩
    · rw [e6, hp_I_sI] at z
      exact absurd z (by decide)
    · rw [if_neg c]; rfl
    · rw [if_neg c, e6]; rfl
/-- the reference's typed text is l -/
def yT (M : am_Hp) (A : Nat → Nat) (l : List Nat) : Prop := hp_I M 148 (A 0) = i3 l.length ∧ l.length ≤ 60 ∧ ∀ i, i < l.length → l.getD i 0 < 128 ∧ 32 ≤ l.getD i 0 ∧ hp_E M (A 6) i = i3 (l.getD i 0)
theorem c_type {G : am_Gx} {d : Nat} {M : am_Hp} {A : Nat → Nat} {l : List Nat} {v : Int32} (h : mL M A) (hw : yT M A l) : am_CT G (d + 2) rX7_type [.ref (A 0), .int v] M 0 0 (fun o M' => ((v < i3 32 ∨ i3 126 < v) ∧ o = .inl (some (.int (i3 0))) ∧ M' = hp_sI M 153 (A 0) (i3 1)) ∨ (∃ c, 32 ≤ c ∧ c ≤ 126 ∧ v = i3 c ∧ ((l.length = 60 ∧ o = .inl (some (.int (i3 0))) ∧ M' = hp_sI M 153 (A 0) (i3 2)) ∨ (l.length < 60 ∧ o = .inl (some (.int (i3 (l.length + 1)))) ∧ ∃ f, M' = hp_sI (hp_sI (hp_sA M (A 6) f) 148 (A 0) (i3 (l.length + 1))) 153 (A 0) (i3 0) ∧ yT M' A (l ++ [c]))))) := by
  have h0 := h
  obtain ⟨e1, e2, e3⟩ := hw
  obtain ⟨t0, r1, r2, r3, r4, r5, r6, r7, r8, t1, t2, t3, t4, t5, t6, t7, t8, n1, n2, n3, n4, n5, n6, n7, n8, z1, z2, z3, z4, z5, z6, z7, z8, hJ⟩ := h
  refine am_intro mkX7_type rfl (Nat.le_of_ble_eq_true rfl) rfl (fun X hX hM => ?_)
  refine vX7_type_0 hX hM (ct_i c_in ?_)
  by_cases b1 : (32 : Int32) ≤ v
  · by_cases b2 : v ≤ (126 : Int32)
    · obtain ⟨c, hc, rfl⟩ := i3_of (v := v) (n := 127) (Int32.le_trans (by decide : (0 : Int32) ≤ 32) b1) (Int32.lt_of_le_of_lt b2 (by decide)) (by omega)
      have c1 : 32 ≤ c := (i3_le (a := 32) (by omega) (by omega)).mp b1
      rw [decide_eq_true b1, decide_eq_true b2]
      refine ⟨fun z => absurd z (by decide), fun _ => ⟨t0, fun z => ?_, fun z => ?_⟩⟩
      · rw [e1] at z
        have z' := (i3_eq (b := 60) (by omega) (by omega)).mp z
        exact ct_i (c_fails h0) (.inr ⟨c, c1, by omega, rfl, .inl ⟨z', rfl, rfl⟩⟩)
      · rw [e1] at z
        have z' : l.length < 60 := by
          have : l.length ≠ 60 := fun y => z (by rw [y]; rfl)
          omega
        simp only [forall_eq]
        rw [r6, e1, n6, i3_toNat (by omega), hp_sE_sA, hp_I_sI, hp_I_sA, e1, i3_one]
        refine ⟨z6, t6, vp_in_i3 z' (by omega), narc (by omega), ct_i (c_done (M := hp_sI (hp_sA M (A 6) _) 148 (A 0) _) h0) (.inr ⟨c, c1, by omega, rfl, .inr ⟨z', rfl, _, rfl, ?_, ?_, fun i hi => ?_⟩⟩)⟩
        · rw [hp_I_sIu _ _ _ _ (by decide), hp_I_sI, List.length_append]
          rfl
        · rw [List.length_append]; exact z'
        · rw [List.length_append] at hi
          simp only [List.length_singleton] at hi
          rw [hp_E_sI, hp_E_sI, hp_E_sA]
          by_cases c2 : i < l.length
          · rw [getD_l c2, up_n _ _ (by omega)]
            exact e3 i c2
          · obtain rfl : i = l.length := by omega
            have := getD_r (l := l) (ds := [c]) (j := 0)
            rw [Nat.add_zero] at this
            rw [this, up_e]
            exact ⟨by show c < 128; omega, c1, rfl⟩
    · rw [decide_eq_false b2, Bool.and_false]
      exact ⟨fun _ => ⟨t0, ct_i (c_fails h0) (.inl ⟨.inr (Int32.not_le.mp b2), rfl, rfl⟩)⟩, fun z => absurd rfl z⟩
  · rw [decide_eq_false b1, Bool.false_and]
    exact ⟨fun _ => ⟨t0, ct_i (c_fails h0) (.inl ⟨.inl (Int32.not_le.mp b1), rfl, rfl⟩)⟩, fun z => absurd rfl z⟩
