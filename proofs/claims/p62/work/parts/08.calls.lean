/-! making objects and arrays, statics, constants, throwing, calling, and a contract from its body -/
theorem am_H.size {G : am_Gx} {M : am_Hp} {H : Heap} {s : State} {locs : List Loc} (hb : gx_b G ≤ s.heap.size) (hS : va_S (am_A G) s.heap H locs) : ∀ q, s.heap.size ≤ q → am_A G q := fun q h => Nat.le_trans hb h
theorem am_go_dv {M : am_Hp} {a : Nat} : ∀ (l : List Bool) (u : Nat) (ty : Nat → FieldType), (∀ k b, l[k]? = some b → am_fv b (u + k) a M = defaultValue (ty k)) → ∀ j, j < l.length → defaultValue (ty j) = vp_V (am_go M a u l) j := by
  intro l u ty h j hj
  unfold vp_V
  rw [List.getD_eq_getElem?_getD, am_go_get, List.getElem?_eq_getElem hj]
  exact (h j _ (List.getElem?_eq_getElem hj)).symm
theorem am_go_eq' {M M' : am_Hp} {a a' : Nat} : ∀ (l : List Bool) (u : Nat), (∀ (k : Nat) (b : Bool), l[k]? = some b → am_fv b (u + k) a M' = am_fv b (u + k) a' M) → am_go M' a u l = am_go M a' u l
  | [], u, _ => rfl
  | b :: bs, u, h => by
    show am_fv b u a M' :: _ = am_fv b u a' M :: _
    rw [show am_fv b u a M' = am_fv b u a' M from h 0 b rfl, am_go_eq' (M := M) (M' := M') (a := a) (a' := a') bs (u + 1) (fun k c hk => by
      have := h (k + 1) c hk
      rw [show u + (k + 1) = u + 1 + k by omega] at this
      exact this)]
def va_AOw (C : String) : Prop := Cond.arrayOver (.object C) ∈ am_nw
theorem am_AO {C : String} {G : am_Gx} {s : State} (hw : va_AOw C) (hU : am_U G s) : va_AO C s := hU.2.2.1 _ hw
/-- every field's default is what the abstract heap's zero says -/
def am_dv (ci : Nat) : Prop := ∀ (k : Nat) (b : Bool), (am_kd ci)[k]? = some b → ∀ q, am_cl[ci]? = some q → ∀ ty, parseFieldDescriptor (q.2.1 k).2.2.1 = some ty → defaultValue ty = if b then .null else .int 0
theorem j_new {X : am_Cx} {r : am_Rec} {G : am_Gx} {d : Nat} (hX : am_ok X r G d) {pc bc bs : Nat} {lv : List (Nat × Value)} {rest : List Value} {M : am_Hp} {idx ci : Nat} {q : vw_C} (hdg : decode r.2.1 pc = .ok (.new idx, 3)) (hc : am_cl[ci]? = some q) (hc9 : ci < 19) (hcl : Cond.classLink r.1.cls idx q.1 ∈ am_gt) (hin : Cond.instantiable q.1 q.2.2 ∈ am_gt) (hini : Cond.initialized q.1 ∈ am_gt) (hdv : am_dv ci) (hbc : 1 ≤ bc) (hbs : q.2.2 ≤ bs) (kk : ∀ a, hp_T M a = 0 → a ≠ 0 → am_J X (pc + 3) lv (.ref a :: rest) (hp_o M a (ci + 1)) (bc - 1) (bs - q.2.2)) : am_J X pc lv rest M bc bs := by
  obtain ⟨p, e, R, s, m, args, below, meth, c, Qf, nL, G', mc, ms, d'⟩ := X
  obtain ⟨hx, hb, hml, hown, hts, hU, hlk, htb, hmc, hms, hfr, hlo, hst, hnL, rfl, rfl⟩ := hX
  intro H locs cells slots ls h1 h2 h3 h4 h5
  obtain ⟨L, hP, hD, hPX, hT0, hTX, hXX, hLL, h0⟩ := h1
  obtain ⟨⟨ty0, hty0⟩, hnm, hlen⟩ := am_cls_ok hc
  obtain ⟨C, T, N⟩ := q
  let M1 : am_Hp := hp_o (M.1, M.2.1, (fun _ _ => 0), (fun _ _ => 0), M.2.2.2.2) 0 0
  have hfs : ∀ j, j < N → defaultValue (ty0 j) = vp_V (am_fs ci M1 0) j := by
    intro j hj
    refine am_go_dv (am_kd ci) (20 * ci) ty0 (fun k b hk => ?_) j (by rw [hlen]; exact hj)
    have hkN : k < N := by
      have := (List.getElem?_eq_some_iff.mp hk).1
      rw [hlen] at this
      exact this
    rw [hdv k b hk _ hc _ (hty0 k hkN)]
    cases b <;> simp [am_fv, M1, hp_o, hp_I, hp_R, am_rv, am_rw]
  refine va_new (ci := ci) (fs := am_fs ci M1 0) hx hb hts (am_cls_in hc) ty0 hty0 hown (hts _ hcl) (hts _ hin) (hts _ hini) hU.1 hP hD h2 (fun q h => Nat.le_trans hU.2.1 h) hc hfs (by omega) (show slots + N ≤ R.slots by dsimp only at hbs; omega) hdg (fun q H1 hP1 hD1 hS1 => ?_)
  obtain ⟨g1, g2, g3⟩ := am_H.add (M' := hp_o M q (ci + 1)) (t := ci + 1) (G := G') hU.2.1 hPX hT0 hTX hXX hLL h0 (by omega) h2 hS1 hP1 hD1 (fun z1 z2 => ⟨fun b => by
    by_cases hb9 : b = q
    · subst hb9
      rw [va_up, if_pos rfl, am_rl_obj (ci := ci) (by simp [hp_o, hp_T, va_up]) (by omega)]
      congr 2
      exact am_go_eq' (am_kd ci) (20 * ci) (fun k b _ => by cases b <;> simp [am_fv, M1, hp_o, hp_I, hp_R, am_rv, am_rw])
    · rw [va_up, if_neg hb9]
      exact am_rl_eq (by simp [hp_o, hp_T, va_up, hb9]) rfl (fun u => by simp [hp_o, hp_I, hb9]) (fun u => by simp [hp_o, hp_R, hb9]) rfl rfl rfl rfl, fun b => rfl⟩)
  exact kk q g1 g2 H1 locs (cells + 1) (slots + N) ls g3 hS1 (by omega) (by dsimp only at hbs ⊢; omega) h5
theorem j_newa_b {X : am_Cx} {r : am_Rec} {G : am_Gx} {d : Nat} (hX : am_ok X r G d) {pc bc bs : Nat} {lv : List (Nat × Value)} {rest : List Value} {M : am_Hp} {n : Int32} (hdg : decode r.2.1 pc = .ok (.newarray .byte, 2)) (hw : Cond.arrayClass .byte ∈ am_gt) (hn : ¬ n < 0) (hbytes : n.toNatClampNeg * componentBytes .byte ≤ 536870912) (hbc : 1 ≤ bc) (hbs : n.toNatClampNeg ≤ bs) (kk : ∀ a, hp_T M a = 0 → a ≠ 0 → am_J X (pc + 2) lv (.ref a :: rest) (hp_a M a 20 n.toNatClampNeg) (bc - 1) (bs - n.toNatClampNeg)) : am_J X pc lv (.int n :: rest) M bc bs := by
  obtain ⟨p, e, R, s, m, args, below, meth, c, Qf, nL, G', mc, ms, d'⟩ := X
  obtain ⟨hx, hb, hml, hown, hts, hU, hlk, htb, hmc, hms, hfr, hlo, hst, hnL, rfl, rfl⟩ := hX
  intro H locs cells slots ls h1 h2 h3 h4 h5
  obtain ⟨L, hP, hD, hPX, hT0, hTX, hXX, hLL, h0⟩ := h1
  refine va_newa (a0 := (n.toNatClampNeg, .inl (fun _ => 0))) (atype := .byte) hx hb (hts _ hw) rfl hU.1 hP hD h2 (fun q h => Nat.le_trans hU.2.1 h) (fun cA => rfl) hn rfl hbytes (by omega) (by omega) hdg (fun q cA H1 hK1 hP1 hD1 hS1 => ?_)
  have hcA : cA = gx_cy G' 20 := by
    have z1 : s.vm.findClass ("[" ++ (FieldType.toString .byte)) = some cA := (hK1.2 12 (cA, .byte) rfl).2
    have z2 : s.vm.findClass ("[" ++ (FieldType.toString .byte)) = some (gx_cy G' 20) := (hU.1.2 0 _ rfl).2
    exact Option.some.inj (z1.symm.trans z2)
  subst hcA
  obtain ⟨g1, g2, g3⟩ := am_H.add (M' := hp_a M q 20 n.toNatClampNeg) (t := 20) (G := G') hU.2.1 hPX hT0 hTX hXX hLL h0 (by omega) h2 hS1 hP1 hD1 (fun z1 z2 => ⟨fun b => by
    by_cases hb9 : b = q
    · subst hb9
      rw [va_up, if_pos rfl, am_rl_arr (t := 20) (by simp [hp_a, hp_T, va_up]) (by omega) (by omega)]
      simp [hp_a, hp_N, va_up, am_ct, hp_E, hp_L, hp_D]
    · rw [va_up, if_neg hb9]
      exact am_rl_eq (by simp [hp_a, hp_T, va_up, hb9]) (by simp [hp_a, hp_N, va_up, hb9]) (fun u => rfl) (fun u => rfl) (by funext k; simp [hp_a, hp_E, hb9]) (by funext k; simp [hp_a, hp_Q, hb9]) (by funext k; simp [hp_a, hp_L, hb9]) (by funext k; simp [hp_a, hp_D, hb9]), fun b => rfl⟩)
  exact kk q g1 g2 H1 locs (cells + 1) (slots + n.toNatClampNeg) ls g3 hS1 (by omega) (by omega) h5
theorem j_newa_i {X : am_Cx} {r : am_Rec} {G : am_Gx} {d : Nat} (hX : am_ok X r G d) {pc bc bs : Nat} {lv : List (Nat × Value)} {rest : List Value} {M : am_Hp} {n : Int32} (hdg : decode r.2.1 pc = .ok (.newarray .int, 2)) (hw : Cond.arrayClass .int ∈ am_gt) (hn : ¬ n < 0) (hbytes : n.toNatClampNeg * componentBytes .int ≤ 536870912) (hbc : 1 ≤ bc) (hbs : n.toNatClampNeg ≤ bs) (kk : ∀ a, hp_T M a = 0 → a ≠ 0 → am_J X (pc + 2) lv (.ref a :: rest) (hp_a M a 22 n.toNatClampNeg) (bc - 1) (bs - n.toNatClampNeg)) : am_J X pc lv (.int n :: rest) M bc bs := by
  obtain ⟨p, e, R, s, m, args, below, meth, c, Qf, nL, G', mc, ms, d'⟩ := X
  obtain ⟨hx, hb, hml, hown, hts, hU, hlk, htb, hmc, hms, hfr, hlo, hst, hnL, rfl, rfl⟩ := hX
  intro H locs cells slots ls h1 h2 h3 h4 h5
  obtain ⟨L, hP, hD, hPX, hT0, hTX, hXX, hLL, h0⟩ := h1
  refine va_newa (a0 := (n.toNatClampNeg, .inl (fun _ => 0))) (atype := .int) hx hb (hts _ hw) rfl hU.1 hP hD h2 (fun q h => Nat.le_trans hU.2.1 h) (fun cA => rfl) hn rfl hbytes (by omega) (by omega) hdg (fun q cA H1 hK1 hP1 hD1 hS1 => ?_)
  have hcA : cA = gx_cy G' 22 := by
    have z1 : s.vm.findClass ("[" ++ (FieldType.toString .int)) = some cA := (hK1.2 12 (cA, .int) rfl).2
    have z2 : s.vm.findClass ("[" ++ (FieldType.toString .int)) = some (gx_cy G' 22) := (hU.1.2 2 _ rfl).2
    exact Option.some.inj (z1.symm.trans z2)
  subst hcA
  obtain ⟨g1, g2, g3⟩ := am_H.add (M' := hp_a M q 22 n.toNatClampNeg) (t := 22) (G := G') hU.2.1 hPX hT0 hTX hXX hLL h0 (by omega) h2 hS1 hP1 hD1 (fun z1 z2 => ⟨fun b => by
    by_cases hb9 : b = q
    · subst hb9
      rw [va_up, if_pos rfl, am_rl_arr (t := 22) (by simp [hp_a, hp_T, va_up]) (by omega) (by omega)]
      simp [hp_a, hp_N, va_up, am_ct, hp_E, hp_L, hp_D]
    · rw [va_up, if_neg hb9]
      exact am_rl_eq (by simp [hp_a, hp_T, va_up, hb9]) (by simp [hp_a, hp_N, va_up, hb9]) (fun u => rfl) (fun u => rfl) (by funext k; simp [hp_a, hp_E, hb9]) (by funext k; simp [hp_a, hp_Q, hb9]) (by funext k; simp [hp_a, hp_L, hb9]) (by funext k; simp [hp_a, hp_D, hb9]), fun b => rfl⟩)
  exact kk q g1 g2 H1 locs (cells + 1) (slots + n.toNatClampNeg) ls g3 hS1 (by omega) (by omega) h5
theorem j_anew25 {X : am_Cx} {r : am_Rec} {G : am_Gx} {d : Nat} (hX : am_ok X r G d) {pc bc bs : Nat} {lv : List (Nat × Value)} {rest : List Value} {M : am_Hp} {n : Int32} {idx : Nat} (hdg : decode r.2.1 pc = .ok (.anewarray idx, 3)) (hcl : Cond.classLink r.1.cls idx RX0 ∈ am_gt) (hw : va_AOw RX0) (hn : ¬ n < 0) (hbytes : n.toNatClampNeg * 4 ≤ 536870912) (hbc : 1 ≤ bc) (hbs : n.toNatClampNeg ≤ bs) (kk : ∀ a, hp_T M a = 0 → a ≠ 0 → am_J X (pc + 3) lv (.ref a :: rest) (hp_a M a 25 n.toNatClampNeg) (bc - 1) (bs - n.toNatClampNeg)) : am_J X pc lv (.int n :: rest) M bc bs := by
  obtain ⟨p, e, R, s, m, args, below, meth, c, Qf, nL, G', mc, ms, d'⟩ := X
  obtain ⟨hx, hb, hml, hown, hts, hU, hlk, htb, hmc, hms, hfr, hlo, hst, hnL, rfl, rfl⟩ := hX
  intro H locs cells slots ls h1 h2 h3 h4 h5
  obtain ⟨L, hP, hD, hPX, hT0, hTX, hXX, hLL, h0⟩ := h1
  refine va_newq hx hb hown (hts _ hcl) (am_AO hw hU) hU.1 hP hD h2 (fun q h => Nat.le_trans hU.2.1 h) hn rfl hbytes (by omega) (by omega) hdg (fun q cA H1 hK1 hP1 hD1 hS1 => ?_)
  have hcA : cA = gx_cy G' 25 := by
    obtain ⟨k1, c1, -, -, -, z1⟩ := (hK1.2 12 (cA, .object RX0) rfl).2
    obtain ⟨k2, c2, -, -, -, z2⟩ := (hU.1.2 5 _ rfl).2
    exact Option.some.inj (z1.symm.trans z2)
  subst hcA
  obtain ⟨g1, g2, g3⟩ := am_H.add (M' := hp_a M q 25 n.toNatClampNeg) (t := 25) (G := G') hU.2.1 hPX hT0 hTX hXX hLL h0 (by omega) h2 hS1 hP1 hD1 (fun z1 z2 => ⟨fun b => by
    by_cases hb9 : b = q
    · subst hb9
      rw [va_up, if_pos rfl, am_rl_arr (t := 25) (by simp [hp_a, hp_T, va_up]) (by omega) (by omega)]
      simp [hp_a, hp_N, va_up, am_ct, hp_Q, am_o]
    · rw [va_up, if_neg hb9]
      exact am_rl_eq (by simp [hp_a, hp_T, va_up, hb9]) (by simp [hp_a, hp_N, va_up, hb9]) (fun u => rfl) (fun u => rfl) (by funext k; simp [hp_a, hp_E, hb9]) (by funext k; simp [hp_a, hp_Q, hb9]) (by funext k; simp [hp_a, hp_L, hb9]) (by funext k; simp [hp_a, hp_D, hb9]), fun b => rfl⟩)
  exact kk q g1 g2 H1 locs (cells + 1) (slots + n.toNatClampNeg) ls g3 hS1 (by omega) (by omega) h5
theorem j_anew26 {X : am_Cx} {r : am_Rec} {G : am_Gx} {d : Nat} (hX : am_ok X r G d) {pc bc bs : Nat} {lv : List (Nat × Value)} {rest : List Value} {M : am_Hp} {n : Int32} {idx : Nat} (hdg : decode r.2.1 pc = .ok (.anewarray idx, 3)) (hcl : Cond.classLink r.1.cls idx RX1 ∈ am_gt) (hw : va_AOw RX1) (hn : ¬ n < 0) (hbytes : n.toNatClampNeg * 4 ≤ 536870912) (hbc : 1 ≤ bc) (hbs : n.toNatClampNeg ≤ bs) (kk : ∀ a, hp_T M a = 0 → a ≠ 0 → am_J X (pc + 3) lv (.ref a :: rest) (hp_a M a 26 n.toNatClampNeg) (bc - 1) (bs - n.toNatClampNeg)) : am_J X pc lv (.int n :: rest) M bc bs := by
  obtain ⟨p, e, R, s, m, args, below, meth, c, Qf, nL, G', mc, ms, d'⟩ := X
  obtain ⟨hx, hb, hml, hown, hts, hU, hlk, htb, hmc, hms, hfr, hlo, hst, hnL, rfl, rfl⟩ := hX
  intro H locs cells slots ls h1 h2 h3 h4 h5
  obtain ⟨L, hP, hD, hPX, hT0, hTX, hXX, hLL, h0⟩ := h1
  refine va_newq hx hb hown (hts _ hcl) (am_AO hw hU) hU.1 hP hD h2 (fun q h => Nat.le_trans hU.2.1 h) hn rfl hbytes (by omega) (by omega) hdg (fun q cA H1 hK1 hP1 hD1 hS1 => ?_)
  have hcA : cA = gx_cy G' 26 := by
    obtain ⟨k1, c1, -, -, -, z1⟩ := (hK1.2 12 (cA, .object RX1) rfl).2
    obtain ⟨k2, c2, -, -, -, z2⟩ := (hU.1.2 6 _ rfl).2
    exact Option.some.inj (z1.symm.trans z2)
  subst hcA
  obtain ⟨g1, g2, g3⟩ := am_H.add (M' := hp_a M q 26 n.toNatClampNeg) (t := 26) (G := G') hU.2.1 hPX hT0 hTX hXX hLL h0 (by omega) h2 hS1 hP1 hD1 (fun z1 z2 => ⟨fun b => by
    by_cases hb9 : b = q
    · subst hb9
      rw [va_up, if_pos rfl, am_rl_arr (t := 26) (by simp [hp_a, hp_T, va_up]) (by omega) (by omega)]
      simp [hp_a, hp_N, va_up, am_ct, hp_Q, am_o]
    · rw [va_up, if_neg hb9]
      exact am_rl_eq (by simp [hp_a, hp_T, va_up, hb9]) (by simp [hp_a, hp_N, va_up, hb9]) (fun u => rfl) (fun u => rfl) (by funext k; simp [hp_a, hp_E, hb9]) (by funext k; simp [hp_a, hp_Q, hb9]) (by funext k; simp [hp_a, hp_L, hb9]) (by funext k; simp [hp_a, hp_D, hb9]), fun b => rfl⟩)
  exact kk q g1 g2 H1 locs (cells + 1) (slots + n.toNatClampNeg) ls g3 hS1 (by omega) (by omega) h5
theorem j_anew27 {X : am_Cx} {r : am_Rec} {G : am_Gx} {d : Nat} (hX : am_ok X r G d) {pc bc bs : Nat} {lv : List (Nat × Value)} {rest : List Value} {M : am_Hp} {n : Int32} {idx : Nat} (hdg : decode r.2.1 pc = .ok (.anewarray idx, 3)) (hcl : Cond.classLink r.1.cls idx RX3 ∈ am_gt) (hw : va_AOw RX3) (hn : ¬ n < 0) (hbytes : n.toNatClampNeg * 4 ≤ 536870912) (hbc : 1 ≤ bc) (hbs : n.toNatClampNeg ≤ bs) (kk : ∀ a, hp_T M a = 0 → a ≠ 0 → am_J X (pc + 3) lv (.ref a :: rest) (hp_a M a 27 n.toNatClampNeg) (bc - 1) (bs - n.toNatClampNeg)) : am_J X pc lv (.int n :: rest) M bc bs := by
  obtain ⟨p, e, R, s, m, args, below, meth, c, Qf, nL, G', mc, ms, d'⟩ := X
  obtain ⟨hx, hb, hml, hown, hts, hU, hlk, htb, hmc, hms, hfr, hlo, hst, hnL, rfl, rfl⟩ := hX
  intro H locs cells slots ls h1 h2 h3 h4 h5
  obtain ⟨L, hP, hD, hPX, hT0, hTX, hXX, hLL, h0⟩ := h1
  refine va_newq hx hb hown (hts _ hcl) (am_AO hw hU) hU.1 hP hD h2 (fun q h => Nat.le_trans hU.2.1 h) hn rfl hbytes (by omega) (by omega) hdg (fun q cA H1 hK1 hP1 hD1 hS1 => ?_)
  have hcA : cA = gx_cy G' 27 := by
    obtain ⟨k1, c1, -, -, -, z1⟩ := (hK1.2 12 (cA, .object RX3) rfl).2
    obtain ⟨k2, c2, -, -, -, z2⟩ := (hU.1.2 7 _ rfl).2
    exact Option.some.inj (z1.symm.trans z2)
  subst hcA
  obtain ⟨g1, g2, g3⟩ := am_H.add (M' := hp_a M q 27 n.toNatClampNeg) (t := 27) (G := G') hU.2.1 hPX hT0 hTX hXX hLL h0 (by omega) h2 hS1 hP1 hD1 (fun z1 z2 => ⟨fun b => by
    by_cases hb9 : b = q
    · subst hb9
      rw [va_up, if_pos rfl, am_rl_arr (t := 27) (by simp [hp_a, hp_T, va_up]) (by omega) (by omega)]
      simp [hp_a, hp_N, va_up, am_ct, hp_Q, am_o]
    · rw [va_up, if_neg hb9]
      exact am_rl_eq (by simp [hp_a, hp_T, va_up, hb9]) (by simp [hp_a, hp_N, va_up, hb9]) (fun u => rfl) (fun u => rfl) (by funext k; simp [hp_a, hp_E, hb9]) (by funext k; simp [hp_a, hp_Q, hb9]) (by funext k; simp [hp_a, hp_L, hb9]) (by funext k; simp [hp_a, hp_D, hb9]), fun b => rfl⟩)
  exact kk q g1 g2 H1 locs (cells + 1) (slots + n.toNatClampNeg) ls g3 hS1 (by omega) (by omega) h5
theorem j_gets {X : am_Cx} {r : am_Rec} {G : am_Gx} {d : Nat} (hX : am_ok X r G d) {pc bc bs : Nat} {lv : List (Nat × Value)} {rest : List Value} {M : am_Hp} {idx : Nat} {C n t : String} {v : Value} (hdg : decode r.2.1 pc = .ok (.getstatic idx, 3)) (hz : (C, n, t, v) ∈ gx_z G) (hw : Cond.fieldLink r.1.cls idx C n t ∈ am_gt) (kk : am_J X (pc + 3) lv (v :: rest) M bc bs) : am_J X pc lv rest M bc bs := by
  obtain ⟨p, e, R, s, m, args, below, meth, c, Qf, nL, G', mc, ms, d'⟩ := X
  obtain ⟨hx, hb, hml, hown, hts, hU, hlk, htb, hmc, hms, hfr, hlo, hst, hnL, rfl, rfl⟩ := hX
  intro H locs cells slots ls h1 h2 h3 h4 h5
  exact va_gets hx hb (hU.2.2.2.2.1 _ hz) h2 hown (hts _ hw) (fun _ h => h) hdg (kk H locs cells slots ls h1 h2 h3 h4 h5)
theorem j_ldcI {X : am_Cx} {r : am_Rec} {G : am_Gx} {d : Nat} (hX : am_ok X r G d) {pc bc bs : Nat} {lv : List (Nat × Value)} {rest : List Value} {M : am_Hp} {idx : Nat} {v : Int32} (hdg : decode r.2.1 pc = .ok (.ldc idx, 2)) (hw : Cond.constant r.1.cls idx v ∈ am_gt) (kk : am_J X (pc + 2) lv (.int v :: rest) M bc bs) : am_J X pc lv rest M bc bs := by
  obtain ⟨p, e, R, s, m, args, below, meth, c, Qf, nL, G', mc, ms, d'⟩ := X
  obtain ⟨hx, hb, hml, hown, hts, hU, hlk, htb, hmc, hms, hfr, hlo, hst, hnL, rfl, rfl⟩ := hX
  intro H locs cells slots ls h1 h2 h3 h4 h5
  exact lv_ldc hx hb hown (hts _ hw) hdg (kk H locs cells slots ls h1 h2 h3 h4 h5)
theorem j_ldcL {X : am_Cx} {r : am_Rec} {G : am_Gx} {d : Nat} (hX : am_ok X r G d) {pc bc bs : Nat} {lv : List (Nat × Value)} {rest : List Value} {M : am_Hp} {idx : Nat} {v : Int64} (hdg : decode r.2.1 pc = .ok (.ldc2_w idx, 3)) (hw : Cond.constantLong r.1.cls idx v ∈ am_gt) (kk : am_J X (pc + 3) lv (.long v :: rest) M bc bs) : am_J X pc lv rest M bc bs := by
  obtain ⟨p, e, R, s, m, args, below, meth, c, Qf, nL, G', mc, ms, d'⟩ := X
  obtain ⟨hx, hb, hml, hown, hts, hU, hlk, htb, hmc, hms, hfr, hlo, hst, hnL, rfl, rfl⟩ := hX
  intro H locs cells slots ls h1 h2 h3 h4 h5
  exact lv_ldc2 hx hb hown (hts _ hw) hdg (kk H locs cells slots ls h1 h2 h3 h4 h5)
theorem j_ldcS {X : am_Cx} {r : am_Rec} {G : am_Gx} {d : Nat} (hX : am_ok X r G d) {pc bc bs : Nat} {lv : List (Nat × Value)} {rest : List Value} {M : am_Hp} {idx : Nat} {tx : String} (hdg : decode r.2.1 pc = .ok (.ldc idx, 2)) (hw : (r.1.cls, idx, tx) ∈ am_st) (kk : am_J X (pc + 2) lv (.ref (gx_s G r.1.cls idx) :: rest) M bc bs) : am_J X pc lv rest M bc bs := by
  obtain ⟨p, e, R, s, m, args, below, meth, c, Qf, nL, G', mc, ms, d'⟩ := X
  obtain ⟨hx, hb, hml, hown, hts, hU, hlk, htb, hmc, hms, hfr, hlo, hst, hnL, rfl, rfl⟩ := hX
  intro H locs cells slots ls h1 h2 h3 h4 h5
  exact va_ldcS hx hb hown (hU.2.2.2.1 _ hw) hdg (kk H locs cells slots ls h1 h2 h3 h4 h5)
theorem j_objInit {X : am_Cx} {r : am_Rec} {G : am_Gx} {d : Nat} (hX : am_ok X r G d) {pc bc bs : Nat} {lv : List (Nat × Value)} {rest : List Value} {M : am_Hp} {idx a : Nat} (hdg : decode r.2.1 pc = .ok (.invokespecial idx, 3)) (hw : Cond.methodLink r.1.cls idx objectInit ∈ am_gt) (hw2 : Cond.instanceMethod objectInit ∈ am_gt) (hw3 : Cond.code objectInit ⟨#[0xb1]⟩ 1 none ∈ am_gt) (hr : (rest.map fun v => v.category).sum ≤ 8) (kk : am_J X (pc + 3) lv rest M bc bs) : am_J X pc lv (.ref a :: rest) M bc bs := by
  obtain ⟨p, e, R, s, m, args, below, meth, c, Qf, nL, G', mc, ms, d'⟩ := X
  obtain ⟨hx, hb, hml, hown, hts, hU, hlk, htb, hmc, hms, hfr, hlo, hst, hnL, rfl, rfl⟩ := hX
  intro H locs cells slots ls h1 h2 h3 h4 h5
  refine W.objInit hx hb hown (hts _ hw) (hts _ hw2) (hts _ hw3) rfl (by rw [hml]; exact h5.1) rfl hdg (by omega) (by have := lv_room (m := m) (pc := pc) (ls := ls) (rest := .ref a :: rest) hr; omega) ?_
  exact kk H locs cells slots ls h1 h2 h3 h4 h5
theorem am_H.kept {G : am_Gx} {M : am_Hp} {H H1 : Heap} (hk : ∀ q : Nat, q < H.size → H1[q]? = H[q]?) (h : am_H G M H) : am_H G M H1 := by
  obtain ⟨L, hP, hD, hPX, h9⟩ := h
  exact ⟨L, hP.kept (fun k q hq => hk _ (hP k q hq).lt), hD, hPX, h9⟩
theorem am_word {G : am_Gx} {s : State} {args : Array Value} (hts : ∀ w ∈ am_gt, w.before args s = true) (hU : am_U G s) {w : Cond} (h : w ∈ am_gt ∨ w ∈ am_nw) : w.before args s = true := by
  rcases h with h | h
  · exact hts w h
  · have h9 := hU.2.2.1 w h
    have hg := (List.mem_filter.mp h).2
    cases w <;> first | exact va_Nw.use rfl h9 | exact h9 | (cases hg)
/-- new E(text), thrown here, leaves the method -/
theorem j_throw {X : am_Cx} {r : am_Rec} {G : am_Gx} {d : Nat} (hX : am_ok X r G d) {pc bc bs : Nat} {lv : List (Nat × Value)} {rest : List Value} {M : am_Hp} {Q : am_Q} (hM : am_me X r Q) {cls text : String} {names : List String} {ik is ic : Nat} (d0 : decode r.2.1 pc = .ok (.new ik, 3)) (d3 : decode r.2.1 (pc + 3) = .ok (.dup, 1)) (d4 : decode r.2.1 (pc + 4) = .ok (.ldc is, 2)) (d6 : decode r.2.1 (pc + 6) = .ok (.invokespecial ic, 3)) (d9 : decode r.2.1 (pc + 9) = .ok (.athrow, 1)) (hh : r.2.2.2.2 = [])
    (hfit : Bundle.fit cls = true ∧ (∀ n ∈ names, Bundle.fit n = true) ∧ names.length ≤ 3) (hk : Cond.classLink r.1.cls ik cls ∈ am_gt) (hini : Cond.initialized cls ∈ am_gt) (hstr : (r.1.cls, is, text) ∈ am_st) (hat : ∀ w ∈ vx_atS r.1.cls ic cls names, w ∈ am_gt ∨ w ∈ am_nw) (hgood : ∀ w ∈ Cond.classLink r.1.cls ik cls :: Cond.initialized cls :: vx_atS r.1.cls ic cls names, vx_ot w = true) (hr : (rest.map fun v => v.category).sum ≤ 8) (hbc : 1 ≤ bc) (hbs : 6 ≤ bs) (hq : Q (.inr cls) M) : am_J X pc lv rest M bc bs := by
  obtain ⟨p, e, R, s, m, args, below, meth, c, Qf, nL, G', mc, ms, d'⟩ := X
  obtain ⟨hx, hb, hml, hown, hts, hU, hlk, htb, hmc, hms, hfr, hlo, hst, hnL, rfl, rfl⟩ := hX
  intro H locs cells slots ls h1 h2 h3 h4 h5
  obtain ⟨rfl, hr1, -⟩ := hM
  refine vx_throwS (names := names) (text := text) (sa := gx_s G' r.1.cls is) (A := am_A G') hx hb hst hown hfit.1 hfit.2.1 (hts _ hk) (hts _ hini) (hU.2.2.2.1 _ hstr) (fun w hw => am_word hts hU (hat w hw)) hgood hU.2.2.2.2.2.1 hU.2.2.2.2.2.2.1 h2 (by rw [hml]; exact h5.1) d0 d3 d4 d6 d9 (by rw [htb, hh]; intro x hx9; cases hx9) (by have := hfit.2.2; omega) (by have := hfit.2.2; omega) (by omega) (by omega) hlk (fun t hA hz hq9 => ⟨M, hq, h1.kept hq9, ?_⟩) h2.2.2 (by omega) (by omega)
  exact ⟨Nat.le_trans h2.1 hz, fun q z1 z2 => (hq9 q (Nat.lt_of_lt_of_le z1 h2.1)).trans (h2.2.1 q z1 z2)⟩
