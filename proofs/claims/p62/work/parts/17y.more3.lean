/-! rows for the law of p62: long to int, references compared, int[][] and Object[], a cast to int[], class objects, an inherited field, a nest mate's field, a call by interface -/
theorem j_l2i {X : am_Cx} {r : am_Rec} {G : am_Gx} {d : Nat} (hX : am_ok X r G d) {pc bc bs : Nat} {lv : List (Nat × Value)} {rest : List Value} {M : am_Hp} {x : Int64} (hdg : decode r.2.1 pc = .ok (.l2i, 1)) (k : am_J X (pc + 1) lv (.int x.toInt32 :: rest) M bc bs) : am_J X pc lv (.long x :: rest) M bc bs := by
  obtain ⟨p, e, R, s, m, args, below, meth, c, Qf, nL, G', mc, ms, d'⟩ := X
  obtain ⟨hx, hb, hml, hown, hts, hU, hlk, htb, hmc, hms, hfr, hlo, hst, hnL, rfl, rfl⟩ := hX
  intro H locs cells slots ls h1 h2 h3 h4 h5
  exact lv_l2i hx hb hdg rfl (k H locs cells slots ls h1 h2 h3 h4 h5)
theorem j_acmp_eq {X : am_Cx} {r : am_Rec} {G : am_Gx} {d : Nat} (hX : am_ok X r G d) {pc bc bs : Nat} {lv : List (Nat × Value)} {rest : List Value} {M : am_Hp} {a b : Nat} {off : Int} (tgt : Nat) (hdg : decode r.2.1 pc = .ok (.if_acmp .eq off, 3)) (ht : (pc : Int) + off = (tgt : Int)) (kt : a = b → am_J X tgt lv rest M bc bs) (kf : ¬ a = b → am_J X (pc + 3) lv rest M bc bs) : am_J X pc lv (.ref b :: .ref a :: rest) M bc bs := by
  obtain ⟨p, e, R, s, m, args, below, meth, c, Qf, nL, G', mc, ms, d'⟩ := X
  obtain ⟨hx, hb, hml, hown, hts, hU, hlk, htb, hmc, hms, hfr, hlo, hst, hnL, rfl, rfl⟩ := hX
  intro H locs cells slots ls h1 h2 h3 h4 h5
  exact lv_acmp_eq (rx := some a) (ry := some b) hx hb hdg ht (fun h => kt (Option.some.inj h) H locs cells slots ls h1 h2 h3 h4 h5) (fun h => kf (fun z => h (by rw [z])) H locs cells slots ls h1 h2 h3 h4 h5)
theorem j_acmp_ne {X : am_Cx} {r : am_Rec} {G : am_Gx} {d : Nat} (hX : am_ok X r G d) {pc bc bs : Nat} {lv : List (Nat × Value)} {rest : List Value} {M : am_Hp} {a b : Nat} {off : Int} (tgt : Nat) (hdg : decode r.2.1 pc = .ok (.if_acmp .ne off, 3)) (ht : (pc : Int) + off = (tgt : Int)) (kt : ¬ a = b → am_J X tgt lv rest M bc bs) (kf : a = b → am_J X (pc + 3) lv rest M bc bs) : am_J X pc lv (.ref b :: .ref a :: rest) M bc bs := by
  obtain ⟨p, e, R, s, m, args, below, meth, c, Qf, nL, G', mc, ms, d'⟩ := X
  obtain ⟨hx, hb, hml, hown, hts, hU, hlk, htb, hmc, hms, hfr, hlo, hst, hnL, rfl, rfl⟩ := hX
  intro H locs cells slots ls h1 h2 h3 h4 h5
  exact lv_acmp_ne (rx := some a) (ry := some b) hx hb hdg ht (fun h => kt (fun z => h (by rw [z])) H locs cells slots ls h1 h2 h3 h4 h5) (fun h => kf (by first | exact Option.some.inj h | exact Option.some.inj (Decidable.not_not.mp h)) H locs cells slots ls h1 h2 h3 h4 h5)
theorem j_alen28 {X : am_Cx} {r : am_Rec} {G : am_Gx} {d : Nat} (hX : am_ok X r G d) {pc bc bs : Nat} {lv : List (Nat × Value)} {rest : List Value} {M : am_Hp} {a : Nat} (hdg : decode r.2.1 pc = .ok (.arraylength, 1)) (hT : hp_T M a = 28) (kk : am_J X (pc + 1) lv (.int (Int32.ofNat (hp_N M a)) :: rest) M bc bs) : am_J X pc lv (.ref a :: rest) M bc bs := by
  obtain ⟨p, e, R, s, m, args, below, meth, c, Qf, nL, G', mc, ms, d'⟩ := X
  obtain ⟨hx, hb, hml, hown, hts, hU, hlk, htb, hmc, hms, hfr, hlo, hst, hnL, rfl, rfl⟩ := hX
  intro H locs cells slots ls h1 h2 h3 h4 h5
  have hP := h1.one (a := a) (by omega)
  rw [am_rl_arr hT (by omega) (by omega)] at hP
  exact va_alen hx hb hU.1 hP 0 8 rfl rfl rfl hdg (kk H locs cells slots ls h1 h2 h3 h4 h5)
theorem j_alen29 {X : am_Cx} {r : am_Rec} {G : am_Gx} {d : Nat} (hX : am_ok X r G d) {pc bc bs : Nat} {lv : List (Nat × Value)} {rest : List Value} {M : am_Hp} {a : Nat} (hdg : decode r.2.1 pc = .ok (.arraylength, 1)) (hT : hp_T M a = 29) (kk : am_J X (pc + 1) lv (.int (Int32.ofNat (hp_N M a)) :: rest) M bc bs) : am_J X pc lv (.ref a :: rest) M bc bs := by
  obtain ⟨p, e, R, s, m, args, below, meth, c, Qf, nL, G', mc, ms, d'⟩ := X
  obtain ⟨hx, hb, hml, hown, hts, hU, hlk, htb, hmc, hms, hfr, hlo, hst, hnL, rfl, rfl⟩ := hX
  intro H locs cells slots ls h1 h2 h3 h4 h5
  have hP := h1.one (a := a) (by omega)
  rw [am_rl_arr hT (by omega) (by omega)] at hP
  exact va_alen hx hb hU.1 hP 0 11 rfl rfl rfl hdg (kk H locs cells slots ls h1 h2 h3 h4 h5)
theorem j_alen43 {X : am_Cx} {r : am_Rec} {G : am_Gx} {d : Nat} (hX : am_ok X r G d) {pc bc bs : Nat} {lv : List (Nat × Value)} {rest : List Value} {M : am_Hp} {a : Nat} (hdg : decode r.2.1 pc = .ok (.arraylength, 1)) (hT : hp_T M a = 43) (kk : am_J X (pc + 1) lv (.int (Int32.ofNat (hp_N M a)) :: rest) M bc bs) : am_J X pc lv (.ref a :: rest) M bc bs := by
  obtain ⟨p, e, R, s, m, args, below, meth, c, Qf, nL, G', mc, ms, d'⟩ := X
  obtain ⟨hx, hb, hml, hown, hts, hU, hlk, htb, hmc, hms, hfr, hlo, hst, hnL, rfl, rfl⟩ := hX
  intro H locs cells slots ls h1 h2 h3 h4 h5
  obtain ⟨e1, e2, e3⟩ := am_sa h1.choose_spec.2.2.1 hT (by omega)
  exact va_tlen hx hb ((hU.2.2.2.2.2.2.2.2 a).2.2.2.1 e1) h2 (by rw [e2]) hdg (kk H locs cells slots ls h1 h2 h3 h4 h5)
/-- a list's own array: Object[], or the empty one that is only read -/
theorem j_alenL {X : am_Cx} {r : am_Rec} {G : am_Gx} {d : Nat} (hX : am_ok X r G d) {pc bc bs : Nat} {lv : List (Nat × Value)} {rest : List Value} {M : am_Hp} {a : Nat} (hdg : decode r.2.1 pc = .ok (.arraylength, 1)) (hT : hp_T M a = 29 ∨ hp_T M a = 43) (kk : am_J X (pc + 1) lv (.int (Int32.ofNat (hp_N M a)) :: rest) M bc bs) : am_J X pc lv (.ref a :: rest) M bc bs := by
  rcases hT with h | h
  · exact j_alen29 hX hdg h kk
  · exact j_alen43 hX hdg h kk
theorem j_aald29 {X : am_Cx} {r : am_Rec} {G : am_Gx} {d : Nat} (hX : am_ok X r G d) {pc bc bs : Nat} {lv : List (Nat × Value)} {rest : List Value} {M : am_Hp} {a : Nat} {i : Int32} (hdg : decode r.2.1 pc = .ok (.aaload, 1)) (hT : hp_T M a = 29) (hin : vp_in i (hp_N M a)) (h0 : hp_Q M a i.toNatClampNeg ≠ 0) (kk : am_J X (pc + 1) lv (.ref (hp_Q M a i.toNatClampNeg) :: rest) M bc bs) : am_J X pc lv (.int i :: .ref a :: rest) M bc bs := by
  obtain ⟨p, e, R, s, m, args, below, meth, c, Qf, nL, G', mc, ms, d'⟩ := X
  obtain ⟨hx, hb, hml, hown, hts, hU, hlk, htb, hmc, hms, hfr, hlo, hst, hnL, rfl, rfl⟩ := hX
  intro H locs cells slots ls h1 h2 h3 h4 h5
  have hP := h1.one (a := a) (by omega)
  rw [am_rl_arr hT (by omega) (by omega), am_ct_q (by omega) (by omega)] at hP
  refine va_aldq hx hb hU.1 hP 0 11 rfl rfl hin hdg ?_
  rw [am_rf, am_rv_ne h0]
  exact kk H locs cells slots ls h1 h2 h3 h4 h5
theorem am_nm22 {G : am_Gx} {s : State} (hU : am_U G s) : s.vm.findClass "[I" = some (gx_cy G 22) := (hU.1.2 2 _ rfl).2
theorem am_castIO : va_Nw (.castable "[I" "java/lang/Object") = va_Nw (.castable "[I" "java/lang/Object") := rfl
theorem tn_castIO : Cond.castable "[I" "java/lang/Object" ∈ am_nw := by decide +kernel
/-- an int[] is an Object -/
theorem am_any22 {G : am_Gx} {s : State} {M : am_Hp} {H : Heap} {v : Nat} (hU : am_U G s) (h1 : am_H G M H) (hv : hp_T M v = 22) : va_Any "java/lang/Object" s H v := by
  have hP := h1.one (a := v) (by omega)
  rw [am_rl_arr hv (by omega) (by omega), am_ct_i (by omega)] at hP
  have e := hP 0 _ rfl
  have f := am_nm22 hU
  obtain ⟨kC, hkC, -⟩ := Vm.findClass_spec f
  exact ⟨_, e, rfl, ⟨kC, hkC⟩, fun comp h => vb_asgC (hU.2.2.1 _ tn_castIO) comp _ h f⟩
theorem j_aast29 {X : am_Cx} {r : am_Rec} {G : am_Gx} {d : Nat} (hX : am_ok X r G d) {pc bc bs : Nat} {lv : List (Nat × Value)} {rest : List Value} {M : am_Hp} {a v : Nat} {i : Int32} (hdg : decode r.2.1 pc = .ok (.aastore, 1)) (hT : hp_T M a = 29) (hv : hp_T M v = 22) (hv0 : v ≠ 0) (hin : vp_in i (hp_N M a)) (kk : am_J X (pc + 1) lv rest (hp_sQ M a i.toNatClampNeg v) bc bs) : am_J X pc lv (.ref v :: .int i :: .ref a :: rest) M bc bs := by
  obtain ⟨p, e, R, s, m, args, below, meth, c, Qf, nL, G', mc, ms, d'⟩ := X
  obtain ⟨hx, hb, hml, hown, hts, hU, hlk, htb, hmc, hms, hfr, hlo, hst, hnL, rfl, rfl⟩ := hX
  intro H locs cells slots ls h1 h2 h3 h4 h5
  obtain ⟨L, hP, hD, hPX, hT0, hTX, hXX, hLL, h0⟩ := id h1
  have haL : a ∈ L := hT0 a (by omega) (by omega)
  obtain ⟨j, hj⟩ := va_pl_get (X := []) (f := am_rl (gx_cy G') M) haL
  have hj2 := hj.trans (congrArg (fun e => some (a, e)) (am_rl_arr (cy := gx_cy G') hT (by omega) (by omega)))
  rw [am_ct_q (by omega) (by omega)] at hj2
  exact va_astqM hx hb hU.1 hP hD h2 j 11 hj2 rfl (am_any22 hU h1 hv) hin hdg (fun H1 locs1 hP1 hD1 hS1 => kk H1 locs1 cells slots ls (am_H.put hU.2.1 hD hPX hT0 hTX hXX hLL h0 haL hj (am_rl_sQ hT (by omega) (by omega) hv0) (fun _ => rfl) h2 hS1 hP1 hD1) hS1 h3 h4 h5)
theorem tn_overI : Cond.arrayOver (.array .int) ∈ am_nw := by decide +kernel
theorem j_aast28 {X : am_Cx} {r : am_Rec} {G : am_Gx} {d : Nat} (hX : am_ok X r G d) {pc bc bs : Nat} {lv : List (Nat × Value)} {rest : List Value} {M : am_Hp} {a v : Nat} {i : Int32} (hdg : decode r.2.1 pc = .ok (.aastore, 1)) (hT : hp_T M a = 28) (hv : hp_T M v = 22) (hv0 : v ≠ 0) (hin : vp_in i (hp_N M a)) (kk : am_J X (pc + 1) lv rest (hp_sQ M a i.toNatClampNeg v) bc bs) : am_J X pc lv (.ref v :: .int i :: .ref a :: rest) M bc bs := by
  obtain ⟨p, e, R, s, m, args, below, meth, c, Qf, nL, G', mc, ms, d'⟩ := X
  obtain ⟨hx, hb, hml, hown, hts, hU, hlk, htb, hmc, hms, hfr, hlo, hst, hnL, rfl, rfl⟩ := hX
  intro H locs cells slots ls h1 h2 h3 h4 h5
  obtain ⟨L, hP, hD, hPX, hT0, hTX, hXX, hLL, h0⟩ := id h1
  have haL : a ∈ L := hT0 a (by omega) (by omega)
  obtain ⟨j, hj⟩ := va_pl_get (X := []) (f := am_rl (gx_cy G') M) haL
  have hj2 := hj.trans (congrArg (fun e => some (a, e)) (am_rl_arr (cy := gx_cy G') hT (by omega) (by omega)))
  rw [am_ct_q (by omega) (by omega)] at hj2
  have hlt : i.toNatClampNeg < hp_N M a := Nat.not_le.mp fun q => hin (Or.inr q)
  have hi0 : ¬ i < 0 := fun q => hin (Or.inl q)
  have hPv := h1.one (a := v) (by omega)
  rw [am_rl_arr hv (by omega) (by omega), am_ct_i (by omega)] at hPv
  have ev := hPv 0 _ rfl
  have f22 := am_nm22 hU
  obtain ⟨kC, hkC, -⟩ := Vm.findClass_spec f22
  obtain ⟨comp, cA, kA, k1, k2, k3, k4⟩ := Cond.arrayOver_specA (hU.2.2.1 _ tn_overI : (Cond.arrayOver (.array .int)).before #[] s = true)
  have ecA : cA = gx_cy G' 28 := Option.some.inj (k4.symm.trans (hU.1.2 8 _ rfl).2)
  subst ecA
  have ecomp : comp = gx_cy G' 22 := Option.some.inj (k1.symm.trans f22)
  subst ecomp
  refine W.aast hx hb (hP j _ hj2) (fun q h => by cases h) (fun h => by cases h) k2 k3 rfl hkC ⟨hi0, by show _ < (arrV _ _ _).slots.size; rw [arrV_size]; exact hlt⟩ ev (fun q h => by cases h) hkC (va_asg _ _) rfl rfl hdg fun H1 e z oq => ?_
  have hset : va_P (gx_D G') am_cl ((va_pl L (am_rl (gx_cy G') M)).set j (a, .inl (gx_cy G' 28, hp_N M a, .inr (.inr (.inr (.inr (va_up (fun k => am_o (hp_Q M a k)) i.toNatClampNeg (some v)))))))) H1 := hP.set hD hj2 (by
    show H1[a]? = some (vp_cell _ _)
    rw [e, vp_cell_q, vp_cell_q, arrV_store]
    congr 2
    funext q
    by_cases hq : q = i.toNatClampNeg
    · subst hq
      simp [updV, va_up, va_rf]
    · simp [updV, va_up, hq]) oq
  have hS1 : va_S (am_A G') s.heap H1 (locs ++ [⟨a, i.toNatClampNeg⟩]) := h2.put z oq (hD.2 j _ hj2)
  exact kk H1 _ cells slots ls (am_H.put hU.2.1 hD hPX hT0 hTX hXX hLL h0 haL hj (am_rl_sQ hT (by omega) (by omega) hv0) (fun _ => rfl) h2 hS1 hset (hD.set hj2)) hS1 h3 h4 h5
theorem j_anew29 {X : am_Cx} {r : am_Rec} {G : am_Gx} {d : Nat} (hX : am_ok X r G d) {pc bc bs : Nat} {lv : List (Nat × Value)} {rest : List Value} {M : am_Hp} {n : Int32} {idx : Nat} (hdg : decode r.2.1 pc = .ok (.anewarray idx, 3)) (hcl : Cond.classLink r.1.cls idx "java/lang/Object" ∈ am_gt) (hw : va_AOw "java/lang/Object") (hn : ¬ n < 0) (hbytes : n.toNatClampNeg * 4 ≤ 536870912) (hbc : 1 ≤ bc) (hbs : n.toNatClampNeg ≤ bs) (kk : ∀ a, hp_T M a = 0 → a ≠ 0 → am_J X (pc + 3) lv (.ref a :: rest) (hp_a M a 29 n.toNatClampNeg) (bc - 1) (bs - n.toNatClampNeg)) : am_J X pc lv (.int n :: rest) M bc bs := by
  obtain ⟨p, e, R, s, m, args, below, meth, c, Qf, nL, G', mc, ms, d'⟩ := X
  obtain ⟨hx, hb, hml, hown, hts, hU, hlk, htb, hmc, hms, hfr, hlo, hst, hnL, rfl, rfl⟩ := hX
  intro H locs cells slots ls h1 h2 h3 h4 h5
  obtain ⟨L, hP, hD, hPX, hT0, hTX, hXX, hLL, h0⟩ := h1
  refine va_newq hx hb hown (hts _ hcl) (am_AO hw hU) hU.1 hP hD h2 (fun q h => Nat.le_trans hU.2.1 h) hn rfl hbytes (by omega) (by omega) hdg (fun q cA H1 hK1 hP1 hD1 hS1 => ?_)
  have hcA : cA = gx_cy G' 29 := by
    obtain ⟨k1, c1, -, -, -, z1⟩ := (hK1.2 12 (cA, .object "java/lang/Object") rfl).2
    obtain ⟨k2, c2, -, -, -, z2⟩ := (hU.1.2 11 _ rfl).2
    exact Option.some.inj (z1.symm.trans z2)
  subst hcA
  obtain ⟨g1, g2, g3⟩ := am_H.add (M' := hp_a M q 29 n.toNatClampNeg) (t := 29) (G := G') hU.2.1 hPX hT0 hTX hXX hLL h0 (by omega) h2 hS1 hP1 hD1 (fun z1 z2 => ⟨fun b => by
    by_cases hb9 : b = q
    · subst hb9
      rw [va_up, if_pos rfl, am_rl_arr (t := 29) (by simp [hp_a, hp_T, va_up]) (by omega) (by omega)]
      simp [hp_a, hp_N, va_up, am_ct, hp_Q, am_o]
    · rw [va_up, if_neg hb9]
      exact am_rl_eq (by simp [hp_a, hp_T, va_up, hb9]) (by simp [hp_a, hp_N, va_up, hb9]) (fun u => rfl) (fun u => rfl) (by funext k; simp [hp_a, hp_E, hb9]) (by funext k; simp [hp_a, hp_Q, hb9]) (by funext k; simp [hp_a, hp_L, hb9]) (by funext k; simp [hp_a, hp_D, hb9]), fun b => rfl⟩)
  exact kk q g1 g2 H1 locs (cells + 1) (slots + n.toNatClampNeg) ls g3 hS1 (by omega) (by omega) h5
theorem j_anew28 {X : am_Cx} {r : am_Rec} {G : am_Gx} {d : Nat} (hX : am_ok X r G d) {pc bc bs : Nat} {lv : List (Nat × Value)} {rest : List Value} {M : am_Hp} {n : Int32} {idx : Nat} (hdg : decode r.2.1 pc = .ok (.anewarray idx, 3)) (hcl : Cond.classLink r.1.cls idx "[I" ∈ am_gt) (hn : ¬ n < 0) (hbytes : n.toNatClampNeg * 4 ≤ 536870912) (hbc : 1 ≤ bc) (hbs : n.toNatClampNeg ≤ bs) (kk : ∀ a, hp_T M a = 0 → a ≠ 0 → am_J X (pc + 3) lv (.ref a :: rest) (hp_a M a 28 n.toNatClampNeg) (bc - 1) (bs - n.toNatClampNeg)) : am_J X pc lv (.int n :: rest) M bc bs := by
  obtain ⟨p, e, R, s, m, args, below, meth, c, Qf, nL, G', mc, ms, d'⟩ := X
  obtain ⟨hx, hb, hml, hown, hts, hU, hlk, htb, hmc, hms, hfr, hlo, hst, hnL, rfl, rfl⟩ := hX
  intro H locs cells slots ls h1 h2 h3 h4 h5
  obtain ⟨L, hP, hD, hPX, hT0, hTX, hXX, hLL, h0⟩ := h1
  refine W.anewA (t := .int) hx hb hown (hts _ hcl) (hU.2.2.1 _ tn_overI) rfl hdg rfl hn hbytes (by omega) (by omega) fun cA kA comp f1 f2 f3 f4 => ?_
  have hcA : cA = gx_cy G' 28 := Option.some.inj (f1.symm.trans (hU.1.2 8 _ rfl).2)
  subst hcA
  generalize hH1 : H.push ({ cls := gx_cy G' 28, slots := Array.replicate n.toNatClampNeg .null, vm := .none } : Cell) = H1
  have z1 : H1.size = H.size + 1 := by rw [← hH1, Array.size_push]
  have e1 : H1[H.size]? = some (arrV (gx_cy G' 28) n.toNatClampNeg (fun _ => .null)) := by rw [← hH1, Array.getElem?_push_size, ← arrV_new]
  have o1 : ∀ q : Nat, q < H.size → H1[q]? = H[q]? := fun q hq => by rw [← hH1, Array.getElem?_push, if_neg (Nat.ne_of_lt hq)]
  have hk : ∀ (k : Nat) (x : Nat × va_E), (va_pl L (am_rl (gx_cy G') M))[k]? = some x → H1[x.1]? = H[x.1]? := fun k x hx => o1 x.1 ((hP k x hx).lt)
  have hS1 : va_S (am_A G') s.heap H1 locs := ⟨Nat.le_trans h2.1 (by omega), fun x h1 h2' => (o1 x (Nat.lt_of_lt_of_le h1 h2.1)).trans (h2.2.1 x h1 h2'), h2.2.2⟩
  have hP1 : va_P (gx_D G') am_cl (va_pl L (am_rl (gx_cy G') M) ++ [(H.size, .inl (gx_cy G' 28, n.toNatClampNeg, .inr (.inr (.inr (.inr (fun _ => none))))))]) H1 := (hP.kept hk).app (fun k x hx => by
    have hz : k < 1 := (List.getElem?_eq_some_iff.mp hx).1
    rw [show k = 0 by omega] at hx
    cases hx
    exact e1)
  have hD1 := hD.push hP (e := .inl (gx_cy G' 28, n.toNatClampNeg, .inr (.inr (.inr (.inr (fun _ => none)))))) rfl (Nat.le_trans hU.2.1 h2.1 : am_A G' H.size)
  obtain ⟨g1, g2, g3⟩ := am_H.add (M' := hp_a M H.size 28 n.toNatClampNeg) (t := 28) (G := G') hU.2.1 hPX hT0 hTX hXX hLL h0 (by omega) h2 hS1 hP1 hD1 (fun z1 z2 => ⟨fun b => by
    by_cases hb9 : b = H.size
    · subst hb9
      rw [va_up, if_pos rfl, am_rl_arr (t := 28) (by simp [hp_a, hp_T, va_up]) (by omega) (by omega)]
      simp [hp_a, hp_N, va_up, am_ct, hp_Q, am_o]
    · rw [va_up, if_neg hb9]
      exact am_rl_eq (by simp [hp_a, hp_T, va_up, hb9]) (by simp [hp_a, hp_N, va_up, hb9]) (fun u => rfl) (fun u => rfl) (by funext k; simp [hp_a, hp_E, hb9]) (by funext k; simp [hp_a, hp_Q, hb9]) (by funext k; simp [hp_a, hp_L, hb9]) (by funext k; simp [hp_a, hp_D, hb9]), fun b => rfl⟩)
  exact kk H.size g1 g2 H1 locs (cells + 1) (slots + n.toNatClampNeg) ls g3 hS1 (by omega) (by omega) h5
theorem j_castA22 {X : am_Cx} {r : am_Rec} {G : am_Gx} {d : Nat} (hX : am_ok X r G d) {pc bc bs : Nat} {lv : List (Nat × Value)} {rest : List Value} {M : am_Hp} {a idx : Nat} (hdg : decode r.2.1 pc = .ok (.checkcast idx, 3)) (hcl : Cond.classLink r.1.cls idx "[I" ∈ am_gt) (hT : hp_T M a = 22) (kk : am_J X (pc + 3) lv (.ref a :: rest) M bc bs) : am_J X pc lv (.ref a :: rest) M bc bs := by
  obtain ⟨p, e, R, s, m, args, below, meth, c, Qf, nL, G', mc, ms, d'⟩ := X
  obtain ⟨hx, hb, hml, hown, hts, hU, hlk, htb, hmc, hms, hfr, hlo, hst, hnL, rfl, rfl⟩ := hX
  intro H locs cells slots ls h1 h2 h3 h4 h5
  have hP := h1.one (a := a) (by omega)
  rw [am_rl_arr hT (by omega) (by omega)] at hP
  exact va_castA hx hb hown (hts _ hcl) hP 0 rfl (am_nm22 hU) hdg (kk H locs cells slots ls h1 h2 h3 h4 h5)
theorem tn_gcD : Cond.declares ⟨"java/lang/Object", "getClass", "()Ljava/lang/Class;"⟩ ∈ am_nw := by decide +kernel
theorem am_nm29 {G : am_Gx} {s : State} (hU : am_U G s) : s.vm.findClass "[Ljava/lang/Object;" = some (gx_cy G 29) := by
  obtain ⟨k2, c2, -, -, -, z2⟩ := (hU.1.2 11 _ rfl).2
  exact z2
theorem j_getC29 {X : am_Cx} {r : am_Rec} {G : am_Gx} {d : Nat} (hX : am_ok X r G d) {pc bc bs : Nat} {lv : List (Nat × Value)} {rest : List Value} {M : am_Hp} {a idx : Nat} (hdg : decode r.2.1 pc = .ok (.invokevirtual idx, 3)) (w1 : Cond.methodLink r.1.cls idx ⟨"java/lang/Object", "getClass", "()Ljava/lang/Class;"⟩ ∈ am_gt) (w2 : Cond.selects "[Ljava/lang/Object;" ⟨"java/lang/Object", "getClass", "()Ljava/lang/Class;"⟩ ⟨"java/lang/Object", "getClass", "()Ljava/lang/Class;"⟩ ∈ am_gt) (w3 : Cond.instanceMethod ⟨"java/lang/Object", "getClass", "()Ljava/lang/Class;"⟩ ∈ am_gt) (w4 : Cond.native ⟨"java/lang/Object", "getClass", "()Ljava/lang/Class;"⟩ ∈ am_gt) (hT : hp_T M a = 29) (hrest : (rest.map fun v => v.category).sum ≤ 8) (kk : am_J X (pc + 3) lv (.ref (gx_s G "" 0) :: rest) M bc bs) : am_J X pc lv (.ref a :: rest) M bc bs := by
  obtain ⟨p, e, R, s, m, args, below, meth, c, Qf, nL, G', mc, ms, d'⟩ := X
  obtain ⟨hx, hb, hml, hown, hts, hU, hlk, htb, hmc, hms, hfr, hlo, hst, hnL, rfl, rfl⟩ := hX
  intro H locs cells slots ls h1 h2 h3 h4 h5
  have hP := h1.one (a := a) (by omega)
  rw [am_rl_arr hT (by omega) (by omega), am_ct_q (by omega) (by omega)] at hP
  exact va_getC hx hb (by rw [hml]; exact h5.1.symm) hown (hts _ w1) (va_Nw.use rfl (hU.2.2.1 _ tn_gcD)) (hts _ w2) (hts _ w3) (hts _ w4) (hU.2.2.2.2.2.2.2.2 0).2.2.2.2.1 ⟨_, hP 0 _ rfl, rfl, am_nm29 hU⟩ (by omega) (by omega) hdg (kk H locs cells slots ls h1 h2 h3 h4 h5)
theorem j_ldcM {X : am_Cx} {r : am_Rec} {G : am_Gx} {d : Nat} (hX : am_ok X r G d) {pc bc bs : Nat} {lv : List (Nat × Value)} {rest : List Value} {M : am_Hp} {idx : Nat} (hdg : decode r.2.1 pc = .ok (.ldc idx, 2)) (w1 : Cond.classLink r.1.cls idx "[Ljava/lang/Object;" ∈ am_gt) (kk : am_J X (pc + 2) lv (.ref (gx_s G "" 0) :: rest) M bc bs) : am_J X pc lv rest M bc bs := by
  obtain ⟨p, e, R, s, m, args, below, meth, c, Qf, nL, G', mc, ms, d'⟩ := X
  obtain ⟨hx, hb, hml, hown, hts, hU, hlk, htb, hmc, hms, hfr, hlo, hst, hnL, rfl, rfl⟩ := hX
  intro H locs cells slots ls h1 h2 h3 h4 h5
  exact va_ldcM hx hb hown (hts _ w1) (hU.2.2.2.2.2.2.2.2 0).2.2.2.2.1 hdg (kk H locs cells slots ls h1 h2 h3 h4 h5)
/-- the row of references of the array a is f -/
def hp_sQA (M : am_Hp) (a : Nat) (f : Nat → Nat) : am_Hp := (hp_T M, hp_N M, hp_I M, hp_R M, hp_E M, va_up (hp_Q M) a f, hp_L M, hp_D M)
theorem am_rl_sQA {cy : Nat → ClassId} {M : am_Hp} {a t : Nat} {f : Nat → Nat} (h : hp_T M a = t) (h1 : 25 ≤ t) (h2 : t ≤ 29) : ∀ b, am_rl cy (hp_sQA M a f) b = va_up (am_rl cy M) a (.inl (cy t, hp_N M a, .inr (.inr (.inr (.inr (fun k => am_o (f k))))))) b := by
  intro b
  by_cases hb : b = a
  · subst hb
    rw [va_up, if_pos rfl, am_rl_arr (M := hp_sQA M b f) h (by omega) (by omega)]
    congr 3
    rw [am_ct_q h1 h2]
    simp [hp_sQA, hp_Q, va_up]
  · rw [va_up, if_neg hb]
    exact am_rl_eq rfl rfl (fun u => rfl) (fun u => rfl) rfl (by simp [hp_sQA, hp_Q, va_up, hb]) rfl rfl
theorem am_ocpy (f g : Nat → Nat) (sp dp n : Nat) : va_cpy (fun k => am_o (f k)) (fun k => am_o (g k)) sp dp n = fun k => am_o (va_cpy f g sp dp n k) := by
  funext k
  unfold va_cpy
  split <;> rfl
theorem j_copyq29 {X : am_Cx} {r : am_Rec} {G : am_Gx} {d : Nat} (hX : am_ok X r G d) {pc bc bs : Nat} {lv : List (Nat × Value)} {rest : List Value} {M : am_Hp} {idx a a0 : Nat} {sp dp n : Int32} (hdg : decode r.2.1 pc = .ok (.invokestatic idx, 3)) (w1 : Cond.methodLink r.1.cls idx arraycopyName ∈ am_gt) (w2 : Cond.native arraycopyName ∈ am_gt) (w3 : Cond.static arraycopyName ∈ am_gt) (w4 : Cond.initialized "java/lang/System" ∈ am_gt) (hT : hp_T M a = 29) (hT0 : hp_T M a0 = 29) (hsp : ¬ sp < 0) (hdp : ¬ dp < 0) (hn : ¬ n < 0) (g1 : sp.toNatClampNeg + n.toNatClampNeg ≤ hp_N M a0) (g2 : dp.toNatClampNeg + n.toNatClampNeg ≤ hp_N M a) (hel : ∀ i, i < n.toNatClampNeg → hp_Q M a0 (sp.toNatClampNeg + i) = 0 ∨ hp_T M (hp_Q M a0 (sp.toNatClampNeg + i)) = 22) (hrest : (rest.map fun v => v.category).sum ≤ 8) (kk : am_J X (pc + 3) lv rest (hp_sQA M a (va_cpy (hp_Q M a0) (hp_Q M a) sp.toNatClampNeg dp.toNatClampNeg n.toNatClampNeg)) bc bs) : am_J X pc lv (.int n :: .int dp :: .ref a :: .int sp :: .ref a0 :: rest) M bc bs := by
  obtain ⟨p, e, R, s, m, args, below, meth, c, Qf, nL, G', mc, ms, d'⟩ := X
  obtain ⟨hx, hb, hml, hown, hts, hU, hlk, htb, hmc, hms, hfr, hlo, hst, hnL, rfl, rfl⟩ := hX
  intro H locs cells slots ls h1 h2 h3 h4 h5
  obtain ⟨L, hP, hD, hPX, hT0', hTX, hXX, hLL, h0⟩ := id h1
  have haL : a ∈ L := hT0' a (by omega) (by omega)
  have haL0 : a0 ∈ L := hT0' a0 (by omega) (by omega)
  obtain ⟨j, hj⟩ := va_pl_get (X := []) (f := am_rl (gx_cy G') M) haL
  obtain ⟨j0, hj0⟩ := va_pl_get (X := []) (f := am_rl (gx_cy G') M) haL0
  have hj2 := hj.trans (congrArg (fun e => some (a, e)) (am_rl_arr (cy := gx_cy G') hT (by omega) (by omega)))
  have hj3 := hj0.trans (congrArg (fun e => some (a0, e)) (am_rl_arr (cy := gx_cy G') hT0 (by omega) (by omega)))
  rw [am_ct_q (by omega) (by omega)] at hj2 hj3
  refine va_copyM hx hb (by rw [hml]; exact h5.1.symm) hown (hts _ w1) (hts _ w2) (hts _ w3) (hts _ w4) hU.1 hP hD h2 j0 j 11 11 hj3 hj2 rfl rfl hsp hdp hn g1 g2 (fun i hi y hy => ?_) (by omega) (Nat.le_trans (Nat.add_le_add_right hrest _) (Nat.le_trans (show 8 + (nativeFrameWords "java/lang/System" "arraycopy" 5 + 11) ≤ 200 by decide) (by omega))) hdg (fun H1 locs1 hP1 hD1 hS1 => ?_)
  · rcases hel i hi with z | z
    · simp [am_o, z] at hy
    · have ey : hp_Q M a0 (sp.toNatClampNeg + i) = y := by
        by_cases q : hp_Q M a0 (sp.toNatClampNeg + i) = 0
        · simp [am_o, q] at hy
        · simpa [am_o, q] using hy
      rw [ey] at z
      exact am_any22 hU h1 z
  · rw [am_ocpy] at hP1 hD1
    exact kk H1 locs1 cells slots ls (am_H.put hU.2.1 hD hPX hT0' hTX hXX hLL h0 haL hj (am_rl_sQA hT (by omega) (by omega)) (fun _ => rfl) h2 hS1 hP1 hD1) hS1 h3 h4 h5
/-- the field k of the class number ci, under the name of a subclass -/
def am_FS (own : String) (idx ci k : Nat) : Prop := ∃ (C : String) (T : u_T) (N : Nat) (ref : String), am_cl[ci]? = some (C, T, N) ∧ k < N ∧ Cond.fieldLink own idx ref (T k).2.1 (T k).2.2.1 ∈ am_gt ∧ Cond.sameField ref (T k).1 (T k).2.1 (T k).2.2.1 ∈ am_gt
/-- .. of a nest mate -/
def am_FN (own : String) (idx ci k : Nat) : Prop := ∃ (C : String) (T : u_T) (N : Nat) (host : String), am_cl[ci]? = some (C, T, N) ∧ k < N ∧ Cond.fieldLinkNest own idx (T k).1 (T k).2.1 (T k).2.2.1 host ∈ am_nw
theorem j_getIF {X : am_Cx} {r : am_Rec} {G : am_Gx} {d : Nat} (hX : am_ok X r G d) {pc bc bs : Nat} {lv : List (Nat × Value)} {rest : List Value} {M : am_Hp} {idx ci k a : Nat} (hdg : decode r.2.1 pc = .ok (.getfield idx, 3)) (hF : am_FS r.1.cls idx ci k) (hk : (am_kd ci)[k]? = some false) (hT : hp_T M a = ci + 1) (hc9 : ci < 19) (kk : am_J X (pc + 3) lv (.int (hp_I M (20 * ci + k) a) :: rest) M bc bs) : am_J X pc lv (.ref a :: rest) M bc bs := by
  obtain ⟨p, e, R, s, m, args, below, meth, c, Qf, nL, G', mc, ms, d'⟩ := X
  obtain ⟨hx, hb, hml, hown, hts, hU, hlk, htb, hmc, hms, hfr, hlo, hst, hnL, rfl, rfl⟩ := hX
  intro H locs cells slots ls h1 h2 h3 h4 h5
  obtain ⟨C, T, N, ref, hc, hkN, hw, hsm⟩ := hF
  have hP := h1.one (a := a) (by omega)
  rw [am_rl_obj hT hc9] at hP
  exact va_get hx hb hts (am_cls_in hc) hown hU.1 hP 0 rfl hc k hkN (hts _ hw) (u_same (hts _ hsm)) ((am_fs_get M a hk).trans (congrArg some (show am_fv false _ a M = .int (hp_I M (20 * ci + k) a) from rfl))) hdg (kk H locs cells slots ls h1 h2 h3 h4 h5)
theorem j_getIN {X : am_Cx} {r : am_Rec} {G : am_Gx} {d : Nat} (hX : am_ok X r G d) {pc bc bs : Nat} {lv : List (Nat × Value)} {rest : List Value} {M : am_Hp} {idx ci k a : Nat} (hdg : decode r.2.1 pc = .ok (.getfield idx, 3)) (hF : am_FN r.1.cls idx ci k) (hk : (am_kd ci)[k]? = some false) (hT : hp_T M a = ci + 1) (hc9 : ci < 19) (kk : am_J X (pc + 3) lv (.int (hp_I M (20 * ci + k) a) :: rest) M bc bs) : am_J X pc lv (.ref a :: rest) M bc bs := by
  obtain ⟨p, e, R, s, m, args, below, meth, c, Qf, nL, G', mc, ms, d'⟩ := X
  obtain ⟨hx, hb, hml, hown, hts, hU, hlk, htb, hmc, hms, hfr, hlo, hst, hnL, rfl, rfl⟩ := hX
  intro H locs cells slots ls h1 h2 h3 h4 h5
  obtain ⟨C, T, N, host, hc, hkN, hw⟩ := hF
  have hP := h1.one (a := a) (by omega)
  rw [am_rl_obj hT hc9] at hP
  exact va_getN hx hb hts (am_cls_in hc) hown hU.1 hP 0 rfl hc k hkN (va_any rfl (hU.2.2.1 _ hw)) (fun _ h9 => h9) ((am_fs_get M a hk).trans (congrArg some (show am_fv false _ a M = .int (hp_I M (20 * ci + k) a) from rfl))) hdg (kk H locs cells slots ls h1 h2 h3 h4 h5)
theorem j_putIF {X : am_Cx} {r : am_Rec} {G : am_Gx} {d : Nat} (hX : am_ok X r G d) {pc bc bs : Nat} {lv : List (Nat × Value)} {rest : List Value} {M : am_Hp} {idx ci k a : Nat} {x : Int32} {ty : FieldType} (hdg : decode r.2.1 pc = .ok (.putfield idx, 3)) (hF : am_FS r.1.cls idx ci k) (hk : (am_kd ci)[k]? = some false) (hT : hp_T M a = ci + 1) (hc9 : ci < 19) (hfin : ∀ q, am_cl[ci]? = some q → (q.2.1 k).2.2.2 = false ∧ parseFieldDescriptor (q.2.1 k).2.2.1 = some ty) (hn : narrow ty (.int x) = (.int x)) (hfit : fits ty (.int x) = true) (kk : am_J X (pc + 3) lv rest (hp_sI M (20 * ci + k) a x) bc bs) : am_J X pc lv (.int x :: .ref a :: rest) M bc bs := by
  obtain ⟨p, e, R, s, m, args, below, meth, c, Qf, nL, G', mc, ms, d'⟩ := X
  obtain ⟨hx, hb, hml, hown, hts, hU, hlk, htb, hmc, hms, hfr, hlo, hst, hnL, rfl, rfl⟩ := hX
  intro H locs cells slots ls h1 h2 h3 h4 h5
  obtain ⟨C, T, N, ref, hc, hkN, hw, hsm⟩ := hF
  obtain ⟨⟨ty0, hty0⟩, hnm, hlen⟩ := am_cls_ok hc
  obtain ⟨L, hP, hD, hPX, hT0, hTX, hXX, hLL, h0⟩ := h1
  have haL : a ∈ L := hT0 a (by omega) (by omega)
  obtain ⟨j, hj⟩ := va_pl_get (X := []) (f := am_rl (gx_cy G') M) haL
  have hj2 : (va_pl L (am_rl (gx_cy G') M))[j]? = some (a, .inr (ci, am_fs ci M a)) := hj.trans (congrArg (fun e => some (a, e)) (am_rl_obj hT hc9))
  refine va_put hx hb hts (am_cls_in hc) ty0 hty0 hnm hown hU.1 hP hD h2 j hj2 hc k hkN (hts _ hw) (u_same (hts _ hsm)) (hfin _ hc).1 (hfin _ hc).2 hn hfit (by rw [am_fs_len, hlen]; exact hkN) hdg (fun H1 locs1 hP1 hD1 hS1 => kk H1 locs1 cells slots ls (am_H.put hU.2.1 hD hPX hT0 hTX hXX hLL h0 haL hj (fun b => am_rl_sI hT hc9 hk b) (fun _ => rfl) h2 hS1 hP1 hD1) hS1 h3 h4 h5)
theorem j_getRL {X : am_Cx} {r : am_Rec} {G : am_Gx} {d : Nat} (hX : am_ok X r G d) {pc bc bs : Nat} {lv : List (Nat × Value)} {rest : List Value} {M : am_Hp} {idx a : Nat} (hdg : decode r.2.1 pc = .ok (.getfield idx, 3)) (hF : am_F r.1.cls idx 7 1) (hT : hp_T M a = 8) (h0 : hp_R M 141 a ≠ 0) (kk : am_J X (pc + 3) lv (.ref (hp_R M 141 a - 1) :: rest) M bc bs) : am_J X pc lv (.ref a :: rest) M bc bs := by
  obtain ⟨p, e, R, s, m, args, below, meth, c, Qf, nL, G', mc, ms, d'⟩ := X
  obtain ⟨hx, hb, hml, hown, hts, hU, hlk, htb, hmc, hms, hfr, hlo, hst, hnL, rfl, rfl⟩ := hX
  intro H locs cells slots ls h1 h2 h3 h4 h5
  obtain ⟨C, T, N, hc, hkN, hw⟩ := hF
  have hP := h1.one (a := a) (by omega)
  rw [am_rl_obj (ci := 7) hT (by omega)] at hP
  have ev : am_fv true (20 * 7 + 1) a M = .ref (hp_R M 141 a - 1) := by
    show am_rw 141 (hp_R M 141 a) = _
    unfold am_rw
    rw [if_pos rfl, if_neg h0]
  exact va_get hx hb hts (am_cls_in hc) hown hU.1 hP 0 rfl hc 1 hkN (hts _ hw) (fun _ h9 => h9) ((am_fs_get (ci := 7) (k := 1) (b := true) M a rfl).trans (congrArg some ev)) hdg (kk H locs cells slots ls h1 h2 h3 h4 h5)
theorem j_putRL {X : am_Cx} {r : am_Rec} {G : am_Gx} {d : Nat} (hX : am_ok X r G d) {pc bc bs : Nat} {lv : List (Nat × Value)} {rest : List Value} {M : am_Hp} {idx a : Nat} {x : Nat} {ty : FieldType} (hdg : decode r.2.1 pc = .ok (.putfield idx, 3)) (hF : am_F r.1.cls idx 7 1) (hT : hp_T M a = 8) (hfin : ∀ q, am_cl[7]? = some q → (q.2.1 1).2.2.2 = false ∧ parseFieldDescriptor (q.2.1 1).2.2.1 = some ty) (hn : narrow ty (.ref x) = (.ref x)) (hfit : fits ty (.ref x) = true) (kk : am_J X (pc + 3) lv rest (hp_sR M 141 a (x + 1)) bc bs) : am_J X pc lv (.ref x :: .ref a :: rest) M bc bs := by
  obtain ⟨p, e, R, s, m, args, below, meth, c, Qf, nL, G', mc, ms, d'⟩ := X
  obtain ⟨hx, hb, hml, hown, hts, hU, hlk, htb, hmc, hms, hfr, hlo, hst, hnL, rfl, rfl⟩ := hX
  intro H locs cells slots ls h1 h2 h3 h4 h5
  obtain ⟨C, T, N, hc, hkN, hw⟩ := hF
  obtain ⟨⟨ty0, hty0⟩, hnm, hlen⟩ := am_cls_ok hc
  obtain ⟨L, hP, hD, hPX, hT0, hTX, hXX, hLL, h0⟩ := h1
  have haL : a ∈ L := hT0 a (by omega) (by omega)
  obtain ⟨j, hj⟩ := va_pl_get (X := []) (f := am_rl (gx_cy G') M) haL
  have hj2 : (va_pl L (am_rl (gx_cy G') M))[j]? = some (a, .inr (7, am_fs 7 M a)) := hj.trans (congrArg (fun e => some (a, e)) (am_rl_obj hT (by omega)))
  have ex : am_rw (20 * 7 + 1) (x + 1) = .ref x := by simp [am_rw]
  refine va_put hx hb hts (am_cls_in hc) ty0 hty0 hnm hown hU.1 hP hD h2 j hj2 hc 1 hkN (hts _ hw) (fun _ h9 => h9) (hfin _ hc).1 (hfin _ hc).2 hn hfit (by rw [am_fs_len, hlen]; exact hkN) hdg (fun H1 locs1 hP1 hD1 hS1 => kk H1 locs1 cells slots ls (am_H.put hU.2.1 hD hPX hT0 hTX hXX hLL h0 haL hj (fun b => by have e9 := am_rl_sR (cy := gx_cy G') (x := x + 1) (k := 1) hT (by omega) rfl b; rw [ex] at e9; exact e9) (fun _ => rfl) h2 hS1 hP1 hD1) hS1 h3 h4 h5)
/-- a method called by its interface -/
def am_mF (own : String) (idx : Nat) (x : MethodName) (r : am_Rec) (C : String) (n : Nat) : Prop := am_mk r ∧ r.2.2.2.2 = [] ∧ (parseMethodDescriptor x.desc).map (fun d => d.parameters.length) = some n ∧ Cond.methodLink own idx x ∈ am_gt ∧ Cond.selects C x r.1 ∈ am_gt ∧ Cond.instanceMethod r.1 ∈ am_gt ∧ x.cls ≠ "java/lang/invoke/MethodHandle" ∧ x.cls ≠ "java/lang/invoke/VarHandle"
theorem j_callF {X : am_Cx} {r : am_Rec} {G : am_Gx} {d : Nat} (hX : am_ok X r G d) {pc bc bs : Nat} {lv : List (Nat × Value)} {rest st : List Value} {M : am_Hp} {a ci : Nat} {q : vw_C} {x : MethodName} {r' : am_Rec} {As : List Value} {n idx cnt d1 kc ks : Nat} {Q1 : am_Q} (hdg : decode r.2.1 pc = .ok (.invokeinterface idx cnt, 5)) (hm : am_mF r.1.cls idx x r' q.1 n) (hFw : ∀ U, am_U G U → va_Fw q.1 x r'.1 U) (hc : am_cl[ci]? = some q) (hT : hp_T M a = ci + 1) (hc9 : ci < 19) (hn : As.length = n) (hCT : am_CT G d1 r' (.ref a :: As) M kc ks Q1) (hs : As.reverse ++ .ref a :: rest = st) (hd : d1 + 1 ≤ d) (hkc : kc ≤ bc) (hks : ks ≤ bs) (hrest : (rest.map fun v => v.category).sum ≤ 8) (hq : ∀ E M', Q1 (.inr E) M' → False) (kk : ∀ (v : Option Value) (M' : am_Hp), Q1 (.inl v) M' → am_J X (pc + 5) lv (v.toList ++ rest) M' (bc - kc) (bs - ks)) : am_J X pc lv st M bc bs := by
  obtain ⟨p, e, R, s, m, args, below, meth, c, Qf, nL, G', mc, ms, d'⟩ := X
  obtain ⟨hx, hb, hml, hown, hts, hU, hlk, htb, hmc, hms, hfr, hlo, hst, hnL, rfl, rfl⟩ := hX
  intro H locs cells slots ls h1 h2 h3 h4 h5
  subst hs
  have hM : Met (gx_l G') r'.1 (am_ws r') (am_room d1 kc ks) (am_Pc G' (.ref a :: As) M) (am_Qc G' Q1) kc ks (am_A G') := by
    intro p e ha hc hk s m args below hf happ hP hK
    obtain ⟨n, o, g1, g2, g3, g4⟩ := hCT hst p e ha hc hk s m args below hf happ hP hK
    refine ⟨n, o, g1, g2, g3, ?_⟩
    rcases g4 with g | ⟨q, g1, E, ce, L, ⟨M', g2, g3⟩, g4⟩
    · exact g
    · exact (hq _ _ g2).elim
  obtain ⟨m1, m2, m3, m4, m5, m6, m7, m8⟩ := hm
  have cw : va_CI R s args r.1.cls q.1 idx x r'.1 r'.2.1 r'.2.2.1 r'.2.2.2.1 (am_ws r') (am_room d1 kc ks) kc ks n := va_cwF n hts (show GoodIn am_gt (va_wsF r.1.cls idx q.1 x r'.1 (am_ws r')) from am_gi (pre := [Cond.methodLink r.1.cls idx x, Cond.selects q.1 x r'.1, Cond.instanceMethod r'.1, Cond.initialized r'.1.cls]) m1 (by
    have m9 := m1.2.1
    intro w hw
    simp only [List.mem_cons, List.not_mem_nil, or_false] at hw
    rcases hw with rfl | rfl | rfl | rfl <;> assumption)) (am_ws0 m2) rfl rfl (hFw s hU) ⟨m7, m8, m3⟩ ⟨by show d1 + 10 + 1 ≤ R.frames; omega, by show 8 + (_ + 11) + (40 * d1 + 200) ≤ R.locals; have := m1.2.2.1; omega⟩
  have hr : va_Run5 p (gx_l G') e R s m args below meth c H locs cells slots kc ks (F0 m pc ls (As.reverse ++ .ref a :: rest)) rest (am_Qc G' Q1 (Value.ref a :: As).toArray) (am_A G') := va_runF (g := F0 m pc ls (As.reverse ++ .ref a :: rest)) (As := As) (rest := rest) (Ts := am_gt) (count := cnt) (hU.1.1 ci q hc).2 ⟨hx, hb, hml, hown, hts⟩ hM cw ⟨am_blind _ _ _, va_recv hU.1 (ws := [(a, .inr (ci, am_fs ci M a))]) (by have hP := h1.one (a := a) (by omega); rw [am_rl_obj hT hc9] at hP; exact hP) hc (q0 := 0) rfl, am_pre hU h1 h2⟩ rfl hn h5.1 rfl (lv_room (m := m) (pc := pc) (ls := ls) (rest := []) hrest) hdg ⟨(show cells + kc ≤ R.cells by omega), (show slots + ks ≤ R.slots by omega)⟩
  intro T hT9 Xs
  obtain ⟨v, st₀, t, T', L, h0, X', hL, e1, e2, ⟨v', M', hv, hq', hH, hF'⟩, hst'⟩ := hr T hT9 Xs
  cases hv
  obtain ⟨k1, k2, k3⟩ := vx_keep h0 e1 h2 (fun _ _ h => h) (fun _ h => h) hL hF'
  obtain ⟨t2, a1, b1⟩ := kk v M' hq' T'.heap (locs ++ L) (cells + kc) (slots + ks) ls (by rw [e1]; exact hH) k3 (by omega) (by omega) h5 T' rfl X'
  exact ⟨t2, hst' t2 a1, b1⟩
