/-! .. the law's put, runs, fails -/
theorem gt_ty {T : Nat} {M M' : am_Hp} {a h E n : Nat} {L : Nat → Nat → Nat} {P : ps} {sn : md_R} {sc st b1 m1 ks rs so b2 m2 : Nat} {tx ou l : List Nat} {e1 e2 f : Int32} {S : Nat → Prop} (hJ : cJ a h E L sc st ks rs so) (hg : gL T M a h E n P.2.1 L P.1 sn P.2.2) (hx : xL M a sc st b1 m1 ks rs so b2 m2 tx ou e1 e2) (hf : hp_I M 126 a = f) (hs : ∀ x, S x ↔ (cS a h E L sc st ks rs so x ∨ x = b1 ∨ x = b2)) (k : sN M M' st b1 l) : gt T M M' a S P f sn l e1 e2 := by
  obtain ⟨b', m', t', hb', F⟩ := k
  obtain ⟨⟨x1, x2, x3, x4⟩, hS, hT1, hT2, hbb⟩ := hx
  have ts := hT1.1.1
  have u1 := hT1.1.2.2.2.1
  have u2 := hT2.1.2.2.2.1
  have Nt : ∀ x t, hp_T M x = t → t ≠ 0 → t ≠ 9 → t ≠ 20 → sm M M' x := fun x t e n0 n9 n20 => F x (by rw [e]; exact n0) (fun z => by
    rcases z with z | z
    · exact n9 (by rw [← e, z, ts])
    · exact n20 (by rw [← e, z, u1]))
  have ta := Nt a 7 hg.1 (by decide) (by decide) (by decide)
  refine ⟨fun x => cS a h E L sc st ks rs so x ∨ x = b' ∨ x = b2, ⟨h, E, L, sc, st, b', m', ks, rs, so, b2, m2, n, ou, hJ, gL_tx hg (fun x hx' => ?_), ⟨⟨(ta.2.2.2.1 _).trans x1, (ta.2.2.2.1 _).trans x2, (ta.2.2.1 _).trans x3, (ta.2.2.1 _).trans x4⟩, scR_sm (Nt sc 5 hS.1 (by decide) (by decide) (by decide)) (Nt ks 22 hS.2.2.2.2.2.2.2.1 (by decide) (by decide) (by decide)) (Nt rs 28 hS.2.2.2.2.2.2.2.2.2.1 (by decide) (by decide) (by decide)) (fun j hj => Nt _ 22 (hS.2.2.2.2.2.2.2.2.2.2.2 j hj).2.1 (by decide) (by decide) (by decide)) hS, t', ?_, fun z => ?_⟩, (ta.2.2.1 _).trans hf, fun x => Iff.rfl⟩, fun x x1 x2 => F x x1 (fun z => ?_), fun x hx' => ?_⟩
  · rcases hx' with z | z | z | ⟨i, j, hi, hj, rfl⟩
    · exact Nt x 7 z (by decide) (by decide) (by decide)
    · exact Nt x 3 z (by decide) (by decide) (by decide)
    · exact Nt x 25 z (by decide) (by decide) (by decide)
    · have := bL_tt (gL_bL hg hi) hj
      exact Nt _ _ rfl (by omega) (by omega) (by omega)
  · refine sT_sm (F so (by rw [hT2.1.1]; decide) (fun z => ?_)) (F b2 (by rw [u2]; decide) (fun z => ?_)) hT2
    · rcases z with z | z
      · exact hJ.2.2.2.1 z.symm
      · have y := hT2.1.1; rw [z, u1] at y; exact absurd y (by decide)
    · rcases z with z | z
      · rw [z, ts] at u2; exact absurd u2 (by decide)
      · exact hbb z.symm
  · rcases hb' with y | y
    · exact hbb (y.symm.trans z)
    · rw [z, u2] at y; exact absurd y (by decide)
  · rcases z with z | z
    · exact x2 ((hs x).mpr (.inl (by unfold cS; simp [z])))
    · exact x2 ((hs x).mpr (.inr (.inl z)))
  · rcases hx' with z | z | z
    · exact .inl ((hs x).mpr (.inl z))
    · rcases hb' with y | y
      · exact .inl ((hs x).mpr (.inr (.inl (z.trans y))))
      · rw [z]; exact .inr y
    · exact .inl ((hs x).mpr (.inr (.inr z)))
theorem ow_e {T : Nat} {M : am_Hp} {a : Nat} {S : Nat → Prop} {P : ps} {f : Int32} {sn : md_R} {tx : List Nat} {e1 e2 : Int32} (hO : ow T M a S P f sn tx e1 e2) : hp_I M 127 a = e1 ∧ hp_I M 128 a = e2 ∧ hp_I M 126 a = f := by
  obtain ⟨h, E, L, sc, st, b1, m1, ks, rs, so, b2, m2, n, ou, hJ, hg, hx, hf, hs⟩ := hO
  exact ⟨hx.1.2.2.1, hx.1.2.2.2, hf⟩
theorem c_type {G : am_Gx} {d T a ch : Nat} {M : am_Hp} {S : Nat → Prop} {P : ps} {f : Int32} {sn : md_R} {tx : List Nat} {e1 e2 : Int32} (hz : cz G) (hO : ow T M a S P f sn tx e1 e2) (h32 : 32 ≤ ch) (h126 : ch ≤ 126) (hl : tx.length < 60) : am_CT G (d + 6) rX6_type [.ref a, .int (i3 ch)] M 1 100 (fun o M' => ∃ v : Int32, o = .inl (some (.int v)) ∧ gt T M M' a S P f sn (tx ++ [ch]) e1 e2) := by
  obtain ⟨h, E, L, sc, st, b1, m1, ks, rs, so, b2, m2, n, ou, hJ, hg, hx, hf, hs⟩ := hO
  refine am_CT.mono (fun o M' hh => ?_) (g_type (d := d) hz hg.1 hx.1.1 hJ.2.2.2.2.2.2 hx.2.1.1 hx.2.1.2.1 hJ.2.2.2.2.1 hx.2.2.1 (by omega))
  rcases hh with ⟨z, -⟩ | ⟨c, c1, c2, ec, z⟩
  · exfalso
    rcases z with z | z
    · have := (i3_lt (by omega) (by omega)).mp z; omega
    · have := (i3_lt (by omega) (by omega)).mp z; omega
  · have ecc := (i3_eq (by omega) (by omega)).mp ec
    subst ecc
    rcases z with ⟨z, -⟩ | ⟨-, eo, k⟩
    · omega
    · exact ⟨_, eo, gt_ty hJ hg hx hf hs k⟩
/-- what is only read stays -/
theorem gt_ro {T U : Nat} {M M' : am_Hp} {a : Nat} {S : Nat → Prop} {P P' : ps} {f f' : Int32} {sn sn' : md_R} {tx tx' : List Nat} {e1 e2 e1' e2' : Int32} (hO : ow T M a S P f sn tx e1 e2) (h : gt U M M' a S P' f' sn' tx' e1' e2') {x : Nat} (hx : 40 ≤ hp_T M x) : sm M M' x := by
  obtain ⟨S', -, h2, -⟩ := h
  exact h2 x (by omega) (fun z => by have := (ow_tt hO z).2; omega)
theorem pu_loop {X : am_Cx} {G : am_Gx} {d T a s : Nat} {Q : am_Q} {M0 : am_Hp} {S : Nat → Prop} {P : ps} {f : Int32} {sn : md_R} {tx cs : List Nat} {e1 e2 : Int32} (hz : cz G) (hp : sioo G) (hX : am_ok X rL_put G (d + 7)) (hM : am_me X rL_put Q) (hO : ow T M0 a S P f sn tx e1 e2) (hs : stO M0 s cs) (hc : ∀ i, i < cs.length → 32 ≤ cs.getD i 0 ∧ cs.getD i 0 ≤ 126) (hl : tx.length + cs.length ≤ 60) (kk : ∀ M, gt T M0 M a S P f sn (tx ++ cs) e1 e2 → Q (.inl none) M) : ∀ (j k : Nat) (M : am_Hp) (bc bs : Nat), k + j = cs.length → gt T M0 M a S P f sn (tx ++ cs.take k) e1 e2 → j ≤ bc → 100 * j ≤ bs → am_J X 2 [(0, .ref a), (1, .ref s), (2, .int (i3 k))] [] M bc bs
  | 0, k, M, bc, bs, hk, h, hbc, hbs => by
    have s1 := gt_ro hO h (show 40 ≤ hp_T M0 s by rw [hs.1]; decide)
    have s2 := gt_ro hO h (show 40 ≤ hp_T M0 (hp_R M0 180 s) by rw [hs.2.2.1]; decide)
    have hs' := stO_sm s1 s2 hs
    refine vL_put_2 hX hM (fun x0 x1 x2 M bc bs => am_J X 2 [(0, .ref x0), (1, .ref x1), (2, .int x2)] [] M bc bs) (fun _ _ _ _ _ _ h => h) ⟨hs'.1, ct_i (k_sLen (d := d + 4) hz hs') ⟨fun _ => kk M ?_, fun y => absurd ((i3_le (by omega) (by omega)).mpr (by omega)) y⟩⟩
    rw [List.take_of_length_le (by omega)] at h
    exact h
  | j + 1, k, M, bc, bs, hk, h, hbc, hbs => by
    have s1 := gt_ro hO h (show 40 ≤ hp_T M0 s by rw [hs.1]; decide)
    have s2 := gt_ro hO h (show 40 ≤ hp_T M0 (hp_R M0 180 s) by rw [hs.2.2.1]; decide)
    have hs' := stO_sm s1 s2 hs
    obtain ⟨c1, c2⟩ := hc k (by omega)
    refine vL_put_2 hX hM (fun x0 x1 x2 M bc bs => am_J X 2 [(0, .ref x0), (1, .ref x1), (2, .int x2)] [] M bc bs) (fun _ _ _ _ _ _ h => h) ⟨hs'.1, ct_i (k_sLen (d := d + 4) hz hs') ⟨fun y => ?_, fun _ => ⟨hs'.1, ct_i (k_sChr (d := d + 2) hz hp hs' (by omega) (by omega) (by omega)) ?_⟩⟩⟩
    · have := (i3_le (by omega) (by omega)).mp y
      omega
    · obtain ⟨S1, g1, g2, g3⟩ := h
      refine ⟨(ow_ta g1).1, by omega, by omega, am_CT.mono (fun o M' hh => .inl ?_) (c_type (d := d) hz g1 c1 c2 (by rw [List.length_append, List.length_take]; omega))⟩
      obtain ⟨v, eo, g⟩ := hh
      refine ⟨v, eo, fun v13 e13 => ?_⟩
      rw [e13, i3_one]
      refine pu_loop hz hp hX hM hO hs hc hl kk j (k + 1) M' _ _ (by omega) ?_ (by omega) (by omega)
      have e : tx ++ cs.take (k + 1) = tx ++ cs.take k ++ [cs.getD k 0] := by
        rw [List.append_assoc, List.take_add_one]
        congr 2
        rw [List.getD_eq_getElem?_getD, List.getElem?_eq_getElem (by omega)]
        rfl
      rw [e]
      exact gt_tr g2 g3 g
theorem w_put {G : am_Gx} {d T a s : Nat} {M : am_Hp} {S : Nat → Prop} {P : ps} {f : Int32} {sn : md_R} {tx cs : List Nat} {e1 e2 : Int32} (hz : cz G) (hp : sioo G) (hO : ow T M a S P f sn tx e1 e2) (hs : stO M s cs) (hc : ∀ i, i < cs.length → 32 ≤ cs.getD i 0 ∧ cs.getD i 0 ≤ 126) (hl : tx.length + cs.length ≤ 60) (h30 : cs.length ≤ 30) : am_CT G (d + 7) rL_put [.ref a, .ref s] M 30 3000 (fun o M' => o = .inl none ∧ gt T M M' a S P f sn (tx ++ cs) e1 e2) := by
  refine am_intro mkL_put rfl (Nat.le_of_ble_eq_true rfl) rfl (fun X hX hM => ?_)
  refine vL_put_0 hX hM (fun x0 x1 x2 M bc bs => am_J X 2 [(0, .ref x0), (1, .ref x1), (2, .int x2)] [] M bc bs) (fun _ _ _ _ _ _ h => h) (pu_loop (d := d) hz hp hX hM hO hs hc hl (fun M' h => ⟨rfl, h⟩) cs.length 0 M 30 3000 (by omega) ?_ h30 (by omega))
  rw [List.take_zero, List.append_nil]
  exact gt_rf hO
theorem ow_fc {T : Nat} {M M' : am_Hp} {a h E n : Nat} {L : Nat → Nat → Nat} {P' : ps} {sn : md_R} {sc st b1 m1 ks rs so b2 m2 : Nat} {tx ou : List Nat} {e1 e2 f : Int32} {S : Nat → Prop} (hJ : cJ a h E L sc st ks rs so) (hf : hp_I M' 126 a = f) (hs : ∀ x, S x ↔ (cS a h E L sc st ks rs so x ∨ x = b1 ∨ x = b2)) (F : fr (fun x => cS a h E L sc st ks rs so x) M M') (hg : gL T M' a h E n P'.2.1 L P'.1 sn P'.2.2) (hx : xL M' a sc st b1 m1 ks rs so b2 m2 tx ou e1 e2) : gt T M M' a S P' f sn tx e1 e2 := ⟨S, ⟨h, E, L, sc, st, b1, m1, ks, rs, so, b2, m2, n, ou, hJ, hg, hx, hf, hs⟩, F.wk (fun x hx => (hs x).mpr (.inl hx)), fun x hx => .inl hx⟩
theorem c_runScript {G : am_Gx} {d T a : Nat} {M : am_Hp} {S : Nat → Prop} {P : ps} {f : Int32} {sn : md_R} {tx : List Nat} {e1 e2 : Int32} (hz : cz G) (hp : sioo G) (hk : stK G M) (hO : ow T M a S P f sn tx e1 e2) (hT : T < 80000000) (hl : tx.length ≤ 60) : am_CT G (d + 9) rX6_runScript [.ref a] M 1 6 (fun o M' => ((rS tx 13 0 []).1 = false ∧ o = .inr "java/lang/IllegalArgumentException" ∧ gt T M M' a S P f sn [] (i3 (rS tx 13 0 []).2.1) e2) ∨ (∃ i gg, rn P.1 (rS tx 13 0 []).2.2 0 = (false, i, gg) ∧ (rS tx 13 0 []).1 = true ∧ o = .inr "java/lang/IllegalStateException" ∧ gt T M M' a S P f sn [] e1 (i3 i)) ∨ (∃ gg, rn P.1 (rS tx 13 0 []).2.2 0 = (true, (rS tx 13 0 []).2.2.length, gg) ∧ (rS tx 13 0 []).1 = true ∧ o = .inl (some (.int (i3 (rS tx 13 0 []).2.2.length))) ∧ gt (T + 23790) M M' a S (aC 0 gg P) f sn [] e1 e2)) := by
  obtain ⟨h, E, L, sc, st, b1, m1, ks, rs, so, b2, m2, n, ou, hJ, hg, hx, hf, hs⟩ := hO
  refine am_CT.mono (fun o M' hh => ?_) (g_runScript (d := d) hz hp hJ hg hx hl hk hT)
  obtain ⟨F, e126, hh⟩ := hh
  have hf' := e126.trans hf
  rcases hh with ⟨r, eo, g, x, -⟩ | ⟨r, i, gg, er, -, eo, g, x⟩ | ⟨r, gg, er, eo, ⟨n1, g⟩, x⟩
  · exact .inl ⟨r, eo, ow_fc hJ hf' hs F g x⟩
  · exact .inr (.inl ⟨i, gg, er, r, eo, ow_fc hJ hf' hs F g x⟩)
  · exact .inr (.inr ⟨gg, er, r, eo, ow_fc hJ hf' hs F (P' := aC 0 gg P) g x⟩)
/-- a script that is malformed -/
theorem w_runs1 {G : am_Gx} {d T a : Nat} {M : am_Hp} {S : Nat → Prop} {P : ps} {f : Int32} {sn : md_R} {tx : List Nat} {e1 e2 : Int32} (hz : cz G) (hp : sioo G) (hk : stK G M) (hO : ow T M a S P f sn tx e1 e2) (hT : T < 80000000) (hl : tx.length ≤ 60) (hr : (rS tx 13 0 []).1 = false) : am_CT G (d + 10) rL_runs [.ref a] M 1 6 (fun o M' => ∃ v : Int32, o = .inl (some (.int v)) ∧ v = -1 ∧ gt T M M' a S P f sn [] (i3 (rS tx 13 0 []).2.1) e2) := by
  refine am_introH mkL_runs (by decide) (Nat.le_of_ble_eq_true rfl) rfl (fun X hX hM => ?_)
  refine vL_runs_0 hX hM ⟨(ow_ta hO).1, Nat.le_refl _, Nat.le_refl _, am_CT.mono (fun o M' hh => ?_) (c_runScript (d := d) hz hp hk hO hT hl)⟩
  rcases hh with ⟨-, eo, g⟩ | ⟨i, gg, -, r, -⟩ | ⟨gg, -, r, -⟩
  · exact .inr (.inl ⟨eo, fun _ => ⟨_, rfl, rfl, g⟩⟩)
  · rw [hr] at r; cases r
  · rw [hr] at r; cases r
/-- a script of which a command fails -/
theorem w_runs2 {G : am_Gx} {d T a i : Nat} {gg : md_R} {M : am_Hp} {S : Nat → Prop} {P : ps} {f : Int32} {sn : md_R} {tx : List Nat} {e1 e2 : Int32} (hz : cz G) (hp : sioo G) (hk : stK G M) (hO : ow T M a S P f sn tx e1 e2) (hT : T < 80000000) (hl : tx.length ≤ 60) (hr : (rS tx 13 0 []).1 = true) (hn : rn P.1 (rS tx 13 0 []).2.2 0 = (false, i, gg)) : am_CT G (d + 10) rL_runs [.ref a] M 1 6 (fun o M' => ∃ v : Int32, o = .inl (some (.int v)) ∧ v = -2 ∧ gt T M M' a S P f sn [] e1 (i3 i)) := by
  refine am_introH mkL_runs (by decide) (Nat.le_of_ble_eq_true rfl) rfl (fun X hX hM => ?_)
  refine vL_runs_0 hX hM ⟨(ow_ta hO).1, Nat.le_refl _, Nat.le_refl _, am_CT.mono (fun o M' hh => ?_) (c_runScript (d := d) hz hp hk hO hT hl)⟩
  rcases hh with ⟨r, -⟩ | ⟨i', gg', er, -, eo, g⟩ | ⟨gg', er, -⟩
  · rw [hr] at r; cases r
  · rw [hn] at er
    obtain ⟨-, rfl, -⟩ : (false = false) ∧ i = i' ∧ gg = gg' := by
      injection er with h1 h2
      injection h2 with h2 h3
      exact ⟨h1, h2, h3⟩
    exact .inr (.inr ⟨eo, fun _ => ⟨_, rfl, rfl, g⟩⟩)
  · rw [hn] at er
    injection er with h1 h2
    cases h1
theorem w_fails {G : am_Gx} {d T a s k : Nat} {M : am_Hp} {S : Nat → Prop} {P : ps} {f : Int32} {sn : md_R} {cs : List Nat} {e1 e2 : Int32} (hz : cz G) (hp : sioo G) (hk : stK G M) (hO : ow T M a S P f sn [] e1 e2) (hT : T < 80000000) (hs : stO M s cs) (hc : ∀ i, i < cs.length → 32 ≤ cs.getD i 0 ∧ cs.getD i 0 ≤ 126) (h30 : cs.length ≤ 30) (hr : (rS cs 13 0 []).1 = false) (hpos : (rS cs 13 0 []).2.1 = k) (hk2 : k < 1000) : am_CT G (d + 11) rL_fails [.ref a, .ref s, .int (i3 k)] M 32 3012 (fun o M' => ∃ v : Int32, o = .inl (some (.int v)) ∧ v = 1 ∧ gt T M M' a S P f sn [] (i3 k) e2) := by
  refine am_intro mkL_fails rfl (Nat.le_of_ble_eq_true rfl) rfl (fun X hX hM => ?_)
  refine vL_fails_0 hX hM ⟨by omega, by omega, am_CT.mono (fun o M1 hh => .inl ?_) (w_put (d := d + 3) hz hp hO hs hc (by simpa using (by omega : cs.length ≤ 60)) h30)⟩
  obtain ⟨eo, g⟩ := hh
  have hk1 : stK G M1 := stK_ty hk (fun x hx => gt_ro hO g (by omega))
  obtain ⟨S1, g1, g2, g3⟩ := g
  refine ⟨eo, by omega, by omega, am_CT.mono (fun o M2 hh => ?_) (w_runs1 (d := d) hz hp hk1 g1 hT (by simpa using (by omega : cs.length ≤ 60)) hr)⟩
  obtain ⟨v, eo, rfl, g⟩ := hh
  refine ⟨_, eo, fun _ => ?_, fun y => absurd rfl y⟩
  rw [show ([] ++ cs : List Nat) = cs from rfl, hpos] at g
  have g0 := gt_tr g2 g3 g
  obtain ⟨S2, q1, -⟩ := g
  refine ⟨(ow_ta q1).1, by omega, by omega, ct_x0 (g_errorPosition (d := d + 9) (ow_ta q1).1) (v := i3 k) ?_ ⟨fun _ => ⟨_, rfl, rfl, g0⟩, fun y => absurd rfl y⟩⟩
  rw [(ow_e q1).1]
  unfold sq_flag
  rw [if_neg (i3_nm1 (by omega))]
