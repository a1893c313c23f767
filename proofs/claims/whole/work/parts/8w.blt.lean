/-! .. the law's blocks: the texts (made by gen/mk/mk8w.py) -/
/-- after a call of the class that touches only one of its buffers -/
theorem bf_J {G : am_Gx} {T : Nat} {M : am_Hp} {a h E n c : Nat} {L : Nat → Nat → Nat} {g sn : md_R} {hist : Nat → md_R} {sc st b1 m1 ks rs so b2 m2 : Nat} {tx ou : List Nat} {e1 e2 f : Int32} {A : Nat → Nat} {sb N0 o1 o2 p q : Nat} {M' : am_Hp} {s b : Nat} (hs : stt G M a h E L sc st ks rs so A sb N0 o1 o2 p q) (hg : gL T M a h E n c L g sn hist) (hx : xL M a sc st b1 m1 ks rs so b2 m2 tx ou e1 e2) (hff : hp_I M 126 a = f) (hpq : p ≠ b1 ∧ q ≠ b1 ∧ p ≠ b2 ∧ q ≠ b2) (hm : mS M A g c hist f sn tx ou e1 e2) (ts : hp_T M s = 9) (tb : hp_T M b = 20) (ss : s = st ∨ s = so) (sb' : b = b1 ∨ b = b2) (F : fr (fun x => x = s ∨ x = b) M M') : stt G M' a h E L sc st ks rs so A sb N0 o1 o2 p q ∧ mS M' A g c hist f sn tx ou e1 e2 ∧ gL T M' a h E n c L g sn hist ∧ scR M' sc st ks rs ∧ (hp_R M' 124 a = sc ∧ hp_R M' 125 a = so ∧ hp_I M' 127 a = e1 ∧ hp_I M' 128 a = e2) ∧ hp_I M' 126 a = f ∧ hp_E M' sb = hp_E M sb := by
  have F2 : fr (fun x => cS a h E L sc st ks rs so x ∨ x = b1 ∨ x = b2) M M' := fun x x1 x2 => F x x1 (fun z => by
    rcases z with z | z
    · rcases ss with y | y
      · exact x2 (.inl (by unfold cS; simp [z, y]))
      · exact x2 (.inl (by unfold cS; simp [z, y]))
    · rcases sb' with y | y
      · exact x2 (.inr (.inl (z.trans y)))
      · exact x2 (.inr (.inr (z.trans y))))
  obtain ⟨s1, sE, -⟩ := stt_c hs hg hx hpq F2
  have Nt : ∀ x t, hp_T M x = t → t ≠ 0 → t ≠ 9 → t ≠ 20 → sm M M' x := fun x t e n0 n9 n20 => F x (by rw [e]; exact n0) (fun z => by
    rcases z with z | z
    · exact n9 (by rw [← e, z, ts])
    · exact n20 (by rw [← e, z, tb]))
  have ta := Nt a 7 hg.1 (by decide) (by decide) (by decide)
  obtain ⟨⟨x1, x2, x3, x4⟩, hS, hT1, hT2, hbb⟩ := hx
  refine ⟨s1, mS_c (g := g) (sn := sn) (hist := hist) (c := c) (n := n) (T := T) hs ⟨⟨x1, x2, x3, x4⟩, hS, hT1, hT2, hbb⟩ F2 hm, gL_tx hg (fun x hx' => ?_), scR_sm (Nt sc 5 hS.1 (by decide) (by decide) (by decide)) (Nt ks 22 hS.2.2.2.2.2.2.2.1 (by decide) (by decide) (by decide)) (Nt rs 28 hS.2.2.2.2.2.2.2.2.2.1 (by decide) (by decide) (by decide)) (fun j hj => Nt _ 22 (hS.2.2.2.2.2.2.2.2.2.2.2 j hj).2.1 (by decide) (by decide) (by decide)) hS, ⟨(ta.2.2.2.1 _).trans x1, (ta.2.2.2.1 _).trans x2, (ta.2.2.1 _).trans x3, (ta.2.2.1 _).trans x4⟩, (ta.2.2.1 _).trans hff, sE⟩
  rcases hx' with z | z | z | ⟨i, j, hi, hj, rfl⟩
  · exact Nt x 7 z (by decide) (by decide) (by decide)
  · exact Nt x 3 z (by decide) (by decide) (by decide)
  · exact Nt x 25 z (by decide) (by decide) (by decide)
  · have := bL_tt (gL_bL hg hi) hj
    exact Nt _ _ rfl (by omega) (by omega) (by omega)
/-- .. the output -/
theorem bo_J {G : am_Gx} {T : Nat} {M : am_Hp} {a h E n c : Nat} {L : Nat → Nat → Nat} {g sn : md_R} {hist : Nat → md_R} {sc st b1 m1 ks rs so b2 m2 : Nat} {tx ou : List Nat} {e1 e2 f : Int32} {A : Nat → Nat} {sb N0 o1 o2 p q : Nat} {M' : am_Hp} {l : List Nat} (hs : stt G M a h E L sc st ks rs so A sb N0 o1 o2 p q) (hg : gL T M a h E n c L g sn hist) (hx : xL M a sc st b1 m1 ks rs so b2 m2 tx ou e1 e2) (hff : hp_I M 126 a = f) (hpq : p ≠ b1 ∧ q ≠ b1 ∧ p ≠ b2 ∧ q ≠ b2) (hm : mS M A g c hist f sn tx ou e1 e2) (k : sN M M' so b2 l) : stt G M' a h E L sc st ks rs so A sb N0 o1 o2 p q ∧ mS M' A g c hist f sn tx ou e1 e2 ∧ cls T M' a h E L sc st ks rs so p q g c hist f sn tx l e1 e2 ∧ hp_E M' sb = hp_E M sb := by
  obtain ⟨b', m', t', hb', F⟩ := k
  have hx0 := hx
  obtain ⟨⟨x1, x2, x3, x4⟩, hS, hT1, hT2, hbb⟩ := hx
  have u1 := hT1.1.2.2.2.1
  have u2 := hT2.1.2.2.2.1
  obtain ⟨s1, mm, gg, sR', xx, ff, sE⟩ := bf_J hs hg hx0 hff hpq hm hT2.1.1 u2 (.inr rfl) (.inr rfl) F
  have up := hs.2.2.2.1.2.2.1
  have uq := hs.2.2.2.1.2.2.2.1
  refine ⟨s1, mm, ⟨n, b1, m1, b', m', gg, ⟨xx, sR', ?_, t', fun z => ?_⟩, ff, hpq.1, hpq.2.1, fun z => ?_, fun z => ?_⟩, sE⟩
  · refine sT_sm (F st (by rw [hT1.1.1]; decide) (fun z => ?_)) (F b1 (by rw [u1]; decide) (fun z => ?_)) hT1
    · rcases z with z | z
      · exact hs.1.2.2.2.1 z
      · have y := hT1.1.1; rw [z, u2] at y; exact absurd y (by decide)
    · rcases z with z | z
      · rw [z, hT2.1.1] at u1; exact absurd u1 (by decide)
      · exact hbb z
  · rcases hb' with y | y
    · exact hbb (z.trans y)
    · rw [← z, u1] at y; exact absurd y (by decide)
  · rcases hb' with y | y
    · exact hpq.2.2.1 (z.trans y)
    · rw [← z, up] at y; exact absurd y (by decide)
  · rcases hb' with y | y
    · exact hpq.2.2.2 (z.trans y)
    · rw [← z, uq] at y; exact absurd y (by decide)
/-- .. the text -/
theorem bt_J {G : am_Gx} {T : Nat} {M : am_Hp} {a h E n c : Nat} {L : Nat → Nat → Nat} {g sn : md_R} {hist : Nat → md_R} {sc st b1 m1 ks rs so b2 m2 : Nat} {tx ou : List Nat} {e1 e2 f : Int32} {A : Nat → Nat} {sb N0 o1 o2 p q : Nat} {M' : am_Hp} {l : List Nat} (hs : stt G M a h E L sc st ks rs so A sb N0 o1 o2 p q) (hg : gL T M a h E n c L g sn hist) (hx : xL M a sc st b1 m1 ks rs so b2 m2 tx ou e1 e2) (hff : hp_I M 126 a = f) (hpq : p ≠ b1 ∧ q ≠ b1 ∧ p ≠ b2 ∧ q ≠ b2) (hm : mS M A g c hist f sn tx ou e1 e2) (k : sN M M' st b1 l) : stt G M' a h E L sc st ks rs so A sb N0 o1 o2 p q ∧ mS M' A g c hist f sn tx ou e1 e2 ∧ cls T M' a h E L sc st ks rs so p q g c hist f sn l ou e1 e2 ∧ hp_E M' sb = hp_E M sb := by
  obtain ⟨b', m', t', hb', F⟩ := k
  have hx0 := hx
  obtain ⟨⟨x1, x2, x3, x4⟩, hS, hT1, hT2, hbb⟩ := hx
  have u1 := hT1.1.2.2.2.1
  have u2 := hT2.1.2.2.2.1
  obtain ⟨s1, mm, gg, sR', xx, ff, sE⟩ := bf_J hs hg hx0 hff hpq hm hT1.1.1 u1 (.inl rfl) (.inl rfl) F
  have up := hs.2.2.2.1.2.2.1
  have uq := hs.2.2.2.1.2.2.2.1
  refine ⟨s1, mm, ⟨n, b', m', b2, m2, gg, ⟨xx, sR', t', ?_, fun z => ?_⟩, ff, fun z => ?_, fun z => ?_, hpq.2.2.1, hpq.2.2.2⟩, sE⟩
  · refine sT_sm (F so (by rw [hT2.1.1]; decide) (fun z => ?_)) (F b2 (by rw [u2]; decide) (fun z => ?_)) hT2
    · rcases z with z | z
      · exact hs.1.2.2.2.1 z.symm
      · have y := hT2.1.1; rw [z, u1] at y; exact absurd y (by decide)
    · rcases z with z | z
      · rw [z, hT1.1.1] at u2; exact absurd u2 (by decide)
      · exact hbb z.symm
  · rcases hb' with y | y
    · exact hbb (y.symm.trans z)
    · rw [z, u2] at y; exact absurd y (by decide)
  · rcases hb' with y | y
    · exact hpq.1 (z.trans y)
    · rw [← z, up] at y; exact absurd y (by decide)
  · rcases hb' with y | y
    · exact hpq.2.1 (z.trans y)
    · rw [← z, uq] at y; exact absurd y (by decide)
/-- the reference after it has written -/
theorem mS_w {M M' : am_Hp} {A : Nat → Nat} {g : md_R} {c : Nat} {hist : Nat → md_R} {f : Int32} {sn : md_R} {tx ou l : List Nat} {e1 e2 : Int32} (h : mS M A g c hist f sn tx ou e1 e2) (k : wR M M' A l) : mS M' A g c hist f sn tx l e1 e2 ∧ mfr A M M' ∧ hp_I M' 153 (A 0) = i3 0 := by
  obtain ⟨M1, ⟨hw, F, v, e⟩, rfl⟩ := k
  refine ⟨mS_153 ?_, ?_, hp_I_sI _ _ _ _⟩
  · subst e
    obtain ⟨hm, hg, hc, hc8, hh, hf, hsv, he1, he2, hy, hwt⟩ := h
    have Eb : ∀ j, j ≤ 8 → j ≠ 7 → hp_E (hp_sI (hp_sA M (A 7) F) 152 (A 0) v) (A j) = hp_E M (A j) := fun j h2 h3 => hp_E_sA' _ _ (fun z => mL_ne hm (by omega) h2 (by omega) z.symm)
    have I : ∀ u, u ≠ 152 → hp_I (hp_sI (hp_sA M (A 7) F) 152 (A 0) v) u (A 0) = hp_I M u (A 0) := fun u hu => hp_I_sIu _ _ _ _ hu
    exact ⟨mL_sk ⟨rfl, rfl, rfl, rfl, rfl⟩ hm, (Eb 1 (by omega) (by omega)).trans hg, (I _ (by decide)).trans hc, hc8, fun j k hj hk => (congrFun (Eb 4 (by omega) (by omega)) _).trans (hh j k hj hk), (I _ (by decide)).trans hf, fun k h1 hk => (congrFun (Eb 5 (by omega) (by omega)) _).trans (hsv k h1 hk), (I _ (by decide)).trans he1, (I _ (by decide)).trans he2, ⟨(I _ (by decide)).trans hy.1, hy.2.1, fun i hi => ⟨(hy.2.2 i hi).1, (hy.2.2 i hi).2.1, (congrFun (Eb 6 (by omega) (by omega)) _).trans (hy.2.2 i hi).2.2⟩⟩, hw⟩
  · subst e
    exact ((mfr_A (i := 7) (by omega)).tr mfr_I).tr mfr_I
theorem mS_y {M : am_Hp} {A : Nat → Nat} {g : md_R} {c : Nat} {hist : Nat → md_R} {f v w : Int32} {F sn : md_R} {tx ou l : List Nat} {e1 e2 : Int32} (h : mS M A g c hist f sn tx ou e1 e2) (k : yT (hp_sI (hp_sI (hp_sA M (A 6) F) 148 (A 0) v) 153 (A 0) w) A l) : mS (hp_sI (hp_sI (hp_sA M (A 6) F) 148 (A 0) v) 153 (A 0) w) A g c hist f sn l ou e1 e2 ∧ mfr A M (hp_sI (hp_sI (hp_sA M (A 6) F) 148 (A 0) v) 153 (A 0) w) := by
  refine ⟨?_, ((mfr_A (i := 6) (by omega)).tr mfr_I).tr mfr_I⟩
  obtain ⟨hm, hg, hc, hc8, hh, hf, hsv, he1, he2, hy, hwt⟩ := h
  have Eb : ∀ j, j ≤ 8 → j ≠ 6 → hp_E (hp_sI (hp_sI (hp_sA M (A 6) F) 148 (A 0) v) 153 (A 0) w) (A j) = hp_E M (A j) := fun j h2 h3 => hp_E_sA' _ _ (fun z => mL_ne hm (by omega) h2 (by omega) z.symm)
  have I : ∀ u, u ≠ 148 → u ≠ 153 → hp_I (hp_sI (hp_sI (hp_sA M (A 6) F) 148 (A 0) v) 153 (A 0) w) u (A 0) = hp_I M u (A 0) := fun u hu hu' => (hp_I_sIu _ _ _ _ hu').trans (hp_I_sIu _ _ _ _ hu)
  exact ⟨mL_sk ⟨rfl, rfl, rfl, rfl, rfl⟩ hm, (Eb 1 (by omega) (by omega)).trans hg, (I _ (by decide) (by decide)).trans hc, hc8, fun j k hj hk => (congrFun (Eb 4 (by omega) (by omega)) _).trans (hh j k hj hk), (I _ (by decide) (by decide)).trans hf, fun k h1 hk => (congrFun (Eb 5 (by omega) (by omega)) _).trans (hsv k h1 hk), (I _ (by decide) (by decide)).trans he1, (I _ (by decide) (by decide)).trans he2, k, ⟨(I _ (by decide) (by decide)).trans hwt.1, hwt.2.1, fun i hi => ⟨(hwt.2.2 i hi).1, (congrFun (Eb 7 (by omega) (by omega)) _).trans (hwt.2.2 i hi).2⟩⟩⟩
/-! the wrappers -/
def sq_out (l : List Nat) (v : Int32) : md_Sq := if 0 ≤ v ∧ v < i3 l.length then (0, i3 (l.getD v.toNatClampNeg 0)) else (1, i3 0)
theorem sq_out_le {l : List Nat} {v : Int32} : (sq_out l v).1 ≤ 1 := by
  unfold sq_out
  split <;> simp
theorem w_outputAt {G : am_Gx} {d a s b m o : Nat} {M : am_Hp} {l : List Nat} {v : Int32} (hp : sioo G) (ta : hp_T M a = 7) (r : hp_R M 125 a = s) (hs : s ≠ 0) (h : sT M s b m l) (t : hp_T M o = 23) (nn : hp_N M o = 1) : am_CT G (d + 6) rL_outputAt [.ref a, .int v, .ref o] M 1 6 (qr (sq_out l v) M o) := by
  refine am_introH mkL_outputAt (by decide) (Nat.le_of_ble_eq_true rfl) rfl (fun X hX hM => ?_)
  refine vL_outputAt_0 hX hM ⟨ta, by omega, by omega, am_CT.mono (fun z M' hq => ?_) (g_outputAt hp ta r hs h.1)⟩
  obtain ⟨e, rfl⟩ := hq
  by_cases y : 0 ≤ v ∧ v < i3 l.length
  · rw [if_pos y] at e
    refine .inl ⟨_, e, t, by rw [nn]; exact vp_in_i3 (k := 0) (by omega) (by omega), ?_⟩
    rintro _ rfl
    unfold sq_out
    rw [if_pos y]
    exact ⟨rfl, rfl⟩
  · rw [if_neg y] at e
    refine .inr ⟨e, fun _ => ?_⟩
    unfold sq_out
    rw [if_neg y]
    exact ⟨rfl, rfl⟩
theorem w_renderCar {G : am_Gx} {d T a p q so b m o : Nat} {M : am_Hp} {B : Nat → Nat} {g : md_R} {v : Int32} {l : List Nat} (hz : cz G) (h : gN M a B g) (hw : md_wf T g) (r5 : hp_R M 125 a = so) (zo : so ≠ 0) (hs : sT M so b m l) (hD : dgt G M p q) (hp : p ≠ b) (hq : q ≠ b) (t : hp_T M o = 23) (nn : hp_N M o = 1) : am_CT G (d + 7) rL_renderCar [.ref a, .int v, .ref o] M 10 906 (fun z M' => (md_ic v = false ∧ z = .inl (some (.int (i3 1))) ∧ M' = M) ∨ (∃ c, c < 3 ∧ v = i3 c ∧ z = .inl (some (.int (i3 0))) ∧ ∃ M1, sN M M1 so b (tx_car g c) ∧ M' = hp_sL M1 o 0 (i3 (tx_car g c).length).toInt64)) := by
  refine am_introH mkL_renderCar (by decide) (Nat.le_of_ble_eq_true rfl) rfl (fun X hX hM => ?_)
  refine vL_renderCar_0 hX hM ⟨h.1, by omega, by omega, am_CT.mono (fun z M' hq => ?_) (g_renderCar hz h hw r5 zo hs hD hp hq)⟩
  rcases hq with ⟨e1, e2, rfl⟩ | ⟨c, c1, c2, e2, sn⟩
  · exact .inr ⟨e2, fun _ => .inl ⟨e1, rfl, rfl⟩⟩
  · have so1 : sm M M' o := by
      obtain ⟨b', m', t', hb', F⟩ := sn
      refine F o (by rw [t]; decide) (fun z => ?_)
      rcases z with z | z
      · rw [z, hs.1.1] at t; exact absurd t (by decide)
      · rw [z, hs.1.2.2.2.1] at t; exact absurd t (by decide)
    refine .inl ⟨_, e2, so1.1.trans t, by rw [so1.2.1, nn]; exact vp_in_i3 (k := 0) (by omega) (by omega), ?_⟩
    rintro _ rfl
    exact .inr ⟨c, c1, c2, rfl, M', sn, rfl⟩
theorem w_type {G : am_Gx} {d a sc st b m o : Nat} {l : List Nat} {M : am_Hp} {v : Int32} (hz : cz G) (ta : hp_T M a = 7) (r4 : hp_R M 124 a = sc) (zs : sc ≠ 0) (t5 : hp_T M sc = 5) (r8 : hp_R M 80 sc = st) (zt : st ≠ 0) (h : sT M st b m l) (hl : l.length ≤ 60) (t : hp_T M o = 23) (nn : hp_N M o = 1) : am_CT G (d + 7) rL_type [.ref a, .int v, .ref o] M 1 100 (fun z M' => ((v < i3 32 ∨ i3 126 < v) ∧ z = .inl (some (.int (i3 1))) ∧ M' = M) ∨ (∃ c, 32 ≤ c ∧ c ≤ 126 ∧ v = i3 c ∧ ((l.length = 60 ∧ z = .inl (some (.int (i3 2))) ∧ M' = M) ∨ (l.length < 60 ∧ z = .inl (some (.int (i3 0))) ∧ ∃ M1, sN M M1 st b (l ++ [c]) ∧ M' = hp_sL M1 o 0 (i3 (l.length + 1)).toInt64)))) := by
  refine am_introH mkL_type (by decide) (Nat.le_of_ble_eq_true rfl) rfl (fun X hX hM => ?_)
  refine vL_type_0 hX hM ⟨ta, by omega, by omega, am_CT.mono (fun z M' hq => ?_) (g_type hz ta r4 zs t5 r8 zt h hl)⟩
  rcases hq with ⟨e1, e2, rfl⟩ | ⟨c, c1, c2, c3, ⟨e1, e2, rfl⟩ | ⟨e1, e2, sn⟩⟩
  · exact .inr (.inl ⟨e2, fun _ => .inl ⟨e1, rfl, rfl⟩⟩)
  · exact .inr (.inr ⟨e2, fun _ => .inr ⟨c, c1, c2, c3, .inl ⟨e1, rfl, rfl⟩⟩⟩)
  · have so1 : sm M M' o := by
      obtain ⟨b', m', t', hb', F⟩ := sn
      refine F o (by rw [t]; decide) (fun z => ?_)
      rcases z with z | z
      · rw [z, h.1.1] at t; exact absurd t (by decide)
      · rw [z, h.1.2.2.2.1] at t; exact absurd t (by decide)
    refine .inl ⟨_, e2, so1.1.trans t, by rw [so1.2.1, nn]; exact vp_in_i3 (k := 0) (by omega) (by omega), ?_⟩
    rintro _ rfl
    exact .inr ⟨c, c1, c2, c3, .inr ⟨e1, rfl, M', sn, rfl⟩⟩
theorem w_runScript {G : am_Gx} {d T a h E n c o : Nat} {M : am_Hp} {L : Nat → Nat → Nat} {g sn : md_R} {hist : Nat → md_R} {sc st b1 m1 ks rs so b2 m2 : Nat} {tx ou : List Nat} {e1 e2 : Int32} (hz : cz G) (hp : sioo G) (hJ : cJ a h E L sc st ks rs so) (hg : gL T M a h E n c L g sn hist) (hx : xL M a sc st b1 m1 ks rs so b2 m2 tx ou e1 e2) (hl : tx.length ≤ 60) (hs : stK G M) (hT : T < 80000000) (t : hp_T M o = 23) (nn : hp_N M o = 1) : am_CT G (d + 10) rL_runScript [.ref a, .ref o] M 1 6 (fun z M' => ∃ M1, fr (fun x => cS a h E L sc st ks rs so x) M M1 ∧ hp_I M1 126 a = hp_I M 126 a ∧
    (((rS tx 13 0 []).1 = false ∧ z = .inl (some (.int (i3 1))) ∧ M' = M1 ∧ gL T M1 a h E n c L g sn hist ∧ xL M1 a sc st b1 m1 ks rs so b2 m2 [] ou (i3 (rS tx 13 0 []).2.1) e2)
    ∨ ((rS tx 13 0 []).1 = true ∧ ∃ i gg, rn g (rS tx 13 0 []).2.2 0 = (false, i, gg) ∧ z = .inl (some (.int (i3 2))) ∧ M' = M1 ∧ gL T M1 a h E n c L g sn hist ∧ xL M1 a sc st b1 m1 ks rs so b2 m2 [] ou e1 (i3 i))
    ∨ ((rS tx 13 0 []).1 = true ∧ ∃ gg, rn g (rS tx 13 0 []).2.2 0 = (true, (rS tx 13 0 []).2.2.length, gg) ∧ z = .inl (some (.int (i3 0))) ∧ M' = hp_sL M1 o 0 (i3 (rS tx 13 0 []).2.2.length).toInt64 ∧ (∃ n1, gL (T + 23790) M1 a h E n1 (if c = 8 then 8 else c + 1) L gg sn (yP c g hist)) ∧ xL M1 a sc st b1 m1 ks rs so b2 m2 [] ou e1 e2))) := by
  refine am_introH mkL_runScript (by decide) (Nat.le_of_ble_eq_true rfl) rfl (fun X hX hM => ?_)
  refine vL_runScript_0 hX hM ⟨hg.1, by omega, by omega, am_CT.mono (fun z M' hq => ?_) (g_runScript hz hp hJ hg hx hl hs hT)⟩
  obtain ⟨F, i6, hr⟩ := hq
  rcases hr with ⟨r1, e, g1, x1, -⟩ | ⟨r1, i, gg, rr, -, e, g1, x1⟩ | ⟨r1, gg, rr, e, g1, x1⟩
  · exact .inr (.inl ⟨e, fun _ => ⟨M', F, i6, .inl ⟨r1, rfl, rfl, g1, x1⟩⟩⟩)
  · exact .inr (.inr ⟨e, fun _ => ⟨M', F, i6, .inr (.inl ⟨r1, i, gg, rr, rfl, rfl, g1, x1⟩)⟩⟩)
  · have so1 : sm M M' o := F o (by rw [t]; decide) (fun z => by
      have := cS_tt hg hx z
      omega)
    refine .inl ⟨_, e, so1.1.trans t, by rw [so1.2.1, nn]; exact vp_in_i3 (k := 0) (by omega) (by omega), ?_⟩
    rintro _ rfl
    exact ⟨M', F, i6, .inr (.inr ⟨r1, gg, rr, rfl, rfl, g1, x1⟩)⟩
theorem rS_len {l : List Nat} : ∀ n p acc, (rS l n p acc).2.2.length ≤ acc.length + n
  | 0, p, acc => Nat.le_refl _
  | n + 1, p, acc => by
    rw [rS]
    split
    · split
      · show (acc ++ [_]).length ≤ _
        rw [List.length_append, List.length_singleton]
        omega
      · have := rS_len (l := l) n ((cE l p 8 0 p).2.1 + 1) (acc ++ [(cE l p 8 0 p).2.2])
        rw [List.length_append, List.length_singleton] at this
        omega
    · show acc.length ≤ _
      omega
theorem nu_rn : ∀ (cs : List (Nat × List Nat)) (g : md_R) (i T K j : Nat) (gg : md_R), okC cs → md_wf T g → md_nu K g → T + 1830 * cs.length < 90000000 → K + cs.length < 1000000000 → rn g cs i = (true, j, gg) → md_nu (K + cs.length) gg
  | [], g, i, T, K, j, gg, _, _, hn, _, _, e => by
    rw [rn] at e
    obtain ⟨-, e2⟩ := Prod.mk.inj e
    rw [← (Prod.mk.inj e2).2]
    exact hn
  | c :: cs, g, i, T, K, j, gg, hok, hw, hn, hT, hK, e => by
    rw [List.length_cons] at hT hK
    rw [rn] at e
    by_cases r0 : rf_k g c.1 (xa c.2) = 0
    · rw [if_pos r0] at e
      have k8 := (hok c (List.mem_cons_self ..)).1
      have := nu_rn cs _ _ (T + 1830) (K + 1) j gg (fun x hx => hok x (List.mem_cons_of_mem _ hx)) (md_wf_pf hw (by omega) k8 r0) (nu_pf hw (by omega) (by omega) k8 r0 hn) (by omega) (by omega) e
      rw [List.length_cons]
      exact nu_mono this (by omega)
    · rw [if_neg r0] at e
      exact absurd (Prod.mk.inj e).1 Bool.false_ne_true
theorem B_2872 {X : am_Cx} {G : am_Gx} {d : Nat} {a h E : Nat} {L : Nat → Nat → Nat} {sc st ks rs so : Nat} {A : Nat → Nat} {sb N0 o1 o2 p q : Nat} {T K j bc bs : Nat} {M : am_Hp} (hX : am_ok X rL_law G (d + 13)) (hM : ∀ {pc : Nat} {lv : List (Nat × Value)} {M : am_Hp} {bc bs : Nat}, decode rL_law.2.1 pc = .ok (.ireturn, 1) → am_J X pc lv [.int (1 : Int32)] M bc bs) (hz : cz G) (hp : sioo G) (hJ : JJ G a h E L sc st ks rs so A sb N0 o1 o2 p q T K M) (hT : T < 13000000) (hK : K < 100000000) (hi : 4 * j + 3 < N0) (hN0 : N0 ≤ 2048) (hbc : 20 ≤ bc) (hbs : 2000 ≤ bs) (hN : ∀ M' T' K' bc' bs', JJ G a h E L sc st ks rs so A sb N0 o1 o2 p q T' K' M' → T' ≤ T + 23790 → K' ≤ K + 13 → bc ≤ bc' + 20 → bs ≤ bs' + 2000 → am_J X 3219 [(0, .ref sb), (1, .ref a), (2, .ref (A 0)), (3, .ref o1), (4, .ref o2), (5, .int (i3 (4 * j)))] [] M' bc' bs') : am_J X 2872 [(0, .ref sb), (1, .ref a), (2, .ref (A 0)), (3, .ref o1), (4, .ref o2), (5, .int (i3 (4 * j)))] [] M bc bs := by
  obtain ⟨g, c, hist, f, sn, tx, ou, e1, e2, hs, ⟨n, b1, m1, b2, m2, hg, hx, hff, hpq⟩, hm, hn⟩ := hJ
  have hx0 := hx
  obtain ⟨⟨x1, x2, x3, x4⟩, hS, hT1, hT2, hbb⟩ := hx
  have hw := hg.2.2.1.2
  have ok := md_wf_ok hw
  have gn : gN M a (L 8) g := ⟨hg.1, hg.2.1.1, hg.2.2.1.1⟩
  have hsJ := hs.1
  have hsD := hs.2.2.2.1
  obtain ⟨tsb, nsb, to1, no1⟩ : hp_T M sb = 42 ∧ hp_N M sb = N0 ∧ hp_T M o1 = 23 ∧ hp_N M o1 = 1 := ⟨hs.2.2.2.2.1, hs.2.2.2.2.2.1, hs.2.2.2.2.2.2.1, hs.2.2.2.2.2.2.2.1⟩
  have hJ : JJ G a h E L sc st ks rs so A sb N0 o1 o2 p q T K M := ⟨g, c, hist, f, sn, tx, ou, e1, e2, hs, ⟨n, b1, m1, b2, m2, hg, hx0, hff, hpq⟩, hm, hn⟩
  have ix1 : i3 (4 * j) + (1 : Int32) = i3 (4 * j + 1) := i3_add _ 1
  refine vL_law_2872 hX hM (fun x0 x1 x2 x3 x4 x5 M bc bs => am_J X 3219 [(0, .ref x0), (1, .ref x1), (2, .ref x2), (3, .ref x3), (4, .ref x4), (5, .int x5)] [] M bc bs) (fun _ _ _ _ _ _ _ _ _ h => h) ⟨tsb, by rw [ix1, nsb]; exact vp_in_i3 (by omega) (by omega), by omega, by omega, am_CT.mono ?_ (w_outputAt (d := d + 6) hp hg.1 x2 hsJ.2.2.2.2.2.1 hT2 to1 no1)⟩
  rintro z M5 ⟨e, eM⟩
  have hJ5 : JJ G a h E L sc st ks rs so A sb N0 o1 o2 p q T K M5 := by rw [eM]; split <;> exact hJ
  have eE : hp_E M5 = hp_E M := by rw [eM]; split <;> rfl
  have eT : hp_T M5 = hp_T M := by rw [eM]; split <;> rfl
  have eN : hp_N M5 = hp_N M := by rw [eM]; split <;> rfl
  have m5 : mL M5 A := by rw [eM]; split <;> exact hm.1
  have w5 : wT M5 A ou := by rw [eM]; split <;> exact hm.2.2.2.2.2.2.2.2.2.2
  have l1 := @sq_out_le ou (hp_E M sb ((i3 (4 * j) + (1 : Int32))).toNatClampNeg)
  refine ⟨_, e, by rw [eT]; exact tsb, by rw [ix1, eN, nsb]; exact vp_in_i3 (by omega) (by omega), m5.1, ?_⟩
  rw [eE]
  refine ct_i (c_outputAt (d := d + 10) m5 w5) ⟨m5.1, ct_i (c_thrown (d := d + 11) (M := hp_sI M5 153 (A 0) _) m5) ?_⟩
  rw [hp_I_sI]
  refine cmp_end (k := (sq_out ou (hp_E M sb ((i3 (4 * j) + (1 : Int32))).toNatClampNeg)).1) (by omega) (by rw [hp_T_sI, eT]; exact to1) (by rw [hp_N_sI, eN, no1]; exact vp_in_i3 (k := 0) (by omega) (by omega)) (fun k0 => ?_) (hN _ T K _ _ (JJ_153 hJ5) (by omega) (by omega) (by omega) (by omega))
  rw [eM, if_pos k0]
  exact hp_L_at _ _ _
theorem B_2859 {X : am_Cx} {G : am_Gx} {d : Nat} {a h E : Nat} {L : Nat → Nat → Nat} {sc st ks rs so : Nat} {A : Nat → Nat} {sb N0 o1 o2 p q : Nat} {T K j bc bs : Nat} {M : am_Hp} (hX : am_ok X rL_law G (d + 13)) (hM : ∀ {pc : Nat} {lv : List (Nat × Value)} {M : am_Hp} {bc bs : Nat}, decode rL_law.2.1 pc = .ok (.ireturn, 1) → am_J X pc lv [.int (1 : Int32)] M bc bs) (hz : cz G) (hp : sioo G) (hJ : JJ G a h E L sc st ks rs so A sb N0 o1 o2 p q T K M) (hT : T < 13000000) (hK : K < 100000000) (hi : 4 * j + 3 < N0) (hN0 : N0 ≤ 2048) (hbc : 20 ≤ bc) (hbs : 2000 ≤ bs) (hN : ∀ M' T' K' bc' bs', JJ G a h E L sc st ks rs so A sb N0 o1 o2 p q T' K' M' → T' ≤ T + 23790 → K' ≤ K + 13 → bc ≤ bc' + 20 → bs ≤ bs' + 2000 → am_J X 3219 [(0, .ref sb), (1, .ref a), (2, .ref (A 0)), (3, .ref o1), (4, .ref o2), (5, .int (i3 (4 * j)))] [] M' bc' bs') : am_J X 2859 [(0, .ref sb), (1, .ref a), (2, .ref (A 0)), (3, .ref o1), (4, .ref o2), (5, .int (i3 (4 * j)))] [] M bc bs := by
  obtain ⟨g, c, hist, f, sn, tx, ou, e1, e2, hs, ⟨n, b1, m1, b2, m2, hg, hx, hff, hpq⟩, hm, hn⟩ := hJ
  have hx0 := hx
  obtain ⟨⟨x1, x2, x3, x4⟩, hS, hT1, hT2, hbb⟩ := hx
  have hw := hg.2.2.1.2
  have ok := md_wf_ok hw
  have gn : gN M a (L 8) g := ⟨hg.1, hg.2.1.1, hg.2.2.1.1⟩
  have hsJ := hs.1
  have hsD := hs.2.2.2.1
  obtain ⟨tsb, nsb, to1, no1⟩ : hp_T M sb = 42 ∧ hp_N M sb = N0 ∧ hp_T M o1 = 23 ∧ hp_N M o1 = 1 := ⟨hs.2.2.2.2.1, hs.2.2.2.2.2.1, hs.2.2.2.2.2.2.1, hs.2.2.2.2.2.2.2.1⟩
  have hJ : JJ G a h E L sc st ks rs so A sb N0 o1 o2 p q T K M := ⟨g, c, hist, f, sn, tx, ou, e1, e2, hs, ⟨n, b1, m1, b2, m2, hg, hx0, hff, hpq⟩, hm, hn⟩
  refine vL_law_2859 hX hM (fun x0 x1 x2 x3 x4 x5 M bc bs => am_J X 3219 [(0, .ref x0), (1, .ref x1), (2, .ref x2), (3, .ref x3), (4, .ref x4), (5, .int x5)] [] M bc bs) (fun _ _ _ _ _ _ _ _ _ h => h) ⟨hg.1, by omega, by omega, am_CT.mono ?_ (g_renderFloors (d := d + 6) hz gn ok x2 hsJ.2.2.2.2.2.1 hT2 hsD hpq.2.2.1 hpq.2.2.2)⟩
  rintro z M5 ⟨ez, sn5⟩
  obtain ⟨s5, m5, c5, sE⟩ := bo_J hs hg hx0 hff hpq hm sn5
  refine ⟨_, ez, m5.1.1, am_CT.mono ?_ (c_renderFloors (d := d + 9) m5.1 m5.2.1 ok)⟩
  rintro z6 M6 ⟨ez6, wr⟩
  obtain ⟨mm, mf, -⟩ := mS_w m5 wr
  exact ⟨_, ez6, fun _ => hN _ T K _ _ ⟨g, c, hist, f, sn, tx, _, e1, e2, stt_r m5.1 mf s5, cls_r s5 m5.1 mf c5, mm, hn⟩ (by omega) (by omega) (by omega) (by omega), fun y => absurd rfl y⟩
theorem B_2803 {X : am_Cx} {G : am_Gx} {d : Nat} {a h E : Nat} {L : Nat → Nat → Nat} {sc st ks rs so : Nat} {A : Nat → Nat} {sb N0 o1 o2 p q : Nat} {T K j bc bs : Nat} {M : am_Hp} (hX : am_ok X rL_law G (d + 13)) (hM : ∀ {pc : Nat} {lv : List (Nat × Value)} {M : am_Hp} {bc bs : Nat}, decode rL_law.2.1 pc = .ok (.ireturn, 1) → am_J X pc lv [.int (1 : Int32)] M bc bs) (hz : cz G) (hp : sioo G) (hJ : JJ G a h E L sc st ks rs so A sb N0 o1 o2 p q T K M) (hT : T < 13000000) (hK : K < 100000000) (hi : 4 * j + 3 < N0) (hN0 : N0 ≤ 2048) (hbc : 20 ≤ bc) (hbs : 2000 ≤ bs) (hN : ∀ M' T' K' bc' bs', JJ G a h E L sc st ks rs so A sb N0 o1 o2 p q T' K' M' → T' ≤ T + 23790 → K' ≤ K + 13 → bc ≤ bc' + 20 → bs ≤ bs' + 2000 → am_J X 3219 [(0, .ref sb), (1, .ref a), (2, .ref (A 0)), (3, .ref o1), (4, .ref o2), (5, .int (i3 (4 * j)))] [] M' bc' bs') : am_J X 2803 [(0, .ref sb), (1, .ref a), (2, .ref (A 0)), (3, .ref o1), (4, .ref o2), (5, .int (i3 (4 * j)))] [] M bc bs := by
  obtain ⟨g, c, hist, f, sn, tx, ou, e1, e2, hs, ⟨n, b1, m1, b2, m2, hg, hx, hff, hpq⟩, hm, hn⟩ := hJ
  have hx0 := hx
  obtain ⟨⟨x1, x2, x3, x4⟩, hS, hT1, hT2, hbb⟩ := hx
  have hw := hg.2.2.1.2
  have ok := md_wf_ok hw
  have gn : gN M a (L 8) g := ⟨hg.1, hg.2.1.1, hg.2.2.1.1⟩
  have hsJ := hs.1
  have hsD := hs.2.2.2.1
  obtain ⟨tsb, nsb, to1, no1⟩ : hp_T M sb = 42 ∧ hp_N M sb = N0 ∧ hp_T M o1 = 23 ∧ hp_N M o1 = 1 := ⟨hs.2.2.2.2.1, hs.2.2.2.2.2.1, hs.2.2.2.2.2.2.1, hs.2.2.2.2.2.2.2.1⟩
  have hJ : JJ G a h E L sc st ks rs so A sb N0 o1 o2 p q T K M := ⟨g, c, hist, f, sn, tx, ou, e1, e2, hs, ⟨n, b1, m1, b2, m2, hg, hx0, hff, hpq⟩, hm, hn⟩
  have ix1 : i3 (4 * j) + (1 : Int32) = i3 (4 * j + 1) := i3_add _ 1
  refine vL_law_2803 hX hM (fun x0 x1 x2 x3 x4 x5 M bc bs => am_J X 3219 [(0, .ref x0), (1, .ref x1), (2, .ref x2), (3, .ref x3), (4, .ref x4), (5, .int x5)] [] M bc bs) (fun _ _ _ _ _ _ _ _ _ h => h) ⟨tsb, by rw [ix1, nsb]; exact vp_in_i3 (by omega) (by omega), by omega, by omega, am_CT.mono ?_ (w_renderCar (d := d + 5) hz gn hw x2 hsJ.2.2.2.2.2.1 hT2 hsD hpq.2.2.1 hpq.2.2.2 to1 no1)⟩
  rintro z M5 hq
  rcases hq with ⟨ic, ez, rfl⟩ | ⟨cc, cc3, ev, ez, M1, sn1, rfl⟩
  · refine ⟨_, ez, tsb, by rw [ix1, nsb]; exact vp_in_i3 (by omega) (by omega), hm.1.1, am_CT.mono ?_ (c_renderCar (d := d + 9) hm.1 hm.2.1 hw)⟩
    rintro z6 M6 hq6
    rcases hq6 with ⟨-, ez6, rfl⟩ | ⟨c', c3, ev', -⟩
    · refine ⟨_, ez6, hm.1.1, ct_i (c_thrown (d := d + 11) (M := hp_sI M5 153 (A 0) _) hm.1) ?_⟩
      rw [hp_I_sI]
      exact cmp_end (by omega) to1 (by rw [hp_N_sI, no1]; exact vp_in_i3 (k := 0) (by omega) (by omega)) (fun k0 => absurd k0 (by decide)) (hN _ T K _ _ (JJ_153 hJ) (by omega) (by omega) (by omega) (by omega))
    · rw [ev', md_ic_iff.mpr ⟨c', c3, rfl⟩] at ic
      exact absurd ic (by decide)
  · obtain ⟨s1, mm1, c1, sE⟩ := bo_J hs hg hx0 hff hpq hm sn1
    have s5 : stt G (hp_sL M1 o1 0 (i3 (tx_car g cc).length).toInt64) a h E L sc st ks rs so A sb N0 o1 o2 p q := s1
    have m5 : mS (hp_sL M1 o1 0 (i3 (tx_car g cc).length).toInt64) A g c hist f sn tx ou e1 e2 := mm1
    have c5 : cls T (hp_sL M1 o1 0 (i3 (tx_car g cc).length).toInt64) a h E L sc st ks rs so p q g c hist f sn tx (tx_car g cc) e1 e2 := c1
    have eE : hp_E (hp_sL M1 o1 0 (i3 (tx_car g cc).length).toInt64) sb = hp_E M sb := sE
    refine ⟨_, ez, s5.2.2.2.2.1, by rw [ix1, s5.2.2.2.2.2.1]; exact vp_in_i3 (by omega) (by omega), m5.1.1, ?_⟩
    rw [eE]
    refine am_CT.mono ?_ (c_renderCar (d := d + 9) m5.1 m5.2.1 hw)
    rintro z6 M6 hq6
    rcases hq6 with ⟨ic, -, -⟩ | ⟨c', c3, ev', ez6, wr⟩
    · rw [ev, md_ic_iff.mpr ⟨cc, cc3, rfl⟩] at ic
      exact absurd ic (by decide)
    · obtain rfl : cc = c' := (i3_eq (by omega) (by omega)).mp (ev.symm.trans ev')
      obtain ⟨mm, mf, e153⟩ := mS_w m5 wr
      have s6 := stt_r m5.1 mf s5
      refine ⟨_, ez6, mm.1.1, ct_i (c_thrown (d := d + 11) mm.1) ?_⟩
      rw [e153]
      refine cmp_end (k := 0) (by omega) s6.2.2.2.2.2.2.1 (by rw [s6.2.2.2.2.2.2.2.1]; exact vp_in_i3 (k := 0) (by omega) (by omega)) (fun _ => ?_) (hN _ T K _ _ ⟨g, c, hist, f, sn, tx, _, e1, e2, s6, cls_r s5 m5.1 mf c5, mm, hn⟩ (by omega) (by omega) (by omega) (by omega))
      rw [mf.1.2.2.2.1]
      exact hp_L_at _ _ _
theorem B_2928 {X : am_Cx} {G : am_Gx} {d : Nat} {a h E : Nat} {L : Nat → Nat → Nat} {sc st ks rs so : Nat} {A : Nat → Nat} {sb N0 o1 o2 p q : Nat} {T K j bc bs : Nat} {M : am_Hp} (hX : am_ok X rL_law G (d + 13)) (hM : ∀ {pc : Nat} {lv : List (Nat × Value)} {M : am_Hp} {bc bs : Nat}, decode rL_law.2.1 pc = .ok (.ireturn, 1) → am_J X pc lv [.int (1 : Int32)] M bc bs) (hz : cz G) (hp : sioo G) (hJ : JJ G a h E L sc st ks rs so A sb N0 o1 o2 p q T K M) (hT : T < 13000000) (hK : K < 100000000) (hi : 4 * j + 3 < N0) (hN0 : N0 ≤ 2048) (hbc : 20 ≤ bc) (hbs : 2000 ≤ bs) (hN : ∀ M' T' K' bc' bs', JJ G a h E L sc st ks rs so A sb N0 o1 o2 p q T' K' M' → T' ≤ T + 23790 → K' ≤ K + 13 → bc ≤ bc' + 20 → bs ≤ bs' + 2000 → am_J X 3219 [(0, .ref sb), (1, .ref a), (2, .ref (A 0)), (3, .ref o1), (4, .ref o2), (5, .int (i3 (4 * j)))] [] M' bc' bs') : am_J X 2928 [(0, .ref sb), (1, .ref a), (2, .ref (A 0)), (3, .ref o1), (4, .ref o2), (5, .int (i3 (4 * j)))] [] M bc bs := by
  obtain ⟨g, c, hist, f, sn, tx, ou, e1, e2, hs, ⟨n, b1, m1, b2, m2, hg, hx, hff, hpq⟩, hm, hn⟩ := hJ
  have hx0 := hx
  obtain ⟨⟨x1, x2, x3, x4⟩, hS, hT1, hT2, hbb⟩ := hx
  have hw := hg.2.2.1.2
  have ok := md_wf_ok hw
  have gn : gN M a (L 8) g := ⟨hg.1, hg.2.1.1, hg.2.2.1.1⟩
  have hsJ := hs.1
  have hsD := hs.2.2.2.1
  obtain ⟨tsb, nsb, to1, no1⟩ : hp_T M sb = 42 ∧ hp_N M sb = N0 ∧ hp_T M o1 = 23 ∧ hp_N M o1 = 1 := ⟨hs.2.2.2.2.1, hs.2.2.2.2.2.1, hs.2.2.2.2.2.2.1, hs.2.2.2.2.2.2.2.1⟩
  have hJ : JJ G a h E L sc st ks rs so A sb N0 o1 o2 p q T K M := ⟨g, c, hist, f, sn, tx, ou, e1, e2, hs, ⟨n, b1, m1, b2, m2, hg, hx0, hff, hpq⟩, hm, hn⟩
  have ix1 : i3 (4 * j) + (1 : Int32) = i3 (4 * j + 1) := i3_add _ 1
  have h60 := hm.2.2.2.2.2.2.2.2.2.1.2.1
  refine vL_law_2928 hX hM (fun x0 x1 x2 x3 x4 x5 M bc bs => am_J X 3219 [(0, .ref x0), (1, .ref x1), (2, .ref x2), (3, .ref x3), (4, .ref x4), (5, .int x5)] [] M bc bs) (fun _ _ _ _ _ _ _ _ _ h => h) ⟨tsb, by rw [ix1, nsb]; exact vp_in_i3 (by omega) (by omega), by omega, by omega, am_CT.mono ?_ (w_type (d := d + 5) hz hg.1 x1 hsJ.2.2.2.2.2.2 hS.1 hS.2.1 hsJ.2.2.2.2.1 hT1 h60 to1 no1)⟩
  rintro z M5 hq
  rcases hq with ⟨ic, ez, rfl⟩ | ⟨cc, c32, c126, ev, ⟨l60, ez, rfl⟩ | ⟨l60, ez, M1, sn1, rfl⟩⟩
  · refine ⟨_, ez, tsb, by rw [ix1, nsb]; exact vp_in_i3 (by omega) (by omega), hm.1.1, am_CT.mono ?_ (c_type (d := d + 10) hm.1 hm.2.2.2.2.2.2.2.2.2.1)⟩
    rintro z6 M6 hq6
    rcases hq6 with ⟨-, ez6, rfl⟩ | ⟨c', c1, c2, ev', -⟩
    · refine ⟨_, ez6, hm.1.1, ct_i (c_thrown (d := d + 11) (M := hp_sI M5 153 (A 0) _) hm.1) ?_⟩
      rw [hp_I_sI]
      exact cmp_end (by omega) to1 (by rw [hp_N_sI, no1]; exact vp_in_i3 (k := 0) (by omega) (by omega)) (fun k0 => absurd k0 (by decide)) (hN _ T K _ _ (JJ_153 hJ) (by omega) (by omega) (by omega) (by omega))
    · rw [ev'] at ic
      exact absurd ic (by rw [i3_lt (by omega) (by omega), i3_lt (by omega) (by omega)]; omega)
  · refine ⟨_, ez, tsb, by rw [ix1, nsb]; exact vp_in_i3 (by omega) (by omega), hm.1.1, am_CT.mono ?_ (c_type (d := d + 10) hm.1 hm.2.2.2.2.2.2.2.2.2.1)⟩
    rintro z6 M6 hq6
    rcases hq6 with ⟨ic, -, -⟩ | ⟨c', c1, c2, ev', ⟨-, ez6, rfl⟩ | ⟨y60, -, -⟩⟩
    · rw [ev] at ic
      exact absurd ic (by rw [i3_lt (by omega) (by omega), i3_lt (by omega) (by omega)]; omega)
    · refine ⟨_, ez6, hm.1.1, ct_i (c_thrown (d := d + 11) (M := hp_sI M5 153 (A 0) _) hm.1) ?_⟩
      rw [hp_I_sI]
      exact cmp_end (by omega) to1 (by rw [hp_N_sI, no1]; exact vp_in_i3 (k := 0) (by omega) (by omega)) (fun k0 => absurd k0 (by decide)) (hN _ T K _ _ (JJ_153 hJ) (by omega) (by omega) (by omega) (by omega))
    · omega
  · obtain ⟨s1, mm1, c1, sE⟩ := bt_J hs hg hx0 hff hpq hm sn1
    have s5 : stt G (hp_sL M1 o1 0 (i3 (tx.length + 1)).toInt64) a h E L sc st ks rs so A sb N0 o1 o2 p q := s1
    have m5 : mS (hp_sL M1 o1 0 (i3 (tx.length + 1)).toInt64) A g c hist f sn tx ou e1 e2 := mm1
    have c5 : cls T (hp_sL M1 o1 0 (i3 (tx.length + 1)).toInt64) a h E L sc st ks rs so p q g c hist f sn (tx ++ [cc]) ou e1 e2 := c1
    have eE : hp_E (hp_sL M1 o1 0 (i3 (tx.length + 1)).toInt64) sb = hp_E M sb := sE
    refine ⟨_, ez, s5.2.2.2.2.1, by rw [ix1, s5.2.2.2.2.2.1]; exact vp_in_i3 (by omega) (by omega), m5.1.1, ?_⟩
    rw [eE]
    refine am_CT.mono ?_ (c_type (d := d + 10) m5.1 m5.2.2.2.2.2.2.2.2.2.1)
    rintro z6 M6 hq6
    rcases hq6 with ⟨ic, -, -⟩ | ⟨c', c1', c2, ev', ⟨y60, -, -⟩ | ⟨-, ez6, F, rfl, yt⟩⟩
    · rw [ev] at ic
      exact absurd ic (by rw [i3_lt (by omega) (by omega), i3_lt (by omega) (by omega)]; omega)
    · omega
    · obtain rfl : cc = c' := (i3_eq (by omega) (by omega)).mp (ev.symm.trans ev')
      obtain ⟨mm, mf⟩ := mS_y m5 yt
      have s6 := stt_r m5.1 mf s5
      refine ⟨_, ez6, mm.1.1, ct_i (c_thrown (d := d + 11) mm.1) ?_⟩
      rw [hp_I_sI]
      refine cmp_end (k := 0) (by omega) s6.2.2.2.2.2.2.1 (by rw [s6.2.2.2.2.2.2.2.1]; exact vp_in_i3 (k := 0) (by omega) (by omega)) (fun _ => ?_) (hN _ T K _ _ ⟨g, c, hist, f, sn, tx ++ [cc], ou, e1, e2, s6, cls_r s5 m5.1 mf c5, mm, hn⟩ (by omega) (by omega) (by omega) (by omega))
      rw [mf.1.2.2.2.1]
      exact hp_L_at _ _ _
theorem B_2986 {X : am_Cx} {G : am_Gx} {d : Nat} {a h E : Nat} {L : Nat → Nat → Nat} {sc st ks rs so : Nat} {A : Nat → Nat} {sb N0 o1 o2 p q : Nat} {T K j bc bs : Nat} {M : am_Hp} (hX : am_ok X rL_law G (d + 13)) (hM : ∀ {pc : Nat} {lv : List (Nat × Value)} {M : am_Hp} {bc bs : Nat}, decode rL_law.2.1 pc = .ok (.ireturn, 1) → am_J X pc lv [.int (1 : Int32)] M bc bs) (hz : cz G) (hp : sioo G) (hJ : JJ G a h E L sc st ks rs so A sb N0 o1 o2 p q T K M) (hT : T < 13000000) (hK : K < 100000000) (hi : 4 * j + 3 < N0) (hN0 : N0 ≤ 2048) (hbc : 20 ≤ bc) (hbs : 2000 ≤ bs) (hN : ∀ M' T' K' bc' bs', JJ G a h E L sc st ks rs so A sb N0 o1 o2 p q T' K' M' → T' ≤ T + 23790 → K' ≤ K + 13 → bc ≤ bc' + 20 → bs ≤ bs' + 2000 → am_J X 3219 [(0, .ref sb), (1, .ref a), (2, .ref (A 0)), (3, .ref o1), (4, .ref o2), (5, .int (i3 (4 * j)))] [] M' bc' bs') : am_J X 2986 [(0, .ref sb), (1, .ref a), (2, .ref (A 0)), (3, .ref o1), (4, .ref o2), (5, .int (i3 (4 * j)))] [] M bc bs := by
  obtain ⟨g, c, hist, f, sn, tx, ou, e1, e2, hs, ⟨n, b1, m1, b2, m2, hg, hx, hff, hpq⟩, hm, hn⟩ := hJ
  have hx0 := hx
  obtain ⟨⟨x1, x2, x3, x4⟩, hS, hT1, hT2, hbb⟩ := hx
  have hw := hg.2.2.1.2
  have ok := md_wf_ok hw
  have gn : gN M a (L 8) g := ⟨hg.1, hg.2.1.1, hg.2.2.1.1⟩
  have hsJ := hs.1
  have hsD := hs.2.2.2.1
  obtain ⟨tsb, nsb, to1, no1⟩ : hp_T M sb = 42 ∧ hp_N M sb = N0 ∧ hp_T M o1 = 23 ∧ hp_N M o1 = 1 := ⟨hs.2.2.2.2.1, hs.2.2.2.2.2.1, hs.2.2.2.2.2.2.1, hs.2.2.2.2.2.2.2.1⟩
  have hJ : JJ G a h E L sc st ks rs so A sb N0 o1 o2 p q T K M := ⟨g, c, hist, f, sn, tx, ou, e1, e2, hs, ⟨n, b1, m1, b2, m2, hg, hx0, hff, hpq⟩, hm, hn⟩
  have h60 := hm.2.2.2.2.2.2.2.2.2.1.2.1
  have h128 : ∀ i, i < tx.length → tx.getD i 0 < 128 := fun i hi => (hm.2.2.2.2.2.2.2.2.2.1.2.2 i hi).1
  refine vL_law_2986 hX hM (fun x0 x1 x2 x3 x4 x5 M bc bs => am_J X 3219 [(0, .ref x0), (1, .ref x1), (2, .ref x2), (3, .ref x3), (4, .ref x4), (5, .int x5)] [] M bc bs) (fun _ _ _ _ _ _ _ _ _ h => h) ⟨by omega, by omega, am_CT.mono ?_ (w_runScript (d := d + 2) hz hp hsJ hg hx0 h60 hs.2.2.1 (by omega) to1 no1)⟩
  rintro z M5 ⟨M1, F, i6, hq⟩
  have F2 : fr (fun x => cS a h E L sc st ks rs so x ∨ x = b1 ∨ x = b2) M M1 := fun x x1 x2 => F x x1 (fun z => x2 (.inl z))
  obtain ⟨s1, sE, -⟩ := stt_c hs hg hx0 hpq F2
  have mm1 := mS_c (g := g) (sn := sn) (hist := hist) (c := c) (n := n) (T := T) hs hx0 F2 hm
  have f1 : hp_I M1 126 a = f := i6.trans hff
  rcases hq with ⟨r1, ez, rfl, g1, xx⟩ | ⟨r1, i, gg, rr, ez, rfl, g1, xx⟩ | ⟨r1, gg, rr, ez, rfl, ⟨n1, g1⟩, xx⟩
  · refine ⟨_, ez, mm1.1.1, am_CT.mono ?_ (c_runScript (d := d + 2) mm1 hw (by omega))⟩
    rintro z6 M6 ⟨mf, v, ez6, hq6⟩
    rcases hq6 with ⟨-, t3, m6⟩ | ⟨y, -⟩ | ⟨y, -⟩
    · have s6 := stt_r mm1.1 mf s1
      refine ⟨_, ez6, m6.1.1, ct_i (c_thrown (d := d + 11) m6.1) ?_⟩
      rw [t3]
      exact cmp_end (by omega) s6.2.2.2.2.2.2.1 (by rw [s6.2.2.2.2.2.2.2.1]; exact vp_in_i3 (k := 0) (by omega) (by omega)) (fun k0 => absurd k0 (by decide)) (hN _ T K _ _ ⟨g, c, hist, f, sn, [], ou, _, e2, s6, cls_r s1 mm1.1 mf ⟨n, b1, m1, b2, m2, g1, xx, f1, hpq⟩, m6, hn⟩ (by omega) (by omega) (by omega) (by omega))
    · rw [r1] at y; exact absurd y (by decide)
    · rw [r1] at y; exact absurd y (by decide)
  · refine ⟨_, ez, mm1.1.1, am_CT.mono ?_ (c_runScript (d := d + 2) mm1 hw (by omega))⟩
    rintro z6 M6 ⟨mf, v, ez6, hq6⟩
    rcases hq6 with ⟨y, -⟩ | ⟨-, i', gg', rr', t3, g', eg', m6⟩ | ⟨-, gg', rr', -⟩
    · rw [r1] at y; exact absurd y (by decide)
    · obtain rfl : i = i' := (Prod.mk.inj (Prod.mk.inj (rr.symm.trans rr')).2).1
      have s6 := stt_r mm1.1 mf s1
      refine ⟨_, ez6, m6.1.1, ct_i (c_thrown (d := d + 11) m6.1) ?_⟩
      rw [t3]
      exact cmp_end (by omega) s6.2.2.2.2.2.2.1 (by rw [s6.2.2.2.2.2.2.2.1]; exact vp_in_i3 (k := 0) (by omega) (by omega)) (fun k0 => absurd k0 (by decide)) (hN _ T K _ _ ⟨g', c, hist, f, sn, [], ou, e1, _, s6, cls_r s1 mm1.1 mf ⟨n, b1, m1, b2, m2, gL_cg1 eg' g1, xx, f1, hpq⟩, m6, ⟨md_nu_cg1 ok.2 eg' hn.1, hn.2⟩⟩ (by omega) (by omega) (by omega) (by omega))
    · exact absurd (Prod.mk.inj (rr.symm.trans rr')).1 Bool.false_ne_true
  · have s5 : stt G (hp_sL M1 o1 0 (i3 (rS tx 13 0 []).2.2.length).toInt64) a h E L sc st ks rs so A sb N0 o1 o2 p q := s1
    have m5 : mS (hp_sL M1 o1 0 (i3 (rS tx 13 0 []).2.2.length).toInt64) A g c hist f sn tx ou e1 e2 := mm1
    have g5 : gL (T + 23790) (hp_sL M1 o1 0 (i3 (rS tx 13 0 []).2.2.length).toInt64) a h E n1 (if c = 8 then 8 else c + 1) L gg sn (yP c g hist) := g1
    have x5 : xL (hp_sL M1 o1 0 (i3 (rS tx 13 0 []).2.2.length).toInt64) a sc st b1 m1 ks rs so b2 m2 [] ou e1 e2 := xx
    have l13 : (rS tx 13 0 []).2.2.length ≤ 13 := by have := rS_len (l := tx) 13 0 []; rw [List.length_nil] at this; omega
    have okc : okC (rS tx 13 0 []).2.2 := rS_ok h128 13 0 [] (fun c hc => by cases hc)
    have nn1 := nu_mono (nu_rn _ g 0 T K _ gg okc hw hn.1 (by omega) (by omega) rr) (K' := K + 13) (by omega)
    refine ⟨_, ez, m5.1.1, am_CT.mono ?_ (c_runScript (d := d + 2) m5 hw (by omega))⟩
    rintro z6 M6 ⟨mf, v, ez6, hq6⟩
    rcases hq6 with ⟨y, -⟩ | ⟨-, i', gg', rr', -⟩ | ⟨-, gg', rr', ev, t3, m6⟩
    · rw [r1] at y; exact absurd y (by decide)
    · exact absurd (Prod.mk.inj (rr.symm.trans rr')).1.symm Bool.false_ne_true
    · obtain rfl : gg = gg' := (Prod.mk.inj (Prod.mk.inj (rr.symm.trans rr')).2).2
      have s6 := stt_r m5.1 mf s5
      refine ⟨_, ez6, m6.1.1, ct_i (c_thrown (d := d + 11) m6.1) ?_⟩
      rw [t3]
      refine cmp_end (k := 0) (by omega) s6.2.2.2.2.2.2.1 (by rw [s6.2.2.2.2.2.2.2.1]; exact vp_in_i3 (k := 0) (by omega) (by omega)) (fun _ => ?_) (hN _ (T + 23790) (K + 13) _ _ ⟨gg, _, yP c g hist, f, sn, [], ou, e1, e2, s6, cls_r s5 m5.1 mf ⟨n1, b1, m1, b2, m2, g5, x5, f1, hpq⟩, m6, ⟨nn1, fun y => nu_mono (hn.2.1 y) (by omega), yP_nu hm.2.2.2.1 (nu_mono hn.1 (by omega)) (fun j hj => nu_mono (hn.2.2 j hj) (by omega))⟩⟩ (by omega) (by omega) (by omega) (by omega))
      rw [mf.1.2.2.2.1, ev]
      exact hp_L_at _ _ _
