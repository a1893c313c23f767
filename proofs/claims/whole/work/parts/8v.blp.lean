/-! .. the law's blocks: the predictions, save, undo and restore (made by gen/mk/mk8v.py) -/
theorem g_save2 {G : am_Gx} {d T a h E n c : Nat} {M : am_Hp} {L : Nat → Nat → Nat} {g sn : md_R} {hist : Nat → md_R} (hj : gJ a h E L) (hg : gL T M a h E n c L g sn hist) : am_CT G (d + 3) rX6_save [.ref a] M 0 0 (fun o M' => o = .inl (some (.int (g 1))) ∧ hp_I M' 126 a = i3 1 ∧ gL T M' a h E n c L g g hist ∧ zG 126 a h L M M') := by
  have hg0 := hg
  obtain ⟨ta, ⟨ra, -, rs, rh⟩, ⟨hR, hw⟩, ht, ⟨s1, s2⟩, hy, -⟩ := hg
  have b0 := hR.1.1.1
  have y0 := hR.1.2.2.2.1 0 (by omega)
  have z0 := s1.2.2.2.1 0 (by omega)
  have zb := s1.1.1
  have i31 := hR.2.2.1.1
  have j1 := hj.1
  have j2 := hj.2.1
  refine am_intro mkX6_save rfl (Nat.le_of_ble_eq_true rfl) rfl (fun X hX hM => ?_)
  refine vX6_save_0 hX hM ?_
  simp only [forall_eq]
  rw [ra, rs]
  refine ⟨ta, z0, y0, zb, ct_w (k_copy s1 s2 (fun i j hi hj' => j1 8 10 (by omega) (by omega) (by omega) i j hi hj') hR hw) (fun M6 r6 f6 => ?_)⟩
  have e1 : hp_R M6 = hp_R M := f6.1.2.2.1
  have e2 : hp_T M6 = hp_T M := f6.1.1
  have A6 : ∀ x, (∀ j, j < 22 → x ≠ L 10 j) → x ≠ a → ag M (hp_sI M6 126 a 1) x := fun x x1 x2 => ag.tr (f6.2 x x1) (ag_sI x2)
  have hs : sk M (hp_sI M6 126 a 1) := f6.1.trans sk_sI
  have o8 : ∀ i j, i < 10 → j < 22 → ag M (hp_sI M6 126 a 1) (L i j) := fun i j hi hj' => A6 _ (fun k hk => j1 i 10 (by omega) (by omega) (by omega) j k hj' hk) (j2 i j (by omega) hj').1
  have i3' : hp_I (hp_sI M6 126 a 1) 3 (L 8 0) = g 1 := by rw [(o8 8 0 (by omega) (by omega)).1, i31]
  refine ⟨by rw [e2]; exact ta, .inr rfl, ?_⟩
  rw [show hp_R (hp_sI M6 126 a 1) = hp_R M from hs.2.2.1, show hp_T (hp_sI M6 126 a 1) = hp_T M from hs.1, ra]
  have a10 : ∀ i, i < 22 → ag M6 (hp_sI M6 126 a 1) (L 10 i) := fun i hi => ag_sI (j2 10 i (by omega) hi).1
  refine ⟨y0, b0, by rw [i3'], hp_I_sI _ _ _ _, ?_, hs, fun x x1 x2 x3 => A6 x (fun j hj' => x3 10 j (by omega) hj') x1, fun w hw' => ?_⟩
  · exact gL_side hg0 hs (A6 h (fun j hj' z => (j2 10 j (by omega) hj').2.1 z.symm) hj.2.2.1.symm) (A6 E (fun j hj' z => (j2 10 j (by omega) hj').2.2 z.symm) hj.2.2.2.1.symm) (fun i j hi hj' => o8 i j (by omega) hj') (bL_ag hs (fun i hi => o8 9 i (by omega) hi) ht) (bL_ag (sk_sI) a10 ⟨r6.1, r6.2.1⟩) (.inr ⟨hp_I_sI _ _ _ _, bR_ag sk_sI a10 (md_wf_ok hw) r6, hw⟩)
  · rw [hp_I_sIu _ _ _ _ hw', (f6.2 a (fun j hj' z => (j2 10 j (by omega) hj').1 z.symm)).1]
/-- after a call of the class that touches only its buildings -/
theorem zF_J {G : am_Gx} {T : Nat} {M : am_Hp} {a h E n c : Nat} {L : Nat → Nat → Nat} {g sn : md_R} {hist : Nat → md_R} {sc st b1 m1 ks rs so b2 m2 : Nat} {tx ou : List Nat} {e1 e2 f : Int32} {A : Nat → Nat} {sb N0 o1 o2 p q : Nat} {M1 : am_Hp} (hs : stt G M a h E L sc st ks rs so A sb N0 o1 o2 p q) (hg : gL T M a h E n c L g sn hist) (hx : xL M a sc st b1 m1 ks rs so b2 m2 tx ou e1 e2) (hff : hp_I M 126 a = f) (hpq : p ≠ b1 ∧ q ≠ b1 ∧ p ≠ b2 ∧ q ≠ b2) (hm : mS M A g c hist f sn tx ou e1 e2) (h2 : zF h L M M1) : stt G M1 a h E L sc st ks rs so A sb N0 o1 o2 p q ∧ mS M1 A g c hist f sn tx ou e1 e2 ∧ xL M1 a sc st b1 m1 ks rs so b2 m2 tx ou e1 e2 ∧ hp_I M1 126 a = f ∧ hp_E M1 sb = hp_E M sb := by
  have F := zF_fr (a := a) (E := E) (sc := sc) (st := st) (ks := ks) (rs := rs) (so := so) (b1 := b1) (b2 := b2) h2
  obtain ⟨s1, sE, sL⟩ := stt_c hs hg hx hpq F
  obtain ⟨x1, i1⟩ := xL_zF hs.1 hg hx h2
  exact ⟨s1, mS_c (g := g) (sn := sn) (hist := hist) (c := c) (n := n) (T := T) hs hx F hm, x1, (i1 _).trans hff, sE⟩
/-- after a question of the reference that writes its row anew -/
theorem ct_pp {G : am_Gx} {d : Nat} {r : am_Rec} {as : List Value} {M : am_Hp} {mc ms k : Nat} {v : Int32} {A : Nat → Nat} {g : md_R} {P : Int32 → am_Hp → Prop} (h : am_CT G d r as M mc ms (qp v M A g k)) (kk : ∀ x y : md_R, (∀ j, j < 141 → x j = g j) → P v (hp_sI (hp_sA (hp_sA M (A 3) y) (A 1) x) 153 (A 0) (i3 k))) : am_CT G d r as M mc ms (fun o M' => ∃ v, o = .inl (some (.int v)) ∧ P v M') := by
  refine am_CT.mono ?_ h
  rintro o M' ⟨e, x, y, hxy, rfl⟩
  exact ⟨v, e, kk x y hxy⟩
theorem mS_qp {M : am_Hp} {A : Nat → Nat} {g x y : md_R} {c k : Nat} {hist : Nat → md_R} {f : Int32} {sn : md_R} {tx ou : List Nat} {e1 e2 : Int32} (h : mS M A g c hist f sn tx ou e1 e2) : mS (hp_sI (hp_sA (hp_sA M (A 3) y) (A 1) x) 153 (A 0) (i3 k)) A x c hist f sn tx ou e1 e2 := by
  refine mS_153 ?_
  obtain ⟨hm, hg, hc, hc8, hh, hf, hsv, he1, he2, hy, hwt⟩ := h
  have Eb : ∀ {M' : am_Hp} {F : md_R} {i j : Nat}, i ≤ 8 → j ≤ 8 → i ≠ j → hp_E (hp_sA M' (A i) F) (A j) = hp_E M' (A j) := fun h1 h2 h3 => hp_E_sA' _ _ (fun z => mL_ne hm h1 h2 h3 z.symm)
  have Ec : ∀ j, j ≤ 8 → j ≠ 3 → j ≠ 1 → hp_E (hp_sA (hp_sA M (A 3) y) (A 1) x) (A j) = hp_E M (A j) := fun j h1 h2 h3 => (Eb (by omega) h1 (by omega)).trans (Eb (by omega) h1 (by omega))
  exact ⟨mL_sk ⟨rfl, rfl, rfl, rfl, rfl⟩ hm, hp_E_sA _ _ _, hc, hc8, fun j k hj hk => (congrFun (Ec 4 (by omega) (by omega) (by omega)) _).trans (hh j k hj hk), hf, fun k h1 hk => (congrFun (Ec 5 (by omega) (by omega) (by omega)) _).trans (hsv k h1 hk), he1, he2, ⟨hy.1, hy.2.1, fun i hi => ⟨(hy.2.2 i hi).1, (hy.2.2 i hi).2.1, (congrFun (Ec 6 (by omega) (by omega) (by omega)) _).trans (hy.2.2 i hi).2.2⟩⟩, ⟨hwt.1, hwt.2.1, fun i hi => ⟨(hwt.2.2 i hi).1, (congrFun (Ec 7 (by omega) (by omega) (by omega)) _).trans (hwt.2.2 i hi).2⟩⟩⟩
theorem mfr_qp {M : am_Hp} {A : Nat → Nat} {x y : md_R} {k : Nat} : mfr A M (hp_sI (hp_sA (hp_sA M (A 3) y) (A 1) x) 153 (A 0) (i3 k)) := ((mfr_A (i := 3) (by omega)).tr (mfr_A (i := 1) (by omega))).tr mfr_I
/-- the state goes on with a row that agrees -/
theorem JJ_cg {G : am_Gx} {T K : Nat} {M : am_Hp} {a h E n c : Nat} {L : Nat → Nat → Nat} {g sn : md_R} {hist : Nat → md_R} {sc st b1 m1 ks rs so b2 m2 : Nat} {tx ou : List Nat} {e1 e2 f : Int32} {A : Nat → Nat} {sb N0 o1 o2 p q : Nat} {M' : am_Hp} {x : md_R} (hs : stt G M a h E L sc st ks rs so A sb N0 o1 o2 p q) (hg : gL T M a h E n c L g sn hist) (hx : xL M a sc st b1 m1 ks rs so b2 m2 tx ou e1 e2) (hff : hp_I M 126 a = f) (hpq : p ≠ b1 ∧ q ≠ b1 ∧ p ≠ b2 ∧ q ≠ b2) (hmL : mL M A) (hn : nus K g f sn c hist) (e : ∀ k, k < 141 → x k = g k) (mf : mfr A M M') (hm' : mS M' A x c hist f sn tx ou e1 e2) : JJ G a h E L sc st ks rs so A sb N0 o1 o2 p q T K M' := by
  have ok := md_wf_ok hg.2.2.1.2
  exact ⟨x, c, hist, f, sn, tx, ou, e1, e2, stt_r hmL mf hs, cls_r hs hmL mf ⟨n, b1, m1, b2, m2, gL_cg1 e hg, hx, hff, hpq⟩, hm', ⟨md_nu_cg1 ok.2 e hn.1, hn.2⟩⟩
theorem sq_trips_le {g : md_R} {v : Int32} : (sq_trips g v).1 ≤ 2 := by
  unfold sq_trips
  split <;> simp
theorem B_2119 {X : am_Cx} {G : am_Gx} {d : Nat} {a h E : Nat} {L : Nat → Nat → Nat} {sc st ks rs so : Nat} {A : Nat → Nat} {sb N0 o1 o2 p q : Nat} {T K j bc bs : Nat} {M : am_Hp} (hX : am_ok X rL_law G (d + 13)) (hM : ∀ {pc : Nat} {lv : List (Nat × Value)} {M : am_Hp} {bc bs : Nat}, decode rL_law.2.1 pc = .ok (.ireturn, 1) → am_J X pc lv [.int (1 : Int32)] M bc bs) (hz : cz G) (hp : sioo G) (hJ : JJ G a h E L sc st ks rs so A sb N0 o1 o2 p q T K M) (hT : T < 13000000) (hK : K < 100000000) (hi : 4 * j + 3 < N0) (hN0 : N0 ≤ 2048) (hbc : 20 ≤ bc) (hbs : 2000 ≤ bs) (hN : ∀ M' T' K' bc' bs', JJ G a h E L sc st ks rs so A sb N0 o1 o2 p q T' K' M' → T' ≤ T + 23790 → K' ≤ K + 13 → bc ≤ bc' + 20 → bs ≤ bs' + 2000 → am_J X 3219 [(0, .ref sb), (1, .ref a), (2, .ref (A 0)), (3, .ref o1), (4, .ref o2), (5, .int (i3 (4 * j)))] [] M' bc' bs') : am_J X 2119 [(0, .ref sb), (1, .ref a), (2, .ref (A 0)), (3, .ref o1), (4, .ref o2), (5, .int (i3 (4 * j)))] [] M bc bs := by
  obtain ⟨g, c, hist, f, sn, tx, ou, e1, e2, hs, ⟨n, b1, m1, b2, m2, hg, hx, hff, hpq⟩, hm, hn⟩ := hJ
  have hw := hg.2.2.1.2
  have ok := md_wf_ok hw
  obtain ⟨tsb, nsb, to1, no1⟩ : hp_T M sb = 42 ∧ hp_N M sb = N0 ∧ hp_T M o1 = 23 ∧ hp_N M o1 = 1 := ⟨hs.2.2.2.2.1, hs.2.2.2.2.2.1, hs.2.2.2.2.2.2.1, hs.2.2.2.2.2.2.2.1⟩
  have ix1 : i3 (4 * j) + (1 : Int32) = i3 (4 * j + 1) := i3_add _ 1
  refine vL_law_2119 hX hM (fun x0 x1 x2 x3 x4 x5 M bc bs => am_J X 3219 [(0, .ref x0), (1, .ref x1), (2, .ref x2), (3, .ref x3), (4, .ref x4), (5, .int x5)] [] M bc bs) (fun _ _ _ _ _ _ _ _ _ h => h) ⟨tsb, by rw [ix1, nsb]; exact vp_in_i3 (by omega) (by omega), by omega, by omega, am_CT.mono ?_ (w_stepsUntilBoarding (d := d + 5) hs.1.1 hg (by omega) hn.1.2 to1 no1)⟩
  rintro z M5 ⟨ez, M1, h1, h2, eM⟩
  obtain ⟨s1, mm1, x1, f1, sE⟩ := zF_J hs hg hx hff hpq hm h2
  have hs5 : stt G M5 a h E L sc st ks rs so A sb N0 o1 o2 p q := by rw [eM]; split <;> exact s1
  have hm5 : mS M5 A g c hist f sn tx ou e1 e2 := by rw [eM]; split <;> exact mm1
  have hx5 : xL M5 a sc st b1 m1 ks rs so b2 m2 tx ou e1 e2 := by rw [eM]; split <;> exact x1
  have hg5 : gL T M5 a h E n c L g sn hist := by rw [eM]; split <;> exact h1
  have hf5 : hp_I M5 126 a = f := by rw [eM]; split <;> exact f1
  have eE : hp_E M5 sb = hp_E M sb := by rw [eM]; split <;> exact sE
  have l2 : (sq_pred g (hp_E M sb ((i3 (4 * j) + (1 : Int32))).toNatClampNeg) true).1 ≤ 2 := sq_pred_le2
  refine ⟨_, ez, hs5.2.2.2.2.1, by rw [ix1, hs5.2.2.2.2.2.1]; exact vp_in_i3 (by omega) (by omega), hm5.1.1, ?_⟩
  rw [eE]
  refine ct_pp (c_stepsUntilBoarding (d := d + 2) hm5.1 hm5.2.1 hw (by omega)) (fun x y hxy => ?_)
  have hm' := mS_qp (x := x) (y := y) (k := (sq_pred g (hp_E M sb ((i3 (4 * j) + (1 : Int32))).toNatClampNeg) true).1) hm5
  have mf := mfr_qp (M := M5) (A := A) (x := x) (y := y) (k := (sq_pred g (hp_E M sb ((i3 (4 * j) + (1 : Int32))).toNatClampNeg) true).1)
  have hs' := stt_r hm5.1 mf hs5
  refine ⟨hm'.1.1, ct_i (c_thrown (d := d + 11) hm'.1) ?_⟩
  rw [hp_I_sI]
  refine cmp_end (by omega) hs'.2.2.2.2.2.2.1 (by rw [hs'.2.2.2.2.2.2.2.1]; exact vp_in_i3 (k := 0) (by omega) (by omega)) (fun k0 => ?_) (hN _ T K _ _ (JJ_cg hs5 hg5 hx5 hf5 hpq hm5.1 hn hxy mf hm') (by omega) (by omega) (by omega) (by omega))
  rw [mf.1.2.2.2.1, eM, if_pos k0]
  exact hp_L_at _ _ _
theorem B_2175 {X : am_Cx} {G : am_Gx} {d : Nat} {a h E : Nat} {L : Nat → Nat → Nat} {sc st ks rs so : Nat} {A : Nat → Nat} {sb N0 o1 o2 p q : Nat} {T K j bc bs : Nat} {M : am_Hp} (hX : am_ok X rL_law G (d + 13)) (hM : ∀ {pc : Nat} {lv : List (Nat × Value)} {M : am_Hp} {bc bs : Nat}, decode rL_law.2.1 pc = .ok (.ireturn, 1) → am_J X pc lv [.int (1 : Int32)] M bc bs) (hz : cz G) (hp : sioo G) (hJ : JJ G a h E L sc st ks rs so A sb N0 o1 o2 p q T K M) (hT : T < 13000000) (hK : K < 100000000) (hi : 4 * j + 3 < N0) (hN0 : N0 ≤ 2048) (hbc : 20 ≤ bc) (hbs : 2000 ≤ bs) (hN : ∀ M' T' K' bc' bs', JJ G a h E L sc st ks rs so A sb N0 o1 o2 p q T' K' M' → T' ≤ T + 23790 → K' ≤ K + 13 → bc ≤ bc' + 20 → bs ≤ bs' + 2000 → am_J X 3219 [(0, .ref sb), (1, .ref a), (2, .ref (A 0)), (3, .ref o1), (4, .ref o2), (5, .int (i3 (4 * j)))] [] M' bc' bs') : am_J X 2175 [(0, .ref sb), (1, .ref a), (2, .ref (A 0)), (3, .ref o1), (4, .ref o2), (5, .int (i3 (4 * j)))] [] M bc bs := by
  obtain ⟨g, c, hist, f, sn, tx, ou, e1, e2, hs, ⟨n, b1, m1, b2, m2, hg, hx, hff, hpq⟩, hm, hn⟩ := hJ
  have hw := hg.2.2.1.2
  have ok := md_wf_ok hw
  obtain ⟨tsb, nsb, to1, no1⟩ : hp_T M sb = 42 ∧ hp_N M sb = N0 ∧ hp_T M o1 = 23 ∧ hp_N M o1 = 1 := ⟨hs.2.2.2.2.1, hs.2.2.2.2.2.1, hs.2.2.2.2.2.2.1, hs.2.2.2.2.2.2.2.1⟩
  have ix1 : i3 (4 * j) + (1 : Int32) = i3 (4 * j + 1) := i3_add _ 1
  refine vL_law_2175 hX hM (fun x0 x1 x2 x3 x4 x5 M bc bs => am_J X 3219 [(0, .ref x0), (1, .ref x1), (2, .ref x2), (3, .ref x3), (4, .ref x4), (5, .int x5)] [] M bc bs) (fun _ _ _ _ _ _ _ _ _ h => h) ⟨tsb, by rw [ix1, nsb]; exact vp_in_i3 (by omega) (by omega), by omega, by omega, am_CT.mono ?_ (w_stepsUntilArrival (d := d + 5) hs.1.1 hg (by omega) to1 no1)⟩
  rintro z M5 ⟨ez, M1, h1, h2, eM⟩
  obtain ⟨s1, mm1, x1, f1, sE⟩ := zF_J hs hg hx hff hpq hm h2
  have hs5 : stt G M5 a h E L sc st ks rs so A sb N0 o1 o2 p q := by rw [eM]; split <;> exact s1
  have hm5 : mS M5 A g c hist f sn tx ou e1 e2 := by rw [eM]; split <;> exact mm1
  have hx5 : xL M5 a sc st b1 m1 ks rs so b2 m2 tx ou e1 e2 := by rw [eM]; split <;> exact x1
  have hg5 : gL T M5 a h E n c L g sn hist := by rw [eM]; split <;> exact h1
  have hf5 : hp_I M5 126 a = f := by rw [eM]; split <;> exact f1
  have eE : hp_E M5 sb = hp_E M sb := by rw [eM]; split <;> exact sE
  have l2 : (sq_pred g (hp_E M sb ((i3 (4 * j) + (1 : Int32))).toNatClampNeg) false).1 ≤ 2 := sq_pred_le2
  refine ⟨_, ez, hs5.2.2.2.2.1, by rw [ix1, hs5.2.2.2.2.2.1]; exact vp_in_i3 (by omega) (by omega), hm5.1.1, ?_⟩
  rw [eE]
  refine ct_pp (c_stepsUntilArrival (d := d + 2) hm5.1 hm5.2.1 hw (by omega)) (fun x y hxy => ?_)
  have hm' := mS_qp (x := x) (y := y) (k := (sq_pred g (hp_E M sb ((i3 (4 * j) + (1 : Int32))).toNatClampNeg) false).1) hm5
  have mf := mfr_qp (M := M5) (A := A) (x := x) (y := y) (k := (sq_pred g (hp_E M sb ((i3 (4 * j) + (1 : Int32))).toNatClampNeg) false).1)
  have hs' := stt_r hm5.1 mf hs5
  refine ⟨hm'.1.1, ct_i (c_thrown (d := d + 11) hm'.1) ?_⟩
  rw [hp_I_sI]
  refine cmp_end (by omega) hs'.2.2.2.2.2.2.1 (by rw [hs'.2.2.2.2.2.2.2.1]; exact vp_in_i3 (k := 0) (by omega) (by omega)) (fun k0 => ?_) (hN _ T K _ _ (JJ_cg hs5 hg5 hx5 hf5 hpq hm5.1 hn hxy mf hm') (by omega) (by omega) (by omega) (by omega))
  rw [mf.1.2.2.2.1, eM, if_pos k0]
  exact hp_L_at _ _ _
theorem B_2231 {X : am_Cx} {G : am_Gx} {d : Nat} {a h E : Nat} {L : Nat → Nat → Nat} {sc st ks rs so : Nat} {A : Nat → Nat} {sb N0 o1 o2 p q : Nat} {T K j bc bs : Nat} {M : am_Hp} (hX : am_ok X rL_law G (d + 13)) (hM : ∀ {pc : Nat} {lv : List (Nat × Value)} {M : am_Hp} {bc bs : Nat}, decode rL_law.2.1 pc = .ok (.ireturn, 1) → am_J X pc lv [.int (1 : Int32)] M bc bs) (hz : cz G) (hp : sioo G) (hJ : JJ G a h E L sc st ks rs so A sb N0 o1 o2 p q T K M) (hT : T < 13000000) (hK : K < 100000000) (hi : 4 * j + 3 < N0) (hN0 : N0 ≤ 2048) (hbc : 20 ≤ bc) (hbs : 2000 ≤ bs) (hN : ∀ M' T' K' bc' bs', JJ G a h E L sc st ks rs so A sb N0 o1 o2 p q T' K' M' → T' ≤ T + 23790 → K' ≤ K + 13 → bc ≤ bc' + 20 → bs ≤ bs' + 2000 → am_J X 3219 [(0, .ref sb), (1, .ref a), (2, .ref (A 0)), (3, .ref o1), (4, .ref o2), (5, .int (i3 (4 * j)))] [] M' bc' bs') : am_J X 2231 [(0, .ref sb), (1, .ref a), (2, .ref (A 0)), (3, .ref o1), (4, .ref o2), (5, .int (i3 (4 * j)))] [] M bc bs := by
  obtain ⟨g, c, hist, f, sn, tx, ou, e1, e2, hs, ⟨n, b1, m1, b2, m2, hg, hx, hff, hpq⟩, hm, hn⟩ := hJ
  have hw := hg.2.2.1.2
  have ok := md_wf_ok hw
  obtain ⟨tsb, nsb, to1, no1⟩ : hp_T M sb = 42 ∧ hp_N M sb = N0 ∧ hp_T M o1 = 23 ∧ hp_N M o1 = 1 := ⟨hs.2.2.2.2.1, hs.2.2.2.2.2.1, hs.2.2.2.2.2.2.1, hs.2.2.2.2.2.2.2.1⟩
  have ix1 : i3 (4 * j) + (1 : Int32) = i3 (4 * j + 1) := i3_add _ 1
  refine vL_law_2231 hX hM (fun x0 x1 x2 x3 x4 x5 M bc bs => am_J X 3219 [(0, .ref x0), (1, .ref x1), (2, .ref x2), (3, .ref x3), (4, .ref x4), (5, .int x5)] [] M bc bs) (fun _ _ _ _ _ _ _ _ _ h => h) ⟨tsb, by rw [ix1, nsb]; exact vp_in_i3 (by omega) (by omega), by omega, by omega, am_CT.mono ?_ (w_tripsWithin (d := d + 4) hs.1.1 hg (by omega) to1 no1)⟩
  rintro z M5 ⟨ez, M1, h1, h2, eM⟩
  obtain ⟨s1, mm1, x1, f1, sE⟩ := zF_J hs hg hx hff hpq hm h2
  have hs5 : stt G M5 a h E L sc st ks rs so A sb N0 o1 o2 p q := by rw [eM]; split <;> exact s1
  have hm5 : mS M5 A g c hist f sn tx ou e1 e2 := by rw [eM]; split <;> exact mm1
  have hx5 : xL M5 a sc st b1 m1 ks rs so b2 m2 tx ou e1 e2 := by rw [eM]; split <;> exact x1
  have hg5 : gL T M5 a h E n c L g sn hist := by rw [eM]; split <;> exact h1
  have hf5 : hp_I M5 126 a = f := by rw [eM]; split <;> exact f1
  have eE : hp_E M5 sb = hp_E M sb := by rw [eM]; split <;> exact sE
  have l2 : (sq_trips g (hp_E M sb ((i3 (4 * j) + (1 : Int32))).toNatClampNeg)).1 ≤ 2 := sq_trips_le
  refine ⟨_, ez, hs5.2.2.2.2.1, by rw [ix1, hs5.2.2.2.2.2.1]; exact vp_in_i3 (by omega) (by omega), hm5.1.1, ?_⟩
  rw [eE]
  refine ct_pp (c_tripsWithin (d := d + 4) hm5.1 hm5.2.1 hw (by omega)) (fun x y hxy => ?_)
  have hm' := mS_qp (x := x) (y := y) (k := (sq_trips g (hp_E M sb ((i3 (4 * j) + (1 : Int32))).toNatClampNeg)).1) hm5
  have mf := mfr_qp (M := M5) (A := A) (x := x) (y := y) (k := (sq_trips g (hp_E M sb ((i3 (4 * j) + (1 : Int32))).toNatClampNeg)).1)
  have hs' := stt_r hm5.1 mf hs5
  refine ⟨hm'.1.1, ct_i (c_thrown (d := d + 11) hm'.1) ?_⟩
  rw [hp_I_sI]
  refine cmp_end (by omega) hs'.2.2.2.2.2.2.1 (by rw [hs'.2.2.2.2.2.2.2.1]; exact vp_in_i3 (k := 0) (by omega) (by omega)) (fun k0 => ?_) (hN _ T K _ _ (JJ_cg hs5 hg5 hx5 hf5 hpq hm5.1 hn hxy mf hm') (by omega) (by omega) (by omega) (by omega))
  rw [mf.1.2.2.2.1, eM, if_pos k0]
  exact hp_L_at _ _ _
theorem mS_un {M : am_Hp} {A : Nat → Nat} {g x : md_R} {c c' : Nat} {hist : Nat → md_R} {f w : Int32} {sn : md_R} {tx ou : List Nat} {e1 e2 : Int32} (h : mS M A g c hist f sn tx ou e1 e2) (hc' : c' ≤ c) : mS (hp_sI (hp_sI (hp_sA M (A 1) x) 144 (A 0) (i3 c')) 153 (A 0) w) A x c' hist f sn tx ou e1 e2 := by
  refine mS_153 ?_
  obtain ⟨hm, hg, hc, hc8, hh, hf, hsv, he1, he2, hy, hwt⟩ := h
  have Eb : ∀ j, j ≤ 8 → j ≠ 1 → hp_E (hp_sI (hp_sA M (A 1) x) 144 (A 0) (i3 c')) (A j) = hp_E M (A j) := fun j h2 h3 => hp_E_sA' _ _ (fun z => mL_ne hm (by omega) h2 (by omega) z.symm)
  have I : ∀ u, u ≠ 144 → hp_I (hp_sI (hp_sA M (A 1) x) 144 (A 0) (i3 c')) u (A 0) = hp_I M u (A 0) := fun u hu => hp_I_sIu _ _ _ _ hu
  exact ⟨mL_sk ⟨rfl, rfl, rfl, rfl, rfl⟩ hm, hp_E_sA _ _ _, hp_I_sI _ _ _ _, by omega, fun j k hj hk => (congrFun (Eb 4 (by omega) (by omega)) _).trans (hh j k (by omega) hk), (I _ (by decide)).trans hf, fun k h1 hk => (congrFun (Eb 5 (by omega) (by omega)) _).trans (hsv k h1 hk), (I _ (by decide)).trans he1, (I _ (by decide)).trans he2, ⟨(I _ (by decide)).trans hy.1, hy.2.1, fun i hi => ⟨(hy.2.2 i hi).1, (hy.2.2 i hi).2.1, (congrFun (Eb 6 (by omega) (by omega)) _).trans (hy.2.2 i hi).2.2⟩⟩, ⟨(I _ (by decide)).trans hwt.1, hwt.2.1, fun i hi => ⟨(hwt.2.2 i hi).1, (congrFun (Eb 7 (by omega) (by omega)) _).trans (hwt.2.2 i hi).2⟩⟩⟩
theorem mfr_un {M : am_Hp} {A : Nat → Nat} {x : md_R} {v w : Int32} : mfr A M (hp_sI (hp_sI (hp_sA M (A 1) x) 144 (A 0) v) 153 (A 0) w) := ((mfr_A (i := 1) (by omega)).tr mfr_I).tr mfr_I
theorem B_3118 {X : am_Cx} {G : am_Gx} {d : Nat} {a h E : Nat} {L : Nat → Nat → Nat} {sc st ks rs so : Nat} {A : Nat → Nat} {sb N0 o1 o2 p q : Nat} {T K j bc bs : Nat} {M : am_Hp} (hX : am_ok X rL_law G (d + 13)) (hM : ∀ {pc : Nat} {lv : List (Nat × Value)} {M : am_Hp} {bc bs : Nat}, decode rL_law.2.1 pc = .ok (.ireturn, 1) → am_J X pc lv [.int (1 : Int32)] M bc bs) (hz : cz G) (hp : sioo G) (hJ : JJ G a h E L sc st ks rs so A sb N0 o1 o2 p q T K M) (hT : T < 13000000) (hK : K < 100000000) (hi : 4 * j + 3 < N0) (hN0 : N0 ≤ 2048) (hbc : 20 ≤ bc) (hbs : 2000 ≤ bs) (hN : ∀ M' T' K' bc' bs', JJ G a h E L sc st ks rs so A sb N0 o1 o2 p q T' K' M' → T' ≤ T + 23790 → K' ≤ K + 13 → bc ≤ bc' + 20 → bs ≤ bs' + 2000 → am_J X 3219 [(0, .ref sb), (1, .ref a), (2, .ref (A 0)), (3, .ref o1), (4, .ref o2), (5, .int (i3 (4 * j)))] [] M' bc' bs') : am_J X 3118 [(0, .ref sb), (1, .ref a), (2, .ref (A 0)), (3, .ref o1), (4, .ref o2), (5, .int (i3 (4 * j)))] [] M bc bs := by
  obtain ⟨g, c, hist, f, sn, tx, ou, e1, e2, hs, ⟨n, b1, m1, b2, m2, hg, hx, hff, hpq⟩, hm, hn⟩ := hJ
  have hw := hg.2.2.1.2
  have ok := md_wf_ok hw
  obtain ⟨tsb, nsb, to1, no1⟩ : hp_T M sb = 42 ∧ hp_N M sb = N0 ∧ hp_T M o1 = 23 ∧ hp_N M o1 = 1 := ⟨hs.2.2.2.2.1, hs.2.2.2.2.2.1, hs.2.2.2.2.2.2.1, hs.2.2.2.2.2.2.2.1⟩
  have hJ : JJ G a h E L sc st ks rs so A sb N0 o1 o2 p q T K M := ⟨g, c, hist, f, sn, tx, ou, e1, e2, hs, ⟨n, b1, m1, b2, m2, hg, hx, hff, hpq⟩, hm, hn⟩
  cases c with
  | zero =>
    refine vL_law_3118 hX hM (fun x0 x1 x2 x3 x4 x5 M bc bs => am_J X 3219 [(0, .ref x0), (1, .ref x1), (2, .ref x2), (3, .ref x3), (4, .ref x4), (5, .int x5)] [] M bc bs) (fun _ _ _ _ _ _ _ _ _ h => h) ⟨by omega, by omega, ct_i (w_undo0 (d := d + 7) hs.1.1 hg) ⟨hm.1.1, ct_i (c_undo0 (d := d + 10) hm.1 hm.2.2.1) ⟨hm.1.1, ct_i (c_thrown (d := d + 11) (M := hp_sI M 153 (A 0) _) hm.1) ?_⟩⟩⟩
    rw [hp_I_sI]
    exact cmp_end (by omega) to1 (by rw [hp_N_sI, no1]; exact vp_in_i3 (k := 0) (by omega) (by omega)) (fun k0 => absurd k0 (by decide)) (hN _ T K _ _ (JJ_153 hJ) (by omega) (by omega) (by omega) (by omega))
  | succ c =>
    refine vL_law_3118 hX hM (fun x0 x1 x2 x3 x4 x5 M bc bs => am_J X 3219 [(0, .ref x0), (1, .ref x1), (2, .ref x2), (3, .ref x3), (4, .ref x4), (5, .int x5)] [] M bc bs) (fun _ _ _ _ _ _ _ _ _ h => h) ⟨by omega, by omega, am_CT.mono ?_ (w_undo1 (d := d + 7) hs.1.1 hg to1 no1)⟩
    rintro z M5 ⟨ez, M1, ⟨n1, h1⟩, h2, rfl⟩
    obtain ⟨s1, mm1, x1, f1, sE⟩ := zF_J hs hg hx hff hpq hm h2
    have c8 := mm1.2.2.2.1
    have hs5 : stt G (hp_sL M1 o1 0 (i3 c).toInt64) a h E L sc st ks rs so A sb N0 o1 o2 p q := s1
    have hm5 : mS (hp_sL M1 o1 0 (i3 c).toInt64) A g (c + 1) hist f sn tx ou e1 e2 := mm1
    have hg5 : gL T (hp_sL M1 o1 0 (i3 c).toInt64) a h E n1 c L (hist c) sn hist := h1
    have hx5 : xL (hp_sL M1 o1 0 (i3 c).toInt64) a sc st b1 m1 ks rs so b2 m2 tx ou e1 e2 := x1
    have hm' := mS_un (x := md_cq (141 * c) 0 141 (hp_E (hp_sL M1 o1 0 (i3 c).toInt64) (A 4)) g) (c' := c) (w := i3 0) hm5 (by omega)
    have mf := mfr_un (M := hp_sL M1 o1 0 (i3 c).toInt64) (A := A) (x := md_cq (141 * c) 0 141 (hp_E (hp_sL M1 o1 0 (i3 c).toInt64) (A 4)) g) (v := i3 c) (w := i3 0)
    have exy : ∀ k, k < 141 → md_cq (141 * c) 0 141 (hp_E (hp_sL M1 o1 0 (i3 c).toInt64) (A 4)) g k = hist c k := fun k hk => by
      unfold md_cq
      rw [if_pos (by omega), ← hm5.2.2.2.2.1 c k (by omega) hk]
      exact congrArg _ (by omega)
    have hs' := stt_r hm5.1 mf hs5
    refine ⟨_, ez, hm5.1.1, ct_i (c_undo1 (d := d + 10) hm5.1 hm5.2.1 hm5.2.2.1 (by omega)) ⟨hm'.1.1, ct_i (c_thrown (d := d + 11) hm'.1) ?_⟩⟩
    rw [hp_I_sI]
    refine cmp_end (k := 0) (by omega) hs'.2.2.2.2.2.2.1 (by rw [hs'.2.2.2.2.2.2.2.1]; exact vp_in_i3 (k := 0) (by omega) (by omega)) (fun k0 => ?_) (hN _ T K _ _ (JJ_cg (g := hist c) hs5 hg5 hx5 f1 hpq hm5.1 ⟨hn.2.2 c (by omega), hn.2.1, fun j hj => hn.2.2 j (by omega)⟩ exy mf hm') (by omega) (by omega) (by omega) (by omega))
    rw [mf.1.2.2.2.1]
    exact hp_L_at _ _ _
theorem B_3175 {X : am_Cx} {G : am_Gx} {d : Nat} {a h E : Nat} {L : Nat → Nat → Nat} {sc st ks rs so : Nat} {A : Nat → Nat} {sb N0 o1 o2 p q : Nat} {T K j bc bs : Nat} {M : am_Hp} (hX : am_ok X rL_law G (d + 13)) (hM : ∀ {pc : Nat} {lv : List (Nat × Value)} {M : am_Hp} {bc bs : Nat}, decode rL_law.2.1 pc = .ok (.ireturn, 1) → am_J X pc lv [.int (1 : Int32)] M bc bs) (hz : cz G) (hp : sioo G) (hJ : JJ G a h E L sc st ks rs so A sb N0 o1 o2 p q T K M) (hT : T < 13000000) (hK : K < 100000000) (hi : 4 * j + 3 < N0) (hN0 : N0 ≤ 2048) (hbc : 20 ≤ bc) (hbs : 2000 ≤ bs) (hN : ∀ M' T' K' bc' bs', JJ G a h E L sc st ks rs so A sb N0 o1 o2 p q T' K' M' → T' ≤ T + 23790 → K' ≤ K + 13 → bc ≤ bc' + 20 → bs ≤ bs' + 2000 → am_J X 3219 [(0, .ref sb), (1, .ref a), (2, .ref (A 0)), (3, .ref o1), (4, .ref o2), (5, .int (i3 (4 * j)))] [] M' bc' bs') : am_J X 3175 [(0, .ref sb), (1, .ref a), (2, .ref (A 0)), (3, .ref o1), (4, .ref o2), (5, .int (i3 (4 * j)))] [] M bc bs := by
  obtain ⟨g, c, hist, f, sn, tx, ou, e1, e2, hs, ⟨n, b1, m1, b2, m2, hg, hx, hff, hpq⟩, hm, hn⟩ := hJ
  have hw := hg.2.2.1.2
  have ok := md_wf_ok hw
  obtain ⟨tsb, nsb, to1, no1⟩ : hp_T M sb = 42 ∧ hp_N M sb = N0 ∧ hp_T M o1 = 23 ∧ hp_N M o1 = 1 := ⟨hs.2.2.2.2.1, hs.2.2.2.2.2.1, hs.2.2.2.2.2.2.1, hs.2.2.2.2.2.2.2.1⟩
  have hJ : JJ G a h E L sc st ks rs so A sb N0 o1 o2 p q T K M := ⟨g, c, hist, f, sn, tx, ou, e1, e2, hs, ⟨n, b1, m1, b2, m2, hg, hx, hff, hpq⟩, hm, hn⟩
  rcases hg.2.2.2.2.2.2 with f0 | ⟨f1, -, -⟩
  · refine vL_law_3175 hX hM (fun x0 x1 x2 x3 x4 x5 M bc bs => am_J X 3219 [(0, .ref x0), (1, .ref x1), (2, .ref x2), (3, .ref x3), (4, .ref x4), (5, .int x5)] [] M bc bs) (fun _ _ _ _ _ _ _ _ _ h => h) ⟨by omega, by omega, ct_i (w_restore0 (d := d + 8) hg f0) ⟨hm.1.1, ct_i (c_restore0 (d := d + 10) hm.1 (hm.2.2.2.2.2.1.trans (hff.symm.trans f0))) ⟨hm.1.1, ct_i (c_thrown (d := d + 11) (M := hp_sI M 153 (A 0) _) hm.1) ?_⟩⟩⟩
    rw [hp_I_sI]
    exact cmp_end (by omega) to1 (by rw [hp_N_sI, no1]; exact vp_in_i3 (k := 0) (by omega) (by omega)) (fun k0 => absurd k0 (by decide)) (hN _ T K _ _ (JJ_153 hJ) (by omega) (by omega) (by omega) (by omega))
  · have ff : f = i3 1 := hff.symm.trans f1
    refine vL_law_3175 hX hM (fun x0 x1 x2 x3 x4 x5 M bc bs => am_J X 3219 [(0, .ref x0), (1, .ref x1), (2, .ref x2), (3, .ref x3), (4, .ref x4), (5, .int x5)] [] M bc bs) (fun _ _ _ _ _ _ _ _ _ h => h) ⟨by omega, by omega, am_CT.mono ?_ (w_restore1 (d := d + 8) hs.1.1 hg f1 to1 no1)⟩
    rintro z M5 ⟨ez, M1, h1, h2, rfl⟩
    obtain ⟨s1, mm1, x1, f1', sE⟩ := zF_J hs hg hx hff hpq hm h2
    have hs5 : stt G (hp_sL M1 o1 0 (sn 1).toInt64) a h E L sc st ks rs so A sb N0 o1 o2 p q := s1
    have hm5 : mS (hp_sL M1 o1 0 (sn 1).toInt64) A g c hist f sn tx ou e1 e2 := mm1
    have hg5 : gL T (hp_sL M1 o1 0 (sn 1).toInt64) a h E n 0 L sn sn hist := h1
    have hx5 : xL (hp_sL M1 o1 0 (sn 1).toInt64) a sc st b1 m1 ks rs so b2 m2 tx ou e1 e2 := x1
    have hm' := mS_un (x := md_cq 0 0 141 (hp_E (hp_sL M1 o1 0 (sn 1).toInt64) (A 5)) g) (c' := 0) (w := i3 0) hm5 (by omega)
    have mf := mfr_un (M := hp_sL M1 o1 0 (sn 1).toInt64) (A := A) (x := md_cq 0 0 141 (hp_E (hp_sL M1 o1 0 (sn 1).toInt64) (A 5)) g) (v := i3 0) (w := i3 0)
    have hsv := hm5.2.2.2.2.2.2.1
    have exy : ∀ k, k < 141 → md_cq 0 0 141 (hp_E (hp_sL M1 o1 0 (sn 1).toInt64) (A 5)) g k = sn k := fun k hk => by
      unfold md_cq
      rw [if_pos (by omega), ← hsv k ff hk]
      exact congrArg _ (by omega)
    have hs' := stt_r hm5.1 mf hs5
    refine ⟨_, ez, hm5.1.1, ct_i (c_restore1 (d := d + 10) hm5.1 hm5.2.1 (hm5.2.2.2.2.2.1.trans ff) rfl) ⟨hm'.1.1, ct_i (c_thrown (d := d + 11) hm'.1) ?_⟩⟩
    rw [hp_I_sI]
    refine cmp_end (k := 0) (by omega) hs'.2.2.2.2.2.2.1 (by rw [hs'.2.2.2.2.2.2.2.1]; exact vp_in_i3 (k := 0) (by omega) (by omega)) (fun k0 => ?_) (hN _ T K _ _ (JJ_cg (g := sn) hs5 hg5 hx5 f1' hpq hm5.1 ⟨hn.2.1 ff, hn.2.1, fun j hj => absurd hj (Nat.not_lt_zero _)⟩ exy mf hm') (by omega) (by omega) (by omega) (by omega))
    rw [mf.1.2.2.2.1, hsv 1 ff (by omega)]
    exact hp_L_at _ _ _
theorem mS_sv {M : am_Hp} {A : Nat → Nat} {g : md_R} {c : Nat} {hist : Nat → md_R} {f w : Int32} {sn : md_R} {tx ou : List Nat} {e1 e2 : Int32} (h : mS M A g c hist f sn tx ou e1 e2) : mS (hp_sI (hp_sI (hp_sA M (A 5) (md_cq 0 0 141 g (hp_E M (A 5)))) 146 (A 0) (i3 1)) 153 (A 0) w) A g c hist (i3 1) g tx ou e1 e2 := by
  refine mS_153 ?_
  obtain ⟨hm, hg, hc, hc8, hh, hf, hsv, he1, he2, hy, hwt⟩ := h
  have Eb : ∀ j, j ≤ 8 → j ≠ 5 → hp_E (hp_sI (hp_sA M (A 5) (md_cq 0 0 141 g (hp_E M (A 5)))) 146 (A 0) (i3 1)) (A j) = hp_E M (A j) := fun j h2 h3 => hp_E_sA' _ _ (fun z => mL_ne hm (by omega) h2 (by omega) z.symm)
  have I : ∀ u, u ≠ 146 → hp_I (hp_sI (hp_sA M (A 5) (md_cq 0 0 141 g (hp_E M (A 5)))) 146 (A 0) (i3 1)) u (A 0) = hp_I M u (A 0) := fun u hu => hp_I_sIu _ _ _ _ hu
  exact ⟨mL_sk ⟨rfl, rfl, rfl, rfl, rfl⟩ hm, (Eb 1 (by omega) (by omega)).trans hg, (I _ (by decide)).trans hc, hc8, fun j k hj hk => (congrFun (Eb 4 (by omega) (by omega)) _).trans (hh j k hj hk), hp_I_sI _ _ _ _, fun k h1 hk => (congrFun (hp_E_sA _ _ _) k).trans (by unfold md_cq; rw [if_pos (by omega)]; exact congrArg g (by omega)), (I _ (by decide)).trans he1, (I _ (by decide)).trans he2, ⟨(I _ (by decide)).trans hy.1, hy.2.1, fun i hi => ⟨(hy.2.2 i hi).1, (hy.2.2 i hi).2.1, (congrFun (Eb 6 (by omega) (by omega)) _).trans (hy.2.2 i hi).2.2⟩⟩, ⟨(I _ (by decide)).trans hwt.1, hwt.2.1, fun i hi => ⟨(hwt.2.2 i hi).1, (congrFun (Eb 7 (by omega) (by omega)) _).trans (hwt.2.2 i hi).2⟩⟩⟩
theorem mfr_sv {M : am_Hp} {A : Nat → Nat} {x : md_R} {v w : Int32} : mfr A M (hp_sI (hp_sI (hp_sA M (A 5) x) 146 (A 0) v) 153 (A 0) w) := ((mfr_A (i := 5) (by omega)).tr mfr_I).tr mfr_I
theorem B_3162 {X : am_Cx} {G : am_Gx} {d : Nat} {a h E : Nat} {L : Nat → Nat → Nat} {sc st ks rs so : Nat} {A : Nat → Nat} {sb N0 o1 o2 p q : Nat} {T K j bc bs : Nat} {M : am_Hp} (hX : am_ok X rL_law G (d + 13)) (hM : ∀ {pc : Nat} {lv : List (Nat × Value)} {M : am_Hp} {bc bs : Nat}, decode rL_law.2.1 pc = .ok (.ireturn, 1) → am_J X pc lv [.int (1 : Int32)] M bc bs) (hz : cz G) (hp : sioo G) (hJ : JJ G a h E L sc st ks rs so A sb N0 o1 o2 p q T K M) (hT : T < 13000000) (hK : K < 100000000) (hi : 4 * j + 3 < N0) (hN0 : N0 ≤ 2048) (hbc : 20 ≤ bc) (hbs : 2000 ≤ bs) (hN : ∀ M' T' K' bc' bs', JJ G a h E L sc st ks rs so A sb N0 o1 o2 p q T' K' M' → T' ≤ T + 23790 → K' ≤ K + 13 → bc ≤ bc' + 20 → bs ≤ bs' + 2000 → am_J X 3219 [(0, .ref sb), (1, .ref a), (2, .ref (A 0)), (3, .ref o1), (4, .ref o2), (5, .int (i3 (4 * j)))] [] M' bc' bs') : am_J X 3162 [(0, .ref sb), (1, .ref a), (2, .ref (A 0)), (3, .ref o1), (4, .ref o2), (5, .int (i3 (4 * j)))] [] M bc bs := by
  obtain ⟨g, c, hist, f, sn, tx, ou, e1, e2, hs, ⟨n, b1, m1, b2, m2, hg, hx, hff, hpq⟩, hm, hn⟩ := hJ
  have hw := hg.2.2.1.2
  have ok := md_wf_ok hw
  obtain ⟨tsb, nsb, to1, no1⟩ : hp_T M sb = 42 ∧ hp_N M sb = N0 ∧ hp_T M o1 = 23 ∧ hp_N M o1 = 1 := ⟨hs.2.2.2.2.1, hs.2.2.2.2.2.1, hs.2.2.2.2.2.2.1, hs.2.2.2.2.2.2.2.1⟩
  refine vL_law_3162 hX hM (fun x0 x1 x2 x3 x4 x5 M bc bs => am_J X 3219 [(0, .ref x0), (1, .ref x1), (2, .ref x2), (3, .ref x3), (4, .ref x4), (5, .int x5)] [] M bc bs) (fun _ _ _ _ _ _ _ _ _ h => h) ⟨hg.1, am_CT.mono ?_ (g_save2 (d := d + 9) hs.1.1 hg)⟩
  rintro z M5 ⟨ez, i6, h1, h2⟩
  have F : fr (fun x => cS a h E L sc st ks rs so x ∨ x = b1 ∨ x = b2) M M5 := fr_of h2.1 (fun x hx => h2.2.1 x (fun y => hx (.inl (.inl y))) (fun y => hx (.inl (.inr (.inl y)))) (fun i j hi hj y => hx (.inl (.inr (.inr (.inr (.inl ⟨i, j, hi, hj, y⟩)))))))
  obtain ⟨s1, sE, sL⟩ := stt_c hs hg hx hpq F
  have m5 := mS_c (g := g) (sn := sn) (hist := hist) (c := c) (n := n) (T := T) hs hx F hm
  have x5 := xL_sk hs.1 hg hx h2.1 h2.2.1 ((h2.2.2 127 (by decide)).trans hx.1.2.2.1) ((h2.2.2 128 (by decide)).trans hx.1.2.2.2)
  have mf := mfr_sv (M := M5) (A := A) (x := md_cq 0 0 141 g (hp_E M5 (A 5))) (v := i3 1) (w := i3 0)
  refine ⟨_, ez, m5.1.1, ct_i (c_save (d := d + 10) m5.1 m5.2.1 ok) ⟨fun _ => ?_, fun y => absurd rfl y⟩⟩
  exact hN _ T K _ _ ⟨g, c, hist, i3 1, g, tx, ou, e1, e2, stt_r m5.1 mf s1, cls_r s1 m5.1 mf ⟨n, b1, m1, b2, m2, h1, x5, i6, hpq⟩, mS_sv m5, ⟨hn.1, fun _ => hn.1, hn.2.2⟩⟩ (by omega) (by omega) (by omega) (by omega)
