/-! .. the law's blocks: the seven changes (made by gen/mk/mk8u.py) -/
theorem mS_mC {M : am_Hp} {A : Nat → Nat} {g : md_R} {c : Nat} {hist : Nat → md_R} {f : Int32} {sn : md_R} {tx ou : List Nat} {e1 e2 : Int32} {sp : md_Sp} (h : mS M A g c hist f sn tx ou e1 e2) (h0 : sp.1 = 0) : mS (mC M A g c sp) A sp.2.2 (if c = 8 then 8 else c + 1) (yP c g hist) f sn tx ou e1 e2 := by
  obtain ⟨hm, hg, hc, hc8, hh, hf, hsv, he1, he2, hy, hwt⟩ := h
  unfold mC
  dsimp only
  rw [if_pos h0]
  have I : ∀ {M' : am_Hp} {v w : Int32} {i j : Nat} {F F' : md_R}, ∀ u, u ≠ 153 → u ≠ 144 → hp_I (hp_sI (hp_sA (hp_sI (hp_sA M' (A i) F) 153 (A 0) v) (A j) F') 144 (A 0) w) u (A 0) = hp_I M' u (A 0) := fun u h1 h2 => (hp_I_sIu _ _ _ _ h2).trans (hp_I_sIu _ _ _ _ h1)
  have Ea : ∀ {M' : am_Hp} {F : md_R} {v : Int32} {i j u : Nat}, i ≤ 8 → j ≤ 8 → i ≠ j → hp_E (hp_sI (hp_sA M' (A i) F) u (A 0) v) (A j) = hp_E M' (A j) := fun h1 h2 h3 => hp_E_sA' _ _ (fun z => mL_ne hm h1 h2 h3 z.symm)
  have Eb : ∀ {M' : am_Hp} {F : md_R} {i j : Nat}, i ≤ 8 → j ≤ 8 → i ≠ j → hp_E (hp_sA M' (A i) F) (A j) = hp_E M' (A j) := fun h1 h2 h3 => hp_E_sA' _ _ (fun z => mL_ne hm h1 h2 h3 z.symm)
  refine ⟨mL_sk ⟨rfl, rfl, rfl, rfl, rfl⟩ hm, ?_, hp_I_sI _ _ _ _, by split <;> omega, fun j k hj hk => ?_, ?_, fun k hf1 hk => ?_, ?_, ?_, ⟨?_, hy.2.1, fun i hi => ?_⟩, ⟨?_, hwt.2.1, fun i hi => ?_⟩⟩
  · exact (Ea (i := 4) (j := 1) (by omega) (by omega) (by omega)).trans (hp_E_sA _ _ _)
  · refine Eq.trans (congrFun (hp_E_sA _ _ _) _) (md_hp_row hc8 (fun k hk => ?_) hh hj hk)
    unfold md_cq
    rw [if_pos (by omega)]
    exact congrArg g (by omega)
  · exact (I _ (by decide) (by decide)).trans hf
  · exact (congrFun ((Ea (i := 4) (j := 5) (u := 144) (v := i3 (if c = 8 then 8 else c + 1)) (by omega) (by omega) (by omega)).trans ((Eb (i := 1) (j := 5) (by omega) (by omega) (by omega)).trans (Eb (i := 2) (j := 5) (by omega) (by omega) (by omega)))) k).trans (hsv k hf1 hk)
  · exact (I _ (by decide) (by decide)).trans he1
  · exact (I _ (by decide) (by decide)).trans he2
  · exact (I _ (by decide) (by decide)).trans hy.1
  · have := hy.2.2 i hi
    exact ⟨this.1, this.2.1, (congrFun ((Ea (i := 4) (j := 6) (u := 144) (v := i3 (if c = 8 then 8 else c + 1)) (by omega) (by omega) (by omega)).trans ((Eb (i := 1) (j := 6) (by omega) (by omega) (by omega)).trans (Eb (i := 2) (j := 6) (by omega) (by omega) (by omega)))) i).trans this.2.2⟩
  · exact (I _ (by decide) (by decide)).trans hwt.1
  · have := hwt.2.2 i hi
    exact ⟨this.1, (congrFun ((Ea (i := 4) (j := 7) (u := 144) (v := i3 (if c = 8 then 8 else c + 1)) (by omega) (by omega) (by omega)).trans ((Eb (i := 1) (j := 7) (by omega) (by omega) (by omega)).trans (Eb (i := 2) (j := 7) (by omega) (by omega) (by omega)))) i).trans this.2⟩
/-- .. and when the change is refused -/
theorem mS_mCf {M : am_Hp} {A : Nat → Nat} {g : md_R} {c : Nat} {hist : Nat → md_R} {f : Int32} {sn : md_R} {tx ou : List Nat} {e1 e2 : Int32} {sp : md_Sp} (h : mS M A g c hist f sn tx ou e1 e2) (h0 : sp.1 ≠ 0) : mS (mC M A g c sp) A g c hist f sn tx ou e1 e2 := by
  unfold mC
  dsimp only
  rw [if_neg h0]
  refine mS_153 ?_
  obtain ⟨hm, hg, hc, hc8, hh, hf, hsv, he1, he2, hy, hwt⟩ := h
  have Eb : ∀ {M' : am_Hp} {F : md_R} {i j : Nat}, i ≤ 8 → j ≤ 8 → i ≠ j → hp_E (hp_sA M' (A i) F) (A j) = hp_E M' (A j) := fun h1 h2 h3 => hp_E_sA' _ _ (fun z => mL_ne hm h1 h2 h3 z.symm)
  exact ⟨mL_sk ⟨rfl, rfl, rfl, rfl, rfl⟩ hm, (Eb (by omega) (by omega) (by omega)).trans hg, hc, hc8, fun j k hj hk => (congrFun (Eb (i := 2) (by omega) (by omega) (by omega)) _).trans (hh j k hj hk), hf, fun k h1 hk => (congrFun (Eb (i := 2) (by omega) (by omega) (by omega)) _).trans (hsv k h1 hk), he1, he2, ⟨hy.1, hy.2.1, fun i hi => ⟨(hy.2.2 i hi).1, (hy.2.2 i hi).2.1, (congrFun (Eb (i := 2) (by omega) (by omega) (by omega)) _).trans (hy.2.2 i hi).2.2⟩⟩, ⟨hwt.1, hwt.2.1, fun i hi => ⟨(hwt.2.2 i hi).1, (congrFun (Eb (i := 2) (by omega) (by omega) (by omega)) _).trans (hwt.2.2 i hi).2⟩⟩⟩
theorem mfr_mC {M : am_Hp} {A : Nat → Nat} {g : md_R} {c : Nat} {sp : md_Sp} : mfr A M (mC M A g c sp) := by
  unfold mC
  dsimp only
  split
  · exact ((((mfr_A (i := 2) (by omega)).tr (mfr_A (i := 1) (by omega))).tr mfr_I).tr (mfr_A (i := 4) (by omega))).tr mfr_I
  · exact (mfr_A (i := 2) (by omega)).tr mfr_I
theorem mC_153 {M : am_Hp} {A : Nat → Nat} {g : md_R} {c : Nat} {sp : md_Sp} : hp_I (mC M A g c sp) 153 (A 0) = i3 sp.1 := by
  unfold mC
  dsimp only
  split
  · rename_i z
    rw [z]
    exact (hp_I_sIu _ _ _ _ (by decide)).trans (hp_I_sI _ _ _ _)
  · exact hp_I_sI _ _ _ _
theorem yP_nu {K c : Nat} {g : md_R} {hist : Nat → md_R} (hc : c ≤ 8) (hg : md_nu K g) (hh : ∀ j, j < c → md_nu K (hist j)) : ∀ j, j < (if c = 8 then 8 else c + 1) → md_nu K (yP c g hist j) := by
  intro j hj
  unfold yP
  split
  · split
    · exact hg
    · exact hh _ (by rename_i z y; rw [if_pos z] at hj; omega)
  · split
    · exact hg
    · exact hh _ (by rename_i z y; rw [if_neg z] at hj; omega)
/-- .. a call of the class that touches only its buildings -/
theorem zF_fr {a h E : Nat} {L : Nat → Nat → Nat} {sc st ks rs so b1 b2 : Nat} {M M' : am_Hp} (z : zF h L M M') : fr (fun x => cS a h E L sc st ks rs so x ∨ x = b1 ∨ x = b2) M M' := fr_of z.1 (fun x hx => z.2 x (fun y => hx (.inl (.inr (.inl y)))) (fun i j hi hj y => hx (.inl (.inr (.inr (.inr (.inl ⟨i, j, hi, hj, y⟩)))))))
theorem xL_zF {T : Nat} {M M' : am_Hp} {a h E n c : Nat} {L : Nat → Nat → Nat} {g sn : md_R} {hist : Nat → md_R} {sc st b1 m1 ks rs so b2 m2 : Nat} {tx ou : List Nat} {e1 e2 : Int32} (hJ : cJ a h E L sc st ks rs so) (hg : gL T M a h E n c L g sn hist) (hx : xL M a sc st b1 m1 ks rs so b2 m2 tx ou e1 e2) (z : zF h L M M') : xL M' a sc st b1 m1 ks rs so b2 m2 tx ou e1 e2 ∧ ∀ u, hp_I M' u a = hp_I M u a := by
  have J := hJ.1
  have za := z.2 a J.2.2.1 (fun i j hi hj y => (J.2.1 i j hi hj).1 y.symm)
  exact ⟨xL_sk hJ hg hx z.1 (fun x _ y w => z.2 x y w) ((za.1 _).trans hx.1.2.2.1) ((za.1 _).trans hx.1.2.2.2), za.1⟩
/-- after a change both stand for the same row -/
theorem qh_J {G : am_Gx} {T K : Nat} {M : am_Hp} {a h E n c : Nat} {L : Nat → Nat → Nat} {g sn : md_R} {hist : Nat → md_R} {sc st b1 m1 ks rs so b2 m2 : Nat} {tx ou : List Nat} {e1 e2 f : Int32} {A : Nat → Nat} {sb N0 o1 o2 p q : Nat} {sp : md_Sp} {rf tn : Nat} {v : Int32} {g' : md_R} {z : Sum (Option Value) String} {M5 : am_Hp} (hs : stt G M a h E L sc st ks rs so A sb N0 o1 o2 p q) (hg : gL T M a h E n c L g sn hist) (hx : xL M a sc st b1 m1 ks rs so b2 m2 tx ou e1 e2) (hff : hp_I M 126 a = f) (hpq : p ≠ b1 ∧ q ≠ b1 ∧ p ≠ b2 ∧ q ≠ b2) (hm : mS M A g c hist f sn tx ou e1 e2) (hn : nus K g f sn c hist) (esp : sp = (if rf = 0 then (0, v, g') else (tn, i3 0, g))) (htn : rf ≠ 0 → tn ≠ 0 ∧ tn ≤ 3) (hnu : rf = 0 → md_nu (K + 1) g') (hq : qh rf tn v o1 (T + 1830) M a h E c L g g' sn hist z M5) : z = .inl (some (.int (i3 sp.1))) ∧ mL M5 A ∧ hp_E M5 (A 1) = g ∧ hp_I M5 144 (A 0) = i3 c ∧ hp_E M5 sb = hp_E M sb ∧ hp_T M5 = hp_T M ∧ hp_N M5 = hp_N M ∧ sp.1 ≤ 3 ∧ (sp.1 = 0 → hp_L (mC M5 A g c sp) o1 ((0 : Int32)).toNatClampNeg = sp.2.1.toInt64) ∧ hp_T (mC M5 A g c sp) = hp_T M ∧ hp_N (mC M5 A g c sp) = hp_N M ∧ mL (mC M5 A g c sp) A ∧ JJ G a h E L sc st ks rs so A sb N0 o1 o2 p q (T + 1830) (K + 1) (mC M5 A g c sp) := by
  unfold qh at hq
  by_cases r0 : rf = 0
  · rw [if_pos r0] at hq esp
    subst esp
    obtain ⟨ez, M1, ⟨n1, h1⟩, h2, rfl⟩ := hq
    have F := zF_fr (a := a) (E := E) (sc := sc) (st := st) (ks := ks) (rs := rs) (so := so) (b1 := b1) (b2 := b2) h2
    have m1' := mS_c (g := g) (sn := sn) (hist := hist) (c := c) (n := n) (T := T) hs hx F hm
    obtain ⟨s1, sE, sL⟩ := stt_c hs hg hx hpq F
    obtain ⟨x1, i1⟩ := xL_zF hs.1 hg hx h2
    have hm5 : mS (hp_sL M1 o1 0 v.toInt64) A g c hist f sn tx ou e1 e2 := m1'
    have s5 : stt G (hp_sL M1 o1 0 v.toInt64) a h E L sc st ks rs so A sb N0 o1 o2 p q := s1
    have c5 : cls (T + 1830) (hp_sL M1 o1 0 v.toInt64) a h E L sc st ks rs so p q g' (if c = 8 then 8 else c + 1) (yP c g hist) f sn tx ou e1 e2 := ⟨n1, b1, m1, b2, m2, h1, x1, (i1 _).trans hff, hpq⟩
    have mf : mfr A (hp_sL M1 o1 0 v.toInt64) (mC (hp_sL M1 o1 0 v.toInt64) A g c (0, v, g')) := mfr_mC
    have mm := mS_mC (sp := (0, v, g')) hm5 rfl
    refine ⟨ez, hm5.1, hm5.2.1, hm5.2.2.1, sE, h2.1.1, h2.1.2.1, Nat.zero_le _, fun _ => ?_, mf.1.1.trans h2.1.1, mf.1.2.1.trans h2.1.2.1, mm.1, ⟨g', _, yP c g hist, f, sn, tx, ou, e1, e2, stt_r hm5.1 mf s5, cls_r s5 hm5.1 mf c5, mm, hnu r0, fun y => nu_mono (hn.2.1 y) (by omega), yP_nu hm.2.2.2.1 (nu_mono hn.1 (by omega)) (fun j hj => nu_mono (hn.2.2 j hj) (by omega))⟩⟩
    rw [mf.1.2.2.2.1]
    exact hp_L_at _ _ _
  · rw [if_neg r0] at hq esp
    subst esp
    obtain ⟨ez, rfl⟩ := hq
    have mf : mfr A M5 (mC M5 A g c (tn, i3 0, g)) := mfr_mC
    have mm := mS_mCf (sp := (tn, i3 0, g)) hm (htn r0).1
    have jj : JJ G a h E L sc st ks rs so A sb N0 o1 o2 p q T K (mC M5 A g c (tn, i3 0, g)) := ⟨g, c, hist, f, sn, tx, ou, e1, e2, stt_r hm.1 mf hs, cls_r hs hm.1 mf ⟨n, b1, m1, b2, m2, hg, hx, hff, hpq⟩, mm, hn⟩
    exact ⟨ez, hm.1, hm.2.1, hm.2.2.1, rfl, rfl, rfl, (htn r0).2, fun y => absurd y (htn r0).1, mf.1.1, mf.1.2.1, mm.1, JJ_T (by omega) (by omega) jj⟩
def x3 (s e w : Int32) : md_R := fun i => if i = 0 then s else if i = 1 then e else w
theorem B_296 {X : am_Cx} {G : am_Gx} {d : Nat} {a h E : Nat} {L : Nat → Nat → Nat} {sc st ks rs so : Nat} {A : Nat → Nat} {sb N0 o1 o2 p q : Nat} {T K j bc bs : Nat} {M : am_Hp} (hX : am_ok X rL_law G (d + 13)) (hM : ∀ {pc : Nat} {lv : List (Nat × Value)} {M : am_Hp} {bc bs : Nat}, decode rL_law.2.1 pc = .ok (.ireturn, 1) → am_J X pc lv [.int (1 : Int32)] M bc bs) (hz : cz G) (hp : sioo G) (hJ : JJ G a h E L sc st ks rs so A sb N0 o1 o2 p q T K M) (hT : T < 13000000) (hK : K < 100000000) (hi : 4 * j + 3 < N0) (hN0 : N0 ≤ 2048) (hbc : 20 ≤ bc) (hbs : 2000 ≤ bs) (hN : ∀ M' T' K' bc' bs', JJ G a h E L sc st ks rs so A sb N0 o1 o2 p q T' K' M' → T' ≤ T + 23790 → K' ≤ K + 13 → bc ≤ bc' + 20 → bs ≤ bs' + 2000 → am_J X 3219 [(0, .ref sb), (1, .ref a), (2, .ref (A 0)), (3, .ref o1), (4, .ref o2), (5, .int (i3 (4 * j)))] [] M' bc' bs') : am_J X 296 [(0, .ref sb), (1, .ref a), (2, .ref (A 0)), (3, .ref o1), (4, .ref o2), (5, .int (i3 (4 * j)))] [] M bc bs := by
  obtain ⟨g, c, hist, f, sn, tx, ou, e1, e2, hs, ⟨n, b1, m1, b2, m2, hg, hx, hff, hpq⟩, hm, hn⟩ := hJ
  have hw := hg.2.2.1.2
  have ok := md_wf_ok hw
  obtain ⟨tsb, nsb, to1, no1⟩ : hp_T M sb = 42 ∧ hp_N M sb = N0 ∧ hp_T M o1 = 23 ∧ hp_N M o1 = 1 := ⟨hs.2.2.2.2.1, hs.2.2.2.2.2.1, hs.2.2.2.2.2.2.1, hs.2.2.2.2.2.2.2.1⟩
  have ix1 : i3 (4 * j) + (1 : Int32) = i3 (4 * j + 1) := i3_add _ 1
  have ix2 : i3 (4 * j) + (2 : Int32) = i3 (4 * j + 2) := i3_add _ 2
  have ix3 : i3 (4 * j) + (3 : Int32) = i3 (4 * j + 3) := i3_add _ 3
  refine vL_law_296 hX hM (fun x0 x1 x2 x3 x4 x5 M bc bs => am_J X 3219 [(0, .ref x0), (1, .ref x1), (2, .ref x2), (3, .ref x3), (4, .ref x4), (5, .int x5)] [] M bc bs) (fun _ _ _ _ _ _ _ _ _ h => h) ⟨tsb, by rw [ix1, nsb]; exact vp_in_i3 (by omega) (by omega), by rw [ix2, nsb]; exact vp_in_i3 (by omega) (by omega), by rw [ix3, nsb]; exact vp_in_i3 (by omega) (by omega), by omega, by omega, am_CT.mono ?_ (w_addPassenger (d := d + 4) hs.1.1 hg (by omega) to1 no1)⟩
  rintro z M5 hq
  obtain ⟨ez, m5, eg5, ec5, eE, eT, eN, l3, eL, eT', eN', mC5, hJ5⟩ := qh_J (K := K) (sp := sp_add g (hp_E M sb ((i3 (4 * j) + (1 : Int32))).toNatClampNeg) (hp_E M sb ((i3 (4 * j) + (2 : Int32))).toNatClampNeg) (hp_E M sb ((i3 (4 * j) + (3 : Int32))).toNatClampNeg)) hs hg hx hff hpq hm hn sp_add_rf (fun _ => ⟨tn_ne.1, tn_ne.2.2.1⟩) (fun y => nu_pf (k := 0) (x := x3 (hp_E M sb ((i3 (4 * j) + (1 : Int32))).toNatClampNeg) (hp_E M sb ((i3 (4 * j) + (2 : Int32))).toNatClampNeg) (hp_E M sb ((i3 (4 * j) + (3 : Int32))).toNatClampNeg)) hw (by omega) (by omega) (by omega) y hn.1) hq
  refine .inl ⟨_, ez, by rw [eT]; exact tsb, by rw [ix1, eN, nsb]; exact vp_in_i3 (by omega) (by omega), by rw [ix2, eN, nsb]; exact vp_in_i3 (by omega) (by omega), by rw [ix3, eN, nsb]; exact vp_in_i3 (by omega) (by omega), m5.1, ?_⟩
  rw [eE]
  refine ct_i (c_addPassenger (d := d + 3) m5 eg5 ec5 hm.2.2.2.1 ok) ⟨mC5.1, ct_i (c_thrown (d := d + 11) mC5) ?_⟩
  rw [mC_153]
  exact cmp_end (by omega) (by rw [eT']; exact to1) (by rw [eN', no1]; exact vp_in_i3 (k := 0) (by omega) (by omega)) eL (hN _ _ _ _ _ hJ5 (by omega) (by omega) (by omega) (by omega))
theorem B_376 {X : am_Cx} {G : am_Gx} {d : Nat} {a h E : Nat} {L : Nat → Nat → Nat} {sc st ks rs so : Nat} {A : Nat → Nat} {sb N0 o1 o2 p q : Nat} {T K j bc bs : Nat} {M : am_Hp} (hX : am_ok X rL_law G (d + 13)) (hM : ∀ {pc : Nat} {lv : List (Nat × Value)} {M : am_Hp} {bc bs : Nat}, decode rL_law.2.1 pc = .ok (.ireturn, 1) → am_J X pc lv [.int (1 : Int32)] M bc bs) (hz : cz G) (hp : sioo G) (hJ : JJ G a h E L sc st ks rs so A sb N0 o1 o2 p q T K M) (hT : T < 13000000) (hK : K < 100000000) (hi : 4 * j + 3 < N0) (hN0 : N0 ≤ 2048) (hbc : 20 ≤ bc) (hbs : 2000 ≤ bs) (hN : ∀ M' T' K' bc' bs', JJ G a h E L sc st ks rs so A sb N0 o1 o2 p q T' K' M' → T' ≤ T + 23790 → K' ≤ K + 13 → bc ≤ bc' + 20 → bs ≤ bs' + 2000 → am_J X 3219 [(0, .ref sb), (1, .ref a), (2, .ref (A 0)), (3, .ref o1), (4, .ref o2), (5, .int (i3 (4 * j)))] [] M' bc' bs') : am_J X 376 [(0, .ref sb), (1, .ref a), (2, .ref (A 0)), (3, .ref o1), (4, .ref o2), (5, .int (i3 (4 * j)))] [] M bc bs := by
  obtain ⟨g, c, hist, f, sn, tx, ou, e1, e2, hs, ⟨n, b1, m1, b2, m2, hg, hx, hff, hpq⟩, hm, hn⟩ := hJ
  have hw := hg.2.2.1.2
  have ok := md_wf_ok hw
  obtain ⟨tsb, nsb, to1, no1⟩ : hp_T M sb = 42 ∧ hp_N M sb = N0 ∧ hp_T M o1 = 23 ∧ hp_N M o1 = 1 := ⟨hs.2.2.2.2.1, hs.2.2.2.2.2.1, hs.2.2.2.2.2.2.1, hs.2.2.2.2.2.2.2.1⟩
  have ix1 : i3 (4 * j) + (1 : Int32) = i3 (4 * j + 1) := i3_add _ 1
  refine vL_law_376 hX hM (fun x0 x1 x2 x3 x4 x5 M bc bs => am_J X 3219 [(0, .ref x0), (1, .ref x1), (2, .ref x2), (3, .ref x3), (4, .ref x4), (5, .int x5)] [] M bc bs) (fun _ _ _ _ _ _ _ _ _ h => h) ⟨tsb, by rw [ix1, nsb]; exact vp_in_i3 (by omega) (by omega), by omega, by omega, am_CT.mono ?_ (w_removePassenger (d := d + 4) hs.1.1 hg (by omega) to1 no1)⟩
  rintro z M5 hq
  obtain ⟨ez, m5, eg5, ec5, eE, eT, eN, l3, eL, eT', eN', mC5, hJ5⟩ := qh_J (K := K) (sp := sp_rem g (hp_E M sb ((i3 (4 * j) + (1 : Int32))).toNatClampNeg)) hs hg hx hff hpq hm hn (sp_rem_rf hw) (fun _ => ⟨tn_ne.2.1, tn_ne.2.2.2⟩) (fun y => nu_pf (k := 1) (x := x3 (hp_E M sb ((i3 (4 * j) + (1 : Int32))).toNatClampNeg) (hp_E M sb ((i3 (4 * j) + (1 : Int32))).toNatClampNeg) (hp_E M sb ((i3 (4 * j) + (1 : Int32))).toNatClampNeg)) hw (by omega) (by omega) (by omega) y hn.1) hq
  refine .inl ⟨_, ez, by rw [eT]; exact tsb, by rw [ix1, eN, nsb]; exact vp_in_i3 (by omega) (by omega), m5.1, ?_⟩
  rw [eE]
  refine ct_i (c_removePassenger (d := d + 3) m5 eg5 ec5 hm.2.2.2.1 ok) ⟨mC5.1, ct_i (c_thrown (d := d + 11) mC5) ?_⟩
  rw [mC_153]
  exact cmp_end (by omega) (by rw [eT']; exact to1) (by rw [eN', no1]; exact vp_in_i3 (k := 0) (by omega) (by omega)) eL (hN _ _ _ _ _ hJ5 (by omega) (by omega) (by omega) (by omega))
theorem B_432 {X : am_Cx} {G : am_Gx} {d : Nat} {a h E : Nat} {L : Nat → Nat → Nat} {sc st ks rs so : Nat} {A : Nat → Nat} {sb N0 o1 o2 p q : Nat} {T K j bc bs : Nat} {M : am_Hp} (hX : am_ok X rL_law G (d + 13)) (hM : ∀ {pc : Nat} {lv : List (Nat × Value)} {M : am_Hp} {bc bs : Nat}, decode rL_law.2.1 pc = .ok (.ireturn, 1) → am_J X pc lv [.int (1 : Int32)] M bc bs) (hz : cz G) (hp : sioo G) (hJ : JJ G a h E L sc st ks rs so A sb N0 o1 o2 p q T K M) (hT : T < 13000000) (hK : K < 100000000) (hi : 4 * j + 3 < N0) (hN0 : N0 ≤ 2048) (hbc : 20 ≤ bc) (hbs : 2000 ≤ bs) (hN : ∀ M' T' K' bc' bs', JJ G a h E L sc st ks rs so A sb N0 o1 o2 p q T' K' M' → T' ≤ T + 23790 → K' ≤ K + 13 → bc ≤ bc' + 20 → bs ≤ bs' + 2000 → am_J X 3219 [(0, .ref sb), (1, .ref a), (2, .ref (A 0)), (3, .ref o1), (4, .ref o2), (5, .int (i3 (4 * j)))] [] M' bc' bs') : am_J X 432 [(0, .ref sb), (1, .ref a), (2, .ref (A 0)), (3, .ref o1), (4, .ref o2), (5, .int (i3 (4 * j)))] [] M bc bs := by
  obtain ⟨g, c, hist, f, sn, tx, ou, e1, e2, hs, ⟨n, b1, m1, b2, m2, hg, hx, hff, hpq⟩, hm, hn⟩ := hJ
  have hw := hg.2.2.1.2
  have ok := md_wf_ok hw
  obtain ⟨tsb, nsb, to1, no1⟩ : hp_T M sb = 42 ∧ hp_N M sb = N0 ∧ hp_T M o1 = 23 ∧ hp_N M o1 = 1 := ⟨hs.2.2.2.2.1, hs.2.2.2.2.2.1, hs.2.2.2.2.2.2.1, hs.2.2.2.2.2.2.2.1⟩
  have ix1 : i3 (4 * j) + (1 : Int32) = i3 (4 * j + 1) := i3_add _ 1
  have ix2 : i3 (4 * j) + (2 : Int32) = i3 (4 * j + 2) := i3_add _ 2
  refine vL_law_432 hX hM (fun x0 x1 x2 x3 x4 x5 M bc bs => am_J X 3219 [(0, .ref x0), (1, .ref x1), (2, .ref x2), (3, .ref x3), (4, .ref x4), (5, .int x5)] [] M bc bs) (fun _ _ _ _ _ _ _ _ _ h => h) ⟨tsb, by rw [ix1, nsb]; exact vp_in_i3 (by omega) (by omega), by rw [ix2, nsb]; exact vp_in_i3 (by omega) (by omega), by omega, by omega, am_CT.mono ?_ (w_holdDoors (d := d + 4) hs.1.1 hg (by omega) to1 no1)⟩
  rintro z M5 hq
  obtain ⟨ez, m5, eg5, ec5, eE, eT, eN, l3, eL, eT', eN', mC5, hJ5⟩ := qh_J (K := K) (sp := sp_hold g (hp_E M sb ((i3 (4 * j) + (1 : Int32))).toNatClampNeg) (hp_E M sb ((i3 (4 * j) + (2 : Int32))).toNatClampNeg)) hs hg hx hff hpq hm hn (sp_hold_rf hw) (fun y => ⟨y, by unfold rf_hold; (repeat' split) <;> omega⟩) (fun y => nu_pf (k := 2) (x := x3 (hp_E M sb ((i3 (4 * j) + (1 : Int32))).toNatClampNeg) (hp_E M sb ((i3 (4 * j) + (2 : Int32))).toNatClampNeg) (hp_E M sb ((i3 (4 * j) + (2 : Int32))).toNatClampNeg)) hw (by omega) (by omega) (by omega) y hn.1) hq
  refine .inl ⟨_, ez, by rw [eT]; exact tsb, by rw [ix1, eN, nsb]; exact vp_in_i3 (by omega) (by omega), by rw [ix2, eN, nsb]; exact vp_in_i3 (by omega) (by omega), m5.1, ?_⟩
  rw [eE]
  refine ct_i (c_holdDoors (d := d + 3) m5 eg5 ec5 hm.2.2.2.1 ) ⟨mC5.1, ct_i (c_thrown (d := d + 11) mC5) ?_⟩
  rw [mC_153]
  exact cmp_end (by omega) (by rw [eT']; exact to1) (by rw [eN', no1]; exact vp_in_i3 (k := 0) (by omega) (by omega)) eL (hN _ _ _ _ _ hJ5 (by omega) (by omega) (by omega) (by omega))
theorem B_500 {X : am_Cx} {G : am_Gx} {d : Nat} {a h E : Nat} {L : Nat → Nat → Nat} {sc st ks rs so : Nat} {A : Nat → Nat} {sb N0 o1 o2 p q : Nat} {T K j bc bs : Nat} {M : am_Hp} (hX : am_ok X rL_law G (d + 13)) (hM : ∀ {pc : Nat} {lv : List (Nat × Value)} {M : am_Hp} {bc bs : Nat}, decode rL_law.2.1 pc = .ok (.ireturn, 1) → am_J X pc lv [.int (1 : Int32)] M bc bs) (hz : cz G) (hp : sioo G) (hJ : JJ G a h E L sc st ks rs so A sb N0 o1 o2 p q T K M) (hT : T < 13000000) (hK : K < 100000000) (hi : 4 * j + 3 < N0) (hN0 : N0 ≤ 2048) (hbc : 20 ≤ bc) (hbs : 2000 ≤ bs) (hN : ∀ M' T' K' bc' bs', JJ G a h E L sc st ks rs so A sb N0 o1 o2 p q T' K' M' → T' ≤ T + 23790 → K' ≤ K + 13 → bc ≤ bc' + 20 → bs ≤ bs' + 2000 → am_J X 3219 [(0, .ref sb), (1, .ref a), (2, .ref (A 0)), (3, .ref o1), (4, .ref o2), (5, .int (i3 (4 * j)))] [] M' bc' bs') : am_J X 500 [(0, .ref sb), (1, .ref a), (2, .ref (A 0)), (3, .ref o1), (4, .ref o2), (5, .int (i3 (4 * j)))] [] M bc bs := by
  obtain ⟨g, c, hist, f, sn, tx, ou, e1, e2, hs, ⟨n, b1, m1, b2, m2, hg, hx, hff, hpq⟩, hm, hn⟩ := hJ
  have hw := hg.2.2.1.2
  have ok := md_wf_ok hw
  obtain ⟨tsb, nsb, to1, no1⟩ : hp_T M sb = 42 ∧ hp_N M sb = N0 ∧ hp_T M o1 = 23 ∧ hp_N M o1 = 1 := ⟨hs.2.2.2.2.1, hs.2.2.2.2.2.1, hs.2.2.2.2.2.2.1, hs.2.2.2.2.2.2.2.1⟩
  have ix1 : i3 (4 * j) + (1 : Int32) = i3 (4 * j + 1) := i3_add _ 1
  refine vL_law_500 hX hM (fun x0 x1 x2 x3 x4 x5 M bc bs => am_J X 3219 [(0, .ref x0), (1, .ref x1), (2, .ref x2), (3, .ref x3), (4, .ref x4), (5, .int x5)] [] M bc bs) (fun _ _ _ _ _ _ _ _ _ h => h) ⟨tsb, by rw [ix1, nsb]; exact vp_in_i3 (by omega) (by omega), by omega, by omega, am_CT.mono ?_ (w_stopCar (d := d + 4) hs.1.1 hg (by omega) to1 no1)⟩
  rintro z M5 hq
  obtain ⟨ez, m5, eg5, ec5, eE, eT, eN, l3, eL, eT', eN', mC5, hJ5⟩ := qh_J (K := K) (sp := sp_stop g (hp_E M sb ((i3 (4 * j) + (1 : Int32))).toNatClampNeg)) hs hg hx hff hpq hm hn (sp_stop_rf hw) (fun _ => ⟨tn_ne.2.1, tn_ne.2.2.2⟩) (fun y => nu_pf (k := 3) (x := x3 (hp_E M sb ((i3 (4 * j) + (1 : Int32))).toNatClampNeg) (hp_E M sb ((i3 (4 * j) + (1 : Int32))).toNatClampNeg) (hp_E M sb ((i3 (4 * j) + (1 : Int32))).toNatClampNeg)) hw (by omega) (by omega) (by omega) y hn.1) hq
  refine .inl ⟨_, ez, by rw [eT]; exact tsb, by rw [ix1, eN, nsb]; exact vp_in_i3 (by omega) (by omega), m5.1, ?_⟩
  rw [eE]
  refine ct_i (c_stopCar (d := d + 3) m5 eg5 ec5 hm.2.2.2.1 ok) ⟨mC5.1, ct_i (c_thrown (d := d + 11) mC5) ?_⟩
  rw [mC_153]
  exact cmp_end (by omega) (by rw [eT']; exact to1) (by rw [eN', no1]; exact vp_in_i3 (k := 0) (by omega) (by omega)) eL (hN _ _ _ _ _ hJ5 (by omega) (by omega) (by omega) (by omega))
theorem B_556 {X : am_Cx} {G : am_Gx} {d : Nat} {a h E : Nat} {L : Nat → Nat → Nat} {sc st ks rs so : Nat} {A : Nat → Nat} {sb N0 o1 o2 p q : Nat} {T K j bc bs : Nat} {M : am_Hp} (hX : am_ok X rL_law G (d + 13)) (hM : ∀ {pc : Nat} {lv : List (Nat × Value)} {M : am_Hp} {bc bs : Nat}, decode rL_law.2.1 pc = .ok (.ireturn, 1) → am_J X pc lv [.int (1 : Int32)] M bc bs) (hz : cz G) (hp : sioo G) (hJ : JJ G a h E L sc st ks rs so A sb N0 o1 o2 p q T K M) (hT : T < 13000000) (hK : K < 100000000) (hi : 4 * j + 3 < N0) (hN0 : N0 ≤ 2048) (hbc : 20 ≤ bc) (hbs : 2000 ≤ bs) (hN : ∀ M' T' K' bc' bs', JJ G a h E L sc st ks rs so A sb N0 o1 o2 p q T' K' M' → T' ≤ T + 23790 → K' ≤ K + 13 → bc ≤ bc' + 20 → bs ≤ bs' + 2000 → am_J X 3219 [(0, .ref sb), (1, .ref a), (2, .ref (A 0)), (3, .ref o1), (4, .ref o2), (5, .int (i3 (4 * j)))] [] M' bc' bs') : am_J X 556 [(0, .ref sb), (1, .ref a), (2, .ref (A 0)), (3, .ref o1), (4, .ref o2), (5, .int (i3 (4 * j)))] [] M bc bs := by
  obtain ⟨g, c, hist, f, sn, tx, ou, e1, e2, hs, ⟨n, b1, m1, b2, m2, hg, hx, hff, hpq⟩, hm, hn⟩ := hJ
  have hw := hg.2.2.1.2
  have ok := md_wf_ok hw
  obtain ⟨tsb, nsb, to1, no1⟩ : hp_T M sb = 42 ∧ hp_N M sb = N0 ∧ hp_T M o1 = 23 ∧ hp_N M o1 = 1 := ⟨hs.2.2.2.2.1, hs.2.2.2.2.2.1, hs.2.2.2.2.2.2.1, hs.2.2.2.2.2.2.2.1⟩
  have ix1 : i3 (4 * j) + (1 : Int32) = i3 (4 * j + 1) := i3_add _ 1
  refine vL_law_556 hX hM (fun x0 x1 x2 x3 x4 x5 M bc bs => am_J X 3219 [(0, .ref x0), (1, .ref x1), (2, .ref x2), (3, .ref x3), (4, .ref x4), (5, .int x5)] [] M bc bs) (fun _ _ _ _ _ _ _ _ _ h => h) ⟨tsb, by rw [ix1, nsb]; exact vp_in_i3 (by omega) (by omega), by omega, by omega, am_CT.mono ?_ (w_startCar (d := d + 4) hs.1.1 hg (by omega) to1 no1)⟩
  rintro z M5 hq
  obtain ⟨ez, m5, eg5, ec5, eE, eT, eN, l3, eL, eT', eN', mC5, hJ5⟩ := qh_J (K := K) (sp := sp_start g (hp_E M sb ((i3 (4 * j) + (1 : Int32))).toNatClampNeg)) hs hg hx hff hpq hm hn sp_start_rf (fun _ => ⟨tn_ne.2.1, tn_ne.2.2.2⟩) (fun y => nu_pf (k := 4) (x := x3 (hp_E M sb ((i3 (4 * j) + (1 : Int32))).toNatClampNeg) (hp_E M sb ((i3 (4 * j) + (1 : Int32))).toNatClampNeg) (hp_E M sb ((i3 (4 * j) + (1 : Int32))).toNatClampNeg)) hw (by omega) (by omega) (by omega) y hn.1) hq
  refine .inl ⟨_, ez, by rw [eT]; exact tsb, by rw [ix1, eN, nsb]; exact vp_in_i3 (by omega) (by omega), m5.1, ?_⟩
  rw [eE]
  refine ct_i (c_startCar (d := d + 3) m5 eg5 ec5 hm.2.2.2.1 ) ⟨mC5.1, ct_i (c_thrown (d := d + 11) mC5) ?_⟩
  rw [mC_153]
  exact cmp_end (by omega) (by rw [eT']; exact to1) (by rw [eN', no1]; exact vp_in_i3 (k := 0) (by omega) (by omega)) eL (hN _ _ _ _ _ hJ5 (by omega) (by omega) (by omega) (by omega))
theorem B_612 {X : am_Cx} {G : am_Gx} {d : Nat} {a h E : Nat} {L : Nat → Nat → Nat} {sc st ks rs so : Nat} {A : Nat → Nat} {sb N0 o1 o2 p q : Nat} {T K j bc bs : Nat} {M : am_Hp} (hX : am_ok X rL_law G (d + 13)) (hM : ∀ {pc : Nat} {lv : List (Nat × Value)} {M : am_Hp} {bc bs : Nat}, decode rL_law.2.1 pc = .ok (.ireturn, 1) → am_J X pc lv [.int (1 : Int32)] M bc bs) (hz : cz G) (hp : sioo G) (hJ : JJ G a h E L sc st ks rs so A sb N0 o1 o2 p q T K M) (hT : T < 13000000) (hK : K < 100000000) (hi : 4 * j + 3 < N0) (hN0 : N0 ≤ 2048) (hbc : 20 ≤ bc) (hbs : 2000 ≤ bs) (hN : ∀ M' T' K' bc' bs', JJ G a h E L sc st ks rs so A sb N0 o1 o2 p q T' K' M' → T' ≤ T + 23790 → K' ≤ K + 13 → bc ≤ bc' + 20 → bs ≤ bs' + 2000 → am_J X 3219 [(0, .ref sb), (1, .ref a), (2, .ref (A 0)), (3, .ref o1), (4, .ref o2), (5, .int (i3 (4 * j)))] [] M' bc' bs') : am_J X 612 [(0, .ref sb), (1, .ref a), (2, .ref (A 0)), (3, .ref o1), (4, .ref o2), (5, .int (i3 (4 * j)))] [] M bc bs := by
  obtain ⟨g, c, hist, f, sn, tx, ou, e1, e2, hs, ⟨n, b1, m1, b2, m2, hg, hx, hff, hpq⟩, hm, hn⟩ := hJ
  have hw := hg.2.2.1.2
  have ok := md_wf_ok hw
  obtain ⟨tsb, nsb, to1, no1⟩ : hp_T M sb = 42 ∧ hp_N M sb = N0 ∧ hp_T M o1 = 23 ∧ hp_N M o1 = 1 := ⟨hs.2.2.2.2.1, hs.2.2.2.2.2.1, hs.2.2.2.2.2.2.1, hs.2.2.2.2.2.2.2.1⟩
  have ix1 : i3 (4 * j) + (1 : Int32) = i3 (4 * j + 1) := i3_add _ 1
  have ix2 : i3 (4 * j) + (2 : Int32) = i3 (4 * j + 2) := i3_add _ 2
  refine vL_law_612 hX hM (fun x0 x1 x2 x3 x4 x5 M bc bs => am_J X 3219 [(0, .ref x0), (1, .ref x1), (2, .ref x2), (3, .ref x3), (4, .ref x4), (5, .int x5)] [] M bc bs) (fun _ _ _ _ _ _ _ _ _ h => h) ⟨tsb, by rw [ix1, nsb]; exact vp_in_i3 (by omega) (by omega), by rw [ix2, nsb]; exact vp_in_i3 (by omega) (by omega), by omega, by omega, am_CT.mono ?_ (w_setCapacity (d := d + 4) hs.1.1 hg (by omega) to1 no1)⟩
  rintro z M5 hq
  obtain ⟨ez, m5, eg5, ec5, eE, eT, eN, l3, eL, eT', eN', mC5, hJ5⟩ := qh_J (K := K) (sp := sp_limit g (hp_E M sb ((i3 (4 * j) + (1 : Int32))).toNatClampNeg) (hp_E M sb ((i3 (4 * j) + (2 : Int32))).toNatClampNeg)) hs hg hx hff hpq hm hn sp_limit_rf (fun y => tn_lim_ne y rf_limit_le) (fun y => nu_pf (k := 5) (x := x3 (hp_E M sb ((i3 (4 * j) + (1 : Int32))).toNatClampNeg) (hp_E M sb ((i3 (4 * j) + (2 : Int32))).toNatClampNeg) (hp_E M sb ((i3 (4 * j) + (2 : Int32))).toNatClampNeg)) hw (by omega) (by omega) (by omega) y hn.1) hq
  refine .inl ⟨_, ez, by rw [eT]; exact tsb, by rw [ix1, eN, nsb]; exact vp_in_i3 (by omega) (by omega), by rw [ix2, eN, nsb]; exact vp_in_i3 (by omega) (by omega), m5.1, ?_⟩
  rw [eE]
  refine ct_i (c_setCapacity (d := d + 3) m5 eg5 ec5 hm.2.2.2.1 ok) ⟨mC5.1, ct_i (c_thrown (d := d + 11) mC5) ?_⟩
  rw [mC_153]
  exact cmp_end (by omega) (by rw [eT']; exact to1) (by rw [eN', no1]; exact vp_in_i3 (k := 0) (by omega) (by omega)) eL (hN _ _ _ _ _ hJ5 (by omega) (by omega) (by omega) (by omega))
theorem B_680 {X : am_Cx} {G : am_Gx} {d : Nat} {a h E : Nat} {L : Nat → Nat → Nat} {sc st ks rs so : Nat} {A : Nat → Nat} {sb N0 o1 o2 p q : Nat} {T K j bc bs : Nat} {M : am_Hp} (hX : am_ok X rL_law G (d + 13)) (hM : ∀ {pc : Nat} {lv : List (Nat × Value)} {M : am_Hp} {bc bs : Nat}, decode rL_law.2.1 pc = .ok (.ireturn, 1) → am_J X pc lv [.int (1 : Int32)] M bc bs) (hz : cz G) (hp : sioo G) (hJ : JJ G a h E L sc st ks rs so A sb N0 o1 o2 p q T K M) (hT : T < 13000000) (hK : K < 100000000) (hi : 4 * j + 3 < N0) (hN0 : N0 ≤ 2048) (hbc : 20 ≤ bc) (hbs : 2000 ≤ bs) (hN : ∀ M' T' K' bc' bs', JJ G a h E L sc st ks rs so A sb N0 o1 o2 p q T' K' M' → T' ≤ T + 23790 → K' ≤ K + 13 → bc ≤ bc' + 20 → bs ≤ bs' + 2000 → am_J X 3219 [(0, .ref sb), (1, .ref a), (2, .ref (A 0)), (3, .ref o1), (4, .ref o2), (5, .int (i3 (4 * j)))] [] M' bc' bs') : am_J X 680 [(0, .ref sb), (1, .ref a), (2, .ref (A 0)), (3, .ref o1), (4, .ref o2), (5, .int (i3 (4 * j)))] [] M bc bs := by
  obtain ⟨g, c, hist, f, sn, tx, ou, e1, e2, hs, ⟨n, b1, m1, b2, m2, hg, hx, hff, hpq⟩, hm, hn⟩ := hJ
  have hw := hg.2.2.1.2
  have ok := md_wf_ok hw
  obtain ⟨tsb, nsb, to1, no1⟩ : hp_T M sb = 42 ∧ hp_N M sb = N0 ∧ hp_T M o1 = 23 ∧ hp_N M o1 = 1 := ⟨hs.2.2.2.2.1, hs.2.2.2.2.2.1, hs.2.2.2.2.2.2.1, hs.2.2.2.2.2.2.2.1⟩
  have ix1 : i3 (4 * j) + (1 : Int32) = i3 (4 * j + 1) := i3_add _ 1
  refine vL_law_680 hX hM (fun x0 x1 x2 x3 x4 x5 M bc bs => am_J X 3219 [(0, .ref x0), (1, .ref x1), (2, .ref x2), (3, .ref x3), (4, .ref x4), (5, .int x5)] [] M bc bs) (fun _ _ _ _ _ _ _ _ _ h => h) ⟨tsb, by rw [ix1, nsb]; exact vp_in_i3 (by omega) (by omega), by omega, by omega, am_CT.mono ?_ (w_advance (d := d + 4) hs.1.1 hg (by omega) to1 no1)⟩
  rintro z M5 hq
  obtain ⟨ez, m5, eg5, ec5, eE, eT, eN, l3, eL, eT', eN', mC5, hJ5⟩ := qh_J (K := K) (sp := sp_adv g (hp_E M sb ((i3 (4 * j) + (1 : Int32))).toNatClampNeg)) hs hg hx hff hpq hm hn sp_adv_rf (fun _ => ⟨by decide, by decide⟩) (fun y => nu_pf (k := 6) (x := x3 (hp_E M sb ((i3 (4 * j) + (1 : Int32))).toNatClampNeg) (hp_E M sb ((i3 (4 * j) + (1 : Int32))).toNatClampNeg) (hp_E M sb ((i3 (4 * j) + (1 : Int32))).toNatClampNeg)) hw (by omega) (by omega) (by omega) y hn.1) hq
  refine .inl ⟨_, ez, by rw [eT]; exact tsb, by rw [ix1, eN, nsb]; exact vp_in_i3 (by omega) (by omega), m5.1, ?_⟩
  rw [eE]
  refine ct_i (c_advance (d := d + 2) m5 eg5 ec5 hm.2.2.2.1 hw (by omega)) ⟨mC5.1, ct_i (c_thrown (d := d + 11) mC5) ?_⟩
  rw [mC_153]
  exact cmp_end (by omega) (by rw [eT']; exact to1) (by rw [eN', no1]; exact vp_in_i3 (k := 0) (by omega) (by omega)) eL (hN _ _ _ _ _ hJ5 (by omega) (by omega) (by omega) (by omega))
