/-! .. what the class writes: type, renderCar, renderFloors -/
theorem sN_x {M M1 : am_Hp} {s b m x : Nat} {l l0 : List Nat} (h : sN M M1 s b l) (hs : sT M s b m l0) (hx : hp_T M x ≠ 0) (h9 : hp_T M x ≠ 9) (h20 : hp_T M x ≠ 20) : sm M M1 x := by
  obtain ⟨b', m', -, -, f⟩ := h
  refine f x hx (fun z => ?_)
  rcases z with z | z
  · rw [z, hs.1.1] at h9; exact h9 rfl
  · rw [z, hs.1.2.2.2.1] at h20; exact h20 rfl
theorem sN_nil {M M1 : am_Hp} {s b m : Nat} (h : sT M1 s b m []) (f : fr (fun x => x = s) M M1) : sN M M1 s b [] := ⟨b, m, h, .inl rfl, f.wk (fun _ => .inl)⟩
theorem n_app_c {G : am_Gx} {d s b c : Nat} {l : List Nat} {M M1 : am_Hp} (hz : cz G) (h : sN M M1 s b l) (hc : c < 128) (hl : l.length < 70) : am_CT G (d + 5) rJ4_append_cf468 [.ref s, .int (i3 c)] M1 1 100 (fun o M' => o = .inl (some (.ref s)) ∧ sN M M' s b (l ++ [c])) := by
  obtain ⟨b', m', h1, hb, f⟩ := h
  refine am_CT.mono ?_ (k_app4c hz h1 hc hl)
  rintro o M' ⟨e, k⟩
  exact ⟨e, sN_tr hb f k⟩
theorem n_app_i {G : am_Gx} {d s b m k p q : Nat} {l l0 : List Nat} {M M1 : am_Hp} (hz : cz G) (hs : sT M s b m l0) (hD : dgt G M p q) (hp : p ≠ b) (hq : q ≠ b) (h : sN M M1 s b l) (hk : k < 1000) (hl : l.length + (dg k).length ≤ 70) : am_CT G (d + 5) rJ4_append_bf812 [.ref s, .int (i3 k)] M1 1 100 (fun o M' => o = .inl (some (.ref s)) ∧ sN M M' s b (l ++ dg k)) := by
  obtain ⟨b', m', h1, hb, f⟩ := h
  have t := hs.1.1
  have np : p ≠ b' := fun z => hb.elim (fun y => hp (z.trans y)) (fun y => by have := hD.2.2.1; rw [z, y] at this; exact absurd this (by decide))
  have nq : q ≠ b' := fun z => hb.elim (fun y => hq (z.trans y)) (fun y => by have := hD.2.2.2.1; rw [z, y] at this; exact absurd this (by decide))
  have ps : p ≠ s := fun z => by have := hD.2.2.1; rw [z, t] at this; exact absurd this (by decide)
  have qs : q ≠ s := fun z => by have := hD.2.2.2.1; rw [z, t] at this; exact absurd this (by decide)
  have hD2 := dgt_sm (f p (by rw [hD.2.2.1]; decide) (fun z => z.elim ps hp)) (f q (by rw [hD.2.2.2.1]; decide) (fun z => z.elim qs hq)) hD
  refine am_CT.mono ?_ (k_app4i hz h1 hk hl hD2 np nq)
  rintro o M' ⟨e, k⟩
  exact ⟨e, sN_tr hb f k⟩
theorem ct_ap {G : am_Gx} {d s b : Nat} {r : am_Rec} {as : List Value} {M M1 : am_Hp} {mc ms : Nat} {l : List Nat} {P : Nat → am_Hp → Prop} (h : am_CT G d r as M1 mc ms (fun o M' => o = .inl (some (.ref s)) ∧ sN M M' s b l)) (k : ∀ M2, sN M M2 s b l → P s M2) : am_CT G d r as M1 mc ms (fun o M2 => ∃ p : Nat, o = .inl (some (.ref p)) ∧ P p M2) :=
  am_CT.mono (fun _ M' h => ⟨s, h.1, k M' h.2⟩) h
theorem n_len {G : am_Gx} {d s b : Nat} {l : List Nat} {M M1 : am_Hp} (h : sN M M1 s b l) : am_CT G (d + 2) rJ4_length_8abf5 [.ref s] M1 0 0 (qi (i3 l.length) M1) := by
  obtain ⟨b', m', h1, -, -⟩ := h
  exact k_len h1.1
theorem dg_le3 (k : Nat) : (dg k).length ≤ 3 := by
  rw [dg_len]
  split
  · omega
  · split <;> omega
theorem g_type {G : am_Gx} {d a sc st b m : Nat} {l : List Nat} {M : am_Hp} {v : Int32} (hz : cz G) (ta : hp_T M a = 7) (r4 : hp_R M 124 a = sc) (zs : sc ≠ 0) (t5 : hp_T M sc = 5) (r8 : hp_R M 80 sc = st) (zt : st ≠ 0) (h : sT M st b m l) (hl : l.length ≤ 60) : am_CT G (d + 6) rX6_type [.ref a, .int v] M 1 100 (fun o M' => ((v < i3 32 ∨ i3 126 < v) ∧ o = .inr "java/lang/IllegalArgumentException" ∧ M' = M) ∨ (∃ c, 32 ≤ c ∧ c ≤ 126 ∧ v = i3 c ∧ ((l.length = 60 ∧ o = .inr "java/lang/IllegalStateException" ∧ M' = M) ∨ (l.length < 60 ∧ o = .inl (some (.int (i3 (l.length + 1)))) ∧ sN M M' st b (l ++ [c]))))) := by
  have t9 := h.1.1
  refine am_intro mkX6_type rfl (Nat.le_of_ble_eq_true rfl) rfl (fun X hX hM => ?_)
  refine vX6_type_0 hX hM ⟨fun a1 => ⟨by omega, by omega, .inl ⟨.inl a1, rfl, rfl⟩⟩, fun a1 => ⟨fun a2 => ?_, fun a2 => ⟨by omega, by omega, .inl ⟨.inr (Int32.not_le.mp a2), rfl, rfl⟩⟩⟩⟩
  obtain ⟨c, hc, rfl⟩ := i3_of (v := v) (n := 127) (Int32.le_trans (by decide : (0 : Int32) ≤ 32) (Int32.not_lt.mp a1)) (Int32.lt_of_le_of_lt a2 (by decide)) (by omega)
  have c1 : 32 ≤ c := (i3_le (a := 32) (by omega) (by omega)).mp (Int32.not_lt.mp a1)
  simp only [forall_eq]
  rw [r4]
  refine ⟨ta, zs, t5, ?_⟩
  rw [r8]
  refine ⟨zt, t9, ct_i (k_len h.1) ⟨fun z => ?_, fun z => ⟨by omega, by omega, .inr ⟨c, c1, by omega, rfl, .inl ⟨?_, by trivial, by trivial⟩⟩⟩⟩⟩
  · have z1 : l.length < 60 := (i3_lt (b := 60) (by omega) (by omega)).mp z
    rw [r4]
    refine ⟨ta, zs, t5, ?_⟩
    rw [r8]
    refine ⟨zt, t9, by omega, by omega, ct_ap (k_app4c hz h (by omega) (by omega)) (fun M2 h2 => ?_)⟩
    have sa := sN_x h2 h (x := a) (by rw [ta]; decide) (by rw [ta]; decide) (by rw [ta]; decide)
    have ss := sN_x h2 h (x := sc) (by rw [t5]; decide) (by rw [t5]; decide) (by rw [t5]; decide)
    have t2 : hp_T M2 st = 9 := by
      obtain ⟨b', m', h', -, -⟩ := h2
      exact h'.1.1
    rw [sa.1, sa.2.2.2.1, r4, ss.1, ss.2.2.2.1, r8]
    refine ⟨ta, zs, t5, zt, t2, ct_i (n_len h2) (.inr ⟨c, c1, by omega, rfl, .inr ⟨z1, ?_, h2⟩⟩)⟩
    rw [List.length_append]
    rfl
  · have z1 : ¬ l.length < 60 := fun y => z ((i3_lt (b := 60) (by omega) (by omega)).mpr y)
    omega
/-- a car's text -/
def tx_car (g : md_R) (c : Nat) : List Nat :=
  let t := [] ++ dg c ++ [64] ++ dg (g (9 + c)).toNatClampNeg ++ [if g (12 + c) = 1 then 94 else if g (12 + c) = -1 then 118 else 45] ++ dg (md_cN g c) ++ [47] ++ dg (md_lN g c) ++ [if g (18 + c) ≤ 0 then 124 else 111]
  if g (21 + c) = 0 then t else t ++ [120]
theorem rc_st {M M1 : am_Hp} {s b m a k : Nat} {l l0 : List Nat} (h : sN M M1 s b l) (hs : sT M s b m l0) (ta : hp_T M a = 7) (r5 : hp_R M 125 a = s) (tc : hp_T M k = 2) : hp_T M1 a = 7 ∧ hp_R M1 125 a = s ∧ hp_T M1 k = 2 ∧ (∀ u, hp_I M1 u k = hp_I M u k) ∧ hp_T M1 s = 9 := by
  have sa := sN_x h hs (x := a) (by rw [ta]; decide) (by rw [ta]; decide) (by rw [ta]; decide)
  have sk := sN_x h hs (x := k) (by rw [tc]; decide) (by rw [tc]; decide) (by rw [tc]; decide)
  obtain ⟨b', m', h', -, -⟩ := h
  exact ⟨sa.1.trans ta, (sa.2.2.2.1 _).trans r5, sk.1.trans tc, sk.2.2.1, h'.1.1⟩
theorem g_renderCar {G : am_Gx} {d T a p q so b m : Nat} {M : am_Hp} {B : Nat → Nat} {g : md_R} {v : Int32} {l : List Nat} (hz : cz G) (h : gN M a B g) (hw : md_wf T g) (r5 : hp_R M 125 a = so) (zo : so ≠ 0) (hs : sT M so b m l) (hD : dgt G M p q) (hp : p ≠ b) (hq : q ≠ b) : am_CT G (d + 6) rX6_renderCar [.ref a, .int v] M 10 906 (fun o M' => (md_ic v = false ∧ o = .inr "java/lang/IndexOutOfBoundsException" ∧ M' = M) ∨ (∃ c, c < 3 ∧ v = i3 c ∧ o = .inl (some (.int (i3 (tx_car g c).length))) ∧ sN M M' so b (tx_car g c))) := by
  have ok := md_wf_ok hw
  obtain ⟨ta, ra, hR⟩ := h
  obtain ⟨b0, u0, u1, u2, s1, m1, s2, m2, s3, u4, u5, u6, s4, s5, s6, m4, m5, m6, y0, y1, y2, y3, y4, y5, y6, qc, tc, zc, tp, zp, i3_, i4_, i5_, i6_, i7_, i8_, i9_, f20, f21, f22, f23, f24, f25, f26, f27, e60, e61, e62, e63, e64, e65, e66, l3_, l4_, lx, ly, lz⟩ := bR_f hR ok
  refine am_intro mkX6_renderCar rfl (Nat.le_of_ble_eq_true rfl) rfl (fun X hX hM => ?_)
  refine vX6_renderCar_0 hX hM ⟨by omega, by omega, ct_k k_ckCar (fun c1 => ?_) (fun c1 => .inl ⟨c1, rfl, rfl⟩)⟩
  obtain ⟨c, hc, rfl⟩ := md_ic_iff.mp c1
  have hc2 := hc
  obtain ⟨⟨f, hf, ef⟩, hdir, ⟨kk, -, hk9, -, hld⟩, ⟨dq, hdq, eq⟩, hout, -⟩ := hw.2.1 c hc
  have e20 := (f20 c hc).trans ef
  have e21 := f21 c hc
  have e24 := (f24 c hc).trans (md_is_N g c)
  have e23 := (f23 c hc).trans (md_ld_N hw.2.2.1)
  have e25 := f25 c hc
  have e27 := f27 c hc
  have tk := tc c hc
  have hcn := md_cN_le g c
  have h12 := ok.2
  refine ⟨ta, by rw [ra]; exact y0, fun p7 e7 => ?_⟩
  rw [ra] at e7
  subst p7
  refine ⟨b0, by rw [u0]; exact y1, fun p10 e10 => ?_⟩
  rw [u0] at e10
  subst p10
  refine ⟨s1, by rw [m1]; exact vp_in_i3 hc (by omega), by rw [i3_toNat (by omega), qc c hc]; exact zc c hc, fun p14 e14 => ?_⟩
  rw [i3_toNat (by omega), qc c hc] at e14
  subst p14
  refine ⟨by rw [r5]; exact zo, fun p16 e16 => ?_⟩
  rw [r5] at e16
  subst p16
  refine ⟨hs.1.1, ct_vq (k_setLen4 hs) (fun M1 q1 => ?_)⟩
  have h1 := sN_nil q1.1 q1.2
  have L1 := dg_le3 c
  have L2 := dg_le3 f
  have L3 := dg_le3 (md_cN g c)
  have L4 := dg_le3 (md_lN g c)
  obtain ⟨x1, x2, x3, x4, x5⟩ := rc_st h1 hs ta r5 tk
  simp only [forall_eq]
  rw [x1, x2]
  refine ⟨rfl, zo, x5, by omega, by omega, ct_ap (n_app_i hz hs hD hp hq h1 (by omega) (by simp; omega)) (fun M2 h2 => ?_)⟩
  obtain ⟨x1, x2, x3, x4, x5⟩ := rc_st h2 hs ta r5 tk
  refine ⟨x5, by omega, by omega, ct_ap (n_app_c (c := 64) hz h2 (by omega) (by simp; omega)) (fun M3 h3 => ?_)⟩
  obtain ⟨x1, x2, x3, x4, x5⟩ := rc_st h3 hs ta r5 tk
  rw [x4, e20]
  refine ⟨x3, x5, by omega, by omega, ct_ap (n_app_i hz hs hD hp hq h3 (by omega) (by simp; omega)) (fun M4 h4 => ?_)⟩
  obtain ⟨x1, x2, x3, x4, x5⟩ := rc_st h4 hs ta r5 tk
  rw [x4, e21, x1, x2]
  refine ⟨rfl, zo, x3, fun z1 => ?_, fun z1 => ⟨fun z2 => ?_, fun z2 => ?_⟩⟩
  · refine ⟨x5, by omega, by omega, ct_ap (n_app_c (c := 94) hz h4 (by omega) (by simp; omega)) (fun M5 h5 => ?_)⟩
    obtain ⟨x1, x2, x3, x4, x5⟩ := rc_st h5 hs ta r5 tk
    rw [x1, x2, x4, e24]
    refine ⟨rfl, zo, x3, x5, by omega, by omega, ct_ap (n_app_i hz hs hD hp hq h5 (by omega) (by simp; omega)) (fun M6 h6 => ?_)⟩
    obtain ⟨x1, x2, x3, x4, x5⟩ := rc_st h6 hs ta r5 tk
    refine ⟨x5, by omega, by omega, ct_ap (n_app_c (c := 47) hz h6 (by omega) (by simp; omega)) (fun M7 h7 => ?_)⟩
    obtain ⟨x1, x2, x3, x4, x5⟩ := rc_st h7 hs ta r5 tk
    rw [x4, e23]
    refine ⟨x3, x5, by omega, by omega, ct_ap (n_app_i hz hs hD hp hq h7 (by omega) (by simp; omega)) (fun M8 h8 => ?_)⟩
    obtain ⟨x1, x2, x3, x4, x5⟩ := rc_st h8 hs ta r5 tk
    rw [x1, x2, x4, e25]
    refine ⟨rfl, zo, x3, fun w1 => ?_, fun w1 => ?_⟩
    · refine ⟨x5, by omega, by omega, ct_ap (n_app_c (c := 124) hz h8 (by omega) (by simp; omega)) (fun M9 h9 => ?_)⟩
      obtain ⟨x1, x2, x3, x4, x5⟩ := rc_st h9 hs ta r5 tk
      rw [x4, e27, x1, x2]
      refine ⟨x3, fun y => ?_, fun y => ?_⟩
      · have w2 : ¬ g (21 + c) = 0 := fun z => by
          rw [show decide (g (21 + c) = i3 0) = true from decide_eq_true z] at y
          exact absurd y (by decide)
        refine ⟨rfl, zo, x5, by omega, by omega, ct_ap (n_app_c (c := 120) hz h9 (by omega) (by simp; omega)) (fun M10 h10 => ?_)⟩
        obtain ⟨x1, x2, x3, x4, x5⟩ := rc_st h10 hs ta r5 tk
        rw [x1, x2]
        have et : tx_car g c = [] ++ dg c ++ [64] ++ dg f ++ [94] ++ dg (md_cN g c) ++ [47] ++ dg (md_lN g c) ++ [124] ++ [120] := by
          unfold tx_car
          dsimp only
          rw [if_neg w2, ef, i3_toNat (by omega), if_pos z1, if_pos w1]
        refine ⟨rfl, zo, x5, ct_i (n_len h10) (.inr ⟨c, hc, rfl, by rw [et], by rw [et]; exact h10⟩)⟩
      · have w2 : g (21 + c) = 0 := Classical.byContradiction (fun z => y (by
          rw [show decide (g (21 + c) = i3 0) = false from decide_eq_false z]
          decide))
        have et : tx_car g c = [] ++ dg c ++ [64] ++ dg f ++ [94] ++ dg (md_cN g c) ++ [47] ++ dg (md_lN g c) ++ [124] := by
          unfold tx_car
          dsimp only
          rw [if_pos w2, ef, i3_toNat (by omega), if_pos z1, if_pos w1]
        refine ⟨rfl, zo, x5, ct_i (n_len h9) (.inr ⟨c, hc, rfl, by rw [et], by rw [et]; exact h9⟩)⟩
    · refine ⟨x5, by omega, by omega, ct_ap (n_app_c (c := 111) hz h8 (by omega) (by simp; omega)) (fun M9 h9 => ?_)⟩
      obtain ⟨x1, x2, x3, x4, x5⟩ := rc_st h9 hs ta r5 tk
      rw [x4, e27, x1, x2]
      refine ⟨x3, fun y => ?_, fun y => ?_⟩
      · have w2 : ¬ g (21 + c) = 0 := fun z => by
          rw [show decide (g (21 + c) = i3 0) = true from decide_eq_true z] at y
          exact absurd y (by decide)
        refine ⟨rfl, zo, x5, by omega, by omega, ct_ap (n_app_c (c := 120) hz h9 (by omega) (by simp; omega)) (fun M10 h10 => ?_)⟩
        obtain ⟨x1, x2, x3, x4, x5⟩ := rc_st h10 hs ta r5 tk
        rw [x1, x2]
        have et : tx_car g c = [] ++ dg c ++ [64] ++ dg f ++ [94] ++ dg (md_cN g c) ++ [47] ++ dg (md_lN g c) ++ [111] ++ [120] := by
          unfold tx_car
          dsimp only
          rw [if_neg w2, ef, i3_toNat (by omega), if_pos z1, if_neg w1]
        refine ⟨rfl, zo, x5, ct_i (n_len h10) (.inr ⟨c, hc, rfl, by rw [et], by rw [et]; exact h10⟩)⟩
      · have w2 : g (21 + c) = 0 := Classical.byContradiction (fun z => y (by
          rw [show decide (g (21 + c) = i3 0) = false from decide_eq_false z]
          decide))
        have et : tx_car g c = [] ++ dg c ++ [64] ++ dg f ++ [94] ++ dg (md_cN g c) ++ [47] ++ dg (md_lN g c) ++ [111] := by
          unfold tx_car
          dsimp only
          rw [if_pos w2, ef, i3_toNat (by omega), if_pos z1, if_neg w1]
        refine ⟨rfl, zo, x5, ct_i (n_len h9) (.inr ⟨c, hc, rfl, by rw [et], by rw [et]; exact h9⟩)⟩
  · refine ⟨x5, by omega, by omega, ct_ap (n_app_c (c := 118) hz h4 (by omega) (by simp; omega)) (fun M5 h5 => ?_)⟩
    obtain ⟨x1, x2, x3, x4, x5⟩ := rc_st h5 hs ta r5 tk
    rw [x1, x2, x4, e24]
    refine ⟨rfl, zo, x3, x5, by omega, by omega, ct_ap (n_app_i hz hs hD hp hq h5 (by omega) (by simp; omega)) (fun M6 h6 => ?_)⟩
    obtain ⟨x1, x2, x3, x4, x5⟩ := rc_st h6 hs ta r5 tk
    refine ⟨x5, by omega, by omega, ct_ap (n_app_c (c := 47) hz h6 (by omega) (by simp; omega)) (fun M7 h7 => ?_)⟩
    obtain ⟨x1, x2, x3, x4, x5⟩ := rc_st h7 hs ta r5 tk
    rw [x4, e23]
    refine ⟨x3, x5, by omega, by omega, ct_ap (n_app_i hz hs hD hp hq h7 (by omega) (by simp; omega)) (fun M8 h8 => ?_)⟩
    obtain ⟨x1, x2, x3, x4, x5⟩ := rc_st h8 hs ta r5 tk
    rw [x1, x2, x4, e25]
    refine ⟨rfl, zo, x3, fun w1 => ?_, fun w1 => ?_⟩
    · refine ⟨x5, by omega, by omega, ct_ap (n_app_c (c := 124) hz h8 (by omega) (by simp; omega)) (fun M9 h9 => ?_)⟩
      obtain ⟨x1, x2, x3, x4, x5⟩ := rc_st h9 hs ta r5 tk
      rw [x4, e27, x1, x2]
      refine ⟨x3, fun y => ?_, fun y => ?_⟩
      · have w2 : ¬ g (21 + c) = 0 := fun z => by
          rw [show decide (g (21 + c) = i3 0) = true from decide_eq_true z] at y
          exact absurd y (by decide)
        refine ⟨rfl, zo, x5, by omega, by omega, ct_ap (n_app_c (c := 120) hz h9 (by omega) (by simp; omega)) (fun M10 h10 => ?_)⟩
        obtain ⟨x1, x2, x3, x4, x5⟩ := rc_st h10 hs ta r5 tk
        rw [x1, x2]
        have et : tx_car g c = [] ++ dg c ++ [64] ++ dg f ++ [118] ++ dg (md_cN g c) ++ [47] ++ dg (md_lN g c) ++ [124] ++ [120] := by
          unfold tx_car
          dsimp only
          rw [if_neg w2, ef, i3_toNat (by omega), if_neg z1, if_pos z2, if_pos w1]
        refine ⟨rfl, zo, x5, ct_i (n_len h10) (.inr ⟨c, hc, rfl, by rw [et], by rw [et]; exact h10⟩)⟩
      · have w2 : g (21 + c) = 0 := Classical.byContradiction (fun z => y (by
          rw [show decide (g (21 + c) = i3 0) = false from decide_eq_false z]
          decide))
        have et : tx_car g c = [] ++ dg c ++ [64] ++ dg f ++ [118] ++ dg (md_cN g c) ++ [47] ++ dg (md_lN g c) ++ [124] := by
          unfold tx_car
          dsimp only
          rw [if_pos w2, ef, i3_toNat (by omega), if_neg z1, if_pos z2, if_pos w1]
        refine ⟨rfl, zo, x5, ct_i (n_len h9) (.inr ⟨c, hc, rfl, by rw [et], by rw [et]; exact h9⟩)⟩
    · refine ⟨x5, by omega, by omega, ct_ap (n_app_c (c := 111) hz h8 (by omega) (by simp; omega)) (fun M9 h9 => ?_)⟩
      obtain ⟨x1, x2, x3, x4, x5⟩ := rc_st h9 hs ta r5 tk
      rw [x4, e27, x1, x2]
      refine ⟨x3, fun y => ?_, fun y => ?_⟩
      · have w2 : ¬ g (21 + c) = 0 := fun z => by
          rw [show decide (g (21 + c) = i3 0) = true from decide_eq_true z] at y
          exact absurd y (by decide)
        refine ⟨rfl, zo, x5, by omega, by omega, ct_ap (n_app_c (c := 120) hz h9 (by omega) (by simp; omega)) (fun M10 h10 => ?_)⟩
        obtain ⟨x1, x2, x3, x4, x5⟩ := rc_st h10 hs ta r5 tk
        rw [x1, x2]
        have et : tx_car g c = [] ++ dg c ++ [64] ++ dg f ++ [118] ++ dg (md_cN g c) ++ [47] ++ dg (md_lN g c) ++ [111] ++ [120] := by
          unfold tx_car
          dsimp only
          rw [if_neg w2, ef, i3_toNat (by omega), if_neg z1, if_pos z2, if_neg w1]
        refine ⟨rfl, zo, x5, ct_i (n_len h10) (.inr ⟨c, hc, rfl, by rw [et], by rw [et]; exact h10⟩)⟩
      · have w2 : g (21 + c) = 0 := Classical.byContradiction (fun z => y (by
          rw [show decide (g (21 + c) = i3 0) = false from decide_eq_false z]
          decide))
        have et : tx_car g c = [] ++ dg c ++ [64] ++ dg f ++ [118] ++ dg (md_cN g c) ++ [47] ++ dg (md_lN g c) ++ [111] := by
          unfold tx_car
          dsimp only
          rw [if_pos w2, ef, i3_toNat (by omega), if_neg z1, if_pos z2, if_neg w1]
        refine ⟨rfl, zo, x5, ct_i (n_len h9) (.inr ⟨c, hc, rfl, by rw [et], by rw [et]; exact h9⟩)⟩
  · refine ⟨x5, by omega, by omega, ct_ap (n_app_c (c := 45) hz h4 (by omega) (by simp; omega)) (fun M5 h5 => ?_)⟩
    obtain ⟨x1, x2, x3, x4, x5⟩ := rc_st h5 hs ta r5 tk
    rw [x1, x2, x4, e24]
    refine ⟨rfl, zo, x3, x5, by omega, by omega, ct_ap (n_app_i hz hs hD hp hq h5 (by omega) (by simp; omega)) (fun M6 h6 => ?_)⟩
    obtain ⟨x1, x2, x3, x4, x5⟩ := rc_st h6 hs ta r5 tk
    refine ⟨x5, by omega, by omega, ct_ap (n_app_c (c := 47) hz h6 (by omega) (by simp; omega)) (fun M7 h7 => ?_)⟩
    obtain ⟨x1, x2, x3, x4, x5⟩ := rc_st h7 hs ta r5 tk
    rw [x4, e23]
    refine ⟨x3, x5, by omega, by omega, ct_ap (n_app_i hz hs hD hp hq h7 (by omega) (by simp; omega)) (fun M8 h8 => ?_)⟩
    obtain ⟨x1, x2, x3, x4, x5⟩ := rc_st h8 hs ta r5 tk
    rw [x1, x2, x4, e25]
    refine ⟨rfl, zo, x3, fun w1 => ?_, fun w1 => ?_⟩
    · refine ⟨x5, by omega, by omega, ct_ap (n_app_c (c := 124) hz h8 (by omega) (by simp; omega)) (fun M9 h9 => ?_)⟩
      obtain ⟨x1, x2, x3, x4, x5⟩ := rc_st h9 hs ta r5 tk
      rw [x4, e27, x1, x2]
      refine ⟨x3, fun y => ?_, fun y => ?_⟩
      · have w2 : ¬ g (21 + c) = 0 := fun z => by
          rw [show decide (g (21 + c) = i3 0) = true from decide_eq_true z] at y
          exact absurd y (by decide)
        refine ⟨rfl, zo, x5, by omega, by omega, ct_ap (n_app_c (c := 120) hz h9 (by omega) (by simp; omega)) (fun M10 h10 => ?_)⟩
        obtain ⟨x1, x2, x3, x4, x5⟩ := rc_st h10 hs ta r5 tk
        rw [x1, x2]
        have et : tx_car g c = [] ++ dg c ++ [64] ++ dg f ++ [45] ++ dg (md_cN g c) ++ [47] ++ dg (md_lN g c) ++ [124] ++ [120] := by
          unfold tx_car
          dsimp only
          rw [if_neg w2, ef, i3_toNat (by omega), if_neg z1, if_neg z2, if_pos w1]
        refine ⟨rfl, zo, x5, ct_i (n_len h10) (.inr ⟨c, hc, rfl, by rw [et], by rw [et]; exact h10⟩)⟩
      · have w2 : g (21 + c) = 0 := Classical.byContradiction (fun z => y (by
          rw [show decide (g (21 + c) = i3 0) = false from decide_eq_false z]
          decide))
        have et : tx_car g c = [] ++ dg c ++ [64] ++ dg f ++ [45] ++ dg (md_cN g c) ++ [47] ++ dg (md_lN g c) ++ [124] := by
          unfold tx_car
          dsimp only
          rw [if_pos w2, ef, i3_toNat (by omega), if_neg z1, if_neg z2, if_pos w1]
        refine ⟨rfl, zo, x5, ct_i (n_len h9) (.inr ⟨c, hc, rfl, by rw [et], by rw [et]; exact h9⟩)⟩
    · refine ⟨x5, by omega, by omega, ct_ap (n_app_c (c := 111) hz h8 (by omega) (by simp; omega)) (fun M9 h9 => ?_)⟩
      obtain ⟨x1, x2, x3, x4, x5⟩ := rc_st h9 hs ta r5 tk
      rw [x4, e27, x1, x2]
      refine ⟨x3, fun y => ?_, fun y => ?_⟩
      · have w2 : ¬ g (21 + c) = 0 := fun z => by
          rw [show decide (g (21 + c) = i3 0) = true from decide_eq_true z] at y
          exact absurd y (by decide)
        refine ⟨rfl, zo, x5, by omega, by omega, ct_ap (n_app_c (c := 120) hz h9 (by omega) (by simp; omega)) (fun M10 h10 => ?_)⟩
        obtain ⟨x1, x2, x3, x4, x5⟩ := rc_st h10 hs ta r5 tk
        rw [x1, x2]
        have et : tx_car g c = [] ++ dg c ++ [64] ++ dg f ++ [45] ++ dg (md_cN g c) ++ [47] ++ dg (md_lN g c) ++ [111] ++ [120] := by
          unfold tx_car
          dsimp only
          rw [if_neg w2, ef, i3_toNat (by omega), if_neg z1, if_neg z2, if_neg w1]
        refine ⟨rfl, zo, x5, ct_i (n_len h10) (.inr ⟨c, hc, rfl, by rw [et], by rw [et]; exact h10⟩)⟩
      · have w2 : g (21 + c) = 0 := Classical.byContradiction (fun z => y (by
          rw [show decide (g (21 + c) = i3 0) = false from decide_eq_false z]
          decide))
        have et : tx_car g c = [] ++ dg c ++ [64] ++ dg f ++ [45] ++ dg (md_cN g c) ++ [47] ++ dg (md_lN g c) ++ [111] := by
          unfold tx_car
          dsimp only
          rw [if_pos w2, ef, i3_toNat (by omega), if_neg z1, if_neg z2, if_neg w1]
        refine ⟨rfl, zo, x5, ct_i (n_len h9) (.inr ⟨c, hc, rfl, by rw [et], by rw [et]; exact h9⟩)⟩
/-! the floors -/
def md_wN (g : md_R) (k : Nat) : Nat := md_sN (fun p => if g (99 + p) = i3 0 ∧ g (39 + p) = i3 k then 1 else 0) (md_n g)
theorem md_wt_N (g : md_R) (k : Nat) : md_wt g (i3 k) = i3 (md_wN g k) := by
  unfold md_wt md_wN
  refine md_sum_N _ (fun p _ => ?_)
  by_cases c : g (99 + p) = i3 0 ∧ g (39 + p) = i3 k
  · rw [if_pos c, if_pos c]; rfl
  · rw [if_neg c, if_neg c]; rfl
theorem md_wN_le (g : md_R) (k : Nat) : md_wN g k ≤ md_n g := by
  have := md_sN_le (f := fun p => if g (99 + p) = i3 0 ∧ g (39 + p) = i3 k then 1 else 0) (b := 1) (md_n g) (fun i _ => by
    show (if _ then _ else _) ≤ 1
    split <;> omega)
  unfold md_wN
  omega
/-- the text of the first k floors -/
def tx_flo (g : md_R) : Nat → List Nat
  | 0 => []
  | k + 1 => (if k = 0 then tx_flo g k else tx_flo g k ++ [44]) ++ dg (md_wN g k)
theorem tx_flo_len {g : md_R} (ok : md_ok g) : ∀ k, (tx_flo g k).length ≤ 3 * k
  | 0 => Nat.le_refl _
  | k + 1 => by
    have h := tx_flo_len ok k
    have h12 := ok.2
    have hw := md_wN_le g k
    have hd : (dg (md_wN g k)).length ≤ 2 := by
      rw [dg_len]
      split
      · omega
      · split <;> omega
    rw [tx_flo]
    split
    · rw [List.length_append]; omega
    · rw [List.length_append, List.length_append]
      simp only [List.length_singleton]
      omega
theorem g_floors {X : am_Cx} {G : am_Gx} {d a p q so b m : Nat} {M : am_Hp} {B : Nat → Nat} {g : md_R} {l : List Nat} {Q : am_Q} (hX : am_ok X rX6_renderFloors G (d + 6)) (hM : am_me X rX6_renderFloors Q) (hz : cz G) (h : gN M a B g) (ok : md_ok g) (r5 : hp_R M 125 a = so) (zo : so ≠ 0) (hs : sT M so b m l) (hD : dgt G M p q) (hp : p ≠ b) (hq : q ≠ b) (hB : ∀ M1, sN M M1 so b (tx_flo g 10) → Q (.inl (some (.int (i3 (tx_flo g 10).length)))) M1) : ∀ j k M1 bc bs, k + j = 10 → 2 * j ≤ bc → 200 * j ≤ bs → sN M M1 so b (tx_flo g k) → am_J X 10 [(0, .ref a), (1, .int (i3 k))] [] M1 bc bs := by
  have hh := h
  obtain ⟨ta, ra, hR⟩ := h
  have y0 : B 0 ≠ 0 := hR.1.2.2.2.1 0 (by omega)
  have b0 : hp_T M (B 0) = 1 := hR.1.1.1
  intro j
  induction j with
  | zero =>
    intro k M1 bc bs hk _ _ h1
    obtain rfl : k = 10 := by omega
    have sa := sN_x h1 hs (x := a) (by rw [ta]; decide) (by rw [ta]; decide) (by rw [ta]; decide)
    have x5 : hp_T M1 so = 9 := by
      obtain ⟨b', m', h', -, -⟩ := h1
      exact h'.1.1
    refine vX6_renderFloors_10 hX hM (fun x0 x1 M bc bs => am_J X 10 [(0, .ref x0), (1, .int x1)] [] M bc bs) (fun _ _ _ _ _ h => h) ⟨fun _ => ?_, fun z => absurd (by decide) z⟩
    simp only [forall_eq]
    rw [sa.1, sa.2.2.2.1, r5]
    exact ⟨ta, zo, x5, ct_i (n_len h1) (hB M1 h1)⟩
  | succ j ih =>
    intro k M1 bc bs hk hbc hbs h1
    have sa := sN_x h1 hs (x := a) (by rw [ta]; decide) (by rw [ta]; decide) (by rw [ta]; decide)
    have x5 : hp_T M1 so = 9 := by
      obtain ⟨b', m', h', -, -⟩ := h1
      exact h'.1.1
    have smC : ∀ {M2 : am_Hp} {l2 : List Nat}, sN M M2 so b l2 → ∀ i, i < 22 → sm M M2 (B i) := fun h2 i hi => sN_x h2 hs (bL_T hR.1 hi) (bL_T9 hR.1 hi).1 (bL_T9 hR.1 hi).2
    have hw := md_wN_le g k
    have h12 := ok.2
    have hlen := tx_flo_len ok k
    have L1 := dg_le3 (md_wN g k)
    refine vX6_renderFloors_10 hX hM (fun x0 x1 M bc bs => am_J X 10 [(0, .ref x0), (1, .int x1)] [] M bc bs) (fun _ _ _ _ _ h => h) ⟨fun z => absurd ((i3_le (a := 10) (by omega) (by omega)).mp z) (by omega), fun _ => ⟨fun z => ?_, fun z => ?_⟩⟩
    · obtain rfl : k = 0 := by
        have := (i3_le (b := 0) (by omega) (by omega)).mp z
        omega
      simp only [forall_eq]
      rw [sa.1, sa.2.2.2.1, sa.2.2.2.1, r5, ra]
      refine ⟨ta, zo, y0, (smC h1 0 (by omega)).1.trans b0, ct_i (k_countWaiting (bR_sm (smC h1) ok hR) ok) ⟨x5, by omega, by omega, ?_⟩⟩
      rw [md_wt_N]
      refine ct_ap (n_app_i hz hs hD hp hq h1 (by omega) (by omega)) (fun M2 h2 => ?_)
      exact ih 1 M2 _ _ (by omega) (by omega) (by omega) h2
    · have hk0 : k ≠ 0 := fun y => z (by rw [y]; decide)
      simp only [forall_eq]
      rw [sa.1, sa.2.2.2.1, r5]
      refine ⟨ta, zo, x5, by omega, by omega, ct_ap (n_app_c (c := 44) hz h1 (by omega) (by omega)) (fun M2 h2 => ?_)⟩
      have sa2 := sN_x h2 hs (x := a) (by rw [ta]; decide) (by rw [ta]; decide) (by rw [ta]; decide)
      have x5 : hp_T M2 so = 9 := by
        obtain ⟨b', m', h', -, -⟩ := h2
        exact h'.1.1
      rw [sa2.1, sa2.2.2.2.1, sa2.2.2.2.1, r5, ra]
      refine ⟨ta, zo, y0, (smC h2 0 (by omega)).1.trans b0, ct_i (k_countWaiting (bR_sm (smC h2) ok hR) ok) ⟨x5, by omega, by omega, ?_⟩⟩
      rw [md_wt_N]
      refine ct_ap (n_app_i hz hs hD hp hq h2 (by omega) (by simp; omega)) (fun M3 h3 => ?_)
      rw [show i3 k + 1 = i3 (k + 1) from i3_one k]
      refine ih (k + 1) M3 _ _ (by omega) (by omega) (by omega) ?_
      rw [tx_flo, if_neg hk0]
      exact h3
theorem g_renderFloors {G : am_Gx} {d a p q so b m : Nat} {M : am_Hp} {B : Nat → Nat} {g : md_R} {l : List Nat} (hz : cz G) (h : gN M a B g) (ok : md_ok g) (r5 : hp_R M 125 a = so) (zo : so ≠ 0) (hs : sT M so b m l) (hD : dgt G M p q) (hp : p ≠ b) (hq : q ≠ b) : am_CT G (d + 6) rX6_renderFloors [.ref a] M 20 2000 (fun o M' => o = .inl (some (.int (i3 (tx_flo g 10).length))) ∧ sN M M' so b (tx_flo g 10)) := by
  refine am_intro mkX6_renderFloors rfl (Nat.le_of_ble_eq_true rfl) rfl (fun X hX hM => ?_)
  refine vX6_renderFloors_0 hX hM (fun x0 x1 M bc bs => am_J X 10 [(0, .ref x0), (1, .int x1)] [] M bc bs) (fun _ _ _ _ _ h => h) ?_
  simp only [forall_eq]
  rw [r5]
  refine ⟨h.1, zo, hs.1.1, ct_vq (k_setLen4 hs) (fun M1 q1 => ?_)⟩
  exact g_floors hX hM hz h ok r5 zo hs hD hp hq (fun M1 h1 => ⟨rfl, h1⟩) 10 0 M1 20 2000 rfl (by omega) (by omega) (sN_nil q1.1 q1.2)
