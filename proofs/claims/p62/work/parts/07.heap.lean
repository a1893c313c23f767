/-! the rows of am_J that read and change the heap; returns; throws; calls; a method's contract -/
set_option maxRecDepth 100000 in
theorem am_cls_ws : am_cl.all (fun q => (u_ws q.1 q.2.1 q.2.2).all (fun w => decide (w ∈ am_gt))) = true := by decide +kernel
theorem am_cls_in {ci : Nat} {q : vw_C} (h : am_cl[ci]? = some q) : ∀ w ∈ u_ws q.1 q.2.1 q.2.2, w ∈ am_gt := by
  have h1 := List.all_eq_true.mp am_cls_ws q (List.mem_of_getElem? h)
  intro w hw
  exact of_decide_eq_true (List.all_eq_true.mp h1 w hw)
theorem am_cls_ok {ci : Nat} {q : vw_C} (h : am_cl[ci]? = some q) : (∃ ty : Nat → FieldType, ∀ k, k < q.2.2 → parseFieldDescriptor (q.2.1 k).2.2.1 = some (ty k)) ∧ (∀ a, a < q.2.2 → ∀ b, b < q.2.2 → a ≠ b → (q.2.1 a).2.1 ≠ (q.2.1 b).2.1) ∧ (am_kd ci).length = q.2.2 := by
  match ci, h with
  | 0, h => cases h; exact ⟨⟨tyX0, tyX0_ok⟩, nmX0, rfl⟩
  | 1, h => cases h; exact ⟨⟨tyX1, tyX1_ok⟩, nmX1, rfl⟩
  | 2, h => cases h; exact ⟨⟨tyX2, tyX2_ok⟩, nmX2, rfl⟩
  | 3, h => cases h; exact ⟨⟨tyX3, tyX3_ok⟩, nmX3, rfl⟩
  | 4, h => cases h; exact ⟨⟨tyX4, tyX4_ok⟩, nmX4, rfl⟩
  | 5, h => cases h; exact ⟨⟨tyX5, tyX5_ok⟩, nmX5, rfl⟩
  | 6, h => cases h; exact ⟨⟨tyX6, tyX6_ok⟩, nmX6, rfl⟩
  | 7, h => cases h; exact ⟨⟨tyJx4a65c, tyJx4a65c_ok⟩, nmJx4a65c, rfl⟩
  | 8, h => cases h; exact ⟨⟨tyJ4, tyJ4_ok⟩, nmJ4, rfl⟩
  | 9, h => cases h; exact ⟨⟨tyJ0, tyJ0_ok⟩, nmJ0, rfl⟩
  | 10, h => cases h; exact ⟨⟨tyJx35411, tyJx35411_ok⟩, nmJx35411, rfl⟩
  | k + 11, h => simp [am_cl] at h
/-- the pool entry idx of the class own is the field k of the class number ci -/
def am_F (own : String) (idx ci k : Nat) : Prop := ∃ (C : String) (T : u_T) (N : Nat), am_cl[ci]? = some (C, T, N) ∧ k < N ∧ Cond.fieldLink own idx (T k).1 (T k).2.1 (T k).2.2.1 ∈ am_gt
theorem am_fs_get {ci k : Nat} {b : Bool} (M : am_Hp) (a : Nat) (h : (am_kd ci)[k]? = some b) : (am_fs ci M a)[k]? = some (am_fv b (20 * ci + k) a M) := by
  unfold am_fs
  rw [am_go_get, h]
  rfl
theorem am_fs_len (ci : Nat) (M : am_Hp) (a : Nat) : (am_fs ci M a).length = (am_kd ci).length := am_go_len M a _ _
theorem am_rv_ne {n : Nat} (h : n ≠ 0) : am_rv n = .ref n := if_neg h
theorem am_rv_inj {n m : Nat} (h : am_rv n = am_rv m) : n = m := by
  unfold am_rv at h
  split at h <;> split at h
  · rename_i a b; rw [a, b]
  · cases h
  · cases h
  · exact Value.ref.inj h
theorem am_ss {G : am_Gx} {M : am_Hp} {a k : Nat} {b : Bool} (h : am_same G M) (hT : hp_T M a = 40) (hk : (am_kd 9)[k]? = some b) : hp_T (gx_M G) a = 40 ∧ am_fv b (20 * 9 + k) a (gx_M G) = am_fv b (20 * 9 + k) a M := by
  obtain ⟨e1, e2⟩ := h a (by omega)
  rw [hT] at e1
  rw [am_rl_str hT, am_rl_str e1] at e2
  have e3 : am_fs 9 M a = am_fs 9 (gx_M G) a := (Prod.mk.inj (Sum.inr.inj e2)).2
  have e4 := am_fs_get M a hk
  rw [e3, am_fs_get (gx_M G) a hk] at e4
  exact ⟨e1, Option.some.inj e4⟩
theorem j_getI {X : am_Cx} {r : am_Rec} {G : am_Gx} {d : Nat} (hX : am_ok X r G d) {pc bc bs : Nat} {lv : List (Nat × Value)} {rest : List Value} {M : am_Hp} {idx ci k a : Nat} (hdg : decode r.2.1 pc = .ok (.getfield idx, 3)) (hF : am_F r.1.cls idx ci k) (hk : (am_kd ci)[k]? = some false) (hT : hp_T M a = ci + 1) (hc9 : ci < 19) (kk : am_J X (pc + 3) lv (.int (hp_I M (20 * ci + k) a) :: rest) M bc bs) : am_J X pc lv (.ref a :: rest) M bc bs := by
  obtain ⟨p, e, R, s, m, args, below, meth, c, Qf, nL, G', mc, ms, d'⟩ := X
  obtain ⟨hx, hb, hml, hown, hts, hU, hlk, htb, hmc, hms, hfr, hlo, hst, hnL, rfl, rfl⟩ := hX
  intro H locs cells slots ls h1 h2 h3 h4 h5
  obtain ⟨C, T, N, hc, hkN, hw⟩ := hF
  have hP := h1.one (a := a) (by omega)
  rw [am_rl_obj hT hc9] at hP
  refine va_get hx hb hts (am_cls_in hc) hown hU.1 hP 0 rfl hc k hkN (hts _ hw) (fun _ h9 => h9) ((am_fs_get M a hk).trans (congrArg some (show am_fv false _ a M = .int (hp_I M (20 * ci + k) a) from rfl))) hdg (kk H locs cells slots ls h1 h2 h3 h4 h5)
theorem j_getIs {X : am_Cx} {r : am_Rec} {G : am_Gx} {d : Nat} (hX : am_ok X r G d) {pc bc bs : Nat} {lv : List (Nat × Value)} {rest : List Value} {M : am_Hp} {idx k a : Nat} (hdg : decode r.2.1 pc = .ok (.getfield idx, 3)) (hF : am_F r.1.cls idx 9 k) (hk : (am_kd 9)[k]? = some false) (hT : hp_T M a = 40) (kk : am_J X (pc + 3) lv (.int (hp_I M (20 * 9 + k) a) :: rest) M bc bs) (hk2 : k < 2 := by decide) : am_J X pc lv (.ref a :: rest) M bc bs := by
  obtain ⟨p, e, R, s, m, args, below, meth, c, Qf, nL, G', mc, ms, d'⟩ := X
  obtain ⟨hx, hb, hml, hown, hts, hU, hlk, htb, hmc, hms, hfr, hlo, hst, hnL, rfl, rfl⟩ := hX
  intro H locs cells slots ls h1 h2 h3 h4 h5
  obtain ⟨C, T, N, hc, hkN, hw⟩ := hF
  have hc' : (RJ0, TJ0, 4) = (C, T, N) := Option.some.inj hc
  cases hc'
  obtain ⟨e1, e2⟩ := am_ss (b := false) h1.choose_spec.2.2.1 hT hk
  obtain rfl : k = 1 := by
    rcases (by omega : k = 0 ∨ k = 1) with z | z
    · subst z; cases hk
    · exact z
  have e3 : hp_I (gx_M G') 181 a = hp_I M 181 a := Value.int.inj e2
  refine vk_getf hx hb ((hU.2.2.2.2.2.2.2.2 a).2.2.1 e1).2.2 h2 hown (hts _ hw) (fun _ h9 => h9) hdg ?_
  rw [e3]
  exact kk H locs cells slots ls h1 h2 h3 h4 h5
theorem j_getR {X : am_Cx} {r : am_Rec} {G : am_Gx} {d : Nat} (hX : am_ok X r G d) {pc bc bs : Nat} {lv : List (Nat × Value)} {rest : List Value} {M : am_Hp} {idx ci k a : Nat} (hdg : decode r.2.1 pc = .ok (.getfield idx, 3)) (hF : am_F r.1.cls idx ci k) (hk : (am_kd ci)[k]? = some true) (hT : hp_T M a = ci + 1) (hc9 : ci < 19) (h0 : hp_R M (20 * ci + k) a ≠ 0) (kk : am_J X (pc + 3) lv (.ref (hp_R M (20 * ci + k) a) :: rest) M bc bs) (hu : 20 * ci + k ≠ 141 := by decide) : am_J X pc lv (.ref a :: rest) M bc bs := by
  obtain ⟨p, e, R, s, m, args, below, meth, c, Qf, nL, G', mc, ms, d'⟩ := X
  obtain ⟨hx, hb, hml, hown, hts, hU, hlk, htb, hmc, hms, hfr, hlo, hst, hnL, rfl, rfl⟩ := hX
  intro H locs cells slots ls h1 h2 h3 h4 h5
  obtain ⟨C, T, N, hc, hkN, hw⟩ := hF
  have hP := h1.one (a := a) (by omega)
  rw [am_rl_obj hT hc9] at hP
  refine va_get hx hb hts (am_cls_in hc) hown hU.1 hP 0 rfl hc k hkN (hts _ hw) (fun _ h9 => h9) ((am_fs_get M a hk).trans (congrArg some (show am_fv true _ a M = .ref (hp_R M (20 * ci + k) a) from (am_rw_ne hu).trans (am_rv_ne h0)))) hdg (kk H locs cells slots ls h1 h2 h3 h4 h5)
theorem j_getRs {X : am_Cx} {r : am_Rec} {G : am_Gx} {d : Nat} (hX : am_ok X r G d) {pc bc bs : Nat} {lv : List (Nat × Value)} {rest : List Value} {M : am_Hp} {idx k a : Nat} (hdg : decode r.2.1 pc = .ok (.getfield idx, 3)) (hF : am_F r.1.cls idx 9 k) (hk : (am_kd 9)[k]? = some true) (hT : hp_T M a = 40) (h0 : True) (kk : am_J X (pc + 3) lv (.ref (hp_R M (20 * 9 + k) a) :: rest) M bc bs) (hk2 : k < 2 := by decide) : am_J X pc lv (.ref a :: rest) M bc bs := by
  obtain ⟨p, e, R, s, m, args, below, meth, c, Qf, nL, G', mc, ms, d'⟩ := X
  obtain ⟨hx, hb, hml, hown, hts, hU, hlk, htb, hmc, hms, hfr, hlo, hst, hnL, rfl, rfl⟩ := hX
  intro H locs cells slots ls h1 h2 h3 h4 h5
  obtain ⟨C, T, N, hc, hkN, hw⟩ := hF
  have hc' : (RJ0, TJ0, 4) = (C, T, N) := Option.some.inj hc
  cases hc'
  obtain ⟨e1, e2⟩ := am_ss (b := true) h1.choose_spec.2.2.1 hT hk
  obtain rfl : k = 0 := by
    rcases (by omega : k = 0 ∨ k = 1) with z | z
    · exact z
    · subst z; cases hk
  have e3 : hp_R M 180 a = hp_R (gx_M G') 180 a := am_rv_inj (((am_rw_ne (show 20 * 9 + 0 ≠ 141 by decide)).symm.trans e2.symm).trans (am_rw_ne (show 20 * 9 + 0 ≠ 141 by decide)))
  refine vk_getf hx hb ((hU.2.2.2.2.2.2.2.2 a).2.2.1 e1).2.1 h2 hown (hts _ hw) (fun _ h9 => h9) hdg ?_
  rw [← e3]
  exact kk H locs cells slots ls h1 h2 h3 h4 h5
theorem j_putI {X : am_Cx} {r : am_Rec} {G : am_Gx} {d : Nat} (hX : am_ok X r G d) {pc bc bs : Nat} {lv : List (Nat × Value)} {rest : List Value} {M : am_Hp} {idx ci k a : Nat} {x : Int32} {ty : FieldType} (hdg : decode r.2.1 pc = .ok (.putfield idx, 3)) (hF : am_F r.1.cls idx ci k) (hk : (am_kd ci)[k]? = some false) (hT : hp_T M a = ci + 1) (hc9 : ci < 19) (hfin : ∀ q, am_cl[ci]? = some q → (q.2.1 k).2.2.2 = false ∧ parseFieldDescriptor (q.2.1 k).2.2.1 = some ty) (hn : narrow ty (.int x) = (.int x)) (hfit : fits ty (.int x) = true) (kk : am_J X (pc + 3) lv rest (hp_sI M (20 * ci + k) a x) bc bs) : am_J X pc lv (.int x :: .ref a :: rest) M bc bs := by
  obtain ⟨p, e, R, s, m, args, below, meth, c, Qf, nL, G', mc, ms, d'⟩ := X
  obtain ⟨hx, hb, hml, hown, hts, hU, hlk, htb, hmc, hms, hfr, hlo, hst, hnL, rfl, rfl⟩ := hX
  intro H locs cells slots ls h1 h2 h3 h4 h5
  obtain ⟨C, T, N, hc, hkN, hw⟩ := hF
  obtain ⟨⟨ty0, hty0⟩, hnm, hlen⟩ := am_cls_ok hc
  obtain ⟨L, hP, hD, hPX, hT0, hTX, hXX, hLL, h0⟩ := h1
  have haL : a ∈ L := hT0 a (by omega) (by omega)
  obtain ⟨j, hj⟩ := va_pl_get (X := []) (f := am_rl (gx_cy G') M) haL
  have hj2 : (va_pl L (am_rl (gx_cy G') M))[j]? = some (a, .inr (ci, am_fs ci M a)) := hj.trans (congrArg (fun e => some (a, e)) (am_rl_obj hT hc9))
  refine va_put hx hb hts (am_cls_in hc) ty0 hty0 hnm hown hU.1 hP hD h2 j hj2 hc k hkN (hts _ hw) (fun _ h9 => h9) (hfin _ hc).1 (hfin _ hc).2 hn hfit (by rw [am_fs_len, hlen]; exact hkN) hdg (fun H1 locs1 hP1 hD1 hS1 => kk H1 locs1 cells slots ls (am_H.put hU.2.1 hD hPX hT0 hTX hXX hLL h0 haL hj (fun b => am_rl_sI hT hc9 hk b) (fun _ => rfl) h2 hS1 hP1 hD1) hS1 h3 h4 h5)
theorem j_putR {X : am_Cx} {r : am_Rec} {G : am_Gx} {d : Nat} (hX : am_ok X r G d) {pc bc bs : Nat} {lv : List (Nat × Value)} {rest : List Value} {M : am_Hp} {idx ci k a : Nat} {x : Nat} {ty : FieldType} (hdg : decode r.2.1 pc = .ok (.putfield idx, 3)) (hF : am_F r.1.cls idx ci k) (hk : (am_kd ci)[k]? = some true) (hT : hp_T M a = ci + 1) (hc9 : ci < 19) (hx0 : x ≠ 0) (hfin : ∀ q, am_cl[ci]? = some q → (q.2.1 k).2.2.2 = false ∧ parseFieldDescriptor (q.2.1 k).2.2.1 = some ty) (hn : narrow ty (.ref x) = (.ref x)) (hfit : fits ty (.ref x) = true) (kk : am_J X (pc + 3) lv rest (hp_sR M (20 * ci + k) a x) bc bs) (hu : 20 * ci + k ≠ 141 := by decide) : am_J X pc lv (.ref x :: .ref a :: rest) M bc bs := by
  obtain ⟨p, e, R, s, m, args, below, meth, c, Qf, nL, G', mc, ms, d'⟩ := X
  obtain ⟨hx, hb, hml, hown, hts, hU, hlk, htb, hmc, hms, hfr, hlo, hst, hnL, rfl, rfl⟩ := hX
  intro H locs cells slots ls h1 h2 h3 h4 h5
  obtain ⟨C, T, N, hc, hkN, hw⟩ := hF
  obtain ⟨⟨ty0, hty0⟩, hnm, hlen⟩ := am_cls_ok hc
  obtain ⟨L, hP, hD, hPX, hT0, hTX, hXX, hLL, h0⟩ := h1
  have haL : a ∈ L := hT0 a (by omega) (by omega)
  obtain ⟨j, hj⟩ := va_pl_get (X := []) (f := am_rl (gx_cy G') M) haL
  have hj2 : (va_pl L (am_rl (gx_cy G') M))[j]? = some (a, .inr (ci, am_fs ci M a)) := hj.trans (congrArg (fun e => some (a, e)) (am_rl_obj hT hc9))
  refine va_put hx hb hts (am_cls_in hc) ty0 hty0 hnm hown hU.1 hP hD h2 j hj2 hc k hkN (hts _ hw) (fun _ h9 => h9) (hfin _ hc).1 (hfin _ hc).2 hn hfit (by rw [am_fs_len, hlen]; exact hkN) hdg (fun H1 locs1 hP1 hD1 hS1 => kk H1 locs1 cells slots ls (am_H.put hU.2.1 hD hPX hT0 hTX hXX hLL h0 haL hj (fun b => by rw [am_rl_sR hT hc9 hk b, am_rw_ne hu, am_rv_ne hx0]) (fun _ => rfl) h2 hS1 hP1 hD1) hS1 h3 h4 h5)
theorem j_putF {X : am_Cx} {r : am_Rec} {G : am_Gx} {d : Nat} (hX : am_ok X r G d) {pc bc bs : Nat} {lv : List (Nat × Value)} {rest : List Value} {M : am_Hp} {idx ci k a : Nat} {x : Nat} {ty : FieldType} (hdg : decode r.2.1 pc = .ok (.putfield idx, 3)) (hF : am_F r.1.cls idx ci k) (hk : (am_kd ci)[k]? = some true) (hT : hp_T M a = ci + 1) (hc9 : ci < 19) (hx0 : x ≠ 0) {Q : am_Q} (hM : am_me X r Q) (hin : r.1.name = "<init>") (hfin : ∀ q, am_cl[ci]? = some q → ((q.2.1 k).2.2.2 = true ∧ (q.2.1 k).1 = r.1.cls) ∧ parseFieldDescriptor (q.2.1 k).2.2.1 = some ty) (hn : narrow ty (.ref x) = (.ref x)) (hfit : fits ty (.ref x) = true) (kk : am_J X (pc + 3) lv rest (hp_sR M (20 * ci + k) a x) bc bs) (hu : 20 * ci + k ≠ 141 := by decide) : am_J X pc lv (.ref x :: .ref a :: rest) M bc bs := by
  obtain ⟨p, e, R, s, m, args, below, meth, c, Qf, nL, G', mc, ms, d'⟩ := X
  obtain ⟨hx, hb, hml, hown, hts, hU, hlk, htb, hmc, hms, hfr, hlo, hst, hnL, rfl, rfl⟩ := hX
  intro H locs cells slots ls h1 h2 h3 h4 h5
  obtain ⟨C, T, N, hc, hkN, hw⟩ := hF
  obtain ⟨⟨ty0, hty0⟩, hnm, hlen⟩ := am_cls_ok hc
  obtain ⟨L, hP, hD, hPX, hT0, hTX, hXX, hLL, h0⟩ := h1
  have haL : a ∈ L := hT0 a (by omega) (by omega)
  obtain ⟨j, hj⟩ := va_pl_get (X := []) (f := am_rl (gx_cy G') M) haL
  have hj2 : (va_pl L (am_rl (gx_cy G') M))[j]? = some (a, .inr (ci, am_fs ci M a)) := hj.trans (congrArg (fun e => some (a, e)) (am_rl_obj hT hc9))
  refine va_putF hx hb hts (am_cls_in hc) ty0 hty0 hnm hown hU.1 hP hD h2 j hj2 hc k hkN (hts _ hw) (fun _ h9 => h9) (hfin _ hc).1.1 (hM.2.2.trans hin) (hfin _ hc).1.2 (hfin _ hc).2 hn hfit (by rw [am_fs_len, hlen]; exact hkN) hdg (fun H1 locs1 hP1 hD1 hS1 => kk H1 locs1 cells slots ls (am_H.put hU.2.1 hD hPX hT0 hTX hXX hLL h0 haL hj (fun b => by rw [am_rl_sR hT hc9 hk b, am_rw_ne hu, am_rv_ne hx0]) (fun _ => rfl) h2 hS1 hP1 hD1) hS1 h3 h4 h5)
theorem am_ct_i {t : Nat} {M : am_Hp} {a : Nat} (h : t < 23 ∨ 40 < t) : am_ct t M a = .inl (hp_E M a) := by
  unfold am_ct
  rw [if_neg (by omega), if_neg (by omega), if_neg (by omega)]
theorem am_ct_q {t : Nat} {M : am_Hp} {a : Nat} (h1 : 25 ≤ t) (h2 : t ≤ 29) : am_ct t M a = .inr (.inr (.inr (.inr (fun k => am_o (hp_Q M a k))))) := by
  unfold am_ct
  rw [if_neg (by omega), if_neg (by omega), if_pos ⟨h1, h2⟩]
theorem am_sa {G : am_Gx} {M : am_Hp} {a t : Nat} (h : am_same G M) (hT : hp_T M a = t) (ht : 41 ≤ t) : hp_T (gx_M G) a = t ∧ hp_N (gx_M G) a = hp_N M a ∧ hp_E (gx_M G) a = hp_E M a := by
  obtain ⟨e1, e2⟩ := h a (by omega)
  rw [hT] at e1
  rw [am_rl_arr hT (by omega) (by omega), am_ct_i (by omega), am_rl_arr e1 (by omega) (by omega), am_ct_i (by omega)] at e2
  have e3 := Sum.inl.inj e2
  have e4 := (Prod.mk.inj (Prod.mk.inj e3).2)
  exact ⟨e1, e4.1.symm, (Sum.inl.inj e4.2).symm⟩
theorem j_iald {X : am_Cx} {r : am_Rec} {G : am_Gx} {d : Nat} (hX : am_ok X r G d) {pc bc bs : Nat} {lv : List (Nat × Value)} {rest : List Value} {M : am_Hp} {a : Nat} {i : Int32} (hdg : decode r.2.1 pc = .ok (.iaload, 1)) (hT : hp_T M a = 22) (hin : vp_in i (hp_N M a)) (kk : am_J X (pc + 1) lv (.int (hp_E M a i.toNatClampNeg) :: rest) M bc bs) : am_J X pc lv (.int i :: .ref a :: rest) M bc bs := by
  obtain ⟨p, e, R, s, m, args, below, meth, c, Qf, nL, G', mc, ms, d'⟩ := X
  obtain ⟨hx, hb, hml, hown, hts, hU, hlk, htb, hmc, hms, hfr, hlo, hst, hnL, rfl, rfl⟩ := hX
  intro H locs cells slots ls h1 h2 h3 h4 h5
  have hP := h1.one (a := a) (by omega)
  rw [am_rl_arr hT (by omega) (by omega), am_ct_i (by omega)] at hP
  exact va_iald hx hb hU.1 hP 0 2 rfl rfl hin hdg (kk H locs cells slots ls h1 h2 h3 h4 h5)
theorem j_ialdx {X : am_Cx} {r : am_Rec} {G : am_Gx} {d : Nat} (hX : am_ok X r G d) {pc bc bs : Nat} {lv : List (Nat × Value)} {rest : List Value} {M : am_Hp} {a : Nat} {i : Int32} (hdg : decode r.2.1 pc = .ok (.iaload, 1)) (hT : hp_T M a = 42) (hin : vp_in i (hp_N M a)) (kk : am_J X (pc + 1) lv (.int (hp_E M a i.toNatClampNeg) :: rest) M bc bs) : am_J X pc lv (.int i :: .ref a :: rest) M bc bs := by
  obtain ⟨p, e, R, s, m, args, below, meth, c, Qf, nL, G', mc, ms, d'⟩ := X
  obtain ⟨hx, hb, hml, hown, hts, hU, hlk, htb, hmc, hms, hfr, hlo, hst, hnL, rfl, rfl⟩ := hX
  intro H locs cells slots ls h1 h2 h3 h4 h5
  obtain ⟨e1, e2, e3⟩ := am_sa h1.choose_spec.2.2.1 hT (by omega)
  exact va_ti hx hb ((hU.2.2.2.2.2.2.2.2 a).2.1 e1) h2 (by rw [e2]; exact hin) (by rw [e3]) hdg (kk H locs cells slots ls h1 h2 h3 h4 h5)
theorem j_bald {X : am_Cx} {r : am_Rec} {G : am_Gx} {d : Nat} (hX : am_ok X r G d) {pc bc bs : Nat} {lv : List (Nat × Value)} {rest : List Value} {M : am_Hp} {a : Nat} {i : Int32} (hdg : decode r.2.1 pc = .ok (.baload, 1)) (hT : hp_T M a = 20) (hin : vp_in i (hp_N M a)) (kk : am_J X (pc + 1) lv (.int (hp_E M a i.toNatClampNeg) :: rest) M bc bs) : am_J X pc lv (.int i :: .ref a :: rest) M bc bs := by
  obtain ⟨p, e, R, s, m, args, below, meth, c, Qf, nL, G', mc, ms, d'⟩ := X
  obtain ⟨hx, hb, hml, hown, hts, hU, hlk, htb, hmc, hms, hfr, hlo, hst, hnL, rfl, rfl⟩ := hX
  intro H locs cells slots ls h1 h2 h3 h4 h5
  have hP := h1.one (a := a) (by omega)
  rw [am_rl_arr hT (by omega) (by omega), am_ct_i (by omega)] at hP
  exact va_bald hx hb hU.1 hP 0 0 rfl rfl hin hdg (kk H locs cells slots ls h1 h2 h3 h4 h5)
theorem j_baldx {X : am_Cx} {r : am_Rec} {G : am_Gx} {d : Nat} (hX : am_ok X r G d) {pc bc bs : Nat} {lv : List (Nat × Value)} {rest : List Value} {M : am_Hp} {a : Nat} {i : Int32} (hdg : decode r.2.1 pc = .ok (.baload, 1)) (hT : hp_T M a = 41) (hin : vp_in i (hp_N M a)) (kk : am_J X (pc + 1) lv (.int (hp_E M a i.toNatClampNeg) :: rest) M bc bs) : am_J X pc lv (.int i :: .ref a :: rest) M bc bs := by
  obtain ⟨p, e, R, s, m, args, below, meth, c, Qf, nL, G', mc, ms, d'⟩ := X
  obtain ⟨hx, hb, hml, hown, hts, hU, hlk, htb, hmc, hms, hfr, hlo, hst, hnL, rfl, rfl⟩ := hX
  intro H locs cells slots ls h1 h2 h3 h4 h5
  obtain ⟨e1, e2, e3⟩ := am_sa h1.choose_spec.2.2.1 hT (by omega)
  exact va_tb hx hb ((hU.2.2.2.2.2.2.2.2 a).1 e1) h2 (by rw [e2]; exact hin) (by rw [e3]) hdg (kk H locs cells slots ls h1 h2 h3 h4 h5)
theorem j_aald25 {X : am_Cx} {r : am_Rec} {G : am_Gx} {d : Nat} (hX : am_ok X r G d) {pc bc bs : Nat} {lv : List (Nat × Value)} {rest : List Value} {M : am_Hp} {a : Nat} {i : Int32} (hdg : decode r.2.1 pc = .ok (.aaload, 1)) (hT : hp_T M a = 25) (hin : vp_in i (hp_N M a)) (h0 : hp_Q M a i.toNatClampNeg ≠ 0) (kk : am_J X (pc + 1) lv (.ref (hp_Q M a i.toNatClampNeg) :: rest) M bc bs) : am_J X pc lv (.int i :: .ref a :: rest) M bc bs := by
  obtain ⟨p, e, R, s, m, args, below, meth, c, Qf, nL, G', mc, ms, d'⟩ := X
  obtain ⟨hx, hb, hml, hown, hts, hU, hlk, htb, hmc, hms, hfr, hlo, hst, hnL, rfl, rfl⟩ := hX
  intro H locs cells slots ls h1 h2 h3 h4 h5
  have hP := h1.one (a := a) (by omega)
  rw [am_rl_arr hT (by omega) (by omega), am_ct_q (by omega) (by omega)] at hP
  refine va_aldq hx hb hU.1 hP 0 5 rfl rfl hin hdg ?_
  rw [am_rf, am_rv_ne h0]
  exact kk H locs cells slots ls h1 h2 h3 h4 h5
theorem j_aald26 {X : am_Cx} {r : am_Rec} {G : am_Gx} {d : Nat} (hX : am_ok X r G d) {pc bc bs : Nat} {lv : List (Nat × Value)} {rest : List Value} {M : am_Hp} {a : Nat} {i : Int32} (hdg : decode r.2.1 pc = .ok (.aaload, 1)) (hT : hp_T M a = 26) (hin : vp_in i (hp_N M a)) (h0 : hp_Q M a i.toNatClampNeg ≠ 0) (kk : am_J X (pc + 1) lv (.ref (hp_Q M a i.toNatClampNeg) :: rest) M bc bs) : am_J X pc lv (.int i :: .ref a :: rest) M bc bs := by
  obtain ⟨p, e, R, s, m, args, below, meth, c, Qf, nL, G', mc, ms, d'⟩ := X
  obtain ⟨hx, hb, hml, hown, hts, hU, hlk, htb, hmc, hms, hfr, hlo, hst, hnL, rfl, rfl⟩ := hX
  intro H locs cells slots ls h1 h2 h3 h4 h5
  have hP := h1.one (a := a) (by omega)
  rw [am_rl_arr hT (by omega) (by omega), am_ct_q (by omega) (by omega)] at hP
  refine va_aldq hx hb hU.1 hP 0 6 rfl rfl hin hdg ?_
  rw [am_rf, am_rv_ne h0]
  exact kk H locs cells slots ls h1 h2 h3 h4 h5
theorem j_aald27 {X : am_Cx} {r : am_Rec} {G : am_Gx} {d : Nat} (hX : am_ok X r G d) {pc bc bs : Nat} {lv : List (Nat × Value)} {rest : List Value} {M : am_Hp} {a : Nat} {i : Int32} (hdg : decode r.2.1 pc = .ok (.aaload, 1)) (hT : hp_T M a = 27) (hin : vp_in i (hp_N M a)) (h0 : hp_Q M a i.toNatClampNeg ≠ 0) (kk : am_J X (pc + 1) lv (.ref (hp_Q M a i.toNatClampNeg) :: rest) M bc bs) : am_J X pc lv (.int i :: .ref a :: rest) M bc bs := by
  obtain ⟨p, e, R, s, m, args, below, meth, c, Qf, nL, G', mc, ms, d'⟩ := X
  obtain ⟨hx, hb, hml, hown, hts, hU, hlk, htb, hmc, hms, hfr, hlo, hst, hnL, rfl, rfl⟩ := hX
  intro H locs cells slots ls h1 h2 h3 h4 h5
  have hP := h1.one (a := a) (by omega)
  rw [am_rl_arr hT (by omega) (by omega), am_ct_q (by omega) (by omega)] at hP
  refine va_aldq hx hb hU.1 hP 0 7 rfl rfl hin hdg ?_
  rw [am_rf, am_rv_ne h0]
  exact kk H locs cells slots ls h1 h2 h3 h4 h5
theorem j_aald28 {X : am_Cx} {r : am_Rec} {G : am_Gx} {d : Nat} (hX : am_ok X r G d) {pc bc bs : Nat} {lv : List (Nat × Value)} {rest : List Value} {M : am_Hp} {a : Nat} {i : Int32} (hdg : decode r.2.1 pc = .ok (.aaload, 1)) (hT : hp_T M a = 28) (hin : vp_in i (hp_N M a)) (h0 : hp_Q M a i.toNatClampNeg ≠ 0) (kk : am_J X (pc + 1) lv (.ref (hp_Q M a i.toNatClampNeg) :: rest) M bc bs) : am_J X pc lv (.int i :: .ref a :: rest) M bc bs := by
  obtain ⟨p, e, R, s, m, args, below, meth, c, Qf, nL, G', mc, ms, d'⟩ := X
  obtain ⟨hx, hb, hml, hown, hts, hU, hlk, htb, hmc, hms, hfr, hlo, hst, hnL, rfl, rfl⟩ := hX
  intro H locs cells slots ls h1 h2 h3 h4 h5
  have hP := h1.one (a := a) (by omega)
  rw [am_rl_arr hT (by omega) (by omega), am_ct_q (by omega) (by omega)] at hP
  have hlt : i.toNatClampNeg < hp_N M a := Nat.not_le.mp fun q => hin (Or.inr q)
  refine W.aald (v := va_rf (am_o (hp_Q M a i.toNatClampNeg))) (ty := .array .int) hx hb (hP 0 _ rfl) ((hU.1.2 8 _ rfl).1 _ (fun j => va_rf (am_o (hp_Q M a j)))) rfl (fun q => by cases q) (by show ¬ (i < 0 ∨ (arrV _ _ _).slots.size ≤ _); rw [arrV_size]; exact hin) (by show (arrV _ _ _).slots[_]? = _; rw [arrV_read _ _ hlt]) rfl rfl hdg ?_
  rw [am_rf, am_rv_ne h0]
  exact kk H locs cells slots ls h1 h2 h3 h4 h5
theorem j_iast {X : am_Cx} {r : am_Rec} {G : am_Gx} {d : Nat} (hX : am_ok X r G d) {pc bc bs : Nat} {lv : List (Nat × Value)} {rest : List Value} {M : am_Hp} {a : Nat} {i : Int32} {x : Int32} (hdg : decode r.2.1 pc = .ok (.iastore, 1)) (hT : hp_T M a = 22) (hin : vp_in i (hp_N M a)) (kk : am_J X (pc + 1) lv rest (hp_sE M a i.toNatClampNeg x) bc bs) : am_J X pc lv (.int x :: .int i :: .ref a :: rest) M bc bs := by
  obtain ⟨p, e, R, s, m, args, below, meth, c, Qf, nL, G', mc, ms, d'⟩ := X
  obtain ⟨hx, hb, hml, hown, hts, hU, hlk, htb, hmc, hms, hfr, hlo, hst, hnL, rfl, rfl⟩ := hX
  intro H locs cells slots ls h1 h2 h3 h4 h5
  obtain ⟨L, hP, hD, hPX, hT0, hTX, hXX, hLL, h0⟩ := h1
  have haL : a ∈ L := hT0 a (by omega) (by omega)
  obtain ⟨j, hj⟩ := va_pl_get (X := []) (f := am_rl (gx_cy G') M) haL
  have hj2 := hj.trans (congrArg (fun e => some (a, e)) (am_rl_arr (cy := gx_cy G') hT (by omega) (by omega)))
  rw [am_ct_i (by omega)] at hj2
  exact va_iast hx hb hU.1 hP hD h2 j 2 hj2 rfl hin hdg (fun H1 locs1 hP1 hD1 hS1 => by exact kk H1 locs1 cells slots ls (am_H.put hU.2.1 hD hPX hT0 hTX hXX hLL h0 haL hj (am_rl_sE hT (by omega) (by omega)) (fun _ => rfl) h2 hS1 hP1 hD1) hS1 h3 h4 h5)
theorem j_bast {X : am_Cx} {r : am_Rec} {G : am_Gx} {d : Nat} (hX : am_ok X r G d) {pc bc bs : Nat} {lv : List (Nat × Value)} {rest : List Value} {M : am_Hp} {a : Nat} {i : Int32} {x : Int32} (hdg : decode r.2.1 pc = .ok (.bastore, 1)) (hT : hp_T M a = 20) (hin : vp_in i (hp_N M a)) (hn : vp_nar .byte x = x) (kk : am_J X (pc + 1) lv rest (hp_sE M a i.toNatClampNeg x) bc bs) : am_J X pc lv (.int x :: .int i :: .ref a :: rest) M bc bs := by
  obtain ⟨p, e, R, s, m, args, below, meth, c, Qf, nL, G', mc, ms, d'⟩ := X
  obtain ⟨hx, hb, hml, hown, hts, hU, hlk, htb, hmc, hms, hfr, hlo, hst, hnL, rfl, rfl⟩ := hX
  intro H locs cells slots ls h1 h2 h3 h4 h5
  obtain ⟨L, hP, hD, hPX, hT0, hTX, hXX, hLL, h0⟩ := h1
  have haL : a ∈ L := hT0 a (by omega) (by omega)
  obtain ⟨j, hj⟩ := va_pl_get (X := []) (f := am_rl (gx_cy G') M) haL
  have hj2 := hj.trans (congrArg (fun e => some (a, e)) (am_rl_arr (cy := gx_cy G') hT (by omega) (by omega)))
  rw [am_ct_i (by omega)] at hj2
  exact va_bast hx hb hU.1 hP hD h2 j 0 hj2 rfl hin hdg (fun H1 locs1 hP1 hD1 hS1 => by rw [hn] at hP1 hD1; exact kk H1 locs1 cells slots ls (am_H.put hU.2.1 hD hPX hT0 hTX hXX hLL h0 haL hj (am_rl_sE hT (by omega) (by omega)) (fun _ => rfl) h2 hS1 hP1 hD1) hS1 h3 h4 h5)
theorem j_aast25 {X : am_Cx} {r : am_Rec} {G : am_Gx} {d : Nat} (hX : am_ok X r G d) {pc bc bs : Nat} {lv : List (Nat × Value)} {rest : List Value} {M : am_Hp} {a v : Nat} {i : Int32} (hdg : decode r.2.1 pc = .ok (.aastore, 1)) (hT : hp_T M a = 25) (hv : hp_T M v = 0 + 1) (hv0 : v ≠ 0) (hin : vp_in i (hp_N M a)) (kk : am_J X (pc + 1) lv rest (hp_sQ M a i.toNatClampNeg v) bc bs) : am_J X pc lv (.ref v :: .int i :: .ref a :: rest) M bc bs := by
  obtain ⟨p, e, R, s, m, args, below, meth, c, Qf, nL, G', mc, ms, d'⟩ := X
  obtain ⟨hx, hb, hml, hown, hts, hU, hlk, htb, hmc, hms, hfr, hlo, hst, hnL, rfl, rfl⟩ := hX
  intro H locs cells slots ls h1 h2 h3 h4 h5
  obtain ⟨L, hP, hD, hPX, hT0, hTX, hXX, hLL, h0⟩ := h1
  have haL : a ∈ L := hT0 a (by omega) (by omega)
  obtain ⟨j, hj⟩ := va_pl_get (X := []) (f := am_rl (gx_cy G') M) haL
  have hj2 := hj.trans (congrArg (fun e => some (a, e)) (am_rl_arr (cy := gx_cy G') hT (by omega) (by omega)))
  rw [am_ct_q (by omega) (by omega)] at hj2
  obtain ⟨jv, hjv⟩ := va_pl_get (X := []) (f := am_rl (gx_cy G') M) (hT0 v (by omega) (by omega))
  have hjv2 := hjv.trans (congrArg (fun e => some (v, e)) (am_rl_obj (cy := gx_cy G') hv (by omega)))
  exact va_astq hx hb hU.1 hP hD h2 j 5 jv 0 hj2 rfl hjv2 rfl hin hdg (fun H1 locs1 hP1 hD1 hS1 => kk H1 locs1 cells slots ls (am_H.put hU.2.1 hD hPX hT0 hTX hXX hLL h0 haL hj (am_rl_sQ hT (by omega) (by omega) hv0) (fun _ => rfl) h2 hS1 hP1 hD1) hS1 h3 h4 h5)
theorem j_aast26 {X : am_Cx} {r : am_Rec} {G : am_Gx} {d : Nat} (hX : am_ok X r G d) {pc bc bs : Nat} {lv : List (Nat × Value)} {rest : List Value} {M : am_Hp} {a v : Nat} {i : Int32} (hdg : decode r.2.1 pc = .ok (.aastore, 1)) (hT : hp_T M a = 26) (hv : hp_T M v = 1 + 1) (hv0 : v ≠ 0) (hin : vp_in i (hp_N M a)) (kk : am_J X (pc + 1) lv rest (hp_sQ M a i.toNatClampNeg v) bc bs) : am_J X pc lv (.ref v :: .int i :: .ref a :: rest) M bc bs := by
  obtain ⟨p, e, R, s, m, args, below, meth, c, Qf, nL, G', mc, ms, d'⟩ := X
  obtain ⟨hx, hb, hml, hown, hts, hU, hlk, htb, hmc, hms, hfr, hlo, hst, hnL, rfl, rfl⟩ := hX
  intro H locs cells slots ls h1 h2 h3 h4 h5
  obtain ⟨L, hP, hD, hPX, hT0, hTX, hXX, hLL, h0⟩ := h1
  have haL : a ∈ L := hT0 a (by omega) (by omega)
  obtain ⟨j, hj⟩ := va_pl_get (X := []) (f := am_rl (gx_cy G') M) haL
  have hj2 := hj.trans (congrArg (fun e => some (a, e)) (am_rl_arr (cy := gx_cy G') hT (by omega) (by omega)))
  rw [am_ct_q (by omega) (by omega)] at hj2
  obtain ⟨jv, hjv⟩ := va_pl_get (X := []) (f := am_rl (gx_cy G') M) (hT0 v (by omega) (by omega))
  have hjv2 := hjv.trans (congrArg (fun e => some (v, e)) (am_rl_obj (cy := gx_cy G') hv (by omega)))
  exact va_astq hx hb hU.1 hP hD h2 j 6 jv 1 hj2 rfl hjv2 rfl hin hdg (fun H1 locs1 hP1 hD1 hS1 => kk H1 locs1 cells slots ls (am_H.put hU.2.1 hD hPX hT0 hTX hXX hLL h0 haL hj (am_rl_sQ hT (by omega) (by omega) hv0) (fun _ => rfl) h2 hS1 hP1 hD1) hS1 h3 h4 h5)
theorem j_aast27 {X : am_Cx} {r : am_Rec} {G : am_Gx} {d : Nat} (hX : am_ok X r G d) {pc bc bs : Nat} {lv : List (Nat × Value)} {rest : List Value} {M : am_Hp} {a v : Nat} {i : Int32} (hdg : decode r.2.1 pc = .ok (.aastore, 1)) (hT : hp_T M a = 27) (hv : hp_T M v = 3 + 1) (hv0 : v ≠ 0) (hin : vp_in i (hp_N M a)) (kk : am_J X (pc + 1) lv rest (hp_sQ M a i.toNatClampNeg v) bc bs) : am_J X pc lv (.ref v :: .int i :: .ref a :: rest) M bc bs := by
  obtain ⟨p, e, R, s, m, args, below, meth, c, Qf, nL, G', mc, ms, d'⟩ := X
  obtain ⟨hx, hb, hml, hown, hts, hU, hlk, htb, hmc, hms, hfr, hlo, hst, hnL, rfl, rfl⟩ := hX
  intro H locs cells slots ls h1 h2 h3 h4 h5
  obtain ⟨L, hP, hD, hPX, hT0, hTX, hXX, hLL, h0⟩ := h1
  have haL : a ∈ L := hT0 a (by omega) (by omega)
  obtain ⟨j, hj⟩ := va_pl_get (X := []) (f := am_rl (gx_cy G') M) haL
  have hj2 := hj.trans (congrArg (fun e => some (a, e)) (am_rl_arr (cy := gx_cy G') hT (by omega) (by omega)))
  rw [am_ct_q (by omega) (by omega)] at hj2
  obtain ⟨jv, hjv⟩ := va_pl_get (X := []) (f := am_rl (gx_cy G') M) (hT0 v (by omega) (by omega))
  have hjv2 := hjv.trans (congrArg (fun e => some (v, e)) (am_rl_obj (cy := gx_cy G') hv (by omega)))
  exact va_astq hx hb hU.1 hP hD h2 j 7 jv 3 hj2 rfl hjv2 rfl hin hdg (fun H1 locs1 hP1 hD1 hS1 => kk H1 locs1 cells slots ls (am_H.put hU.2.1 hD hPX hT0 hTX hXX hLL h0 haL hj (am_rl_sQ hT (by omega) (by omega) hv0) (fun _ => rfl) h2 hS1 hP1 hD1) hS1 h3 h4 h5)
theorem j_alen20 {X : am_Cx} {r : am_Rec} {G : am_Gx} {d : Nat} (hX : am_ok X r G d) {pc bc bs : Nat} {lv : List (Nat × Value)} {rest : List Value} {M : am_Hp} {a : Nat} (hdg : decode r.2.1 pc = .ok (.arraylength, 1)) (hT : hp_T M a = 20) (kk : am_J X (pc + 1) lv (.int (Int32.ofNat (hp_N M a)) :: rest) M bc bs) : am_J X pc lv (.ref a :: rest) M bc bs := by
  obtain ⟨p, e, R, s, m, args, below, meth, c, Qf, nL, G', mc, ms, d'⟩ := X
  obtain ⟨hx, hb, hml, hown, hts, hU, hlk, htb, hmc, hms, hfr, hlo, hst, hnL, rfl, rfl⟩ := hX
  intro H locs cells slots ls h1 h2 h3 h4 h5
  have hP := h1.one (a := a) (by omega)
  rw [am_rl_arr hT (by omega) (by omega)] at hP
  exact va_alen hx hb hU.1 hP 0 0 rfl rfl rfl hdg (kk H locs cells slots ls h1 h2 h3 h4 h5)
theorem j_alen22 {X : am_Cx} {r : am_Rec} {G : am_Gx} {d : Nat} (hX : am_ok X r G d) {pc bc bs : Nat} {lv : List (Nat × Value)} {rest : List Value} {M : am_Hp} {a : Nat} (hdg : decode r.2.1 pc = .ok (.arraylength, 1)) (hT : hp_T M a = 22) (kk : am_J X (pc + 1) lv (.int (Int32.ofNat (hp_N M a)) :: rest) M bc bs) : am_J X pc lv (.ref a :: rest) M bc bs := by
  obtain ⟨p, e, R, s, m, args, below, meth, c, Qf, nL, G', mc, ms, d'⟩ := X
  obtain ⟨hx, hb, hml, hown, hts, hU, hlk, htb, hmc, hms, hfr, hlo, hst, hnL, rfl, rfl⟩ := hX
  intro H locs cells slots ls h1 h2 h3 h4 h5
  have hP := h1.one (a := a) (by omega)
  rw [am_rl_arr hT (by omega) (by omega)] at hP
  exact va_alen hx hb hU.1 hP 0 2 rfl rfl rfl hdg (kk H locs cells slots ls h1 h2 h3 h4 h5)
theorem j_alen42 {X : am_Cx} {r : am_Rec} {G : am_Gx} {d : Nat} (hX : am_ok X r G d) {pc bc bs : Nat} {lv : List (Nat × Value)} {rest : List Value} {M : am_Hp} {a : Nat} (hdg : decode r.2.1 pc = .ok (.arraylength, 1)) (hT : hp_T M a = 42) (kk : am_J X (pc + 1) lv (.int (Int32.ofNat (hp_N M a)) :: rest) M bc bs) : am_J X pc lv (.ref a :: rest) M bc bs := by
  obtain ⟨p, e, R, s, m, args, below, meth, c, Qf, nL, G', mc, ms, d'⟩ := X
  obtain ⟨hx, hb, hml, hown, hts, hU, hlk, htb, hmc, hms, hfr, hlo, hst, hnL, rfl, rfl⟩ := hX
  intro H locs cells slots ls h1 h2 h3 h4 h5
  obtain ⟨e1, e2, e3⟩ := am_sa h1.choose_spec.2.2.1 hT (by omega)
  exact va_tlen hx hb ((hU.2.2.2.2.2.2.2.2 a).2.1 e1) h2 (by rw [e2]) hdg (kk H locs cells slots ls h1 h2 h3 h4 h5)
theorem j_alen41 {X : am_Cx} {r : am_Rec} {G : am_Gx} {d : Nat} (hX : am_ok X r G d) {pc bc bs : Nat} {lv : List (Nat × Value)} {rest : List Value} {M : am_Hp} {a : Nat} (hdg : decode r.2.1 pc = .ok (.arraylength, 1)) (hT : hp_T M a = 41) (kk : am_J X (pc + 1) lv (.int (Int32.ofNat (hp_N M a)) :: rest) M bc bs) : am_J X pc lv (.ref a :: rest) M bc bs := by
  obtain ⟨p, e, R, s, m, args, below, meth, c, Qf, nL, G', mc, ms, d'⟩ := X
  obtain ⟨hx, hb, hml, hown, hts, hU, hlk, htb, hmc, hms, hfr, hlo, hst, hnL, rfl, rfl⟩ := hX
  intro H locs cells slots ls h1 h2 h3 h4 h5
  obtain ⟨e1, e2, e3⟩ := am_sa h1.choose_spec.2.2.1 hT (by omega)
  exact va_tlen hx hb ((hU.2.2.2.2.2.2.2.2 a).1 e1) h2 (by rw [e2]) hdg (kk H locs cells slots ls h1 h2 h3 h4 h5)
theorem j_iret {X : am_Cx} {r : am_Rec} {G : am_Gx} {d : Nat} (hX : am_ok X r G d) {pc bc bs : Nat} {lv : List (Nat × Value)} {M : am_Hp} {Q : am_Q} (hM : am_me X r Q) {x : Int32} (hdg : decode r.2.1 pc = .ok (.ireturn, 1)) (hr : r.2.2.2.1 = some .int) (hq : Q (.inl (some (.int x))) M) : am_J X pc lv [.int x] M bc bs := by
  obtain ⟨p, e, R, s, m, args, below, meth, c, Qf, nL, G', mc, ms, d'⟩ := X
  obtain ⟨hx, hb, hml, hown, hts, hU, hlk, htb, hmc, hms, hfr, hlo, hst, hnL, rfl, rfl⟩ := hX
  intro H locs cells slots ls h1 h2 h3 h4 h5
  obtain ⟨rfl, hr1, -⟩ := hM
  refine W.widen (k := mc) (n := ms) (by omega) (by omega) ?_
  exact vx_ret (W.iret hx hb (hr1.trans hr) (fun t ht hW => ⟨_, M, rfl, hq, by rw [ht]; exact h1, h2.F ht⟩) h2.2.2 hdg hlk)
theorem j_lret {X : am_Cx} {r : am_Rec} {G : am_Gx} {d : Nat} (hX : am_ok X r G d) {pc bc bs : Nat} {lv : List (Nat × Value)} {M : am_Hp} {Q : am_Q} (hM : am_me X r Q) {x : Int64} (hdg : decode r.2.1 pc = .ok (.lreturn, 1)) (hr : r.2.2.2.1 = some .long) (hq : Q (.inl (some (.long x))) M) : am_J X pc lv [.long x] M bc bs := by
  obtain ⟨p, e, R, s, m, args, below, meth, c, Qf, nL, G', mc, ms, d'⟩ := X
  obtain ⟨hx, hb, hml, hown, hts, hU, hlk, htb, hmc, hms, hfr, hlo, hst, hnL, rfl, rfl⟩ := hX
  intro H locs cells slots ls h1 h2 h3 h4 h5
  obtain ⟨rfl, hr1, -⟩ := hM
  refine W.widen (k := mc) (n := ms) (by omega) (by omega) ?_
  exact vx_ret (W.lret hx hb (hr1.trans hr) (fun t ht hW => ⟨_, M, rfl, hq, by rw [ht]; exact h1, h2.F ht⟩) h2.2.2 hdg hlk)
theorem j_fret {X : am_Cx} {r : am_Rec} {G : am_Gx} {d : Nat} (hX : am_ok X r G d) {pc bc bs : Nat} {lv : List (Nat × Value)} {M : am_Hp} {Q : am_Q} (hM : am_me X r Q) {x : UInt32} (hdg : decode r.2.1 pc = .ok (.freturn, 1)) (hr : r.2.2.2.1 = some .float) (hq : Q (.inl (some (.float x))) M) : am_J X pc lv [.float x] M bc bs := by
  obtain ⟨p, e, R, s, m, args, below, meth, c, Qf, nL, G', mc, ms, d'⟩ := X
  obtain ⟨hx, hb, hml, hown, hts, hU, hlk, htb, hmc, hms, hfr, hlo, hst, hnL, rfl, rfl⟩ := hX
  intro H locs cells slots ls h1 h2 h3 h4 h5
  obtain ⟨rfl, hr1, -⟩ := hM
  refine W.widen (k := mc) (n := ms) (by omega) (by omega) ?_
  exact vx_ret (W.fret hx hb (hr1.trans hr) (fun t ht hW => ⟨_, M, rfl, hq, by rw [ht]; exact h1, h2.F ht⟩) h2.2.2 hdg hlk)
theorem j_dret {X : am_Cx} {r : am_Rec} {G : am_Gx} {d : Nat} (hX : am_ok X r G d) {pc bc bs : Nat} {lv : List (Nat × Value)} {M : am_Hp} {Q : am_Q} (hM : am_me X r Q) {x : UInt64} (hdg : decode r.2.1 pc = .ok (.dreturn, 1)) (hr : r.2.2.2.1 = some .double) (hq : Q (.inl (some (.double x))) M) : am_J X pc lv [.double x] M bc bs := by
  obtain ⟨p, e, R, s, m, args, below, meth, c, Qf, nL, G', mc, ms, d'⟩ := X
  obtain ⟨hx, hb, hml, hown, hts, hU, hlk, htb, hmc, hms, hfr, hlo, hst, hnL, rfl, rfl⟩ := hX
  intro H locs cells slots ls h1 h2 h3 h4 h5
  obtain ⟨rfl, hr1, -⟩ := hM
  refine W.widen (k := mc) (n := ms) (by omega) (by omega) ?_
  exact vx_ret (W.dret hx hb (hr1.trans hr) (fun t ht hW => ⟨_, M, rfl, hq, by rw [ht]; exact h1, h2.F ht⟩) h2.2.2 hdg hlk)
theorem j_zret {X : am_Cx} {r : am_Rec} {G : am_Gx} {d : Nat} (hX : am_ok X r G d) {pc bc bs : Nat} {lv : List (Nat × Value)} {M : am_Hp} {Q : am_Q} (hM : am_me X r Q) {x : Int32} {ty : FieldType} (hdg : decode r.2.1 pc = .ok (.ireturn, 1)) (hr : r.2.2.2.1 = some ty) (hn : narrow ty (.int x) = .int x) (hq : Q (.inl (some (.int x))) M) : am_J X pc lv [.int x] M bc bs := by
  obtain ⟨p, e, R, s, m, args, below, meth, c, Qf, nL, G', mc, ms, d'⟩ := X
  obtain ⟨hx, hb, hml, hown, hts, hU, hlk, htb, hmc, hms, hfr, hlo, hst, hnL, rfl, rfl⟩ := hX
  intro H locs cells slots ls h1 h2 h3 h4 h5
  obtain ⟨rfl, hr1, -⟩ := hM
  refine W.widen (k := mc) (n := ms) (by omega) (by omega) ?_
  exact vx_ret (W.zret hx hb (hr1.trans hr) hn (fun t ht hW => ⟨_, M, rfl, hq, by rw [ht]; exact h1, h2.F ht⟩) h2.2.2 hdg hlk)
theorem j_vret {X : am_Cx} {r : am_Rec} {G : am_Gx} {d : Nat} (hX : am_ok X r G d) {pc bc bs : Nat} {lv : List (Nat × Value)} {M : am_Hp} {Q : am_Q} (hM : am_me X r Q) (hdg : decode r.2.1 pc = .ok (.return_, 1)) (hr : r.2.2.2.1 = none) (hq : Q (.inl none) M) : am_J X pc lv [] M bc bs := by
  obtain ⟨p, e, R, s, m, args, below, meth, c, Qf, nL, G', mc, ms, d'⟩ := X
  obtain ⟨hx, hb, hml, hown, hts, hU, hlk, htb, hmc, hms, hfr, hlo, hst, hnL, rfl, rfl⟩ := hX
  intro H locs cells slots ls h1 h2 h3 h4 h5
  obtain ⟨rfl, hr1, -⟩ := hM
  refine W.widen (k := mc) (n := ms) (by omega) (by omega) ?_
  exact vx_ret (W.vret hx hb (hr1.trans hr) (fun t ht hW => ⟨_, M, rfl, hq, by rw [ht]; exact h1, h2.F ht⟩) h2.2.2 hdg hlk)
theorem j_aret {X : am_Cx} {r : am_Rec} {G : am_Gx} {d : Nat} (hX : am_ok X r G d) {pc bc bs : Nat} {lv : List (Nat × Value)} {M : am_Hp} {Q : am_Q} (hM : am_me X r Q) {a : Nat} {rt : FieldType} (hdg : decode r.2.1 pc = .ok (.areturn, 1)) (hr : r.2.2.2.1 = some rt) (hrt : (∃ n, rt = .object n) ∨ ∃ t, rt = .array t) (hq : Q (.inl (some (.ref a))) M) : am_J X pc lv [.ref a] M bc bs := by
  obtain ⟨p, e, R, s, m, args, below, meth, c, Qf, nL, G', mc, ms, d'⟩ := X
  obtain ⟨hx, hb, hml, hown, hts, hU, hlk, htb, hmc, hms, hfr, hlo, hst, hnL, rfl, rfl⟩ := hX
  intro H locs cells slots ls h1 h2 h3 h4 h5
  obtain ⟨rfl, hr1, -⟩ := hM
  refine W.widen (k := mc) (n := ms) (by omega) (by omega) ?_
  exact vx_ret (W.aret hx hb (hr1.trans hr) hrt (Or.inr ⟨a, rfl⟩) (fun t ht hW => ⟨_, M, rfl, hq, by rw [ht]; exact h1, h2.F ht⟩) h2.2.2 hdg hlk)
