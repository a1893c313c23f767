/-! .. a group by its cells: ow; what a call leaves of it: gt; the law's act (by gen/mk8r.py) -/
theorem cS_tt {T : Nat} {M : am_Hp} {a h E n c : Nat} {L : Nat → Nat → Nat} {g sn : md_R} {hist : Nat → md_R} {sc st b1 m1 ks rs so b2 m2 : Nat} {tx ou : List Nat} {e1 e2 : Int32} (hg : gL T M a h E n c L g sn hist) (hx : xL M a sc st b1 m1 ks rs so b2 m2 tx ou e1 e2) {x : Nat} (h1 : cS a h E L sc st ks rs so x) : hp_T M x ≠ 0 ∧ hp_T M x ≠ 20 ∧ hp_T M x ≠ 23 ∧ hp_T M x ≠ 24 ∧ hp_T M x < 40 := by
  obtain ⟨ta, th, tE⟩ := gL_T hg
  obtain ⟨-, hS, hT1, hT2, -⟩ := hx
  rcases h1 with z | z | z | ⟨i, j, hi, hj, z⟩ | z | z | z | ⟨j, hj, z⟩ | z
  · rw [z, ta]; decide
  · rw [z, th]; decide
  · rw [z, tE]; decide
  · have := bL_tt (gL_bL hg hi) hj
    rw [z]
    omega
  · rw [z, hS.1]; decide
  · rw [z, hT1.1.1]; decide
  · rw [z, hS.2.2.2.2.2.2.2.1]; decide
  · by_cases j0 : j = 0
    · subst j0
      rw [z, Nat.add_zero, hS.2.2.2.2.2.2.2.2.2.1]; decide
    · have := (hS.2.2.2.2.2.2.2.2.2.2.2 (j - 1) (by omega)).2.1
      rw [show rs + 1 + (j - 1) = rs + j by omega] at this
      rw [z, this]; decide
  · rw [z, hT2.1.1]; decide
theorem g_save2 {G : am_Gx} {d T a h E n c : Nat} {M : am_Hp} {L : Nat → Nat → Nat} {g sn : md_R} {hist : Nat → md_R} (hj : gJ a h E L) (hg : gL T M a h E n c L g sn hist) : am_CT G (d + 3) rX6_save [.ref a] M 0 0 (fun o M' => o = .inl (some (.int (g 1))) ∧ hp_I M' 126 a = i3 1 ∧ gL T M' a h E n c L g g hist ∧ zG 126 a h L M M') := by
  have hg0 := hg
  obtain ⟨ta, ⟨ra, -, rs, rh⟩, ⟨hR, hw⟩, ht, ⟨s1, s2⟩, hy, -⟩ := hg
  have b0 := hR.1.1.1
  have y0 := hR.1.2.2.2.1 0 (by omega)
  have z0 := s1.2.2.2.1 0 (by omega)
  have zb := s1.1.1
  have i31 := hR.2.2.1.1
  have j1 := hj.1
  have j2 := hj.2.1
  refine am_intro mkX6_save rfl (Nat.le_of_ble_eq_true rfl) rfl (fun X hX hM => ?_)
  refine vX6_save_0 hX hM ?_
  simp only [forall_eq]
  rw [ra, rs]
  refine ⟨ta, z0, y0, zb, ct_w (k_copy s1 s2 (fun i j hi hj' => j1 8 10 (by omega) (by omega) (by omega) i j hi hj') hR hw) (fun M6 r6 f6 => ?_)⟩
  have e1 : hp_R M6 = hp_R M := f6.1.2.2.1
  have e2 : hp_T M6 = hp_T M := f6.1.1
  have A6 : ∀ x, (∀ j, j < 22 → x ≠ L 10 j) → x ≠ a → ag M (hp_sI M6 126 a 1) x := fun x x1 x2 => ag.tr (f6.2 x x1) (ag_sI x2)
  have hs : sk M (hp_sI M6 126 a 1) := f6.1.trans sk_sI
  have o8 : ∀ i j, i < 10 → j < 22 → ag M (hp_sI M6 126 a 1) (L i j) := fun i j hi hj' => A6 _ (fun k hk => j1 i 10 (by omega) (by omega) (by omega) j k hj' hk) (j2 i j (by omega) hj').1
  have i3' : hp_I (hp_sI M6 126 a 1) 3 (L 8 0) = g 1 := by rw [(o8 8 0 (by omega) (by omega)).1, i31]
  refine ⟨by rw [e2]; exact ta, .inr rfl, ?_⟩
  rw [show hp_R (hp_sI M6 126 a 1) = hp_R M from hs.2.2.1, show hp_T (hp_sI M6 126 a 1) = hp_T M from hs.1, ra]
  have a10 : ∀ i, i < 22 → ag M6 (hp_sI M6 126 a 1) (L 10 i) := fun i hi => ag_sI (j2 10 i (by omega) hi).1
  refine ⟨y0, b0, by rw [i3'], hp_I_sI _ _ _ _, ?_, hs, fun x x1 x2 x3 => A6 x (fun j hj' => x3 10 j (by omega) hj') x1, fun w hw' => ?_⟩
  · exact gL_side hg0 hs (A6 h (fun j hj' z => (j2 10 j (by omega) hj').2.1 z.symm) hj.2.2.1.symm) (A6 E (fun j hj' z => (j2 10 j (by omega) hj').2.2 z.symm) hj.2.2.2.1.symm) (fun i j hi hj' => o8 i j (by omega) hj') (bL_ag hs (fun i hi => o8 9 i (by omega) hi) ht) (bL_ag (sk_sI) a10 ⟨r6.1, r6.2.1⟩) (.inr ⟨hp_I_sI _ _ _ _, bR_ag sk_sI a10 (md_wf_ok hw) r6, hw⟩)
  · rw [hp_I_sIu _ _ _ _ hw', (f6.2 a (fun j hj' z => (j2 10 j (by omega) hj').1 z.symm)).1]
/-- the row, the count of states that can be taken back, these -/
abbrev ps : Type := md_R × Nat × (Nat → md_R)
/-- a group at a, its cells S -/
def ow (T : Nat) (M : am_Hp) (a : Nat) (S : Nat → Prop) (P : ps) (f : Int32) (sn : md_R) (tx : List Nat) (e1 e2 : Int32) : Prop := ∃ (h E : Nat) (L : Nat → Nat → Nat) (sc st b1 m1 ks rs so b2 m2 n : Nat) (ou : List Nat), cJ a h E L sc st ks rs so ∧ gL T M a h E n P.2.1 L P.1 sn P.2.2 ∧ xL M a sc st b1 m1 ks rs so b2 m2 tx ou e1 e2 ∧ hp_I M 126 a = f ∧ ∀ x, S x ↔ (cS a h E L sc st ks rs so x ∨ x = b1 ∨ x = b2)
theorem ow_T {T U : Nat} {M : am_Hp} {a : Nat} {S : Nat → Prop} {P : ps} {f : Int32} {sn : md_R} {tx : List Nat} {e1 e2 : Int32} (hT : T ≤ U) (hO : ow T M a S P f sn tx e1 e2) : ow U M a S P f sn tx e1 e2 := by
  obtain ⟨h, E, L, sc, st, b1, m1, ks, rs, so, b2, m2, n, ou, hJ, hg, hx, hf, hs⟩ := hO
  refine ⟨h, E, L, sc, st, b1, m1, ks, rs, so, b2, m2, n, ou, hJ, ?_, hx, hf, hs⟩
  obtain ⟨ta, rr, ⟨hR, hw⟩, ht, hs10, hy, hsn⟩ := hg
  refine ⟨ta, rr, ⟨hR, md_wf_mono hT hw⟩, ht, hs10, ?_, ?_⟩
  · obtain ⟨q1, q2, q3, q4, q5, q6⟩ := hy
    exact ⟨q1, q2, q3, q4, q5, fun j hj => ⟨(q6 j hj).1, md_wf_mono hT (q6 j hj).2⟩⟩
  · rcases hsn with z | ⟨z1, z2, z3⟩
    · exact .inl z
    · exact .inr ⟨z1, z2, md_wf_mono hT z3⟩
theorem ow_tt {T : Nat} {M : am_Hp} {a : Nat} {S : Nat → Prop} {P : ps} {f : Int32} {sn : md_R} {tx : List Nat} {e1 e2 : Int32} (hO : ow T M a S P f sn tx e1 e2) {x : Nat} (hx' : S x) : hp_T M x ≠ 0 ∧ hp_T M x < 40 := by
  obtain ⟨h, E, L, sc, st, b1, m1, ks, rs, so, b2, m2, n, ou, hJ, hg, hx, hf, hs⟩ := hO
  rcases (hs x).mp hx' with z | z | z
  · have := cS_tt hg hx z
    exact ⟨this.1, this.2.2.2.2⟩
  · rw [z, hx.2.2.1.1.2.2.2.1]
    exact ⟨by decide, by decide⟩
  · rw [z, hx.2.2.2.1.1.2.2.2.1]
    exact ⟨by decide, by decide⟩
theorem ow_ta {T : Nat} {M : am_Hp} {a : Nat} {S : Nat → Prop} {P : ps} {f : Int32} {sn : md_R} {tx : List Nat} {e1 e2 : Int32} (hO : ow T M a S P f sn tx e1 e2) : hp_T M a = 7 ∧ S a := by
  obtain ⟨h, E, L, sc, st, b1, m1, ks, rs, so, b2, m2, n, ou, hJ, hg, hx, hf, hs⟩ := hO
  exact ⟨hg.1, (hs a).mpr (.inl (.inl rfl))⟩
theorem ow_sm {T : Nat} {M M' : am_Hp} {a : Nat} {S : Nat → Prop} {P : ps} {f : Int32} {sn : md_R} {tx : List Nat} {e1 e2 : Int32} (hS : ∀ x, S x → sm M M' x) (hO : ow T M a S P f sn tx e1 e2) : ow T M' a S P f sn tx e1 e2 := by
  obtain ⟨h, E, L, sc, st, b1, m1, ks, rs, so, b2, m2, n, ou, hJ, hg, hx, hf, hs⟩ := hO
  have S1 : ∀ x, cS a h E L sc st ks rs so x → sm M M' x := fun x hx => hS x ((hs x).mpr (.inl hx))
  have Sa := S1 a (.inl rfl)
  obtain ⟨⟨x1, x2, x3, x4⟩, hS', hT1, hT2, hbb⟩ := hx
  exact ⟨h, E, L, sc, st, b1, m1, ks, rs, so, b2, m2, n, ou, hJ, gL_sm Sa (S1 h (.inr (.inl rfl))) (S1 E (.inr (.inr (.inl rfl)))) (fun i j hi hj => S1 _ (.inr (.inr (.inr (.inl ⟨i, j, hi, hj, rfl⟩))))) hg, ⟨⟨(Sa.2.2.2.1 _).trans x1, (Sa.2.2.2.1 _).trans x2, (Sa.2.2.1 _).trans x3, (Sa.2.2.1 _).trans x4⟩, scR_sm (S1 sc (by unfold cS; simp)) (S1 ks (by unfold cS; simp)) (S1 rs (.inr (.inr (.inr (.inr (.inr (.inr (.inr (.inl ⟨0, by omega, rfl⟩))))))))) (fun j hj => S1 _ (.inr (.inr (.inr (.inr (.inr (.inr (.inr (.inl ⟨1 + j, by omega, by rw [Nat.add_assoc]⟩))))))))) hS', sT_sm (S1 st (by unfold cS; simp)) (hS b1 ((hs b1).mpr (.inr (.inl rfl)))) hT1, sT_sm (S1 so (by unfold cS; simp)) (hS b2 ((hs b2).mpr (.inr (.inr rfl)))) hT2, hbb⟩, (Sa.2.2.1 _).trans hf, hs⟩
theorem ow_fr {T : Nat} {M M' : am_Hp} {a : Nat} {S R : Nat → Prop} {P : ps} {f : Int32} {sn : md_R} {tx : List Nat} {e1 e2 : Int32} (hf : fr R M M') (hR : ∀ x, S x → ¬ R x) (hO : ow T M a S P f sn tx e1 e2) : ow T M' a S P f sn tx e1 e2 := ow_sm (fun x hx => hf x (ow_tt hO hx).1 (hR x hx)) hO
theorem ow_gN {T : Nat} {M : am_Hp} {a : Nat} {S : Nat → Prop} {P : ps} {f : Int32} {sn : md_R} {tx : List Nat} {e1 e2 : Int32} (hO : ow T M a S P f sn tx e1 e2) : ∃ B, gN M a B P.1 ∧ md_wf T P.1 := by
  obtain ⟨h, E, L, sc, st, b1, m1, ks, rs, so, b2, m2, n, ou, hJ, hg, hx, hf, hs⟩ := hO
  obtain ⟨ta, rr, ⟨hR, hw⟩, -⟩ := hg
  exact ⟨L 8, ⟨ta, rr.1, hR⟩, hw⟩
/-- what a call of the group leaves -/
def gt (T : Nat) (M M' : am_Hp) (a : Nat) (S : Nat → Prop) (P : ps) (f : Int32) (sn : md_R) (tx : List Nat) (e1 e2 : Int32) : Prop := ∃ S', ow T M' a S' P f sn tx e1 e2 ∧ fr S M M' ∧ ∀ x, S' x → S x ∨ hp_T M x = 0
theorem gt_rf {T : Nat} {M : am_Hp} {a : Nat} {S : Nat → Prop} {P : ps} {f : Int32} {sn : md_R} {tx : List Nat} {e1 e2 : Int32} (hO : ow T M a S P f sn tx e1 e2) : gt T M M a S P f sn tx e1 e2 := ⟨S, hO, fr.rf S M, fun x hx => .inl hx⟩
theorem gt_T {T U : Nat} {M M' : am_Hp} {a : Nat} {S : Nat → Prop} {P : ps} {f : Int32} {sn : md_R} {tx : List Nat} {e1 e2 : Int32} (hT : T ≤ U) (h : gt T M M' a S P f sn tx e1 e2) : gt U M M' a S P f sn tx e1 e2 := by
  obtain ⟨S', h1, h2, h3⟩ := h
  exact ⟨S', ow_T hT h1, h2, h3⟩
theorem gt_tr {T : Nat} {M M1 M2 : am_Hp} {a : Nat} {S S1 : Nat → Prop} {P : ps} {f : Int32} {sn : md_R} {tx : List Nat} {e1 e2 : Int32} (hf : fr S M M1) (hS : ∀ x, S1 x → S x ∨ hp_T M x = 0) (h : gt T M1 M2 a S1 P f sn tx e1 e2) : gt T M M2 a S P f sn tx e1 e2 := by
  obtain ⟨S', h1, h2, h3⟩ := h
  refine ⟨S', h1, hf.tr h2 (fun x x1 x2 z => ?_), fun x hx => ?_⟩
  · rcases hS x z with y | y
    · exact x2 y
    · exact x1 y
  · rcases h3 x hx with y | y
    · exact hS x y
    · by_cases z : hp_T M x = 0
      · exact .inr z
      · by_cases w : S x
        · exact .inl w
        · exact absurd y (by rw [(hf x z w).1]; exact z)
theorem gt_zF {T U : Nat} {M M' : am_Hp} {a h E n n' c : Nat} {L : Nat → Nat → Nat} {g sn sn' : md_R} {hist : Nat → md_R} {P' : ps} {sc st b1 m1 ks rs so b2 m2 : Nat} {tx ou : List Nat} {e1 e2 f : Int32} {S : Nat → Prop} (hJ : cJ a h E L sc st ks rs so) (hg : gL T M a h E n c L g sn hist) (hx : xL M a sc st b1 m1 ks rs so b2 m2 tx ou e1 e2) (hf : hp_I M 126 a = f) (hs : ∀ x, S x ↔ (cS a h E L sc st ks rs so x ∨ x = b1 ∨ x = b2)) (hg' : gL U M' a h E n' P'.2.1 L P'.1 sn' P'.2.2) (z : zF h L M M') : gt U M M' a S P' f sn' tx e1 e2 := by
  have za := z.2 a hJ.1.2.2.1 (fun i j hi hj y => (hJ.1.2.1 i j hi hj).1 y.symm)
  refine ⟨S, ⟨h, E, L, sc, st, b1, m1, ks, rs, so, b2, m2, n', ou, hJ, hg', xL_sk hJ hg hx z.1 (fun x x1 x2 x3 => z.2 x x2 x3) ?_ ?_, ?_, hs⟩, fun x x1 x2 => sm_sk z.1 (z.2 x (fun y => x2 ((hs x).mpr (.inl (.inr (.inl y))))) (fun i j hi hj y => x2 ((hs x).mpr (.inl (.inr (.inr (.inr (.inl ⟨i, j, hi, hj, y⟩)))))))), fun x hx => .inl hx⟩
  · rw [za.1]; exact hx.1.2.2.1
  · rw [za.1]; exact hx.1.2.2.2
  · rw [za.1]; exact hf
/-- after a change: the state, if it is not refused -/
def aC (n : Nat) (g' : md_R) (P : ps) : ps := if n = 0 then (g', if P.2.1 = 8 then 8 else P.2.1 + 1, yP P.2.1 P.1 P.2.2) else P
/-- the law's number for it -/
def aV (n : Nat) (v : Int32) : Int32 := if n = 0 then v else if n = 3 then -2 else if n = 4 then -3 else -4
theorem gq {T U : Nat} {M M' : am_Hp} {a h E n c : Nat} {L : Nat → Nat → Nat} {g g' sn : md_R} {hist : Nat → md_R} {sc st b1 m1 ks rs so b2 m2 k : Nat} {v : Int32} {tx ou : List Nat} {e1 e2 f : Int32} {S : Nat → Prop} {o : Option Value ⊕ String} (hJ : cJ a h E L sc st ks rs so) (hg : gL T M a h E n c L g sn hist) (hx : xL M a sc st b1 m1 ks rs so b2 m2 tx ou e1 e2) (hf : hp_I M 126 a = f) (hs : ∀ x, S x ↔ (cS a h E L sc st ks rs so x ∨ x = b1 ∨ x = b2)) (hTU : T ≤ U) (h : qg k v U M a h E c L g g' sn hist o M') : (k = 0 ∧ o = .inl (some (.int v)) ∨ k ≠ 0 ∧ o = .inr (xn k)) ∧ gt U M M' a S (aC k g' (g, c, hist)) f sn tx e1 e2 := by
  unfold qg at h
  by_cases k0 : k = 0
  · rw [if_pos k0] at h
    obtain ⟨h1, ⟨n1, h2⟩, h3⟩ := h
    refine ⟨.inl ⟨k0, h1⟩, ?_⟩
    unfold aC
    rw [if_pos k0]
    exact gt_zF hJ hg hx hf hs h2 h3
  · rw [if_neg k0] at h
    obtain ⟨h1, rfl⟩ := h
    refine ⟨.inr ⟨k0, h1⟩, ?_⟩
    unfold aC
    rw [if_neg k0]
    exact gt_T hTU (gt_rf ⟨h, E, L, sc, st, b1, m1, ks, rs, so, b2, m2, n, ou, hJ, hg, hx, hf, hs⟩)
/-! the seven changes in one -/
def aN (g : md_R) (k x y z : Int32) : Nat := if k = 0 then rf_add g x y z else if k = 1 then rf_rem g x else if k = 2 then rf_hold g x y else if k = 3 then rf_stop g x else if k = 4 then rf_start g x else if k = 5 then rf_limit g x y else rf_pass x
def aW (g : md_R) (k x y : Int32) : Int32 := if k = 0 then i3 (md_n g) else if k = 1 then g (27 + x.toNatClampNeg) else if k = 2 then g (18 + x.toNatClampNeg) else if k = 3 then md_ca g x.toNatClampNeg else if k = 4 then i3 3 - va_up g (21 + x.toNatClampNeg) 0 21 - va_up g (21 + x.toNatClampNeg) 0 22 - va_up g (21 + x.toNatClampNeg) 0 23 else if k = 5 then g (15 + x.toNatClampNeg) else md_it g x.toNatClampNeg 3 - g 3
def aG (g : md_R) (k x y z : Int32) : md_R := if k = 0 then md_ad g x y z else if k = 1 then md_dr g x.toNatClampNeg else if k = 2 then va_up g (18 + x.toNatClampNeg) y else if k = 3 then md_so g x.toNatClampNeg else if k = 4 then va_up g (21 + x.toNatClampNeg) 0 else if k = 5 then va_up g (15 + x.toNatClampNeg) y else md_it g x.toNatClampNeg
/-- the state after act -/
def aS (P : ps) (k x y z : Int32) : ps := aC (aN P.1 k x y z) (aG P.1 k x y z) P
theorem act_m {T U : Nat} {M M' : am_Hp} {a h E n c : Nat} {L : Nat → Nat → Nat} {g g' sn : md_R} {hist : Nat → md_R} {sc st b1 m1 ks rs so b2 m2 k : Nat} {v : Int32} {tx ou : List Nat} {e1 e2 f : Int32} {S : Nat → Prop} {o : Option Value ⊕ String} {Q : am_Q} (hJ : cJ a h E L sc st ks rs so) (hg : gL T M a h E n c L g sn hist) (hx : xL M a sc st b1 m1 ks rs so b2 m2 tx ou e1 e2) (hf : hp_I M 126 a = f) (hs : ∀ x, S x ↔ (cS a h E L sc st ks rs so x ∨ x = b1 ∨ x = b2)) (hTU : T ≤ U) (hk : k ≤ 4) (hQ : gt U M M' a S (aC k g' (g, c, hist)) f sn tx e1 e2 → Q (.inl (some (.int (aV k v)))) M') (h : qg k v U M a h E c L g g' sn hist o M') : (∃ v2 : Int32, o = .inl (some (.int v2)) ∧ Q (.inl (some (.int v2))) M') ∨ ((o = .inr "java/lang/IllegalArgumentException" ∧ ∀ _ : Nat, Q (.inl (some (.int (-4 : Int32)))) M')) ∨ ((o = .inr "java/lang/IllegalStateException" ∧ ∀ _ : Nat, Q (.inl (some (.int (-2 : Int32)))) M')) ∨ ((o = .inr "java/lang/IndexOutOfBoundsException" ∧ ∀ _ : Nat, Q (.inl (some (.int (-4 : Int32)))) M')) ∨ ((o = .inr "java/lang/UnsupportedOperationException" ∧ ∀ _ : Nat, Q (.inl (some (.int (-3 : Int32)))) M')) := by
  obtain ⟨h1, h2⟩ := gq hJ hg hx hf hs hTU h
  have q := hQ h2
  rcases h1 with ⟨k0, h1⟩ | ⟨k0, h1⟩
  · refine .inl ⟨v, h1, ?_⟩
    rw [k0] at q
    exact q
  · rcases (by omega : k = 1 ∨ k = 2 ∨ k = 3 ∨ k = 4) with rfl | rfl | rfl | rfl
    · exact .inr (.inr (.inr (.inl ⟨h1, fun _ => q⟩)))
    · exact .inr (.inl ⟨h1, fun _ => q⟩)
    · exact .inr (.inr (.inl ⟨h1, fun _ => q⟩))
    · exact .inr (.inr (.inr (.inr ⟨h1, fun _ => q⟩)))
set_option maxHeartbeats 4000000 in
theorem w_act {G : am_Gx} {d T a : Nat} {M : am_Hp} {S : Nat → Prop} {P : ps} {f : Int32} {sn : md_R} {tx : List Nat} {e1 e2 : Int32} {k x y z : Int32} (hO : ow T M a S P f sn tx e1 e2) (hT : T < 80000000) : am_CT G (d + 8) rL_act [.ref a, .int k, .int x, .int y, .int z] M 1 6 (fun o M' => o = .inl (some (.int (aV (aN P.1 k x y z) (aW P.1 k x y)))) ∧ gt (T + 1830) M M' a S (aS P k x y z) f sn tx e1 e2) := by
  obtain ⟨h, E, L, sc, st, b1, m1, ks, rs, so, b2, m2, n, ou, hJ, hg, hx, hf, hs⟩ := hO
  obtain ⟨g, c, hist⟩ := P
  have n1 : ∀ k' : Int32, k'.toInt < 0 ∨ 5 < k'.toInt → ¬ k' = 0 ∧ ¬ k' = 1 ∧ ¬ k' = 2 ∧ ¬ k' = 3 ∧ ¬ k' = 4 ∧ ¬ k' = 5 := fun k' hk => by
    refine ⟨?_, ?_, ?_, ?_, ?_, ?_⟩ <;> (rintro rfl; revert hk; decide)
  refine am_introH mkL_act (by decide) (Nat.le_of_ble_eq_true rfl) rfl (fun X hX hM => ?_)
  refine vL_act_0 hX hM ⟨fun e => ?_, fun e => ?_, fun e => ?_, fun e => ?_, fun e => ?_, fun e => ?_, fun e => ?_⟩
  · obtain ⟨n0, n1', n2, n3, n4, n5⟩ := n1 k e
    exact ⟨hg.1, Nat.le_refl _, Nat.le_refl _, am_CT.mono (fun o M' h => act_m (Q := fun o1 M1 => o1 = .inl (some (.int (aV (aN g k x y z) (aW g k x y)))) ∧ gt (T + 1830) M M1 a S (aS (g, c, hist) k x y z) f sn tx e1 e2) hJ hg hx hf hs (by omega) rf_pass_le (fun q => by
      have e1 : aN g k x y z = rf_pass x := by unfold aN; simp only [n0, n1', n2, n3, n4, n5, if_false]
      have e2 : aW g k x y = md_it g x.toNatClampNeg 3 - g 3 := by unfold aW; simp only [n0, n1', n2, n3, n4, n5, if_false]
      have e3 : aG g k x y z = md_it g x.toNatClampNeg := by unfold aG; simp only [n0, n1', n2, n3, n4, n5, if_false]
      dsimp only
      unfold aS
      dsimp only
      rw [e1, e2, e3]
      exact ⟨rfl, q⟩) h) (g_advance (d := d) hJ.1 hg (by omega))⟩
  · subst e
    exact ⟨hg.1, Nat.le_refl _, Nat.le_refl _, am_CT.mono (fun o M' h => act_m (Q := fun o1 M1 => o1 = .inl (some (.int (aV (aN g (0 : Int32) x y z) (aW g (0 : Int32) x y)))) ∧ gt (T + 1830) M M1 a S (aS (g, c, hist) (0 : Int32) x y z) f sn tx e1 e2) hJ hg hx hf hs (by omega) rf_add_le (fun q => ⟨rfl, q⟩) h) (g_addPassenger (d := d) hJ.1 hg (by omega))⟩
  · subst e
    exact ⟨hg.1, Nat.le_refl _, Nat.le_refl _, am_CT.mono (fun o M' h => act_m (Q := fun o1 M1 => o1 = .inl (some (.int (aV (aN g (1 : Int32) x y z) (aW g (1 : Int32) x y)))) ∧ gt (T + 1830) M M1 a S (aS (g, c, hist) (1 : Int32) x y z) f sn tx e1 e2) hJ hg hx hf hs (by omega) rf_rem_le (fun q => ⟨rfl, q⟩) h) (g_removePassenger (d := d) hJ.1 hg (by omega))⟩
  · subst e
    exact ⟨hg.1, Nat.le_refl _, Nat.le_refl _, am_CT.mono (fun o M' h => act_m (Q := fun o1 M1 => o1 = .inl (some (.int (aV (aN g (2 : Int32) x y z) (aW g (2 : Int32) x y)))) ∧ gt (T + 1830) M M1 a S (aS (g, c, hist) (2 : Int32) x y z) f sn tx e1 e2) hJ hg hx hf hs (by omega) rf_hold_le (fun q => ⟨rfl, q⟩) h) (g_holdDoors (d := d) hJ.1 hg (by omega))⟩
  · subst e
    exact ⟨hg.1, Nat.le_refl _, Nat.le_refl _, am_CT.mono (fun o M' h => act_m (Q := fun o1 M1 => o1 = .inl (some (.int (aV (aN g (3 : Int32) x y z) (aW g (3 : Int32) x y)))) ∧ gt (T + 1830) M M1 a S (aS (g, c, hist) (3 : Int32) x y z) f sn tx e1 e2) hJ hg hx hf hs (by omega) rf_stop_le (fun q => ⟨rfl, q⟩) h) (g_stopCar (d := d) hJ.1 hg (by omega))⟩
  · subst e
    exact ⟨hg.1, Nat.le_refl _, Nat.le_refl _, am_CT.mono (fun o M' h => act_m (Q := fun o1 M1 => o1 = .inl (some (.int (aV (aN g (4 : Int32) x y z) (aW g (4 : Int32) x y)))) ∧ gt (T + 1830) M M1 a S (aS (g, c, hist) (4 : Int32) x y z) f sn tx e1 e2) hJ hg hx hf hs (by omega) rf_start_le (fun q => ⟨rfl, q⟩) h) (g_startCar (d := d) hJ.1 hg (by omega))⟩
  · subst e
    exact ⟨hg.1, Nat.le_refl _, Nat.le_refl _, am_CT.mono (fun o M' h => act_m (Q := fun o1 M1 => o1 = .inl (some (.int (aV (aN g (5 : Int32) x y z) (aW g (5 : Int32) x y)))) ∧ gt (T + 1830) M M1 a S (aS (g, c, hist) (5 : Int32) x y z) f sn tx e1 e2) hJ hg hx hf hs (by omega) rf_limit_le (fun q => ⟨rfl, q⟩) h) (g_setCapacity (d := d) hJ.1 hg (by omega))⟩
