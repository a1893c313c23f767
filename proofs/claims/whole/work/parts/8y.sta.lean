/-! .. the law's beginning (made by gen/mk/mk8y.py) -/
theorem gL_f0 {T : Nat} {M : am_Hp} {a h E n c : Nat} {L : Nat → Nat → Nat} {g : md_R} {hist : Nat → md_R} (hg : gL T M a h E n c L g (fun _ => -1) hist) : hp_I M 126 a = 0 := by
  rcases hg.2.2.2.2.2.2 with z | ⟨-, -, hw⟩
  · exact z
  · exact absurd (md_wf_ok hw).1 (by unfold md_n; decide)
/-- what stands is as it was: the class's side -/
theorem cls_fr {T : Nat} {M M' : am_Hp} {a h E c : Nat} {L : Nat → Nat → Nat} {g sn : md_R} {hist : Nat → md_R} {sc st ks rs so : Nat} {tx ou : List Nat} {e1 e2 f : Int32} {p q : Nat} (hf : fr (fun _ => False) M M') (hc : cls T M a h E L sc st ks rs so p q g c hist f sn tx ou e1 e2) : cls T M' a h E L sc st ks rs so p q g c hist f sn tx ou e1 e2 := by
  obtain ⟨n, b1, m1, b2, m2, hg, hx, hff, hpq⟩ := hc
  have S : ∀ x, cS a h E L sc st ks rs so x → sm M M' x := fun x hx' => hf x (cS_tt hg hx hx').1 (fun z => z)
  have B : ∀ x, hp_T M x = 20 → sm M M' x := fun x ht => hf x (by omega) (fun z => z)
  have Sa := S a (.inl rfl)
  obtain ⟨⟨x1, x2, x3, x4⟩, hS, hT1, hT2, hbb⟩ := hx
  exact ⟨n, b1, m1, b2, m2, gL_sm Sa (S h (.inr (.inl rfl))) (S E (.inr (.inr (.inl rfl)))) (fun i j hi hj => S _ (.inr (.inr (.inr (.inl ⟨i, j, hi, hj, rfl⟩))))) hg, ⟨⟨(Sa.2.2.2.1 _).trans x1, (Sa.2.2.2.1 _).trans x2, (Sa.2.2.1 _).trans x3, (Sa.2.2.1 _).trans x4⟩, scR_sm (S sc (by unfold cS; simp)) (S ks (by unfold cS; simp)) (S rs (.inr (.inr (.inr (.inr (.inr (.inr (.inr (.inl ⟨0, by omega, rfl⟩))))))))) (fun j hj => S _ (.inr (.inr (.inr (.inr (.inr (.inr (.inr (.inl ⟨1 + j, by omega, by rw [Nat.add_assoc]⟩))))))))) hS, sT_sm (S st (by unfold cS; simp)) (B b1 hT1.1.2.2.2.1) hT1, sT_sm (S so (by unfold cS; simp)) (B b2 hT2.1.2.2.2.1) hT2, hbb⟩, (Sa.2.2.1 _).trans hff, hpq⟩
theorem fr_new {M M' : am_Hp} {q : Nat} (hq : hp_T M q = 0) (h : ∀ x, x ≠ q → sm M M' x) : fr (fun _ => False) M M' := fun x x1 _ => h x (fun z => x1 (by rw [z]; exact hq))
theorem fr_none {M M1 M2 : am_Hp} {q : Nat} (hq : hp_T M q = 0) (h : fr (fun _ => False) M M1) (k : fr (fun x => x = q) M1 M2) : fr (fun _ => False) M M2 := h.tr k (fun x x1 _ z => x1 (by rw [z]; exact hq))
theorem fr.nn {M M1 M2 : am_Hp} (h : fr (fun _ => False) M M1) (k : fr (fun _ => False) M1 M2) : fr (fun _ => False) M M2 := h.tr k (fun _ _ z => z)
theorem L_start {X : am_Cx} {G : am_Gx} {d : Nat} {sb N0 p q : Nat} {bc bs : Nat} {M : am_Hp} (hX : am_ok X rL_law G (d + 13)) (hM : ∀ {pc : Nat} {lv : List (Nat × Value)} {M : am_Hp} {bc bs : Nat}, decode rL_law.2.1 pc = .ok (.ireturn, 1) → am_J X pc lv [.int (1 : Int32)] M bc bs) (hz : cz G) (hp : sioo G) (hs : stK G M) (hD : dgt G M p q) (tsb : hp_T M sb = 42) (nsb : hp_N M sb = N0) (hN0 : N0 ≤ 2048) (hbc : 10600 ≤ bc) (hbs : 1040000 ≤ bs) : am_J X 0 [(0, .ref sb)] [] M bc bs := by
  have c1 : ((1 : Int32)).toNatClampNeg = 1 := by decide
  refine vL_law_0 hX hM (fun x0 x1 x2 x3 x4 x5 M bc bs => am_J X 28 [(0, .ref x0), (1, .ref x1), (2, .ref x2), (3, .ref x3), (4, .ref x4), (5, .int x5)] [] M bc bs) (fun _ _ _ _ _ _ _ _ _ h => h) ⟨by omega, by omega, fun p1 f1 z1 M7 e7 => ⟨by omega, by omega, am_CT.mono ?_ (i_X6 (d := d + 8) (a := p1) hz (by rw [e7]; exact (o_at M p1 7).1))⟩⟩
  rintro o9 M9 ⟨e9, h, E, L, sc, st, b1, ks, rs, so, b2, cj, hcL, hfr, fb1, fb2, F79⟩
  refine ⟨e9, by omega, by omega, fun p13 f13 z13 M19 e19 => ⟨by omega, by omega, am_CT.mono ?_ (i_X7 (d := d + 11) (a := p13) (by rw [e19]; exact (o_at M9 p13 8).1) z13 (fun u => by rw [e19]; exact (o_at M9 p13 8).2.1 u))⟩⟩
  rintro o21 M21 ⟨e21, A, eA, fA, hmS, F1921⟩
  refine ⟨e21, by decide, by decide, by omega, by rw [c1]; omega, fun p29 f29 z29 M32 e32 => ⟨by decide, by decide, by omega, by rw [c1]; omega, fun p38 f38 z38 M41 e41 => ?_⟩⟩
  rw [c1] at e32 e41
  have F0 : fr (fun _ => False) M M9 := fr_none f1 (fr_new f1 (fun x hx => by rw [e7]; exact sm_o hx)) F79
  have F1 : fr (fun _ => False) M9 M21 := fr_none f13 (fr_new f13 (fun x hx => by rw [e19]; exact sm_o hx)) F1921
  have F2 : fr (fun _ => False) M21 M32 := fr_new f29 (fun x hx => by rw [e32]; exact sm_a hx)
  have F3 : fr (fun _ => False) M32 M41 := fr_new f38 (fun x hx => by rw [e41]; exact sm_a hx)
  have F : fr (fun _ => False) M M41 := ((F0.nn F1).nn F2).nn F3
  have S : ∀ x, hp_T M x ≠ 0 → sm M M41 x := fun x hx => F x hx (fun z => z)
  have f1b : ∀ x, hp_T M x ≠ 0 → hp_T M7 x ≠ 0 := fun x hx => by
    rw [e7, (sm_o (fun z => hx (by rw [z]; exact f1)) : sm M (hp_o M p1 7) x).1]
    exact hx
  have tp : hp_T M p ≠ 0 := by rw [hD.2.2.1]; decide
  have tq : hp_T M q ≠ 0 := by rw [hD.2.2.2.1]; decide
  have hpq : p ≠ b1 ∧ q ≠ b1 ∧ p ≠ b2 ∧ q ≠ b2 := ⟨fun z => f1b p tp (by rw [z]; exact fb1), fun z => f1b q tq (by rw [z]; exact fb1), fun z => f1b p tp (by rw [z]; exact fb2), fun z => f1b q tq (by rw [z]; exact fb2)⟩
  have c9 : cls 0 M9 p1 h E L sc st ks rs so p q md_g0 0 (fun _ => md_g0) 0 md_g0 [] [] (-1) (-1) := by
    obtain ⟨g0, x0⟩ := hcL md_g0 (fun _ => md_g0)
    exact ⟨0, b1, 16, b2, 16, g0, x0, gL_f0 (hcL (fun _ => -1) (fun _ => md_g0)).1, hpq⟩
  have cl := cls_fr ((F1.nn F2).nn F3) c9
  have mm : mS M41 A md_g0 0 (fun _ => md_g0) 0 md_g0 [] [] (-1) (-1) := by
    refine mS_sm (fun i hi => (F2.nn F3) (A i) ?_ (fun z => z)) (hmS _ _)
    have := mL_tt (hmS (fun _ => md_g0) md_g0).1 hi
    omega
  have t32 : hp_T M32 p29 = 23 ∧ hp_N M32 p29 = 1 := by rw [e32]; exact ⟨by simp [hp_a, hp_T, va_up], by simp [hp_a, hp_N, va_up]⟩
  have s29 : sm M32 M41 p29 := F3 p29 (by rw [t32.1]; decide) (fun z => z)
  have t41 : hp_T M41 p38 = 24 ∧ hp_N M41 p38 = 1 := by rw [e41]; exact ⟨by simp [hp_a, hp_T, va_up], by simp [hp_a, hp_N, va_up]⟩
  have ssb := S sb (by rw [tsb]; decide)
  have hst : stt G M41 p1 h E L sc st ks rs so A sb N0 p29 p38 p q := by
    refine ⟨cj, fun x hx i hi z => ?_, stK_ty hs (fun x hx => S x (by omega)), dgt_sm (S p tp) (S q tq) hD, ssb.1.trans tsb, ssb.2.1.trans nsb, s29.1.trans t32.1, s29.2.1.trans t32.2, t41.1, t41.2⟩
    obtain ⟨n', b1', m1', b2', m2', g9, x9, -⟩ := c9
    have t9 := (cS_tt g9 x9 hx).1
    by_cases i0 : i = 0
    · rw [z, i0, eA] at t9
      exact t9 f13
    · have t19 : hp_T M19 x = hp_T M9 x := by
        rw [e19]
        exact (sm_o (fun y => t9 (by rw [y]; exact f13)) : sm M9 (hp_o M9 p13 8) x).1
      rw [← t19, z] at t9
      exact t9 (fA i (by omega) hi)
  have hJ : JJ G p1 h E L sc st ks rs so A sb N0 p29 p38 p q 0 1 M41 := ⟨md_g0, 0, fun _ => md_g0, 0, md_g0, [], [], -1, -1, hst, cl, mm, nu_g0, fun z => absurd z (by decide), fun j hj => absurd hj (Nat.not_lt_zero _)⟩
  have R := L_loop hX hM hz hp hN0 512 0 0 1 (bc - 1 - 264 - 1 - 8 - 1 - 1) (bs - 9 - 1969 - 17 - 2052 - 1 - 1) M41 (by omega) (by omega) (.inl rfl) (by omega) (by omega) (by omega) (by omega) hJ
  rw [eA] at R
  rw [c1]
  exact R
