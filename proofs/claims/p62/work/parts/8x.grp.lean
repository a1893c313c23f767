/-! .. two groups side by side; the law's calls on one (by gen/mk8x.py) -/
/-- what is only read stays -/
def RO (M0 M : am_Hp) : Prop := ∀ x, 40 ≤ hp_T M0 x → sm M0 M x
theorem RO.rf (M : am_Hp) : RO M M := fun _ _ => ⟨rfl, rfl, fun _ => rfl, fun _ => rfl, rfl, rfl, rfl, rfl⟩
theorem RO.fr {M0 M M' : am_Hp} (h : RO M0 M) (f : fr (fun _ => False) M M') : RO M0 M' := fun x hx => (h x hx).tr (f x (by rw [(h x hx).1]; omega) (fun z => z))
theorem RO.gt {T U : Nat} {M0 M M' : am_Hp} {a : Nat} {S : Nat → Prop} {P P' : ps} {f f' : Int32} {sn sn' : md_R} {tx tx' : List Nat} {e1 e2 e1' e2' : Int32} (h : RO M0 M) (hO : ow T M a S P f sn tx e1 e2) (g : gt U M M' a S P' f' sn' tx' e1' e2') : RO M0 M' := fun x hx => (h x hx).tr (gt_ro hO g (by rw [(h x hx).1]; exact hx))
def J1 (M0 M : am_Hp) (T x : Nat) (P : ps) (f : Int32) (s : md_R) (u1 u2 : Int32) : Prop := (∃ S, ow T M x S P f s [] u1 u2) ∧ RO M0 M
def J2 (M0 M : am_Hp) (T x : Nat) (P : ps) (f : Int32) (s : md_R) (u1 u2 : Int32) (U y : Nat) (R : ps) (g : Int32) (r : md_R) (v1 v2 : Int32) : Prop := ∃ S1 S2, ow T M x S1 P f s [] u1 u2 ∧ ow U M y S2 R g r [] v1 v2 ∧ (∀ q, S1 q → S2 q → False) ∧ RO M0 M
theorem J1_g {M0 M : am_Hp} {T x : Nat} {P : ps} {f : Int32} {s : md_R} {u1 u2 : Int32} (h : J1 M0 M T x P f s u1 u2) : ∃ S, ow T M x S P f s [] u1 u2 ∧ ∀ {V : Nat} {M' : am_Hp} {P' : ps} {f' : Int32} {s' : md_R} {w1 w2 : Int32}, gt V M M' x S P' f' s' [] w1 w2 → J1 M0 M' V x P' f' s' w1 w2 := by
  obtain ⟨⟨S, h1⟩, hr⟩ := h
  refine ⟨S, h1, fun g => ?_⟩
  have hro := hr.gt h1 g
  obtain ⟨S', o1, -, -⟩ := g
  exact ⟨⟨S', o1⟩, hro⟩
theorem J2_g1 {M0 M : am_Hp} {T x : Nat} {P : ps} {f : Int32} {s : md_R} {u1 u2 : Int32} {U y : Nat} {R : ps} {g : Int32} {r : md_R} {v1 v2 : Int32} (h : J2 M0 M T x P f s u1 u2 U y R g r v1 v2) : ∃ S, ow T M x S P f s [] u1 u2 ∧ ∀ {V : Nat} {M' : am_Hp} {P' : ps} {f' : Int32} {s' : md_R} {w1 w2 : Int32}, gt V M M' x S P' f' s' [] w1 w2 → J2 M0 M' V x P' f' s' w1 w2 U y R g r v1 v2 := by
  obtain ⟨S1, S2, h1, h2, hd, hr⟩ := h
  refine ⟨S1, h1, fun g => ?_⟩
  have hro := hr.gt h1 g
  obtain ⟨S', o1, F, hS⟩ := g
  exact ⟨S', S2, o1, ow_fr F (fun q q2 q1 => hd q q1 q2) h2, fun q q1 q2 => by
    rcases hS q q1 with y | y
    · exact hd q y q2
    · exact (ow_tt h2 q2).1 y, hro⟩
theorem J2_g2 {M0 M : am_Hp} {T x : Nat} {P : ps} {f : Int32} {s : md_R} {u1 u2 : Int32} {U y : Nat} {R : ps} {g : Int32} {r : md_R} {v1 v2 : Int32} (h : J2 M0 M T x P f s u1 u2 U y R g r v1 v2) : ∃ S, ow U M y S R g r [] v1 v2 ∧ ∀ {V : Nat} {M' : am_Hp} {P' : ps} {f' : Int32} {s' : md_R} {w1 w2 : Int32}, gt V M M' y S P' f' s' [] w1 w2 → J2 M0 M' T x P f s u1 u2 V y P' f' s' w1 w2 := by
  obtain ⟨S1, S2, h1, h2, hd, hr⟩ := h
  refine ⟨S2, h2, fun g => ?_⟩
  have hro := hr.gt h2 g
  obtain ⟨S', o1, F, hS⟩ := g
  exact ⟨S1, S', ow_fr F (fun q q1 q2 => hd q q1 q2) h1, o1, fun q q1 q2 => by
    rcases hS q q2 with y | y
    · exact hd q q1 y
    · exact (ow_tt h1 q1).1 y, hro⟩
theorem J1_fr {M0 M M' : am_Hp} {T x : Nat} {P : ps} {f : Int32} {s : md_R} {u1 u2 : Int32} (F : fr (fun _ => False) M M') (h : J1 M0 M T x P f s u1 u2) : J1 M0 M' T x P f s u1 u2 := by
  obtain ⟨⟨S, h1⟩, hr⟩ := h
  exact ⟨⟨S, ow_fr F (fun _ _ z => z) h1⟩, hr.fr F⟩
theorem J2_fr {M0 M M' : am_Hp} {T x : Nat} {P : ps} {f : Int32} {s : md_R} {u1 u2 : Int32} {U y : Nat} {R : ps} {g : Int32} {r : md_R} {v1 v2 : Int32} (F : fr (fun _ => False) M M') (h : J2 M0 M T x P f s u1 u2 U y R g r v1 v2) : J2 M0 M' T x P f s u1 u2 U y R g r v1 v2 := by
  obtain ⟨S1, S2, h1, h2, hd, hr⟩ := h
  exact ⟨S1, S2, ow_fr F (fun _ _ z => z) h1, ow_fr F (fun _ _ z => z) h2, hd, hr.fr F⟩
theorem J2_1 {M0 M : am_Hp} {T x : Nat} {P : ps} {f : Int32} {s : md_R} {u1 u2 : Int32} {U y : Nat} {R : ps} {g : Int32} {r : md_R} {v1 v2 : Int32} (h : J2 M0 M T x P f s u1 u2 U y R g r v1 v2) : J1 M0 M T x P f s u1 u2 := by
  obtain ⟨S1, S2, h1, h2, hd, hr⟩ := h
  exact ⟨⟨S1, h1⟩, hr⟩
/-- a new group beside -/
theorem J1_J2 {M0 M M' : am_Hp} {T x : Nat} {P : ps} {f : Int32} {s : md_R} {u1 u2 : Int32} {U y : Nat} {R : ps} {g : Int32} {r : md_R} {v1 v2 : Int32} {S2 : Nat → Prop} (h : J1 M0 M T x P f s u1 u2) (F : fr (fun _ => False) M M') (h2 : ow U M' y S2 R g r [] v1 v2) (hS : ∀ q, S2 q → hp_T M q = 0) : J2 M0 M' T x P f s u1 u2 U y R g r v1 v2 := by
  obtain ⟨⟨S, h1⟩, hr⟩ := h
  exact ⟨S, S2, ow_fr F (fun _ _ z => z) h1, h2, fun q q1 q2 => (ow_tt h1 q1).1 (hS q q2), hr.fr F⟩
/-! calls -/
theorem q_x1 {G : am_Gx} {d : Nat} {r : am_Rec} {as : List Value} {M : am_Hp} {mc ms : Nat} {ns : List String} {s : md_Sq} {v : Int32} {P : Int32 → am_Hp → Prop} {D : am_Q} (h : am_CT G d r as M mc ms (xq ns s M)) (hs : s = (0, v)) (k : P v M) : am_CT G d r as M mc ms (fun oz M1 => (∃ v : Int32, oz = .inl (some (.int v)) ∧ P v M1) ∨ D oz M1) := am_CT.mono (fun o M' hh => by
  obtain ⟨e, rfl⟩ := hh
  rw [hs] at e
  exact .inl ⟨v, e, k⟩) h
theorem c_state {G : am_Gx} {d T a e : Nat} {M : am_Hp} {S : Nat → Prop} {P : ps} {f : Int32} {sn : md_R} {tx : List Nat} {e1 e2 : Int32} {R : Int32 → am_Hp → Prop} {D : am_Q} (he : em G e) (te : hp_T M e = 43) (ne : hp_N M e = 0) (hO : ow T M a S P f sn tx e1 e2) (k : ∀ M1, fr (fun _ => False) M M1 → R (sV P.1) M1) : am_CT G (d + 8) rL_state [.ref a] M 170 1200 (fun oz M1 => (∃ v : Int32, oz = .inl (some (.int v)) ∧ R v M1) ∨ D oz M1) := am_CT.mono (fun o M' hh => .inl ⟨_, hh.1, k M' hh.2⟩) (w_state (d := d) he te ne hO)
theorem c_add {G : am_Gx} {d T a : Nat} {M : am_Hp} {S : Nat → Prop} {P : ps} {f : Int32} {sn : md_R} {tx : List Nat} {e1 e2 : Int32} {s e w : Int32} {R : Int32 → am_Hp → Prop} {D : am_Q} (hO : ow T M a S P f sn tx e1 e2) (hT : T < 80000000) (hn : rf_add P.1 s e w = 0) (k : ∀ M1, gt (T + 1830) M M1 a S (aC 0 (md_ad P.1 s e w) P) f sn tx e1 e2 → R (i3 (md_n P.1)) M1) : am_CT G (d + 7) rX6_addPassenger [.ref a, .int s, .int e, .int w] M 1 6 (fun oz M1 => (∃ v : Int32, oz = .inl (some (.int v)) ∧ R v M1) ∨ D oz M1) := by
  obtain ⟨h, E, L, sc, st, b1, m1, ks, rs, so, b2, m2, n, ou, hJ, hg, hx, hf, hs⟩ := hO
  obtain ⟨g, c, hist⟩ := P
  refine am_CT.mono (fun o M' hh => ?_) (g_addPassenger (d := d) hJ.1 hg (by omega))
  obtain ⟨h1, h2⟩ := gq hJ hg hx hf hs (by omega) hh
  have hn : rf_add g s e w = 0 := hn
  rw [hn] at h1 h2
  rcases h1 with ⟨-, e⟩ | ⟨z, -⟩
  · exact .inl ⟨_, e, k M' h2⟩
  · exact absurd rfl z
theorem c_hold {G : am_Gx} {d T a : Nat} {M : am_Hp} {S : Nat → Prop} {P : ps} {f : Int32} {sn : md_R} {tx : List Nat} {e1 e2 : Int32} {s e : Int32} {R : Int32 → am_Hp → Prop} {D : am_Q} (hO : ow T M a S P f sn tx e1 e2) (hT : T < 80000000) (hn : rf_hold P.1 s e = 0) (k : ∀ M1, gt (T + 1830) M M1 a S (aC 0 (va_up P.1 (18 + s.toNatClampNeg) e) P) f sn tx e1 e2 → R (P.1 (18 + s.toNatClampNeg)) M1) : am_CT G (d + 7) rX6_holdDoors [.ref a, .int s, .int e] M 1 6 (fun oz M1 => (∃ v : Int32, oz = .inl (some (.int v)) ∧ R v M1) ∨ D oz M1) := by
  obtain ⟨h, E, L, sc, st, b1, m1, ks, rs, so, b2, m2, n, ou, hJ, hg, hx, hf, hs⟩ := hO
  obtain ⟨g, c, hist⟩ := P
  refine am_CT.mono (fun o M' hh => ?_) (g_holdDoors (d := d) hJ.1 hg (by omega))
  obtain ⟨h1, h2⟩ := gq hJ hg hx hf hs (by omega) hh
  have hn : rf_hold g s e = 0 := hn
  rw [hn] at h1 h2
  rcases h1 with ⟨-, e⟩ | ⟨z, -⟩
  · exact .inl ⟨_, e, k M' h2⟩
  · exact absurd rfl z
theorem c_stop6 {G : am_Gx} {d T a : Nat} {M : am_Hp} {S : Nat → Prop} {P : ps} {f : Int32} {sn : md_R} {tx : List Nat} {e1 e2 : Int32} {s : Int32} {R : Int32 → am_Hp → Prop} {D : am_Q} (hO : ow T M a S P f sn tx e1 e2) (hT : T < 80000000) (hn : rf_stop P.1 s = 0) (k : ∀ M1, gt (T + 1830) M M1 a S (aC 0 (md_so P.1 s.toNatClampNeg) P) f sn tx e1 e2 → R (md_ca P.1 s.toNatClampNeg) M1) : am_CT G (d + 7) rX6_stopCar [.ref a, .int s] M 1 6 (fun oz M1 => (∃ v : Int32, oz = .inl (some (.int v)) ∧ R v M1) ∨ D oz M1) := by
  obtain ⟨h, E, L, sc, st, b1, m1, ks, rs, so, b2, m2, n, ou, hJ, hg, hx, hf, hs⟩ := hO
  obtain ⟨g, c, hist⟩ := P
  refine am_CT.mono (fun o M' hh => ?_) (g_stopCar (d := d) hJ.1 hg (by omega))
  obtain ⟨h1, h2⟩ := gq hJ hg hx hf hs (by omega) hh
  have hn : rf_stop g s = 0 := hn
  rw [hn] at h1 h2
  rcases h1 with ⟨-, e⟩ | ⟨z, -⟩
  · exact .inl ⟨_, e, k M' h2⟩
  · exact absurd rfl z
theorem c_start6 {G : am_Gx} {d T a : Nat} {M : am_Hp} {S : Nat → Prop} {P : ps} {f : Int32} {sn : md_R} {tx : List Nat} {e1 e2 : Int32} {s : Int32} {R : Int32 → am_Hp → Prop} {D : am_Q} (hO : ow T M a S P f sn tx e1 e2) (hT : T < 80000000) (hn : rf_start P.1 s = 0) (k : ∀ M1, gt (T + 1830) M M1 a S (aC 0 (va_up P.1 (21 + s.toNatClampNeg) 0) P) f sn tx e1 e2 → R (i3 3 - va_up P.1 (21 + s.toNatClampNeg) 0 21 - va_up P.1 (21 + s.toNatClampNeg) 0 22 - va_up P.1 (21 + s.toNatClampNeg) 0 23) M1) : am_CT G (d + 7) rX6_startCar [.ref a, .int s] M 1 6 (fun oz M1 => (∃ v : Int32, oz = .inl (some (.int v)) ∧ R v M1) ∨ D oz M1) := by
  obtain ⟨h, E, L, sc, st, b1, m1, ks, rs, so, b2, m2, n, ou, hJ, hg, hx, hf, hs⟩ := hO
  obtain ⟨g, c, hist⟩ := P
  refine am_CT.mono (fun o M' hh => ?_) (g_startCar (d := d) hJ.1 hg (by omega))
  obtain ⟨h1, h2⟩ := gq hJ hg hx hf hs (by omega) hh
  have hn : rf_start g s = 0 := hn
  rw [hn] at h1 h2
  rcases h1 with ⟨-, e⟩ | ⟨z, -⟩
  · exact .inl ⟨_, e, k M' h2⟩
  · exact absurd rfl z
theorem c_limit {G : am_Gx} {d T a : Nat} {M : am_Hp} {S : Nat → Prop} {P : ps} {f : Int32} {sn : md_R} {tx : List Nat} {e1 e2 : Int32} {s e : Int32} {R : Int32 → am_Hp → Prop} {D : am_Q} (hO : ow T M a S P f sn tx e1 e2) (hT : T < 80000000) (hn : rf_limit P.1 s e = 0) (k : ∀ M1, gt (T + 1830) M M1 a S (aC 0 (va_up P.1 (15 + s.toNatClampNeg) e) P) f sn tx e1 e2 → R (P.1 (15 + s.toNatClampNeg)) M1) : am_CT G (d + 7) rX6_setCapacity [.ref a, .int s, .int e] M 1 6 (fun oz M1 => (∃ v : Int32, oz = .inl (some (.int v)) ∧ R v M1) ∨ D oz M1) := by
  obtain ⟨h, E, L, sc, st, b1, m1, ks, rs, so, b2, m2, n, ou, hJ, hg, hx, hf, hs⟩ := hO
  obtain ⟨g, c, hist⟩ := P
  refine am_CT.mono (fun o M' hh => ?_) (g_setCapacity (d := d) hJ.1 hg (by omega))
  obtain ⟨h1, h2⟩ := gq hJ hg hx hf hs (by omega) hh
  have hn : rf_limit g s e = 0 := hn
  rw [hn] at h1 h2
  rcases h1 with ⟨-, e⟩ | ⟨z, -⟩
  · exact .inl ⟨_, e, k M' h2⟩
  · exact absurd rfl z
theorem c_adv {G : am_Gx} {d T a : Nat} {M : am_Hp} {S : Nat → Prop} {P : ps} {f : Int32} {sn : md_R} {tx : List Nat} {e1 e2 : Int32} {s : Int32} {R : Int32 → am_Hp → Prop} {D : am_Q} (hO : ow T M a S P f sn tx e1 e2) (hT : T < 80000000) (hn : rf_pass s = 0) (k : ∀ M1, gt (T + 1830) M M1 a S (aC 0 (md_it P.1 s.toNatClampNeg) P) f sn tx e1 e2 → R (md_it P.1 s.toNatClampNeg 3 - P.1 3) M1) : am_CT G (d + 7) rX6_advance [.ref a, .int s] M 1 6 (fun oz M1 => (∃ v : Int32, oz = .inl (some (.int v)) ∧ R v M1) ∨ D oz M1) := by
  obtain ⟨h, E, L, sc, st, b1, m1, ks, rs, so, b2, m2, n, ou, hJ, hg, hx, hf, hs⟩ := hO
  obtain ⟨g, c, hist⟩ := P
  refine am_CT.mono (fun o M' hh => ?_) (g_advance (d := d) hJ.1 hg (by omega))
  obtain ⟨h1, h2⟩ := gq hJ hg hx hf hs (by omega) hh
  have hn : rf_pass s = 0 := hn
  rw [hn] at h1 h2
  rcases h1 with ⟨-, e⟩ | ⟨z, -⟩
  · exact .inl ⟨_, e, k M' h2⟩
  · exact absurd rfl z
theorem c_act0 {G : am_Gx} {d T a : Nat} {M : am_Hp} {S : Nat → Prop} {P : ps} {f : Int32} {sn : md_R} {tx : List Nat} {e1 e2 : Int32} {k x y z : Int32} {R : Int32 → am_Hp → Prop} (hO : ow T M a S P f sn tx e1 e2) (hT : T < 80000000) (kk : ∀ M1, gt (T + 1830) M M1 a S (aS P k x y z) f sn tx e1 e2 → R (aV (aN P.1 k x y z) (aW P.1 k x y)) M1) : am_CT G (d + 8) rL_act [.ref a, .int k, .int x, .int y, .int z] M 1 6 (fun oz M1 => ∃ v : Int32, oz = .inl (some (.int v)) ∧ R v M1) := am_CT.mono (fun o M' hh => ⟨_, hh.1, kk M' hh.2⟩) (w_act (d := d) hO hT)
theorem aS_r {P : ps} {k x y z : Int32} {n : Nat} (h : aN P.1 k x y z = n) (hn : n ≠ 0) : aS P k x y z = P := by
  unfold aS aC
  rw [h, if_neg hn]
theorem c_arr {G : am_Gx} {d T a : Nat} {M : am_Hp} {S : Nat → Prop} {P : ps} {f : Int32} {sn : md_R} {tx : List Nat} {e1 e2 : Int32} {v x : Int32} {R : Int32 → am_Hp → Prop} {D : am_Q} (hO : ow T M a S P f sn tx e1 e2) (hT : T < 80000000) (hn : sq_pred P.1 v false = (0, x)) (k : ∀ M1, gt T M M1 a S P f sn tx e1 e2 → R x M1) : am_CT G (d + 6) rX6_stepsUntilArrival [.ref a, .int v] M 2 12 (fun oz M1 => (∃ v : Int32, oz = .inl (some (.int v)) ∧ R v M1) ∨ D oz M1) := by
  obtain ⟨h, E, L, sc, st, b1, m1, ks, rs, so, b2, m2, n, ou, hJ, hg, hx, hf, hs⟩ := hO
  obtain ⟨g, c, hist⟩ := P
  refine am_CT.mono (fun o M' hh => ?_) (g_stepsUntilArrival (d := d) (v := v) hJ.1 hg (by omega))
  obtain ⟨e, h1, h2⟩ := hh
  have hn : sq_pred g v false = (0, x) := hn
  rw [hn] at e
  exact .inl ⟨_, e, k M' (gt_zF hJ hg hx hf hs (P' := (g, c, hist)) h1 h2)⟩
theorem c_brd {G : am_Gx} {d T a : Nat} {M : am_Hp} {S : Nat → Prop} {P : ps} {f : Int32} {sn : md_R} {tx : List Nat} {e1 e2 : Int32} {v x : Int32} {R : Int32 → am_Hp → Prop} {D : am_Q} (hO : ow T M a S P f sn tx e1 e2) (hT : T < 80000000) (hu : ∀ p q, p < md_n P.1 → q < md_n P.1 → P.1 (27 + p) = P.1 (27 + q) → p = q) (hn : sq_pred P.1 v true = (0, x)) (k : ∀ M1, gt T M M1 a S P f sn tx e1 e2 → R x M1) : am_CT G (d + 6) rX6_stepsUntilBoarding [.ref a, .int v] M 2 12 (fun oz M1 => (∃ v : Int32, oz = .inl (some (.int v)) ∧ R v M1) ∨ D oz M1) := by
  obtain ⟨h, E, L, sc, st, b1, m1, ks, rs, so, b2, m2, n, ou, hJ, hg, hx, hf, hs⟩ := hO
  obtain ⟨g, c, hist⟩ := P
  refine am_CT.mono (fun o M' hh => ?_) (g_stepsUntilBoarding (d := d) (v := v) hJ.1 hg (by omega) hu)
  obtain ⟨e, h1, h2⟩ := hh
  have hn : sq_pred g v true = (0, x) := hn
  rw [hn] at e
  exact .inl ⟨_, e, k M' (gt_zF hJ hg hx hf hs (P' := (g, c, hist)) h1 h2)⟩
theorem c_trips {G : am_Gx} {d T a : Nat} {M : am_Hp} {S : Nat → Prop} {P : ps} {f : Int32} {sn : md_R} {tx : List Nat} {e1 e2 : Int32} {v x : Int32} {R : Int32 → am_Hp → Prop} {D : am_Q} (hO : ow T M a S P f sn tx e1 e2) (hT : T < 80000000) (hn : sq_trips P.1 v = (0, x)) (k : ∀ M1, gt T M M1 a S P f sn tx e1 e2 → R x M1) : am_CT G (d + 7) rX6_tripsWithin [.ref a, .int v] M 1 6 (fun oz M1 => (∃ v : Int32, oz = .inl (some (.int v)) ∧ R v M1) ∨ D oz M1) := by
  obtain ⟨h, E, L, sc, st, b1, m1, ks, rs, so, b2, m2, n, ou, hJ, hg, hx, hf, hs⟩ := hO
  obtain ⟨g, c, hist⟩ := P
  refine am_CT.mono (fun o M' hh => ?_) (g_tripsWithin (d := d) (v := v) hJ.1 hg (by omega))
  obtain ⟨e, h1, h2⟩ := hh
  have hn : sq_trips g v = (0, x) := hn
  rw [hn] at e
  exact .inl ⟨_, e, k M' (gt_zF hJ hg hx hf hs (P' := (g, c, hist)) h1 h2)⟩
theorem c_undo {G : am_Gx} {d T a : Nat} {M : am_Hp} {S : Nat → Prop} {P : ps} {f : Int32} {sn : md_R} {tx : List Nat} {e1 e2 : Int32} {c : Nat} {R : Int32 → am_Hp → Prop} {D : am_Q} (hO : ow T M a S P f sn tx e1 e2) (hc : P.2.1 = c + 1) (k : ∀ M1, gt T M M1 a S (P.2.2 c, c, P.2.2) f sn tx e1 e2 → R (i3 c) M1) : am_CT G (d + 4) rX6_undo [.ref a] M 1 6 (fun oz M1 => (∃ v : Int32, oz = .inl (some (.int v)) ∧ R v M1) ∨ D oz M1) := by
  obtain ⟨h, E, L, sc, st, b1, m1, ks, rs, so, b2, m2, n, ou, hJ, hg, hx, hf, hs⟩ := hO
  obtain ⟨g, c', hist⟩ := P
  have hc : c' = c + 1 := hc
  subst hc
  refine am_CT.mono (fun o M' hh => ?_) (g_undo1 (d := d) hJ.1 hg)
  obtain ⟨e, ⟨n1, h1⟩, h2⟩ := hh
  exact .inl ⟨_, e, k M' (gt_zF hJ hg hx hf hs (P' := (hist c, c, hist)) h1 h2)⟩
theorem c_rest {G : am_Gx} {d T a : Nat} {M : am_Hp} {S : Nat → Prop} {P : ps} {f : Int32} {sn : md_R} {tx : List Nat} {e1 e2 : Int32} {R : Int32 → am_Hp → Prop} {D : am_Q} (hO : ow T M a S P f sn tx e1 e2) (h1 : f = i3 1) (k : ∀ M1, gt T M M1 a S (sn, 0, P.2.2) f sn tx e1 e2 → R (sn 1) M1) : am_CT G (d + 3) rX6_restore [.ref a] M 1 6 (fun oz M1 => (∃ v : Int32, oz = .inl (some (.int v)) ∧ R v M1) ∨ D oz M1) := by
  obtain ⟨h, E, L, sc, st, b1, m1, ks, rs, so, b2, m2, n, ou, hJ, hg, hx, hf, hs⟩ := hO
  obtain ⟨g, c, hist⟩ := P
  refine am_CT.mono (fun o M' hh => ?_) (g_restore1 (d := d) hJ.1 hg (hf.trans h1))
  obtain ⟨e, h1, h2⟩ := hh
  exact .inl ⟨_, e, k M' (gt_zF hJ hg hx hf hs (P' := (sn, 0, hist)) h1 h2)⟩
theorem c_save {G : am_Gx} {d T a : Nat} {M : am_Hp} {S : Nat → Prop} {P : ps} {f : Int32} {sn : md_R} {tx : List Nat} {e1 e2 : Int32} {R : Int32 → am_Hp → Prop} (hO : ow T M a S P f sn tx e1 e2) (k : ∀ M1, gt T M M1 a S P (i3 1) P.1 tx e1 e2 → R (P.1 1) M1) : am_CT G (d + 3) rX6_save [.ref a] M 0 0 (fun oz M1 => ∃ v : Int32, oz = .inl (some (.int v)) ∧ R v M1) := by
  obtain ⟨h, E, L, sc, st, b1, m1, ks, rs, so, b2, m2, n, ou, hJ, hg, hx, hf, hs⟩ := hO
  obtain ⟨g, c, hist⟩ := P
  refine am_CT.mono (fun o M' hh => ?_) (g_save2 (d := d) hJ.1 hg)
  obtain ⟨e, hf', h1, z⟩ := hh
  refine ⟨_, e, k M' ⟨S, ⟨h, E, L, sc, st, b1, m1, ks, rs, so, b2, m2, n, ou, hJ, h1, xL_sk hJ hg hx z.1 (fun x x1 x2 x3 => z.2.1 x x1 x2 x3) ?_ ?_, hf', hs⟩, fun x x1 x2 => sm_sk z.1 (z.2.1 x (fun y => x2 ((hs x).mpr (.inl (.inl y)))) (fun y => x2 ((hs x).mpr (.inl (.inr (.inl y))))) (fun i j hi hj y => x2 ((hs x).mpr (.inl (.inr (.inr (.inr (.inl ⟨i, j, hi, hj, y⟩)))))))), fun x hx => .inl hx⟩⟩
  · rw [z.2.2 127 (by decide)]
    exact hx.1.2.2.1
  · rw [z.2.2 128 (by decide)]
    exact hx.1.2.2.2
theorem ow_c8 {T : Nat} {M : am_Hp} {a : Nat} {S : Nat → Prop} {P : ps} {f : Int32} {sn : md_R} {tx : List Nat} {e1 e2 : Int32} (hO : ow T M a S P f sn tx e1 e2) : P.2.1 ≤ 8 := by
  obtain ⟨h, E, L, sc, st, b1, m1, ks, rs, so, b2, m2, n, ou, hJ, hg, hx, hf, hs⟩ := hO
  obtain ⟨-, -, -, -, -, hy, -⟩ := hg
  exact hy.1.2.2.2.2.2.2.2.2
theorem c_fails {G : am_Gx} {d T a : Nat} {M : am_Hp} {S : Nat → Prop} {P : ps} {f : Int32} {sn : md_R} {tx : List Nat} {e1 e2 : Int32} {s k : Nat} {cs : List Nat} {R : Int32 → am_Hp → Prop} {D : am_Q} (hz : cz G) (hp : sioo G) (hk : stK G M) (hO : ow T M a S P f sn [] e1 e2) (hT : T < 80000000) (hs : stO M s cs) (hc : ∀ i, i < cs.length → 32 ≤ cs.getD i 0 ∧ cs.getD i 0 ≤ 126) (h30 : cs.length ≤ 30) (hr : (rS cs 13 0 []).1 = false) (hpos : (rS cs 13 0 []).2.1 = k) (hk2 : k < 1000) (kk : ∀ M1, gt T M M1 a S P f sn [] (i3 k) e2 → R 1 M1) : am_CT G (d + 11) rL_fails [.ref a, .ref s, .int (i3 k)] M 32 3012 (fun oz M1 => (∃ v : Int32, oz = .inl (some (.int v)) ∧ R v M1) ∨ D oz M1) := by
  refine am_CT.mono (fun o M' hh => ?_) (w_fails (d := d) hz hp hk hO hT hs hc h30 hr hpos hk2)
  obtain ⟨v, e, rfl, g⟩ := hh
  exact .inl ⟨_, e, kk M' g⟩
/-! the trips grow -/
theorem pre_3 {g : md_R} : md_pre g 3 = g 3 := by
  have h1 : ∀ k, md_fo md_a1 (va_up g 0 (g 0 + 1)) k 3 = g 3 := fun k => by
    induction k with
    | zero => rfl
    | succ k ih => rw [md_fo, md_a1_far (by omega), ih]
  have h2 : ∀ k, md_fo md_w1 (md_fo md_a1 (va_up g 0 (g 0 + 1)) (md_n g)) k 3 = g 3 := fun k => by
    induction k with
    | zero => exact h1 _
    | succ k ih => rw [md_fo, md_w1_far (by omega), ih]
  exact h2 _
theorem c1_3 {T c t : Nat} {g : md_R} (hw : md_wf T g) (hc : c < 3) (hT : T < 300000000) (ht : t ≤ T) (h3 : g 3 = i3 t) : ∃ u, t ≤ u ∧ u ≤ T + 20 ∧ md_c1 g c 3 = i3 u := by
  have h12 := md_wf_n hw
  unfold md_c1
  split
  · unfold md_ac
    split
    · exact ⟨t, Nat.le_refl _, by omega, by rw [up_n _ _ (by omega)]; exact h3⟩
    · split
      · have w1 : md_wf (T + 20) (md_op g c) := md_wf_mono (by omega) (md_wf_op hw hc (by omega))
        have e3 : md_op g c 3 = i3 t := by
          rw [op_e, up_n _ _ (by omega), up_n _ _ (by omega), up_n _ _ (by omega), h3]
        have en : md_n (md_op g c) = md_n g := md_n_eq (by rw [op_e, up_n _ _ (by omega), up_n _ _ (by omega), up_n _ _ (by omega)])
        obtain ⟨u, q1, q2, q3⟩ := md_al_trips (c := c) (T := T + 20) (md_n g) 0 t (md_op g c) w1 (by omega) e3 (by omega)
        have w2 := (md_wf_al (c := c) (T := T + 20) (md_n g) 0 t (md_op g c) w1 (by omega) e3 (by omega)).1
        refine ⟨u, q1, by omega, ?_⟩
        rw [← q3]
        exact (md_wf_bo w2 hc _ (Nat.le_refl _)).2 3 (by omega)
      · refine ⟨t, Nat.le_refl _, by omega, ?_⟩
        unfold md_mv
        split
        · rw [up_n _ _ (by omega), up_n _ _ (by omega), up_n _ _ (by omega), up_n _ _ (by omega), up_n _ _ (by omega), h3]
        · split
          · rw [up_n _ _ (by omega), up_n _ _ (by omega), up_n _ _ (by omega), up_n _ _ (by omega), h3]
          · rw [up_n _ _ (by omega), up_n _ _ (by omega), h3]
  · exact ⟨t, Nat.le_refl _, by omega, h3⟩
theorem step_3 {T t : Nat} {g : md_R} (hw : md_wf T g) (hT : T < 200000000) (ht : t ≤ T) (h3 : g 3 = i3 t) : ∃ u, t ≤ u ∧ u ≤ T + 61 ∧ md_step g 3 = i3 u := by
  rw [md_step_eq hw]
  have w1 := md_wf_pre hw
  obtain ⟨u1, a1, b1, c1⟩ := c1_3 (c := 0) w1 (by omega) (by omega) (by omega : t ≤ T + 1) (pre_3.trans h3)
  have w2 := md_wf_c1 (c := 0) w1 (by omega) (by omega)
  obtain ⟨u2, a2, b2, c2⟩ := c1_3 (c := 1) w2 (by omega) (by omega) b1 c1
  have w3 := md_wf_c1 (c := 1) w2 (by omega) (by omega)
  obtain ⟨u3, a3, b3, c3⟩ := c1_3 (c := 2) w3 (by omega) (by omega) b2 c2
  exact ⟨u3, by omega, by omega, c3⟩
theorem it_3 {T t : Nat} {g : md_R} (hw : md_wf T g) (ht : t ≤ T) (h3 : g 3 = i3 t) : ∀ k, T + 61 * k < 200000000 → ∃ u, t ≤ u ∧ u ≤ T + 61 * k ∧ md_it g k 3 = i3 u
  | 0, _ => ⟨t, Nat.le_refl _, by omega, h3⟩
  | k + 1, hk => by
    obtain ⟨u, a, b, c⟩ := it_3 hw ht h3 k (by omega)
    obtain ⟨u2, a2, b2, c2⟩ := step_3 (md_wf_it hw k (by omega)) (by omega) b c
    exact ⟨u2, by omega, by omega, c2⟩
theorem trips_0 {T : Nat} {g : md_R} {k : Nat} (hw : md_wf T g) (hk : T + 61 * k < 200000000) : ¬ md_it g k 3 - g 3 < 0 := by
  obtain ⟨t, t1, t2⟩ := hw.2.2.2.2.1
  obtain ⟨u, a, b, c⟩ := it_3 hw t1 t2 k hk
  rw [c, t2, show u = u - t + t by omega, i3_sub]
  intro z
  have := (i3_lt (a := u - t) (b := 0) (by omega) (by omega)).mp z
  omega
theorem cap_0 {T c : Nat} {g : md_R} (hw : md_wf T g) (hc : c < 3) : ¬ g (15 + c) < 0 := by
  obtain ⟨-, -, ⟨k, k1, k2, k3, -⟩, -⟩ := hw.2.1 c hc
  rw [k3]
  intro z
  have := (i3_lt (a := k) (b := 0) (by omega) (by omega)).mp z
  omega
theorem limit_900 {T c : Nat} {g : md_R} (hw : md_wf T g) (hc : c < 3) : rf_limit g (i3 c) 900 = 0 := by
  obtain ⟨-, -, ⟨k, k1, k2, k3, k4⟩, -⟩ := hw.2.1 c hc
  unfold rf_limit
  rw [if_pos (ic_i hc), if_pos (by decide), i3_toNat (by omega), md_ld_N hw.2.2.1, if_pos (show i3 (md_lN g c) ≤ 900 from (i3_le (b := 900) (by omega) (by omega)).mpr (by omega))]
