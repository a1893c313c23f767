/-! .. and what changes it: frames, and one object's fields at a time -/
def sk (M M' : am_Hp) : Prop := hp_T M' = hp_T M ∧ hp_N M' = hp_N M ∧ hp_R M' = hp_R M ∧ hp_L M' = hp_L M ∧ hp_D M' = hp_D M
theorem sk.rf (M : am_Hp) : sk M M := ⟨rfl, rfl, rfl, rfl, rfl⟩
theorem sk.trans {M M1 M2 : am_Hp} (h : sk M M1) (k : sk M1 M2) : sk M M2 := ⟨k.1.trans h.1, k.2.1.trans h.2.1, k.2.2.1.trans h.2.2.1, k.2.2.2.1.trans h.2.2.2.1, k.2.2.2.2.trans h.2.2.2.2⟩
def bF (B : Nat → Nat) (M M' : am_Hp) : Prop := sk M M' ∧ ∀ a, (∀ i, i < 22 → a ≠ B i) → (∀ u, hp_I M' u a = hp_I M u a) ∧ hp_E M' a = hp_E M a ∧ hp_Q M' a = hp_Q M a
theorem bF.rf (B : Nat → Nat) (M : am_Hp) : bF B M M := ⟨sk.rf M, fun _ _ => ⟨fun _ => rfl, rfl, rfl⟩⟩
theorem bF.trans {B : Nat → Nat} {M M1 M2 : am_Hp} (h : bF B M M1) (k : bF B M1 M2) : bF B M M2 := ⟨h.1.trans k.1, fun a ha => ⟨fun u => ((k.2 a ha).1 u).trans ((h.2 a ha).1 u), (k.2 a ha).2.1.trans (h.2 a ha).2.1, (k.2 a ha).2.2.trans (h.2 a ha).2.2⟩⟩
theorem bF_sI {B : Nat → Nat} {M : am_Hp} {u a i : Nat} {v : Int32} (hi : i < 22) (ha : a = B i) : bF B M (hp_sI M u a v) := ⟨⟨rfl, rfl, rfl, rfl, rfl⟩, fun b hb => ⟨fun u' => hp_I_sIa M u u' v (fun z => hb i hi (z.trans ha)), rfl, rfl⟩⟩
theorem bF_sQ {B : Nat → Nat} {M : am_Hp} {a i k v : Nat} (hi : i < 22) (ha : a = B i) : bF B M (hp_sQ M a k v) := ⟨⟨rfl, rfl, rfl, rfl, rfl⟩, fun b hb => ⟨fun u' => rfl, rfl, hp_Q_sQ' M v (fun z => hb i hi (z.trans ha))⟩⟩
theorem bF_sA {B : Nat → Nat} {M : am_Hp} {a i : Nat} {f : md_R} (hi : i < 22) (ha : a = B i) : bF B M (hp_sA M a f) := ⟨⟨rfl, rfl, rfl, rfl, rfl⟩, fun b hb => ⟨fun u' => rfl, hp_E_sA' M f (fun z => hb i hi (z.trans ha)), rfl⟩⟩
theorem bL_sk {M M' : am_Hp} {B : Nat → Nat} (h : bL M B) (s : sk M M') : bL M' B := by
  unfold bL at h ⊢
  rw [s.1, s.2.1, s.2.2.1]
  exact h
theorem bQ_eq {M M' : am_Hp} {B : Nat → Nat} (h : bQ M B) (e : hp_Q M' = hp_Q M) : bQ M' B := by
  unfold bQ at h ⊢
  rw [e]
  exact h
theorem iR_cg {M M' : am_Hp} {b : Nat} {g g' : md_R} (e : ∀ u, 3 ≤ u → u < 10 → hp_I M' u b = hp_I M u b) (eg : ∀ k, k < 9 → g' k = g k) (h : iR M b g) : iR M' b g' := by
  obtain ⟨h1, h2, h3, h4, h5, h6, h7⟩ := h
  unfold iR
  rw [e 3 (by omega) (by omega), e 4 (by omega) (by omega), e 5 (by omega) (by omega), e 6 (by omega) (by omega), e 7 (by omega) (by omega), e 8 (by omega) (by omega), e 9 (by omega) (by omega), eg 0 (by omega), eg 1 (by omega), eg 2 (by omega), eg 5 (by omega), eg 6 (by omega), eg 7 (by omega), eg 8 (by omega)]
  exact ⟨h1, h2, h3, h4, h5, h6, h7⟩
theorem cR_cg {M M' : am_Hp} {a : Nat} {g g' : md_R} {c : Nat} (hc : c < 3) (e : ∀ u, 20 ≤ u → u < 28 → hp_I M' u a = hp_I M u a) (eg : ∀ k, k = 9 + c ∨ k = 12 + c ∨ k = 15 + c ∨ k = 18 + c ∨ k = 21 + c ∨ k = 24 + c → g' k = g k) (hl : md_ld g' c = md_ld g c) (hi : md_is g' c = md_is g c) (h : cR M a g c) : cR M' a g' c := by
  obtain ⟨h1, h2, h3, h4, h5, h6, h7, h8⟩ := h
  unfold cR
  rw [e 20 (by omega) (by omega), e 21 (by omega) (by omega), e 22 (by omega) (by omega), e 23 (by omega) (by omega), e 24 (by omega) (by omega), e 25 (by omega) (by omega), e 26 (by omega) (by omega), e 27 (by omega) (by omega), hl, hi, eg (9 + c) (by omega), eg (12 + c) (by omega), eg (15 + c) (by omega), eg (18 + c) (by omega), eg (21 + c) (by omega), eg (24 + c) (by omega)]
  exact ⟨h1, h2, h3, h4, h5, h6, h7, h8⟩
theorem pR_cg {M M' : am_Hp} {a : Nat} {g g' : md_R} {p q : Nat} (e : ∀ u, 60 ≤ u → u < 67 → hp_I M' u a = hp_I M u a) (eg : ∀ r, r < 7 → g' (27 + 12 * r + q) = g (27 + 12 * r + p)) (h : pR M a g p) : pR M' a g' q := by
  obtain ⟨h1, h2, h3, h4, h5, h6, h7⟩ := h
  have e0 := eg 0 (by omega)
  have e1 := eg 1 (by omega)
  have e2 := eg 2 (by omega)
  have e3 := eg 3 (by omega)
  have e4 := eg 4 (by omega)
  have e5 := eg 5 (by omega)
  have e6 := eg 6 (by omega)
  simp only [Nat.mul_zero, Nat.reduceMul, Nat.reduceAdd, Nat.add_zero] at e0 e1 e2 e3 e4 e5 e6
  unfold pR
  rw [e 60 (by omega) (by omega), e 61 (by omega) (by omega), e 62 (by omega) (by omega), e 63 (by omega) (by omega), e 64 (by omega) (by omega), e 65 (by omega) (by omega), e 66 (by omega) (by omega), e0, e1, e2, e3, e4, e5, e6]
  exact ⟨h1, h2, h3, h4, h5, h6, h7⟩
theorem tR_cg {M M' : am_Hp} {B : Nat → Nat} {g g' : md_R} (e1 : hp_I M' 103 (B 3) = hp_I M 103 (B 3)) (e2 : hp_I M' 104 (B 3) = hp_I M 104 (B 3)) (eE : ∀ i, 4 ≤ i → i < 7 → hp_E M' (B i) = hp_E M (B i)) (eg : ∀ k, k = 3 ∨ k = 4 ∨ 111 ≤ k ∧ k < 141 → g' k = g k) (h : tR M B g) : tR M' B g' := by
  obtain ⟨h1, h2, h3, h4, h5⟩ := h
  unfold tR
  rw [e1, e2, eE 4 (by omega) (by omega), eE 5 (by omega) (by omega), eE 6 (by omega) (by omega), eg 3 (by omega), eg 4 (by omega)]
  exact ⟨h1, h2, fun k hk => (h3 k hk).trans (eg _ (by omega)).symm, fun k hk => (h4 k hk).trans (eg _ (by omega)).symm, fun k hk => (h5 k hk).trans (eg _ (by omega)).symm⟩
/-- one car's fields -/
theorem bR_car {M M' : am_Hp} {B : Nat → Nat} {g g' : md_R} {c : Nat} (hR : bR M B g) (h12 : md_n g ≤ 12) (hc : c < 3) (hM : ∀ u a, (u < 20 ∨ 28 ≤ u ∨ a ≠ B (7 + c)) → hp_I M' u a = hp_I M u a) (hE : hp_E M' = hp_E M) (hQ : hp_Q M' = hp_Q M) (hs : sk M M') (hg : ∀ k, k ≠ 9 + c → k ≠ 12 + c → k ≠ 15 + c → k ≠ 18 + c → k ≠ 21 + c → k ≠ 24 + c → g' k = g k) (hC : cR M' (B (7 + c)) g' c) : bR M' B g' := by
  obtain ⟨r1, r2, r3, r4, r5, r6⟩ := hR
  have en : md_n g' = md_n g := md_n_eq (hg 1 (by omega) (by omega) (by omega) (by omega) (by omega) (by omega))
  refine ⟨bL_sk r1 hs, bQ_eq r2 hQ, iR_cg (fun u h1 h2 => hM u _ (by omega)) (fun k hk => hg k (by omega) (by omega) (by omega) (by omega) (by omega) (by omega)) r3, fun c' hc' => ?_, fun p hp => ?_, tR_cg (hM _ _ (by omega)) (hM _ _ (by omega)) (fun i _ _ => by rw [hE]) (fun k hk => hg k (by omega) (by omega) (by omega) (by omega) (by omega) (by omega)) r6⟩
  · by_cases e : c' = c
    · subst e; exact hC
    · refine cR_cg hc' (fun u _ _ => hM u _ (Or.inr (Or.inr (fun z => ?_)))) (fun k hk => hg k (by omega) (by omega) (by omega) (by omega) (by omega) (by omega)) (md_ld_cg h12 (fun k hk => hg k (by omega) (by omega) (by omega) (by omega) (by omega) (by omega))) (md_is_cg h12 (fun k hk => hg k (by omega) (by omega) (by omega) (by omega) (by omega) (by omega))) (r4 c' hc')
      have := r1.2.2.2.2 _ _ (by omega) (by omega) z
      omega
  · rw [en] at hp
    rw [hQ]
    exact pR_cg (fun u h1 h2 => hM u _ (by omega)) (fun r hr => hg _ (by omega) (by omega) (by omega) (by omega) (by omega) (by omega)) (r5 p hp)
/-- one passenger's fields -/
theorem bR_pas {M M' : am_Hp} {B : Nat → Nat} {g g' : md_R} {p : Nat} (hR : bR M B g) (h12 : md_n g ≤ 12) (hp : p < md_n g) (hM : ∀ u a, (u < 60 ∨ 67 ≤ u ∨ a ≠ hp_Q M (B 2) p) → hp_I M' u a = hp_I M u a) (hE : hp_E M' = hp_E M) (hQ : hp_Q M' = hp_Q M) (hs : sk M M') (hg : ∀ k, (k < 27 ∨ 111 ≤ k ∨ (k - 27) % 12 ≠ p) → g' k = g k) (hP : pR M' (hp_Q M (B 2) p) g' p) (hl : ∀ c, c < 3 → md_ld g' c = md_ld g c ∧ md_is g' c = md_is g c) : bR M' B g' := by
  obtain ⟨r1, r2, r3, r4, r5, r6⟩ := hR
  have en : md_n g' = md_n g := md_n_eq (hg 1 (by omega))
  refine ⟨bL_sk r1 hs, bQ_eq r2 hQ, iR_cg (fun u h1 h2 => hM u _ (by omega)) (fun k hk => hg k (by omega)) r3, fun c hc => ?_, fun q hq => ?_, tR_cg (hM _ _ (by omega)) (hM _ _ (by omega)) (fun i _ _ => by rw [hE]) (fun k hk => hg k (by omega)) r6⟩
  · exact cR_cg hc (fun u _ _ => hM u _ (by omega)) (fun k hk => hg k (by omega)) (hl c hc).1 (hl c hc).2 (r4 c hc)
  · rw [en] at hq
    rw [hQ]
    by_cases e : q = p
    · subst e; exact hP
    · exact pR_cg (fun u _ _ => hM u _ (Or.inr (Or.inr (fun z => e (r2.2.2 _ _ (by omega) (by omega) z))))) (fun r hr => hg _ (by omega)) (r5 q hq)
/-- the building's own numbers, but the count of passengers -/
theorem bR_int {M M' : am_Hp} {B : Nat → Nat} {g g' : md_R} (hR : bR M B g) (h12 : md_n g ≤ 12) (hM : ∀ u a, (u < 3 ∨ 10 ≤ u) → hp_I M' u a = hp_I M u a) (hE : hp_E M' = hp_E M) (hQ : hp_Q M' = hp_Q M) (hs : sk M M') (hg : ∀ k, k = 1 ∨ k = 3 ∨ k = 4 ∨ 9 ≤ k → g' k = g k) (hI : iR M' (B 0) g') : bR M' B g' := by
  obtain ⟨r1, r2, r3, r4, r5, r6⟩ := hR
  have en : md_n g' = md_n g := md_n_eq (hg 1 (by omega))
  refine ⟨bL_sk r1 hs, bQ_eq r2 hQ, hI, fun c hc => ?_, fun q hq => ?_, tR_cg (hM _ _ (by omega)) (hM _ _ (by omega)) (fun i _ _ => by rw [hE]) (fun k hk => hg k (by omega)) r6⟩
  · exact cR_cg hc (fun u _ _ => hM u _ (by omega)) (fun k hk => hg k (by omega)) (md_ld_cg h12 (fun k hk => hg k (by omega))) (md_is_cg h12 (fun k hk => hg k (by omega))) (r4 c hc)
  · rw [en] at hq
    rw [hQ]
    exact pR_cg (fun u _ _ => hM u _ (by omega)) (fun r hr => hg _ (by omega)) (r5 q hq)
abbrev qb (B : Nat → Nat) (M : am_Hp) (v : Int32) (g' : md_R) : am_Q := fun o M' => o = .inl (some (.int v)) ∧ bR M' B g' ∧ bF B M M'
abbrev qw (B : Nat → Nat) (M : am_Hp) (g' : md_R) : am_Q := fun o M' => o = .inl none ∧ bR M' B g' ∧ bF B M M'
theorem ct_b {G : am_Gx} {d : Nat} {r : am_Rec} {as : List Value} {M M0 : am_Hp} {B : Nat → Nat} {g' : md_R} {mc ms : Nat} {v : Int32} {P : Int32 → am_Hp → Prop} (h : am_CT G d r as M mc ms (qb B M0 v g')) (k : ∀ M', bR M' B g' → bF B M0 M' → P v M') : am_CT G d r as M mc ms (fun o M' => ∃ v, o = .inl (some (.int v)) ∧ P v M') :=
  am_CT.mono (fun o M' ⟨e1, e2, e3⟩ => ⟨v, e1, k M' e2 e3⟩) h
theorem ct_w {G : am_Gx} {d : Nat} {r : am_Rec} {as : List Value} {M M0 : am_Hp} {B : Nat → Nat} {g' : md_R} {mc ms : Nat} {P : am_Hp → Prop} (h : am_CT G d r as M mc ms (qw B M0 g')) (k : ∀ M', bR M' B g' → bF B M0 M' → P M') : am_CT G d r as M mc ms (fun o M' => o = .inl none ∧ P M') :=
  am_CT.mono (fun o M' ⟨e1, e2, e3⟩ => ⟨e1, k M' e2 e3⟩) h
theorem k_hold {G : am_Gx} {d : Nat} {M : am_Hp} {B : Nat → Nat} {g : md_R} {c : Nat} {v : Int32} (hR : bR M B g) (ok : md_ok g) (hc : c < 3) : am_CT G (d + 1) rX0_hold [.ref (B 0), .int (i3 c), .int v] M 0 0 (qb B M (g (18 + c)) (va_up g (18 + c) v)) := by
  have h12 := ok.2
  obtain ⟨b0, u0, u1, u2, s1, m1, s2, m2, s3, u4, u5, u6, s4, s5, s6, m4, m5, m6, y0, y1, y2, y3, y4, y5, y6, qc, tc, zc, tp, zp, i3_, i4_, i5_, i6_, i7_, i8_, i9_, f20, f21, f22, f23, f24, f25, f26, f27, e60, e61, e62, e63, e64, e65, e66, l3_, l4_, lx, ly, lz⟩ := bR_f hR ok
  refine am_intro mkX0_hold rfl (Nat.le_of_ble_eq_true rfl) rfl (fun X hX hM => ?_)
  refine vX0_hold_0 hX hM ?_
  simp (disch := omega) only [b0, u0, u1, u2, s1, m1, s2, m2, s3, u4, u5, u6, s4, s5, s6, m4, m5, m6, y0, y1, y2, y3, y4, y5, y6, qc, tc, zc, tp, zp, forall_eq, ne_eq, not_false_eq_true, true_and, i3_toNat, vpt, hp_T_sI, hp_N_sI, hp_R_sI, hp_E_sI, hp_Q_sI, hp_I_sI, hp_I_sIu, hp_T_sQ, hp_N_sQ, hp_R_sQ, hp_E_sQ, hp_I_sQ, hp_T_sA, hp_N_sA, hp_R_sA, hp_I_sA, hp_Q_sA, hp_E_sA, hp_sE_sA, i3_add]
  refine ⟨by rw [f25 c hc], ?_, bF_sI (i := 7 + c) (by omega) rfl⟩
  refine bR_car hR h12 hc (fun u a h => ?_) rfl rfl ⟨rfl, rfl, rfl, rfl, rfl⟩ (fun k _ _ _ h _ _ => up_n _ _ h) ?_
  · rcases h with h | h | h
    · exact hp_I_sIu _ _ _ _ (by omega)
    · exact hp_I_sIu _ _ _ _ (by omega)
    · exact hp_I_sIa _ _ _ _ h
  · unfold cR
    rw [md_ld_cg (g := g) h12 (fun k hk => up_n _ _ (by omega)), md_is_cg (g := g) h12 (fun k hk => up_n _ _ (by omega))]
    simp (disch := omega) only [hp_T_sI, hp_N_sI, hp_R_sI, hp_E_sI, hp_Q_sI, hp_I_sI, hp_I_sIu, hp_T_sQ, hp_N_sQ, hp_R_sQ, hp_E_sQ, hp_I_sQ, hp_T_sA, hp_N_sA, hp_R_sA, hp_I_sA, hp_Q_sA, hp_E_sA, hp_sE_sA, f20, f21, f22, f23, f24, f26, f27, hc, up_n', up_e, true_and, and_true, eq_self]
theorem k_limit {G : am_Gx} {d : Nat} {M : am_Hp} {B : Nat → Nat} {g : md_R} {c : Nat} {v : Int32} (hR : bR M B g) (ok : md_ok g) (hc : c < 3) : am_CT G (d + 1) rX0_limit [.ref (B 0), .int (i3 c), .int v] M 0 0 (qb B M (g (15 + c)) (va_up g (15 + c) v)) := by
  have h12 := ok.2
  obtain ⟨b0, u0, u1, u2, s1, m1, s2, m2, s3, u4, u5, u6, s4, s5, s6, m4, m5, m6, y0, y1, y2, y3, y4, y5, y6, qc, tc, zc, tp, zp, i3_, i4_, i5_, i6_, i7_, i8_, i9_, f20, f21, f22, f23, f24, f25, f26, f27, e60, e61, e62, e63, e64, e65, e66, l3_, l4_, lx, ly, lz⟩ := bR_f hR ok
  refine am_intro mkX0_limit rfl (Nat.le_of_ble_eq_true rfl) rfl (fun X hX hM => ?_)
  refine vX0_limit_0 hX hM ?_
  simp (disch := omega) only [b0, u0, u1, u2, s1, m1, s2, m2, s3, u4, u5, u6, s4, s5, s6, m4, m5, m6, y0, y1, y2, y3, y4, y5, y6, qc, tc, zc, tp, zp, forall_eq, ne_eq, not_false_eq_true, true_and, i3_toNat, vpt, hp_T_sI, hp_N_sI, hp_R_sI, hp_E_sI, hp_Q_sI, hp_I_sI, hp_I_sIu, hp_T_sQ, hp_N_sQ, hp_R_sQ, hp_E_sQ, hp_I_sQ, hp_T_sA, hp_N_sA, hp_R_sA, hp_I_sA, hp_Q_sA, hp_E_sA, hp_sE_sA, i3_add]
  refine ⟨by rw [f22 c hc], ?_, bF_sI (i := 7 + c) (by omega) rfl⟩
  refine bR_car hR h12 hc (fun u a h => ?_) rfl rfl ⟨rfl, rfl, rfl, rfl, rfl⟩ (fun k _ _ h _ _ _ => up_n _ _ h) ?_
  · rcases h with h | h | h
    · exact hp_I_sIu _ _ _ _ (by omega)
    · exact hp_I_sIu _ _ _ _ (by omega)
    · exact hp_I_sIa _ _ _ _ h
  · unfold cR
    rw [md_ld_cg (g := g) h12 (fun k hk => up_n _ _ (by omega)), md_is_cg (g := g) h12 (fun k hk => up_n _ _ (by omega))]
    simp (disch := omega) only [hp_T_sI, hp_N_sI, hp_R_sI, hp_E_sI, hp_Q_sI, hp_I_sI, hp_I_sIu, hp_T_sQ, hp_N_sQ, hp_R_sQ, hp_E_sQ, hp_I_sQ, hp_T_sA, hp_N_sA, hp_R_sA, hp_I_sA, hp_Q_sA, hp_E_sA, hp_sE_sA, f20, f21, f23, f24, f25, f26, f27, hc, up_n', up_e, true_and, and_true, eq_self]
