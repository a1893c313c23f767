/-! .. one less; copies; what is refused */ -/
def hp_sW (M : am_Hp) (a : Nat) (f : Nat → Nat) : am_Hp := (hp_T M, hp_N M, hp_I M, hp_R M, hp_E M, va_up (hp_Q M) a f, hp_L M, hp_D M)
theorem hp_sQ_sW (M : am_Hp) (a k v : Nat) : hp_sQ M a k v = hp_sW M a (va_up (hp_Q M a) k v) := by
  have : hp_u (hp_Q M) a k v = va_up (hp_Q M) a (va_up (hp_Q M a) k v) := by
    funext x y
    unfold hp_u va_up
    by_cases h : x = a
    · subst h; by_cases h2 : y = k <;> simp [h2]
    · simp [h]
  unfold hp_sQ hp_sW
  rw [this]
theorem hp_sW_sW (M : am_Hp) (a : Nat) (f g : Nat → Nat) : hp_sW (hp_sW M a f) a g = hp_sW M a g := by
  unfold hp_sW
  show (_, _, _, _, _, va_up (va_up (hp_Q M) a f) a g, _) = _
  rw [up_up]
  rfl
theorem hp_sW_id (M : am_Hp) (a : Nat) : hp_sW M a (hp_Q M a) = M := by
  unfold hp_sW
  rw [up_id]
  rfl
theorem hp_Q_sW (M : am_Hp) (a : Nat) (f : Nat → Nat) : hp_Q (hp_sW M a f) a = f := up_e _ _ _
theorem hp_Q_sW' (M : am_Hp) {a b : Nat} (f : Nat → Nat) (h : b ≠ a) : hp_Q (hp_sW M a f) b = hp_Q M b := up_n _ _ h
theorem hp_T_sW (M : am_Hp) (a : Nat) (f : Nat → Nat) : hp_T (hp_sW M a f) = hp_T M := rfl
theorem hp_N_sW (M : am_Hp) (a : Nat) (f : Nat → Nat) : hp_N (hp_sW M a f) = hp_N M := rfl
theorem hp_R_sW (M : am_Hp) (a : Nat) (f : Nat → Nat) : hp_R (hp_sW M a f) = hp_R M := rfl
theorem hp_I_sW (M : am_Hp) (a : Nat) (f : Nat → Nat) : hp_I (hp_sW M a f) = hp_I M := rfl
/-- the places from p on, shifted up to j -/
def qsh (Q : Nat → Nat) (p j : Nat) : Nat → Nat := fun k => if p ≤ k ∧ k < j then Q (k + 1) else Q k
theorem qsh_0 (Q : Nat → Nat) (p : Nat) : qsh Q p p = Q := by
  funext k
  unfold qsh
  rw [if_neg (by omega)]
theorem qsh_s (Q : Nat → Nat) {p j : Nat} (h : p ≤ j) : va_up (qsh Q p j) j (Q (j + 1)) = qsh Q p (j + 1) := by
  funext k
  unfold va_up qsh
  by_cases e : k = j
  · subst e
    rw [if_pos rfl, if_pos (by omega)]
  · rw [if_neg e]
    by_cases h2 : p ≤ k ∧ k < j
    · rw [if_pos h2, if_pos (by omega)]
    · rw [if_neg h2, if_neg (by omega)]
theorem bR_drop {M : am_Hp} {B : Nat → Nat} {g : md_R} {p n : Nat} (hR : bR M B g) (ok : md_ok g) (hn : md_n g = n + 1) (hp : p ≤ n) (h0 : g (99 + p) = 0) : bR (hp_sW (hp_sI M 3 (B 0) (i3 n)) (B 2) (va_up (qsh (hp_Q M (B 2)) p n) n (hp_Q M (B 2) p))) B (md_dr g p) := by
  have h12 := ok.2
  obtain ⟨r1, r2, r3, r4, r5, r6⟩ := hR
  have hJ := r1.2.2.2.2
  have n12 : B 1 ≠ B 2 := fun z => absurd (hJ _ _ (by omega) (by omega) z) (by omega)
  obtain ⟨q1, q2, q3⟩ := r2
  have e1 : g 1 = i3 (n + 1) := by rw [ok.1, hn]
  have en : md_n (md_dr g p) = n := md_n_of (md_dr_n e1) (by omega)
  have eJ : ∀ j, va_up (qsh (hp_Q M (B 2)) p n) n (hp_Q M (B 2) p) j = hp_Q M (B 2) (if j = n then p else if p ≤ j ∧ j < n then j + 1 else j) := by
    intro j
    unfold va_up qsh
    by_cases h1 : j = n
    · rw [if_pos h1, if_pos h1]
    · rw [if_neg h1, if_neg h1]
      by_cases h2 : p ≤ j ∧ j < n
      · rw [if_pos h2, if_pos h2]
      · rw [if_neg h2, if_neg h2]
  have hz : ∀ c, md_ldf g c p = 0 ∧ md_isf g c p = 0 := fun c => by
    unfold md_ldf md_isf
    rw [md_in_no h0]
    exact ⟨rfl, rfl⟩
  refine ⟨r1, ⟨fun c hc => ?_, fun j hj => ?_, fun j k hj hk e => ?_⟩, ?_, fun c hc => ?_, fun q hq => ?_, ?_⟩
  · rw [hp_Q_sW' _ _ n12]; exact q1 c hc
  · rw [hp_Q_sW, eJ]
    refine q2 _ ?_
    split
    · omega
    · split <;> omega
  · rw [hp_Q_sW, eJ, eJ] at e
    have := q3 _ _ (by split <;> (try split) <;> omega) (by split <;> (try split) <;> omega) e
    split at this <;> split at this <;> (try split at this) <;> (try split at this) <;> omega
  · obtain ⟨h1, h2, h3, h4, h5, h6, h7⟩ := r3
    have o : ∀ k, k ≠ 1 → k < 27 → md_dr g p k = g k := fun k k1 k2 => md_dr_out k1 (by omega)
    unfold iR
    rw [md_dr_n e1, o 0 (by omega) (by omega), o 2 (by omega) (by omega), o 5 (by omega) (by omega), o 6 (by omega) (by omega), o 7 (by omega) (by omega), o 8 (by omega) (by omega)]
    simp (disch := omega) only [hp_I_sW, hp_T_sI, hp_N_sI, hp_R_sI, hp_E_sI, hp_Q_sI, hp_I_sI, hp_I_sIu, hp_T_sQ, hp_N_sQ, hp_R_sQ, hp_E_sQ, hp_I_sQ, hp_T_sA, hp_N_sA, hp_R_sA, hp_I_sA, hp_Q_sA, hp_E_sA, hp_sE_sA, h2, h3, h4, h5, h6, h7, true_and, and_true, eq_self]
  · refine cR_cg hc (fun u _ _ => ?_) (fun k hk => md_dr_out (by omega) (by omega)) ?_ ?_ (r4 c hc)
    · rw [hp_I_sW, hp_I_sIu _ _ _ _ (by omega)]
    · rw [md_ld_dr e1 (by omega) hp, (hz c).1, Int32.sub_zero]
    · rw [md_is_dr e1 (by omega) hp, (hz c).2, Int32.sub_zero]
  · rw [en] at hq
    rw [hp_Q_sW, eJ, if_neg (by omega)]
    by_cases h1 : q < p
    · rw [if_neg (by omega)]
      refine pR_cg (fun u _ _ => by rw [hp_I_sW, hp_I_sIu _ _ _ _ (by omega)]) (fun r hr => ?_) (r5 q (by omega))
      rw [md_dr_row hr (by omega), if_pos h1]
    · rw [if_pos (by omega)]
      refine pR_cg (fun u _ _ => by rw [hp_I_sW, hp_I_sIu _ _ _ _ (by omega)]) (fun r hr => ?_) (r5 (q + 1) (by omega))
      rw [md_dr_row hr (by omega), if_neg h1]
  · exact tR_cg rfl rfl (fun _ _ _ => rfl) (fun k hk => md_dr_out (by omega) (by omega)) r6
theorem bF_sW {B : Nat → Nat} {M : am_Hp} {f : Nat → Nat} : bF B M (hp_sW M (B 2) f) := ⟨⟨rfl, rfl, rfl, rfl, rfl⟩, fun b hb => ⟨fun u' => rfl, rfl, hp_Q_sW' M f (hb 2 (by omega))⟩⟩
theorem k_remove {G : am_Gx} {d : Nat} {M : am_Hp} {B : Nat → Nat} {g : md_R} {p : Nat} (hR : bR M B g) (ok : md_ok g) (hp : p < md_n g) (h0 : g (99 + p) = 0) : am_CT G (d + 1) rX0_remove [.ref (B 0), .int (i3 p)] M 0 0 (qb B M (g (27 + p)) (md_dr g p)) := by
  have h12 := ok.2
  obtain ⟨n, hn⟩ : ∃ n, md_n g = n + 1 := ⟨md_n g - 1, by omega⟩
  have hD := bR_drop hR ok hn (show p ≤ n by omega) h0
  have hR0 := hR
  obtain ⟨b0, u0, u1, u2, s1, m1, s2, m2, s3, u4, u5, u6, s4, s5, s6, m4, m5, m6, y0, y1, y2, y3, y4, y5, y6, qc, tc, zc, tp, zp, i3_, i4_, i5_, i6_, i7_, i8_, i9_, f20, f21, f22, f23, f24, f25, f26, f27, e60, e61, e62, e63, e64, e65, e66, l3_, l4_, lx, ly, lz⟩ := bR_f hR ok
  rw [hn] at i3_
  obtain ⟨N, hN⟩ : ∃ N, N = hp_sI M 3 (B 0) (i3 n) := ⟨_, rfl⟩
  have hNI : ∀ u a, u ≠ 3 → hp_I N u a = hp_I M u a := fun u a hu => by rw [hN]; exact hp_I_sIu _ _ _ _ hu
  have hNQ : hp_Q N = hp_Q M := by rw [hN]; rfl
  have hNT : hp_T N = hp_T M := by rw [hN]; rfl
  have hNR : hp_R N = hp_R M := by rw [hN]; rfl
  have hNN : hp_N N = hp_N M := by rw [hN]; rfl
  have hN3 : hp_I N 3 (B 0) = i3 n := by rw [hN]; exact hp_I_sI _ _ _ _
  have hNF : bF B M N := by rw [hN]; exact bF_sI (i := 0) (by omega) rfl
  rw [← hN] at hD
  have qtp := tp p (by omega)
  have qzp := zp p (by omega)
  have q60 := e60 p hp
  refine am_intro mkX0_remove rfl (Nat.le_of_ble_eq_true rfl) rfl (fun X hX hM => ?_)
  have L : ∀ k j, j + k = n → p ≤ j → am_J X 19 [(0, .ref (B 0)), (2, .ref (hp_Q M (B 2) p)), (3, .int (i3 j))] [] (hp_sW N (B 2) (qsh (hp_Q M (B 2)) p j)) 0 0 := by
    intro k
    induction k with
    | zero =>
      intro j hj hpj
      have e : j = n := by omega
      subst e
      refine vX0_remove_19 hX hM (fun x0 x2 x3 M => am_J X 19 [(0, .ref x0), (2, .ref x2), (3, .int x3)] [] M 0 0) (fun _ _ _ _ h => h) ?_
      simp (disch := omega) only [hp_T_sW, hp_N_sW, hp_R_sW, hp_I_sW, hNT, hNR, hNN, hN3, b0, u1, s2, m2, y2, qtp, qzp, hp_sQ_sW, hp_sW_sW, hp_Q_sW, forall_eq, Nat.reduceAdd, Nat.reduceMul, Nat.reduceEqDiff, Nat.reduceLeDiff, Nat.reduceSub, ne_eq, not_false_eq_true, not_true_eq_false, false_implies, true_implies, implies_true, true_and, and_true, eq_self, li0, li1, li2, li3, li4, li5, li6, li7, li8, li9, li10, li11, li12, li15, li18, li21, li22, li23, li24, li27, li30, li32, li39, li50, li51, li59, li60, li63, li75, li87, li90, li99, li100, li111, li121, li126, li131, li141, li150, li400, li900, li987, li1128, li240, i3_add, i3_toNat, vpt, bI_0, bI_1, bI_bo, Bool.not_eq_false, Bool.true_eq_false, Bool.false_eq_true, Bool.not_eq_true, i3_le', i3_lt', i3_eq']
      refine ⟨fun _ => ⟨?_, hD, hNF.trans bF_sW⟩, fun z => absurd (Nat.le_refl _) z⟩
      rw [hNI _ _ (by omega), q60]
    | succ k ih =>
      intro j hj hpj
      have I := ih (j + 1) (by omega) (by omega)
      rw [← qsh_s _ hpj] at I
      have qt := tp (j + 1) (by omega)
      have qz := zp (j + 1) (by omega)
      have eq : qsh (hp_Q M (B 2)) p j (j + 1) = hp_Q M (B 2) (j + 1) := by unfold qsh; rw [if_neg (by omega)]
      refine vX0_remove_19 hX hM (fun x0 x2 x3 M => am_J X 19 [(0, .ref x0), (2, .ref x2), (3, .int x3)] [] M 0 0) (fun _ _ _ _ h => h) ?_
      simp (disch := omega) only [hp_T_sW, hp_N_sW, hp_R_sW, hp_I_sW, hNT, hNR, hNN, hN3, b0, u1, s2, m2, y2, eq, qt, qz, hp_sQ_sW, hp_sW_sW, hp_Q_sW, forall_eq, Nat.reduceAdd, Nat.reduceMul, Nat.reduceEqDiff, Nat.reduceLeDiff, Nat.reduceSub, ne_eq, not_false_eq_true, not_true_eq_false, false_implies, true_implies, implies_true, true_and, and_true, eq_self, li0, li1, li2, li3, li4, li5, li6, li7, li8, li9, li10, li11, li12, li15, li18, li21, li22, li23, li24, li27, li30, li32, li39, li50, li51, li59, li60, li63, li75, li87, li90, li99, li100, li111, li121, li126, li131, li141, li150, li400, li900, li987, li1128, li240, i3_add, i3_toNat, vpt, bI_0, bI_1, bI_bo, Bool.not_eq_false, Bool.true_eq_false, Bool.false_eq_true, Bool.not_eq_true, i3_le', i3_lt', i3_eq']
      exact ⟨fun z => absurd z (by omega), fun _ => I⟩
  have I := L (n - p) p (by omega) (Nat.le_refl _)
  rw [qsh_0, ← hNQ, hp_sW_id, hNQ, hN] at I
  refine vX0_remove_0 hX hM (fun x0 x2 x3 M => am_J X 19 [(0, .ref x0), (2, .ref x2), (3, .int x3)] [] M 0 0) (fun _ _ _ _ h => h) ?_
  simp (disch := omega) only [b0, u1, s2, m2, y2, i3_, qtp, qzp, i3_sub, forall_eq, Nat.reduceAdd, Nat.reduceMul, Nat.reduceEqDiff, Nat.reduceLeDiff, Nat.reduceSub, ne_eq, not_false_eq_true, not_true_eq_false, false_implies, true_implies, implies_true, true_and, and_true, eq_self, li0, li1, li2, li3, li4, li5, li6, li7, li8, li9, li10, li11, li12, li15, li18, li21, li22, li23, li24, li27, li30, li32, li39, li50, li51, li59, li60, li63, li75, li87, li90, li99, li100, li111, li121, li126, li131, li141, li150, li400, li900, li987, li1128, li240, i3_add, i3_toNat, vpt, bI_0, bI_1, bI_bo, Bool.not_eq_false, Bool.true_eq_false, Bool.false_eq_true, Bool.not_eq_true, i3_le', i3_lt', i3_eq']
  exact I
/-! copies -/
theorem k_carCopy {G : am_Gx} {d : Nat} {M : am_Hp} {a b : Nat} (ta : hp_T M a = 2) (tb : hp_T M b = 2) (hab : b ≠ a) (hbo : am_bo (hp_I M 27 b)) : am_CT G (d + 1) rX1_copyFrom [.ref a, .ref b] M 0 0 (qv (hp_sI (hp_sI (hp_sI (hp_sI (hp_sI (hp_sI (hp_sI (hp_sI M 20 a (hp_I M 20 b)) 21 a (hp_I M 21 b)) 22 a (hp_I M 22 b)) 23 a (hp_I M 23 b)) 24 a (hp_I M 24 b)) 25 a (hp_I M 25 b)) 26 a (hp_I M 26 b)) 27 a (hp_I M 27 b))) := by
  refine am_intro mkX1_copyFrom rfl (Nat.le_of_ble_eq_true rfl) rfl (fun X hX hM => ?_)
  refine vX1_copyFrom_0 hX hM ?_
  simp (disch := omega) only [ta, tb, hp_T_sI, hp_I_sIa _ _ _ _ hab, forall_eq, true_and]
  exact ⟨hbo, rfl, rfl⟩
theorem k_pasCopy {G : am_Gx} {d : Nat} {M : am_Hp} {a b : Nat} (ta : hp_T M a = 4) (tb : hp_T M b = 4) (hab : b ≠ a) (hbo : am_bo (hp_I M 66 b)) : am_CT G (d + 1) rX3_copyFrom [.ref a, .ref b] M 0 0 (qv (hp_sI (hp_sI (hp_sI (hp_sI (hp_sI (hp_sI (hp_sI M 60 a (hp_I M 60 b)) 61 a (hp_I M 61 b)) 62 a (hp_I M 62 b)) 63 a (hp_I M 63 b)) 64 a (hp_I M 64 b)) 65 a (hp_I M 65 b)) 66 a (hp_I M 66 b))) := by
  refine am_intro mkX3_copyFrom rfl (Nat.le_of_ble_eq_true rfl) rfl (fun X hX hM => ?_)
  refine vX3_copyFrom_0 hX hM ?_
  simp (disch := omega) only [ta, tb, hp_T_sI, hp_I_sIa _ _ _ _ hab, forall_eq, true_and]
  exact ⟨hbo, rfl, rfl⟩
theorem bR_frame {M M' : am_Hp} {B C : Nat → Nat} {g : md_R} (hd : ∀ i j, i < 22 → j < 22 → C i ≠ B j) (hF : bF B M M') (ok : md_ok g) (hR : bR M C g) : bR M' C g := by
  have h12 := ok.2
  obtain ⟨r1, r2, r3, r4, r5, r6⟩ := hR
  have hc : ∀ i, i < 22 → (∀ u, hp_I M' u (C i) = hp_I M u (C i)) ∧ hp_E M' (C i) = hp_E M (C i) ∧ hp_Q M' (C i) = hp_Q M (C i) := fun i hi => hF.2 _ (fun j hj => hd i j hi hj)
  obtain ⟨q1, q2, q3⟩ := r2
  refine ⟨bL_sk r1 hF.1, ⟨fun c hc3 => by rw [(hc 1 (by omega)).2.2]; exact q1 c hc3, fun i hi => by rw [(hc 2 (by omega)).2.2]; exact q2 i hi, fun i j hi hj h => by rw [(hc 2 (by omega)).2.2] at h; exact q3 i j hi hj h⟩, iR_cg (fun u _ _ => (hc 0 (by omega)).1 u) (fun _ _ => rfl) r3, fun c hc3 => cR_cg hc3 (fun u _ _ => (hc _ (by omega)).1 u) (fun _ _ => rfl) rfl rfl (r4 c hc3), fun p hp => ?_, tR_cg ((hc 3 (by omega)).1 _) ((hc 3 (by omega)).1 _) (fun i _ _ => (hc i (by omega)).2.1) (fun _ _ => rfl) r6⟩
  rw [(hc 2 (by omega)).2.2]
  obtain ⟨k, hk, e⟩ := q2 p (by omega)
  have := r5 p hp
  rw [e] at this ⊢
  exact pR_cg (fun u _ _ => (hc _ (by omega)).1 u) (fun _ _ => rfl) this
theorem bR_row {M : am_Hp} {B : Nat → Nat} {g h : md_R} (ok : md_ok g) (e : ∀ k, k < 141 → h k = g k) (hR : bR M B g) : bR M B h := by
  have h12 := ok.2
  obtain ⟨r1, r2, r3, r4, r5, r6⟩ := hR
  refine ⟨r1, r2, iR_cg (fun _ _ _ => rfl) (fun k hk => e k (by omega)) r3, fun c hc => cR_cg hc (fun _ _ _ => rfl) (fun k hk => e k (by omega)) (md_ld_cg h12 (fun k hk => e k (by omega))) (md_is_cg h12 (fun k hk => e k (by omega))) (r4 c hc), fun p hp => ?_, tR_cg rfl rfl (fun _ _ _ => rfl) (fun k hk => e k (by omega)) r6⟩
  rw [md_n_eq (e 1 (by omega))] at hp
  exact pR_cg (fun _ _ _ => rfl) (fun r hr => e _ (by omega)) (r5 p hp)
def pTrip (B : Nat → Nat) (M : am_Hp) (g : md_R) : am_Q := fun o M' => o = .inl none ∧ tR M' B g ∧ sk M M' ∧ hp_Q M' = hp_Q M ∧ (∀ u a, (u ≠ 103 ∧ u ≠ 104) ∨ a ≠ B 3 → hp_I M' u a = hp_I M u a) ∧ ∀ a, a ≠ B 4 → a ≠ B 5 → a ≠ B 6 → hp_E M' a = hp_E M a
theorem k_tripCopy {G : am_Gx} {d : Nat} {M : am_Hp} {B C : Nat → Nat} {g : md_R} (hB : bL M B) (hC : bL M C) (hd : ∀ i j, i < 22 → j < 22 → C i ≠ B j) (hT : tR M C g) : am_CT G (d + 1) rX5_copyFrom [.ref (B 3), .ref (C 3)] M 0 0 (pTrip B M g) := by
  have hJ := hB.2.2.2.2
  have hz := hB.2.2.2.1
  have hzC := hC.2.2.2.1
  obtain ⟨⟨a0, a1, a2, a3, a4, a5, a6, a7, a8, a9, a10, a11, a12, a13, a14, a15, a16, a17⟩, -⟩ := hB
  obtain ⟨⟨c0, c1, c2, c3, c4, c5, c6, c7, c8, c9, c10, c11, c12, c13, c14, c15, c16, c17⟩, -⟩ := hC
  obtain ⟨v1, v2, v3, v4, v5⟩ := hT
  have n54 : B 5 ≠ B 4 := fun z => absurd (hJ _ _ (by omega) (by omega) z) (by omega)
  have n64 : B 6 ≠ B 4 := fun z => absurd (hJ _ _ (by omega) (by omega) z) (by omega)
  have n65 : B 6 ≠ B 5 := fun z => absurd (hJ _ _ (by omega) (by omega) z) (by omega)
  have m33 := hd 3 3 (by omega) (by omega)
  have m44 := hd 4 4 (by omega) (by omega)
  have m54 := hd 5 4 (by omega) (by omega)
  have m64 := hd 6 4 (by omega) (by omega)
  have m55 := hd 5 5 (by omega) (by omega)
  have m65 := hd 6 5 (by omega) (by omega)
  have m66 := hd 6 6 (by omega) (by omega)
  have z4 := hz 4 (by omega)
  have z5 := hz 5 (by omega)
  have z6 := hz 6 (by omega)
  have y4 := hzC 4 (by omega)
  have y5 := hzC 5 (by omega)
  have y6 := hzC 6 (by omega)
  have l10 : ((10 : Int32)).toNatClampNeg = 10 := rfl
  have l0 : ((0 : Int32)).toNatClampNeg = 0 := rfl
  have d1 : ¬ (0 : Int32) < 0 := by decide
  have d2 : ¬ (10 : Int32) < 0 := by decide
  refine am_intro mkX5_copyFrom rfl (Nat.le_of_ble_eq_true rfl) rfl (fun X hX hM => ?_)
  refine vX5_copyFrom_0 hX hM ?_
  simp (disch := omega) only [a8, a9, a10, a11, a12, a13, a14, a15, a16, a17, c8, c9, c10, c11, c12, c13, c14, c15, c16, c17, z4, z5, z6, y4, y5, y6, l10, l0, d1, d2, hp_T_sI, hp_N_sI, hp_R_sI, hp_E_sI, hp_Q_sI, hp_I_sI, hp_I_sIu, hp_T_sQ, hp_N_sQ, hp_R_sQ, hp_E_sQ, hp_I_sQ, hp_T_sA, hp_N_sA, hp_R_sA, hp_I_sA, hp_Q_sA, hp_E_sA, hp_sE_sA, hp_E_sA' _ _ n54, hp_E_sA' _ _ n64, hp_E_sA' _ _ n65, hp_E_sA' _ _ m44, hp_E_sA' _ _ m54, hp_E_sA' _ _ m64, hp_E_sA' _ _ m55, hp_E_sA' _ _ m65, hp_E_sA' _ _ m66, hp_I_sIa _ _ _ _ m33, forall_eq, ne_eq, not_false_eq_true, true_and, Nat.zero_add, Nat.le_refl]
  unfold pTrip
  refine ⟨rfl, ?_, ⟨rfl, rfl, rfl, rfl, rfl⟩, rfl, fun u a h => ?_, fun a h4 h5 h6 => ?_⟩
  · have cp : ∀ (f f' : md_R) k, k < 10 → va_cpy f f' 0 0 10 k = f k := fun f f' k hk => by
      unfold va_cpy
      simp [hk]
    unfold tR
    simp (disch := omega) only [hp_T_sI, hp_N_sI, hp_R_sI, hp_E_sI, hp_Q_sI, hp_I_sI, hp_I_sIu, hp_T_sQ, hp_N_sQ, hp_R_sQ, hp_E_sQ, hp_I_sQ, hp_T_sA, hp_N_sA, hp_R_sA, hp_I_sA, hp_Q_sA, hp_E_sA, hp_sE_sA, hp_E_sA' _ _ n54.symm, hp_E_sA' _ _ n64.symm, hp_E_sA' _ _ n65.symm, hp_E_sA' _ _ n54, hp_E_sA' _ _ n64, hp_E_sA' _ _ n65, v1, v2, true_and]
    exact ⟨fun k hk => (cp _ _ k hk).trans (v3 k hk), fun k hk => (cp _ _ k hk).trans (v4 k hk), fun k hk => (cp _ _ k hk).trans (v5 k hk)⟩
  · rcases h with h | h
    · rw [hp_I_sIu _ _ _ _ (by omega), hp_I_sIu _ _ _ _ (by omega)]
      rfl
    · rw [hp_I_sIa _ _ _ _ h, hp_I_sIa _ _ _ _ h]
      rfl
  · rw [hp_E_sI, hp_E_sI, hp_E_sA' _ _ h6, hp_E_sA' _ _ h5, hp_E_sA' _ _ h4]
/-- one building copied over another -/
theorem k_copy {G : am_Gx} {d : Nat} {M : am_Hp} {B C : Nat → Nat} {g : md_R} {T : Nat} (hB : bL M B) (hBq : bQ M B) (hd : ∀ i j, i < 22 → j < 22 → C i ≠ B j) (hR : bR M C g) (hw : md_wf T g) : am_CT G (d + 2) rX0_copyFrom [.ref (B 0), .ref (C 0)] M 0 0 (qw B M g) := by
  have ok := md_wf_ok hw
  have h12 := ok.2
  have hR0 := hR
  have hJ := hB.2.2.2.2
  have hz := hB.2.2.2.1
  have hB0 := hB
  obtain ⟨⟨a0, a1, a2, a3, a4, a5, a6, a7, a8, -⟩, a9, a10, -, -⟩ := hB
  have z1 := hz 1 (by omega)
  have z2 := hz 2 (by omega)
  have z3 := hz 3 (by omega)
  have wz : ∀ c, c < 3 → B (7 + c) ≠ 0 := fun c hc => hz _ (by omega)
  have fr : ∀ {N : am_Hp}, bF B M N → bR N C g := fun hF => bR_frame hd hF ok hR0
  refine am_intro mkX0_copyFrom rfl (Nat.le_of_ble_eq_true rfl) rfl (fun X hX hM => ?_)
  -- the passengers
  have L2 : ∀ k j N, j + k = md_n g → sk M N → hp_Q N = hp_Q M → bF B M N → (∀ c, c < 3 → cR N (B (7 + c)) g c) → (∀ p, p < j → pR N (hp_Q N (B 2) p) g p) → am_J X 30 [(0, .ref (B 0)), (1, .ref (C 0)), (2, .int (i3 j))] [] N 0 0 := by
    intro k
    induction k with
    | zero =>
      intro j N hj hs hq hF hC hP
      have hB1 := bL_sk hB0 hs
      have hR1 := fr hF
      have hR := hR1
      obtain ⟨b0, u0, u1, u2, s1, m1, s2, m2, s3, u4, u5, u6, s4, s5, s6, m4, m5, m6, y0, y1, y2, y3, y4, y5, y6, qc, tc, zc, tp, zp, i3_, i4_, i5_, i6_, i7_, i8_, i9_, f20, f21, f22, f23, f24, f25, f26, f27, e60, e61, e62, e63, e64, e65, e66, l3_, l4_, lx, ly, lz⟩ := bR_f hR ok
      refine vX0_copyFrom_30 hX hM (fun x0 x1 x2 M => am_J X 30 [(0, .ref x0), (1, .ref x1), (2, .int x2)] [] M 0 0) (fun _ _ _ _ h => h) ⟨b0, fun _ => ?_, fun z => absurd (show hp_I N 3 (C 0) ≤ i3 j by rw [i3_]; exact (i3_le (by omega) (by omega)).mpr (by omega)) z⟩
      obtain ⟨⟨x0, x1, x2, x3, x4, x5, x6, x7, x8, -⟩, -⟩ := hB1
      simp (disch := omega) only [x0, x3, x8, z3, u2, y3, forall_eq, ne_eq, not_false_eq_true, true_and]
      refine am_CT.mono ?_ (k_tripCopy (g := g) (bL_sk hB0 hs) hR1.1 hd hR1.2.2.2.2.2)
      rintro o M1 ⟨rfl, p1, p2, p3, p4, p5⟩
      have i1 : ∀ u, u < 100 → ∀ a, hp_I M1 u a = hp_I N u a := fun u hu a => p4 u a (Or.inl ⟨by omega, by omega⟩)
      have cb : C 0 ≠ B 0 := hd 0 0 (by omega) (by omega)
      refine ⟨rfl, ?_⟩
      simp (disch := omega) only [p2.1, b0, x0, hp_T_sI, hp_N_sI, hp_R_sI, hp_E_sI, hp_Q_sI, hp_I_sI, hp_I_sIu, hp_T_sQ, hp_N_sQ, hp_R_sQ, hp_E_sQ, hp_I_sQ, hp_T_sA, hp_N_sA, hp_R_sA, hp_I_sA, hp_Q_sA, hp_E_sA, hp_sE_sA, i1, hp_I_sIa _ _ _ _ cb, i3_, i4_, i5_, i6_, i7_, i8_, i9_, forall_eq, true_and]
      have nb : ∀ {K : am_Hp} {u u' a : Nat} {v : Int32}, u' ≠ u → hp_I (hp_sI K u (B 0) v) u' a = hp_I K u' a := fun h => hp_I_sIu _ _ _ _ h
      refine ⟨rfl, ⟨bL_sk hB0 (hs.trans p2), bQ_eq hBq (p3.trans hq), ?_, fun c hc => ?_, fun p hp => ?_, ?_⟩, ?_⟩
      · unfold iR
        simp (disch := omega) only [hp_T_sI, hp_N_sI, hp_R_sI, hp_E_sI, hp_Q_sI, hp_I_sI, hp_I_sIu, hp_T_sQ, hp_N_sQ, hp_R_sQ, hp_E_sQ, hp_I_sQ, hp_T_sA, hp_N_sA, hp_R_sA, hp_I_sA, hp_Q_sA, hp_E_sA, hp_sE_sA, ok.1, true_and, and_true, eq_self]
      · refine cR_cg hc (fun u _ _ => ?_) (fun _ _ => rfl) rfl rfl (hC c hc)
        rw [nb (by omega), nb (by omega), nb (by omega), nb (by omega), nb (by omega), nb (by omega), nb (by omega), i1 u (by omega)]
      · rw [hp_Q_sI, hp_Q_sI, hp_Q_sI, hp_Q_sI, hp_Q_sI, hp_Q_sI, hp_Q_sI, p3]
        refine pR_cg (fun u _ _ => ?_) (fun _ _ => rfl) (hP p (by omega))
        rw [nb (by omega), nb (by omega), nb (by omega), nb (by omega), nb (by omega), nb (by omega), nb (by omega), i1 u (by omega)]
      · exact tR_cg (by rw [nb (by omega), nb (by omega), nb (by omega), nb (by omega), nb (by omega), nb (by omega), nb (by omega)]) (by rw [nb (by omega), nb (by omega), nb (by omega), nb (by omega), nb (by omega), nb (by omega), nb (by omega)]) (fun _ _ _ => rfl) (fun _ _ => rfl) p1
      · have f1 : bF B N M1 := ⟨p2, fun a ha => ⟨fun u => p4 u a (Or.inr (ha 3 (by omega))), p5 a (ha 4 (by omega)) (ha 5 (by omega)) (ha 6 (by omega)), by rw [p3]⟩⟩
        have fb : ∀ {N : am_Hp} {u : Nat} {v : Int32}, bF B N (hp_sI N u (B 0) v) := bF_sI (i := 0) (by omega) rfl
        exact hF.trans (f1.trans (fb.trans (fb.trans (fb.trans (fb.trans (fb.trans (fb.trans fb)))))))
    | succ k ih =>
      intro j N hj hs hq hF hC hP
      have hB1 := bL_sk hB0 hs
      have hR1 := fr hF
      have hR := hR1
      obtain ⟨b0, u0, u1, u2, s1, m1, s2, m2, s3, u4, u5, u6, s4, s5, s6, m4, m5, m6, y0, y1, y2, y3, y4, y5, y6, qc, tc, zc, tp, zp, i3_, i4_, i5_, i6_, i7_, i8_, i9_, f20, f21, f22, f23, f24, f25, f26, f27, e60, e61, e62, e63, e64, e65, e66, l3_, l4_, lx, ly, lz⟩ := bR_f hR ok
      have hj12 : j < md_n g := by omega
      obtain ⟨ka, hka, eka⟩ := hBq.2.1 j (by omega)
      obtain ⟨kb, hkb, ekb⟩ := hR1.2.1.2.1 j (by omega)
      have qtB := bQ_t hB1 (bQ_eq hBq hq) (show j < 12 by omega)
      have qtC := tp j (by omega)
      have qzC := zp j (by omega)
      rw [hq] at qtB
      obtain ⟨qtB1, qtB2⟩ := qtB
      obtain ⟨⟨x0, x1, x2, x3, x4, x5, x6, x7, x8, -⟩, -⟩ := hB1
      have hne : hp_Q N (C 2) j ≠ hp_Q M (B 2) j := by rw [ekb, eka]; exact hd _ _ (by omega) (by omega)
      have hbo : am_bo (hp_I N 66 (hp_Q N (C 2) j)) := by
        rw [e66 j hj12]
        exact (hw.2.2.1 j hj12).2.2.2.2.2.1
      have fp : ∀ {K : am_Hp} {u : Nat} {v : Int32}, bF B K (hp_sI K u (hp_Q M (B 2) j) v) := bF_sI (i := 10 + ka) (by omega) eka
      refine vX0_copyFrom_30 hX hM (fun x0 x1 x2 M => am_J X 30 [(0, .ref x0), (1, .ref x1), (2, .int x2)] [] M 0 0) (fun _ _ _ _ h => h) ⟨b0, fun z => absurd ((i3_le (by omega) (by omega)).mp (i3_ ▸ z)) (by omega), fun _ => ?_⟩
      rw [hq] at hne hbo qtC qzC e60 e61 e62 e63 e64 e65 e66 hP ⊢
      simp (disch := omega) only [x0, x2, x6, x7, z2, u1, s2, m2, y2, qtB1, qtB2, qtC, qzC, forall_eq, ne_eq, not_false_eq_true, true_and, i3_toNat, vpt]
      refine ct_v (k_pasCopy qtB1 qtC hne hbo) ?_
      rw [e60 j hj12, e61 j hj12, e62 j hj12, e63 j hj12, e64 j hj12, e65 j hj12, e66 j hj12]
      rw [i3_one]
      refine ih (j + 1) _ (by omega) (hs.trans ⟨rfl, rfl, rfl, rfl, rfl⟩) hq (hF.trans (fp.trans (fp.trans (fp.trans (fp.trans (fp.trans (fp.trans fp))))))) (fun c hc => ?_) (fun p hp => ?_)
      · refine cR_cg hc (fun u _ _ => ?_) (fun _ _ => rfl) rfl rfl (hC c hc)
        rw [hp_I_sIu _ _ _ _ (by omega), hp_I_sIu _ _ _ _ (by omega), hp_I_sIu _ _ _ _ (by omega), hp_I_sIu _ _ _ _ (by omega), hp_I_sIu _ _ _ _ (by omega), hp_I_sIu _ _ _ _ (by omega), hp_I_sIu _ _ _ _ (by omega)]
      · rw [hp_Q_sI, hp_Q_sI, hp_Q_sI, hp_Q_sI, hp_Q_sI, hp_Q_sI, hp_Q_sI]
        by_cases e : p = j
        · rw [e]
          unfold pR
          simp (disch := omega) only [hp_T_sI, hp_N_sI, hp_R_sI, hp_E_sI, hp_Q_sI, hp_I_sI, hp_I_sIu, hp_T_sQ, hp_N_sQ, hp_R_sQ, hp_E_sQ, hp_I_sQ, hp_T_sA, hp_N_sA, hp_R_sA, hp_I_sA, hp_Q_sA, hp_E_sA, hp_sE_sA, hq, true_and, and_true, eq_self]
        · rw [hq]
          refine pR_cg (fun u _ _ => ?_) (fun _ _ => rfl) (hP p (by omega))
          have ne : hp_Q M (B 2) p ≠ hp_Q M (B 2) j := fun z => e (hBq.2.2 _ _ (by omega) (by omega) z)
          rw [hp_I_sIa _ _ _ _ ne, hp_I_sIa _ _ _ _ ne, hp_I_sIa _ _ _ _ ne, hp_I_sIa _ _ _ _ ne, hp_I_sIa _ _ _ _ ne, hp_I_sIa _ _ _ _ ne, hp_I_sIa _ _ _ _ ne]
  have L1 : ∀ k j N, j + k = 3 → sk M N → hp_Q N = hp_Q M → bF B M N → (∀ c, c < j → cR N (B (7 + c)) g c) → am_J X 2 [(0, .ref (B 0)), (1, .ref (C 0)), (2, .int (i3 j))] [] N 0 0 := by
    intro k
    induction k with
    | zero =>
      intro j N hj hs hq hF hC
      have e : j = 3 := by omega
      subst e
      exact vX0_copyFrom_2 hX hM (fun x0 x1 x2 M => am_J X 2 [(0, .ref x0), (1, .ref x1), (2, .int x2)] [] M 0 0) (fun _ _ _ _ h => h) (fun x0 x1 x2 M => am_J X 30 [(0, .ref x0), (1, .ref x1), (2, .int x2)] [] M 0 0) (fun _ _ _ _ h => h) ⟨fun _ => L2 (md_n g) 0 N (by omega) hs hq hF hC (fun p hp => absurd hp (Nat.not_lt_zero p)), fun z => absurd (Int32.le_refl _) z⟩
    | succ k ih =>
      intro j N hj hs hq hF hC
      have hB1 := bL_sk hB0 hs
      have hR1 := fr hF
      have hR := hR1
      obtain ⟨b0, u0, u1, u2, s1, m1, s2, m2, s3, u4, u5, u6, s4, s5, s6, m4, m5, m6, y0, y1, y2, y3, y4, y5, y6, qc, tc, zc, tp, zp, i3_, i4_, i5_, i6_, i7_, i8_, i9_, f20, f21, f22, f23, f24, f25, f26, f27, e60, e61, e62, e63, e64, e65, e66, l3_, l4_, lx, ly, lz⟩ := bR_f hR ok
      have hq1 : hp_Q N (B 1) j = B (7 + j) := by rw [hq]; exact hBq.1 j (by omega)
      obtain ⟨⟨x0, x1, x2, x3, x4, x5, x6, x7, x8, -⟩, x9, -⟩ := hB1
      have hne : C (7 + j) ≠ B (7 + j) := hd _ _ (by omega) (by omega)
      have hbo : am_bo (hp_I N 27 (C (7 + j))) := by
        rw [f27 j (by omega)]
        exact of_eq_true (bI_bo _)
      have x9j := x9 j (by omega)
      have wzj := wz j (by omega)
      have fp : ∀ {K : am_Hp} {u : Nat} {v : Int32}, bF B K (hp_sI K u (B (7 + j)) v) := bF_sI (i := 7 + j) (by omega) rfl
      refine vX0_copyFrom_2 hX hM (fun x0 x1 x2 M => am_J X 2 [(0, .ref x0), (1, .ref x1), (2, .int x2)] [] M 0 0) (fun _ _ _ _ h => h) (fun x0 x1 x2 M => am_J X 30 [(0, .ref x0), (1, .ref x1), (2, .int x2)] [] M 0 0) (fun _ _ _ _ h => h) ⟨fun z => absurd ((i3_le (b := j) (a := 3) (by omega) (by omega)).mp z) (by omega), fun _ => ?_⟩
      simp (disch := omega) only [x0, x1, x4, x5, z1, b0, u0, s1, m1, y1, qc, zc, tc, hq1, x9j, wzj, forall_eq, ne_eq, not_false_eq_true, true_and, i3_toNat, vpt]
      refine ct_v (k_carCopy x9j (tc j (by omega)) hne hbo) ?_
      rw [f20 j (by omega), f21 j (by omega), f22 j (by omega), f23 j (by omega), f24 j (by omega), f25 j (by omega), f26 j (by omega), f27 j (by omega)]
      rw [i3_one]
      refine ih (j + 1) _ (by omega) (hs.trans ⟨rfl, rfl, rfl, rfl, rfl⟩) hq (hF.trans (fp.trans (fp.trans (fp.trans (fp.trans (fp.trans (fp.trans (fp.trans fp)))))))) (fun c hc => ?_)
      by_cases e : c = j
      · rw [e]
        unfold cR
        simp (disch := omega) only [hp_T_sI, hp_N_sI, hp_R_sI, hp_E_sI, hp_Q_sI, hp_I_sI, hp_I_sIu, hp_T_sQ, hp_N_sQ, hp_R_sQ, hp_E_sQ, hp_I_sQ, hp_T_sA, hp_N_sA, hp_R_sA, hp_I_sA, hp_Q_sA, hp_E_sA, hp_sE_sA, true_and, and_true, eq_self]
      · refine cR_cg (by omega) (fun u _ _ => ?_) (fun _ _ => rfl) rfl rfl (hC c (by omega))
        have ne : B (7 + c) ≠ B (7 + j) := fun z => e (by have := hJ _ _ (by omega) (by omega) z; omega)
        rw [hp_I_sIa _ _ _ _ ne, hp_I_sIa _ _ _ _ ne, hp_I_sIa _ _ _ _ ne, hp_I_sIa _ _ _ _ ne, hp_I_sIa _ _ _ _ ne, hp_I_sIa _ _ _ _ ne, hp_I_sIa _ _ _ _ ne, hp_I_sIa _ _ _ _ ne]
  exact vX0_copyFrom_0 hX hM (fun x0 x1 x2 M => am_J X 2 [(0, .ref x0), (1, .ref x1), (2, .int x2)] [] M 0 0) (fun _ _ _ _ h => h) (L1 3 0 M (by omega) (sk.rf M) rfl (bF.rf B M) (fun c hc => absurd hc (Nat.not_lt_zero c)))
