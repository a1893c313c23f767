/-! .. the next stop, searches, changes and the history, undo, snapshots -/
theorem md_ch_dir {T : Nat} {g : md_R} {c : Nat} (hw : md_wf T g) (hc : c < 3) : md_ch g c = 0 ∨ md_ch g c = 1 ∨ md_ch g c = -1 := by
  have hd := (hw.2.1 c hc).2.1
  unfold md_ch
  split
  · split
    · exact .inr (.inl rfl)
    · split
      · exact .inr (.inr rfl)
      · exact .inl rfl
  · split
    · rename_i z
      rcases hd with q | q | q
      · exact absurd q z
      · exact .inr (.inl q)
      · exact .inr (.inr q)
    · split
      · exact .inr (.inl rfl)
      · exact .inr (.inr rfl)
theorem md_sum_nn {f : Nat → Bool} : ∀ n, n < 1000 → ∃ s, s ≤ n ∧ md_sum (fun i => bI (f i)) n = i3 s ∧ (s = 0 → ∀ i, i < n → f i = false)
  | 0, _ => ⟨0, Nat.le_refl _, rfl, fun _ i hi => absurd hi (Nat.not_lt_zero i)⟩
  | n + 1, hn => by
    obtain ⟨s, h1, h2, h3⟩ := md_sum_nn (f := f) n (by omega)
    cases hf : f n with
    | false =>
      refine ⟨s, by omega, ?_, fun z i hi => ?_⟩
      · rw [md_sum_s, h2, hf]; exact Int32.add_zero _
      · by_cases e : i = n
        · rw [e]; exact hf
        · exact h3 z i (by omega)
    | true =>
      refine ⟨s + 1, by omega, ?_, fun z => absurd z (by omega)⟩
      rw [md_sum_s, h2, hf]
      exact i3_add s 1
/-- where a car has a stop and stands at none, it chooses a direction -/
theorem md_ch_some {T : Nat} {g : md_R} {c : Nat} (hw : md_wf T g) (hc : c < 3) (hs : md_st g c (g (9 + c)) = false) (h : ¬ md_sc g c = i3 0) : md_ch g c = 1 ∨ md_ch g c = -1 := by
  obtain ⟨f, hf9, hf⟩ := md_wf_fl hw hc
  rcases md_ch_dir hw hc with z | z | z
  · exfalso
    have b : ∀ r, md_nr g c r < 10 := fun r => by
      rcases md_go_le (md_hit g c r) 9 1 with q | ⟨-, q, -⟩
      · unfold md_nr; omega
      · unfold md_nr; omega
    apply h
    have none : md_nr g c 1 = 0 ∧ md_nr g c (-1) = 0 := by
      unfold md_ch at z
      split at z
      · split at z
        · exact absurd z (by decide)
        · split at z
          · exact absurd z (by decide)
          · omega
      · split at z
        · rename_i q; exact absurd z q
        · split at z
          · exact absurd z (by decide)
          · exact absurd z (by decide)
    have hall : ∀ k, k < 10 → md_st g c (i3 k) = false := fun k hk => by
      rcases Nat.lt_trichotomy k f with hq | hq | hq
      · have h3 := md_go_zero 9 1 (by omega) none.2 (f - k) (by omega) (by omega)
        unfold md_hit at h3
        rw [hf, (md_fl_dn hf9 (by omega)).2, (md_fl_dn hf9 (by omega)).1 (by omega), decide_eq_true (by omega), show f - (f - k) = k by omega] at h3
        exact h3
      · rw [hq, ← hf]; exact hs
      · have h3 := md_go_zero 9 1 (by omega) none.1 (k - f) (by omega) (by omega)
        unfold md_hit at h3
        rw [hf, (md_fl_up hf9 (by omega)).2, (md_fl_up hf9 (by omega)).1, decide_eq_true (by omega), show f + (k - f) = k by omega] at h3
        exact h3
    unfold md_sc
    have : ∀ n, n ≤ 10 → md_sum (fun f => bI (md_st g c (i3 f))) n = i3 0 := by
      intro n
      induction n with
      | zero => intro _; rfl
      | succ n ih => intro hn; rw [md_sum_s, ih (by omega), hall n (by omega)]; rfl
    exact this 10 (Nat.le_refl _)
  · exact .inl z
  · exact .inr z
theorem c_nextStop {G : am_Gx} {d : Nat} {M : am_Hp} {A : Nat → Nat} {g : md_R} {T : Nat} {v : Int32} (h : mL M A) (hg : hp_E M (A 1) = g) (hw : md_wf T g) : am_CT G (d + 5) rX7_nextStop [.ref (A 0), .int v] M 0 0 (qa (sq_next g v) M A) := by
  have h0 := h
  have ok := md_wf_ok hw
  obtain ⟨t0, r1, r2, r3, r4, r5, r6, r7, r8, t1, t2, t3, t4, t5, t6, t7, t8, n1, n2, n3, n4, n5, n6, n7, n8, z1, z2, z3, z4, z5, z6, z7, z8, hJ⟩ := h
  refine am_intro mkX7_nextStop rfl (Nat.le_of_ble_eq_true rfl) rfl (fun X hX hM => ?_)
  refine vX7_nextStop_0 hX hM ?_
  refine ct_i c_isCar ?_
  simp (disch := omega) only [t0, r1, r2, r3, r4, r5, r6, r7, r8, t1, t2, t3, t4, t5, t6, t7, t8, n1, n2, n3, n4, n5, n6, n7, n8, z1, z2, z3, z4, z5, z6, z7, z8, forall_eq, Nat.reduceAdd, Nat.reduceMul, Nat.reduceEqDiff, Nat.reduceLeDiff, Nat.reduceSub, ne_eq, not_false_eq_true, not_true_eq_false, false_implies, true_implies, implies_true, true_and, and_true, eq_self, li0, li1, li2, li3, li4, li5, li6, li7, li8, li9, li10, li11, li12, li15, li18, li21, li22, li23, li24, li27, li30, li32, li39, li50, li51, li59, li60, li63, li75, li87, li90, li99, li100, li111, li121, li126, li131, li141, li150, li400, li900, li987, li1128, li240, i3_add, i3_toNat, vpt, bI_0, bI_1, bI_bo, Bool.not_eq_false, Bool.true_eq_false, Bool.false_eq_true, Bool.not_eq_true, i3_le', i3_lt', i3_eq', hp_sE_sA, hp_sA_sA, hp_E_sA, hp_T_sA, hp_N_sA, hp_R_sA, hp_I_sA, hp_T_sI, hp_N_sI, hp_R_sI, hp_E_sI, hp_I_sI, hp_sA_sI, hp_sI_sI, hg]
  refine ⟨fun a1 => ct_i (c_fails h0) (qa_e (by unfold sq_next; rw [if_neg (by rw [a1]; decide)])), fun a1 => ?_⟩
  obtain ⟨c, hc, rfl⟩ := md_ic_iff.mp a1
  obtain ⟨f, hf9, hf⟩ := md_wf_fl hw hc
  refine ct_i (c_countStops h0 hg ok) ?_
  simp (disch := omega) only [t0, r1, r2, r3, r4, r5, r6, r7, r8, t1, t2, t3, t4, t5, t6, t7, t8, n1, n2, n3, n4, n5, n6, n7, n8, z1, z2, z3, z4, z5, z6, z7, z8, forall_eq, Nat.reduceAdd, Nat.reduceMul, Nat.reduceEqDiff, Nat.reduceLeDiff, Nat.reduceSub, ne_eq, not_false_eq_true, not_true_eq_false, false_implies, true_implies, implies_true, true_and, and_true, eq_self, li0, li1, li2, li3, li4, li5, li6, li7, li8, li9, li10, li11, li12, li15, li18, li21, li22, li23, li24, li27, li30, li32, li39, li50, li51, li59, li60, li63, li75, li87, li90, li99, li100, li111, li121, li126, li131, li141, li150, li400, li900, li987, li1128, li240, i3_add, i3_toNat, vpt, bI_0, bI_1, bI_bo, Bool.not_eq_false, Bool.true_eq_false, Bool.false_eq_true, Bool.not_eq_true, i3_le', i3_lt', i3_eq', hp_sE_sA, hp_sA_sA, hp_E_sA, hp_T_sA, hp_N_sA, hp_R_sA, hp_I_sA, hp_T_sI, hp_N_sI, hp_R_sI, hp_E_sI, hp_I_sI, hp_sA_sI, hp_sI_sI, hg]
  refine ⟨fun a2 => ct_i (c_fails h0) (qa_e (by unfold sq_next; rw [if_pos a1, i3_toNat (by omega), if_pos a2])), fun a2 => ct_i (c_chosen h0 hg ok hc hf hf9) ⟨t0, ct_i (c_stopsAt h0 hg ok) ?_⟩⟩
  simp (disch := omega) only [t0, r1, r2, r3, r4, r5, r6, r7, r8, t1, t2, t3, t4, t5, t6, t7, t8, n1, n2, n3, n4, n5, n6, n7, n8, z1, z2, z3, z4, z5, z6, z7, z8, forall_eq, Nat.reduceAdd, Nat.reduceMul, Nat.reduceEqDiff, Nat.reduceLeDiff, Nat.reduceSub, ne_eq, not_false_eq_true, not_true_eq_false, false_implies, true_implies, implies_true, true_and, and_true, eq_self, li0, li1, li2, li3, li4, li5, li6, li7, li8, li9, li10, li11, li12, li15, li18, li21, li22, li23, li24, li27, li30, li32, li39, li50, li51, li59, li60, li63, li75, li87, li90, li99, li100, li111, li121, li126, li131, li141, li150, li400, li900, li987, li1128, li240, i3_add, i3_toNat, vpt, bI_0, bI_1, bI_bo, Bool.not_eq_false, Bool.true_eq_false, Bool.false_eq_true, Bool.not_eq_true, i3_le', i3_lt', i3_eq', hp_sE_sA, hp_sA_sA, hp_E_sA, hp_T_sA, hp_N_sA, hp_R_sA, hp_I_sA, hp_T_sI, hp_N_sI, hp_R_sI, hp_E_sI, hp_I_sI, hp_sA_sI, hp_sI_sI, hg]
  refine ⟨fun a3 => ct_i (c_nearest h0 hg ok hc hf hf9 (md_ch_some hw hc a3 a2)) ?_, fun a3 => ct_i (c_done h0) (qa_e ?_)⟩
  · refine ⟨t0, ct_i (c_done h0) (qa_e ?_)⟩
    unfold sq_next md_nx
    rw [if_pos a1, i3_toNat (by omega), if_neg a2, if_neg (by rw [a3]; decide)]
  · unfold sq_next md_nx
    rw [if_pos a1, i3_toNat (by omega), if_neg a2, if_pos a3]
/-- the first passenger with a number, or -1 -/
def md_ix (g : md_R) (N : Int32) : Nat → Nat → Int32
  | 0, _ => -1
  | k + 1, j => if g (27 + j) = N then i3 j else md_ix g N k (j + 1)
theorem md_ix_val (g : md_R) (N : Int32) : ∀ k j, md_ix g N k j = -1 ∨ ∃ p, j ≤ p ∧ p < j + k ∧ md_ix g N k j = i3 p ∧ g (27 + p) = N
  | 0, _ => .inl rfl
  | k + 1, j => by
    rw [md_ix]
    split
    · exact .inr ⟨j, Nat.le_refl _, by omega, rfl, by assumption⟩
    · rcases md_ix_val g N k (j + 1) with h | ⟨p, h1, h2, h3, h4⟩
      · exact .inl h
      · exact .inr ⟨p, by omega, by omega, h3, h4⟩
theorem c_withNumber {G : am_Gx} {d : Nat} {M : am_Hp} {A : Nat → Nat} {g : md_R} {N : Int32} (h : mL M A) (hg : hp_E M (A 1) = g) (ok : md_ok g) : am_CT G (d + 1) rX7_withNumber [.ref (A 0), .int N] M 0 0 (qi (md_ix g N (md_n g) 0) M) := by
  obtain ⟨t0, r1, r2, r3, r4, r5, r6, r7, r8, t1, t2, t3, t4, t5, t6, t7, t8, n1, n2, n3, n4, n5, n6, n7, n8, z1, z2, z3, z4, z5, z6, z7, z8, hJ⟩ := h
  obtain ⟨e1, h12⟩ := ok
  refine am_intro mkX7_withNumber rfl (Nat.le_of_ble_eq_true rfl) rfl (fun X hX hM => ?_)
  have L : ∀ k j, j + k = md_n g → md_ix g N k j = md_ix g N (md_n g) 0 → am_J X 2 [(0, .ref (A 0)), (1, .int N), (2, .int (i3 j))] [] M 0 0 := by
    intro k
    induction k with
    | zero =>
      intro j hj hn
      refine vX7_withNumber_2 hX hM (fun x0 x1 x2 M => am_J X 2 [(0, .ref x0), (1, .int x1), (2, .int x2)] [] M 0 0) (fun _ _ _ _ h => h) ?_
      simp (disch := omega) only [t0, r1, r2, r3, r4, r5, r6, r7, r8, t1, t2, t3, t4, t5, t6, t7, t8, n1, n2, n3, n4, n5, n6, n7, n8, z1, z2, z3, z4, z5, z6, z7, z8, forall_eq, Nat.reduceAdd, Nat.reduceMul, Nat.reduceEqDiff, Nat.reduceLeDiff, Nat.reduceSub, ne_eq, not_false_eq_true, not_true_eq_false, false_implies, true_implies, implies_true, true_and, and_true, eq_self, li0, li1, li2, li3, li4, li5, li6, li7, li8, li9, li10, li11, li12, li15, li18, li21, li22, li23, li24, li27, li30, li32, li39, li50, li51, li59, li60, li63, li75, li87, li90, li99, li100, li111, li121, li126, li131, li141, li150, li400, li900, li987, li1128, li240, i3_add, i3_toNat, vpt, bI_0, bI_1, bI_bo, Bool.not_eq_false, Bool.true_eq_false, Bool.false_eq_true, Bool.not_eq_true, i3_le', i3_lt', i3_eq', hp_sE_sA, hp_sA_sA, hp_E_sA, hp_T_sA, hp_N_sA, hp_R_sA, hp_I_sA, hp_T_sI, hp_N_sI, hp_R_sI, hp_E_sI, hp_I_sI, hp_sA_sI, hp_sI_sI, hg, e1]
      exact ⟨fun _ => ⟨by rw [← hn]; rfl, rfl⟩, fun z => absurd (show md_n g ≤ j by omega) z⟩
    | succ k ih =>
      intro j hj hn
      rw [md_ix] at hn
      refine vX7_withNumber_2 hX hM (fun x0 x1 x2 M => am_J X 2 [(0, .ref x0), (1, .int x1), (2, .int x2)] [] M 0 0) (fun _ _ _ _ h => h) ?_
      simp (disch := omega) only [t0, r1, r2, r3, r4, r5, r6, r7, r8, t1, t2, t3, t4, t5, t6, t7, t8, n1, n2, n3, n4, n5, n6, n7, n8, z1, z2, z3, z4, z5, z6, z7, z8, forall_eq, Nat.reduceAdd, Nat.reduceMul, Nat.reduceEqDiff, Nat.reduceLeDiff, Nat.reduceSub, ne_eq, not_false_eq_true, not_true_eq_false, false_implies, true_implies, implies_true, true_and, and_true, eq_self, li0, li1, li2, li3, li4, li5, li6, li7, li8, li9, li10, li11, li12, li15, li18, li21, li22, li23, li24, li27, li30, li32, li39, li50, li51, li59, li60, li63, li75, li87, li90, li99, li100, li111, li121, li126, li131, li141, li150, li400, li900, li987, li1128, li240, i3_add, i3_toNat, vpt, bI_0, bI_1, bI_bo, Bool.not_eq_false, Bool.true_eq_false, Bool.false_eq_true, Bool.not_eq_true, i3_le', i3_lt', i3_eq', hp_sE_sA, hp_sA_sA, hp_E_sA, hp_T_sA, hp_N_sA, hp_R_sA, hp_I_sA, hp_T_sI, hp_N_sI, hp_R_sI, hp_E_sI, hp_I_sI, hp_sA_sI, hp_sI_sI, hg, e1]
      refine ⟨fun z => absurd z (by omega), fun _ => ⟨fun a1 => ?_, fun a1 => ?_⟩⟩
      · rw [if_pos a1] at hn
        exact ⟨by rw [hn], rfl⟩
      · rw [if_neg a1] at hn
        exact ih (j + 1) (by omega) hn
  exact vX7_withNumber_0 hX hM (fun x0 x1 x2 M => am_J X 2 [(0, .ref x0), (1, .int x1), (2, .int x2)] [] M 0 0) (fun _ _ _ _ h => h) (L (md_n g) 0 (Nat.zero_add _) rfl)
def md_rc (g : md_R) (N : Int32) (b : Bool) : Bool := md_ix g N (md_n g) 0 == -1 || (b && g (99 + (md_ix g N (md_n g) 0).toNatClampNeg) == i3 1)
theorem c_isReached {G : am_Gx} {d : Nat} {M : am_Hp} {A : Nat → Nat} {g : md_R} {N : Int32} {b : Bool} (h : mL M A) (hg : hp_E M (A 1) = g) (ok : md_ok g) : am_CT G (d + 2) rX7_isReached [.ref (A 0), .int N, .int (bI b)] M 0 0 (qi (bI (md_rc g N b)) M) := by
  have h0 := h
  have h12 := ok.2
  obtain ⟨t0, r1, r2, r3, r4, r5, r6, r7, r8, t1, t2, t3, t4, t5, t6, t7, t8, n1, n2, n3, n4, n5, n6, n7, n8, z1, z2, z3, z4, z5, z6, z7, z8, hJ⟩ := h
  refine am_intro mkX7_isReached rfl (Nat.le_of_ble_eq_true rfl) rfl (fun X hX hM => ?_)
  refine vX7_isReached_0 hX hM ⟨t0, ct_i (c_withNumber h0 hg ok) ?_⟩
  rcases md_ix_val g N (md_n g) 0 with z | ⟨p, y1, y2, y3, y4⟩
  · refine ⟨fun _ => qT (by unfold md_rc; rw [z]; rfl), fun q => absurd z q⟩
  · have hn : ¬ i3 p = (-1 : Int32) := fun z => by
      have := congrArg Int32.toInt z
      rw [i3_toInt (by omega)] at this
      have e : (-1 : Int32).toInt = -1 := rfl
      omega
    have e : md_rc g N b = (b && g (99 + p) == i3 1) := by
      unfold md_rc
      rw [y3, i3_toNat (by omega), beq_eq_false_iff_ne.mpr hn, Bool.false_or]
    rw [y3, e]
    refine ⟨fun q => absurd q hn, fun _ => ?_⟩
    simp (disch := omega) only [t0, r1, r2, r3, r4, r5, r6, r7, r8, t1, t2, t3, t4, t5, t6, t7, t8, n1, n2, n3, n4, n5, n6, n7, n8, z1, z2, z3, z4, z5, z6, z7, z8, forall_eq, Nat.reduceAdd, Nat.reduceMul, Nat.reduceEqDiff, Nat.reduceLeDiff, Nat.reduceSub, ne_eq, not_false_eq_true, not_true_eq_false, false_implies, true_implies, implies_true, true_and, and_true, eq_self, li0, li1, li2, li3, li4, li5, li6, li7, li8, li9, li10, li11, li12, li15, li18, li21, li22, li23, li24, li27, li30, li32, li39, li50, li51, li59, li60, li63, li75, li87, li90, li99, li100, li111, li121, li126, li131, li141, li150, li400, li900, li987, li1128, li240, i3_add, i3_toNat, vpt, bI_0, bI_1, bI_bo, Bool.not_eq_false, Bool.true_eq_false, Bool.false_eq_true, Bool.not_eq_true, i3_le', i3_lt', i3_eq', hp_sE_sA, hp_sA_sA, hp_E_sA, hp_T_sA, hp_N_sA, hp_R_sA, hp_I_sA, hp_T_sI, hp_N_sI, hp_R_sI, hp_E_sI, hp_I_sI, hp_sA_sI, hp_sI_sI, hg]
    refine ⟨fun a1 => qF (by rw [a1]; simp), fun a1 => ⟨fun a2 => qT (by rw [a1, a2]; simp), fun a2 => qF (by rw [a1]; simp [a2])⟩⟩
theorem c_begin {G : am_Gx} {d : Nat} {M : am_Hp} {A : Nat → Nat} {g : md_R} (h : mL M A) (hg : hp_E M (A 1) = g) : am_CT G (d + 2) rX7_begin [.ref (A 0)] M 0 0 (qv (hp_sA M (A 2) (md_cq 0 0 141 g (hp_E M (A 2))))) := by
  have h0 := h
  obtain ⟨t0, r1, r2, r3, r4, r5, r6, r7, r8, t1, t2, t3, t4, t5, t6, t7, t8, n1, n2, n3, n4, n5, n6, n7, n8, z1, z2, z3, z4, z5, z6, z7, z8, hJ⟩ := h
  have n12 : A 1 ≠ A 2 := fun z => absurd (hJ 1 2 (by omega) (by omega) z) (by omega)
  refine am_intro mkX7_begin rfl (Nat.le_of_ble_eq_true rfl) rfl (fun X hX hM => ?_)
  refine vX7_begin_0 hX hM ?_
  simp (disch := omega) only [t0, r1, r2, r3, r4, r5, r6, r7, r8, t1, t2, t3, t4, t5, t6, t7, t8, n1, n2, n3, n4, n5, n6, n7, n8, z1, z2, z3, z4, z5, z6, z7, z8, forall_eq, ne_eq, not_false_eq_true, true_and]
  refine ct_v (c_copy (s := 0) (t := 0) t1 t2 n12 n1 n2 (by omega) (by omega) (by omega) (by omega)) ?_
  rw [hg]
  exact ⟨rfl, rfl⟩
/-- the history with a row more -/
def md_sf (j : Nat) (hist : md_R) : md_R := fun k => if k < j then hist (k + 141) else hist k
theorem md_sf_0 (hist : md_R) : md_sf 0 hist = hist := by
  funext k
  unfold md_sf
  rw [if_neg (by omega)]
theorem md_sf_s (j : Nat) (hist : md_R) : va_up (md_sf j hist) j (hist (j + 141)) = md_sf (j + 1) hist := by
  funext k
  unfold va_up md_sf
  by_cases e : k = j
  · subst e; rw [if_pos rfl, if_pos (by omega)]
  · rw [if_neg e]
    by_cases h2 : k < j
    · rw [if_pos h2, if_pos (by omega)]
    · rw [if_neg h2, if_neg (by omega)]
theorem md_sf_out {j k : Nat} (hist : md_R) (h : j ≤ k) : md_sf j hist k = hist k := by
  unfold md_sf
  rw [if_neg (by omega)]
def md_hp (c : Nat) (b hist : md_R) : md_R := if c = 8 then md_cq 0 987 141 b (md_sf 987 hist) else md_cq 0 (141 * c) 141 b hist
theorem c_kept0 {G : am_Gx} {d : Nat} {M : am_Hp} {A : Nat → Nat} {g : md_R} {b hist : md_R} {c : Nat} {v : Int32} (h : mL M A) (hb : hp_E M (A 2) = b) (hh : hp_E M (A 4) = hist) (hc : hp_I M 144 (A 0) = i3 c) (hc8 : c ≤ 8) (ht : hp_I M 153 (A 0) = i3 0) : am_CT G (d + 2) rX7_kept [.ref (A 0), .int v] M 0 0 (qi v (hp_sI (hp_sA M (A 4) (md_hp c b hist)) 144 (A 0) (i3 (if c = 8 then 8 else c + 1)))) := by
  have h0 := h
  obtain ⟨t0, r1, r2, r3, r4, r5, r6, r7, r8, t1, t2, t3, t4, t5, t6, t7, t8, n1, n2, n3, n4, n5, n6, n7, n8, z1, z2, z3, z4, z5, z6, z7, z8, hJ⟩ := h
  have n24 : A 2 ≠ A 4 := fun z => absurd (hJ 2 4 (by omega) (by omega) z) (by omega)
  refine am_intro mkX7_kept rfl (Nat.le_of_ble_eq_true rfl) rfl (fun X hX hM => ?_)
  by_cases e8 : c = 8
  · subst e8
    have L : ∀ k j, j + k = 987 → am_J X 33 [(0, .ref (A 0)), (1, .int v), (2, .int (i3 j))] [] (hp_sA M (A 4) (md_sf j hist)) 0 0 := by
      intro k
      induction k with
      | zero =>
        intro j hj
        have e : j = 987 := by omega
        subst e
        refine vX7_kept_33 hX hM (fun x0 x1 x2 M => am_J X 33 [(0, .ref x0), (1, .int x1), (2, .int x2)] [] M 0 0) (fun _ _ _ _ h => h) ?_
        simp (disch := omega) only [t0, r1, r2, r3, r4, r5, r6, r7, r8, t1, t2, t3, t4, t5, t6, t7, t8, n1, n2, n3, n4, n5, n6, n7, n8, z1, z2, z3, z4, z5, z6, z7, z8, forall_eq, Nat.reduceAdd, Nat.reduceMul, Nat.reduceEqDiff, Nat.reduceLeDiff, Nat.reduceSub, ne_eq, not_false_eq_true, not_true_eq_false, false_implies, true_implies, implies_true, true_and, and_true, eq_self, li0, li1, li2, li3, li4, li5, li6, li7, li8, li9, li10, li11, li12, li15, li18, li21, li22, li23, li24, li27, li30, li32, li39, li50, li51, li59, li60, li63, li75, li87, li90, li99, li100, li111, li121, li126, li131, li141, li150, li400, li900, li987, li1128, li240, i3_add, i3_toNat, vpt, bI_0, bI_1, bI_bo, Bool.not_eq_false, Bool.true_eq_false, Bool.false_eq_true, Bool.not_eq_true, i3_le', i3_lt', i3_eq', hp_sE_sA, hp_sA_sA, hp_E_sA, hp_T_sA, hp_N_sA, hp_R_sA, hp_I_sA, hp_T_sI, hp_N_sI, hp_R_sI, hp_E_sI, hp_I_sI, hp_sA_sI, hp_sI_sI, hc, i3_sub' (show 1 ≤ 8 by omega), i3_mul]
        refine ct_v (c_copy (M := hp_sI (hp_sA M (A 4) (md_sf 987 hist)) 144 (A 0) (i3 7)) (s := 0) (t := 987) t2 t4 n24 n2 n4 (by omega) (by omega) (by omega) (by omega)) ?_
        simp (disch := omega) only [t0, r1, r2, r3, r4, r5, r6, r7, r8, t1, t2, t3, t4, t5, t6, t7, t8, n1, n2, n3, n4, n5, n6, n7, n8, z1, z2, z3, z4, z5, z6, z7, z8, forall_eq, Nat.reduceAdd, Nat.reduceMul, Nat.reduceEqDiff, Nat.reduceLeDiff, Nat.reduceSub, ne_eq, not_false_eq_true, not_true_eq_false, false_implies, true_implies, implies_true, true_and, and_true, eq_self, li0, li1, li2, li3, li4, li5, li6, li7, li8, li9, li10, li11, li12, li15, li18, li21, li22, li23, li24, li27, li30, li32, li39, li50, li51, li59, li60, li63, li75, li87, li90, li99, li100, li111, li121, li126, li131, li141, li150, li400, li900, li987, li1128, li240, i3_add, i3_toNat, vpt, bI_0, bI_1, bI_bo, Bool.not_eq_false, Bool.true_eq_false, Bool.false_eq_true, Bool.not_eq_true, i3_le', i3_lt', i3_eq', hp_sE_sA, hp_sA_sA, hp_E_sA, hp_T_sA, hp_N_sA, hp_R_sA, hp_I_sA, hp_T_sI, hp_N_sI, hp_R_sI, hp_E_sI, hp_I_sI, hp_sA_sI, hp_sI_sI, hp_E_sA' _ _ n24, hb, if_true]
        refine ⟨rfl, ?_⟩
        unfold md_hp
        rw [if_pos rfl]
      | succ k ih =>
        intro j hj
        have I := ih (j + 1) (by omega)
        rw [← md_sf_s] at I
        refine vX7_kept_33 hX hM (fun x0 x1 x2 M => am_J X 33 [(0, .ref x0), (1, .int x1), (2, .int x2)] [] M 0 0) (fun _ _ _ _ h => h) ?_
        simp (disch := omega) only [t0, r1, r2, r3, r4, r5, r6, r7, r8, t1, t2, t3, t4, t5, t6, t7, t8, n1, n2, n3, n4, n5, n6, n7, n8, z1, z2, z3, z4, z5, z6, z7, z8, forall_eq, Nat.reduceAdd, Nat.reduceMul, Nat.reduceEqDiff, Nat.reduceLeDiff, Nat.reduceSub, ne_eq, not_false_eq_true, not_true_eq_false, false_implies, true_implies, implies_true, true_and, and_true, eq_self, li0, li1, li2, li3, li4, li5, li6, li7, li8, li9, li10, li11, li12, li15, li18, li21, li22, li23, li24, li27, li30, li32, li39, li50, li51, li59, li60, li63, li75, li87, li90, li99, li100, li111, li121, li126, li131, li141, li150, li400, li900, li987, li1128, li240, i3_add, i3_toNat, vpt, bI_0, bI_1, bI_bo, Bool.not_eq_false, Bool.true_eq_false, Bool.false_eq_true, Bool.not_eq_true, i3_le', i3_lt', i3_eq', hp_sE_sA, hp_sA_sA, hp_E_sA, hp_T_sA, hp_N_sA, hp_R_sA, hp_I_sA, hp_T_sI, hp_N_sI, hp_R_sI, hp_E_sI, hp_I_sI, hp_sA_sI, hp_sI_sI, hc, md_sf_out]
        exact ⟨fun z => absurd z (by omega), fun _ => I⟩
    have I := L 987 0 (by omega)
    rw [md_sf_0, hp_sA_nd hh] at I
    refine vX7_kept_0 hX hM (fun x0 x1 x2 M => am_J X 33 [(0, .ref x0), (1, .int x1), (2, .int x2)] [] M 0 0) (fun _ _ _ _ h => h) ?_
    simp (disch := omega) only [t0, r1, r2, r3, r4, r5, r6, r7, r8, t1, t2, t3, t4, t5, t6, t7, t8, n1, n2, n3, n4, n5, n6, n7, n8, z1, z2, z3, z4, z5, z6, z7, z8, forall_eq, Nat.reduceAdd, Nat.reduceMul, Nat.reduceEqDiff, Nat.reduceLeDiff, Nat.reduceSub, ne_eq, not_false_eq_true, not_true_eq_false, false_implies, true_implies, implies_true, true_and, and_true, eq_self, li0, li1, li2, li3, li4, li5, li6, li7, li8, li9, li10, li11, li12, li15, li18, li21, li22, li23, li24, li27, li30, li32, li39, li50, li51, li59, li60, li63, li75, li87, li90, li99, li100, li111, li121, li126, li131, li141, li150, li400, li900, li987, li1128, li240, i3_add, i3_toNat, vpt, bI_0, bI_1, bI_bo, Bool.not_eq_false, Bool.true_eq_false, Bool.false_eq_true, Bool.not_eq_true, i3_le', i3_lt', i3_eq', hp_sE_sA, hp_sA_sA, hp_E_sA, hp_T_sA, hp_N_sA, hp_R_sA, hp_I_sA, hp_T_sI, hp_N_sI, hp_R_sI, hp_E_sI, hp_I_sI, hp_sA_sI, hp_sI_sI, ht, hc]
    exact I
  · refine vX7_kept_0 hX hM (fun x0 x1 x2 M => am_J X 33 [(0, .ref x0), (1, .int x1), (2, .int x2)] [] M 0 0) (fun _ _ _ _ h => h) ?_
    simp (disch := omega) only [t0, r1, r2, r3, r4, r5, r6, r7, r8, t1, t2, t3, t4, t5, t6, t7, t8, n1, n2, n3, n4, n5, n6, n7, n8, z1, z2, z3, z4, z5, z6, z7, z8, forall_eq, Nat.reduceAdd, Nat.reduceMul, Nat.reduceEqDiff, Nat.reduceLeDiff, Nat.reduceSub, ne_eq, not_false_eq_true, not_true_eq_false, false_implies, true_implies, implies_true, true_and, and_true, eq_self, li0, li1, li2, li3, li4, li5, li6, li7, li8, li9, li10, li11, li12, li15, li18, li21, li22, li23, li24, li27, li30, li32, li39, li50, li51, li59, li60, li63, li75, li87, li90, li99, li100, li111, li121, li126, li131, li141, li150, li400, li900, li987, li1128, li240, i3_add, i3_toNat, vpt, bI_0, bI_1, bI_bo, Bool.not_eq_false, Bool.true_eq_false, Bool.false_eq_true, Bool.not_eq_true, i3_le', i3_lt', i3_eq', hp_sE_sA, hp_sA_sA, hp_E_sA, hp_T_sA, hp_N_sA, hp_R_sA, hp_I_sA, hp_T_sI, hp_N_sI, hp_R_sI, hp_E_sI, hp_I_sI, hp_sA_sI, hp_sI_sI, ht, hc, e8, i3_mul]
    refine ct_v (c_copy (s := 0) (t := c * 141) t2 t4 n24 n2 n4 (by omega) (by omega) (by omega) (by omega)) ?_
    simp (disch := omega) only [t0, r1, r2, r3, r4, r5, r6, r7, r8, t1, t2, t3, t4, t5, t6, t7, t8, n1, n2, n3, n4, n5, n6, n7, n8, z1, z2, z3, z4, z5, z6, z7, z8, forall_eq, Nat.reduceAdd, Nat.reduceMul, Nat.reduceEqDiff, Nat.reduceLeDiff, Nat.reduceSub, ne_eq, not_false_eq_true, not_true_eq_false, false_implies, true_implies, implies_true, true_and, and_true, eq_self, li0, li1, li2, li3, li4, li5, li6, li7, li8, li9, li10, li11, li12, li15, li18, li21, li22, li23, li24, li27, li30, li32, li39, li50, li51, li59, li60, li63, li75, li87, li90, li99, li100, li111, li121, li126, li131, li141, li150, li400, li900, li987, li1128, li240, i3_add, i3_toNat, vpt, bI_0, bI_1, bI_bo, Bool.not_eq_false, Bool.true_eq_false, Bool.false_eq_true, Bool.not_eq_true, i3_le', i3_lt', i3_eq', hp_sE_sA, hp_sA_sA, hp_E_sA, hp_T_sA, hp_N_sA, hp_R_sA, hp_I_sA, hp_T_sI, hp_N_sI, hp_R_sI, hp_E_sI, hp_I_sI, hp_sA_sI, hp_sI_sI, hb, hh, hc, e8, if_false]
    refine ⟨rfl, ?_⟩
    unfold md_hp
    rw [if_neg e8, Nat.mul_comm]
theorem c_kept1 {G : am_Gx} {d : Nat} {M : am_Hp} {A : Nat → Nat} {g : md_R} {b : md_R} {k : Nat} {v : Int32} (h : mL M A) (hg : hp_E M (A 1) = g) (hb : hp_E M (A 2) = b) (ht : hp_I M 153 (A 0) = i3 k) (hk : 0 < k ∧ k < 1000) : am_CT G (d + 2) rX7_kept [.ref (A 0), .int v] M 0 0 (qi (i3 0) (hp_sA M (A 1) (md_cq 0 0 141 b g))) := by
  have h0 := h
  obtain ⟨t0, r1, r2, r3, r4, r5, r6, r7, r8, t1, t2, t3, t4, t5, t6, t7, t8, n1, n2, n3, n4, n5, n6, n7, n8, z1, z2, z3, z4, z5, z6, z7, z8, hJ⟩ := h
  have n21 : A 2 ≠ A 1 := fun z => absurd (hJ 2 1 (by omega) (by omega) z) (by omega)
  have hk0 : ¬ k = 0 := by omega
  refine am_intro mkX7_kept rfl (Nat.le_of_ble_eq_true rfl) rfl (fun X hX hM => ?_)
  refine vX7_kept_0 hX hM (fun x0 x1 x2 M => am_J X 33 [(0, .ref x0), (1, .int x1), (2, .int x2)] [] M 0 0) (fun _ _ _ _ h => h) ?_
  simp (disch := omega) only [t0, r1, r2, r3, r4, r5, r6, r7, r8, t1, t2, t3, t4, t5, t6, t7, t8, n1, n2, n3, n4, n5, n6, n7, n8, z1, z2, z3, z4, z5, z6, z7, z8, forall_eq, Nat.reduceAdd, Nat.reduceMul, Nat.reduceEqDiff, Nat.reduceLeDiff, Nat.reduceSub, ne_eq, not_false_eq_true, not_true_eq_false, false_implies, true_implies, implies_true, true_and, and_true, eq_self, li0, li1, li2, li3, li4, li5, li6, li7, li8, li9, li10, li11, li12, li15, li18, li21, li22, li23, li24, li27, li30, li32, li39, li50, li51, li59, li60, li63, li75, li87, li90, li99, li100, li111, li121, li126, li131, li141, li150, li400, li900, li987, li1128, li240, i3_add, i3_toNat, vpt, bI_0, bI_1, bI_bo, Bool.not_eq_false, Bool.true_eq_false, Bool.false_eq_true, Bool.not_eq_true, i3_le', i3_lt', i3_eq', hp_sE_sA, hp_sA_sA, hp_E_sA, hp_T_sA, hp_N_sA, hp_R_sA, hp_I_sA, hp_T_sI, hp_N_sI, hp_R_sI, hp_E_sI, hp_I_sI, hp_sA_sI, hp_sI_sI, ht, hk0]
  refine ct_v (c_copy (s := 0) (t := 0) t2 t1 n21 n2 n1 (by omega) (by omega) (by omega) (by omega)) ?_
  rw [hb, hg]
  exact ⟨rfl, rfl⟩
theorem md_cq_back (g x : md_R) : md_cq 0 0 141 (md_cq 0 0 141 g x) g = g := by
  funext k
  unfold md_cq
  by_cases h : k < 141
  · simp [h]
  · simp [h]
/-- a command's change as the callers see it -/
def mC (M : am_Hp) (A : Nat → Nat) (g : md_R) (c : Nat) (sp : md_Sp) : am_Hp :=
  let M1 := hp_sA M (A 2) (md_cq 0 0 141 g (hp_E M (A 2)))
  if sp.1 = 0 then hp_sI (hp_sA (hp_sI (hp_sA M1 (A 1) sp.2.2) 153 (A 0) (i3 0)) (A 4) (md_hp c (md_cq 0 0 141 g (hp_E M (A 2))) (hp_E M (A 4)))) 144 (A 0) (i3 (if c = 8 then 8 else c + 1)) else hp_sI M1 153 (A 0) (i3 sp.1)
def spF (g : md_R) (sp : md_Sp) : Prop := sp.1 ≤ 3 ∧ (sp.1 ≠ 0 → sp.2.2 = g ∧ sp.2.1 = i3 0)
theorem c_keep {G : am_Gx} {d : Nat} {M : am_Hp} {A : Nat → Nat} {g : md_R} {sp : md_Sp} {c : Nat} (h : mL M A) (hg : hp_E M (A 1) = g) (hc : hp_I M 144 (A 0) = i3 c) (hc8 : c ≤ 8) (hs : spF g sp) : am_CT G (d + 2) rX7_kept [.ref (A 0), .int sp.2.1] (hp_sI (hp_sA (hp_sA M (A 2) (md_cq 0 0 141 g (hp_E M (A 2)))) (A 1) sp.2.2) 153 (A 0) (i3 sp.1)) 0 0 (qi sp.2.1 (mC M A g c sp)) := by
  obtain ⟨k, v, g'⟩ := sp
  have h0 := h
  obtain ⟨t0, r1, r2, r3, r4, r5, r6, r7, r8, t1, t2, t3, t4, t5, t6, t7, t8, n1, n2, n3, n4, n5, n6, n7, n8, z1, z2, z3, z4, z5, z6, z7, z8, hJ⟩ := h
  have n21 : A 2 ≠ A 1 := fun z => absurd (hJ 2 1 (by omega) (by omega) z) (by omega)
  have n41 : A 4 ≠ A 1 := fun z => absurd (hJ 4 1 (by omega) (by omega) z) (by omega)
  have n42 : A 4 ≠ A 2 := fun z => absurd (hJ 4 2 (by omega) (by omega) z) (by omega)
  obtain ⟨hk, hs⟩ := hs
  unfold mC
  by_cases e : k = 0
  · subst e
    rw [if_pos rfl]
    refine c_kept0 (g := g) h0 ?_ ?_ ?_ hc8 ?_
    · simp (disch := omega) only [hp_sE_sA, hp_sA_sA, hp_E_sA, hp_T_sA, hp_N_sA, hp_R_sA, hp_I_sA, hp_T_sI, hp_N_sI, hp_R_sI, hp_E_sI, hp_I_sI, hp_sA_sI, hp_sI_sI, hp_E_sA' _ _ n21]
    · simp (disch := omega) only [hp_sE_sA, hp_sA_sA, hp_E_sA, hp_T_sA, hp_N_sA, hp_R_sA, hp_I_sA, hp_T_sI, hp_N_sI, hp_R_sI, hp_E_sI, hp_I_sI, hp_sA_sI, hp_sI_sI, hp_E_sA' _ _ n41, hp_E_sA' _ _ n42]
    · exact (hp_I_sIu _ _ _ _ (by omega)).trans hc
    · exact hp_I_sI _ _ _ _
  · obtain ⟨rfl, rfl⟩ := hs e
    rw [if_neg e]
    have := c_kept1 (G := G) (d := d) (v := i3 0) (M := hp_sI (hp_sA (hp_sA M (A 2) (md_cq 0 0 141 g' (hp_E M (A 2)))) (A 1) g') 153 (A 0) (i3 k)) (A := A) (g := g') (b := md_cq 0 0 141 g' (hp_E M (A 2))) (k := k) h0 (by simp (disch := omega) only [hp_sE_sA, hp_sA_sA, hp_E_sA, hp_T_sA, hp_N_sA, hp_R_sA, hp_I_sA, hp_T_sI, hp_N_sI, hp_R_sI, hp_E_sI, hp_I_sI, hp_sA_sI, hp_sI_sI]) (by simp (disch := omega) only [hp_sE_sA, hp_sA_sA, hp_E_sA, hp_T_sA, hp_N_sA, hp_R_sA, hp_I_sA, hp_T_sI, hp_N_sI, hp_R_sI, hp_E_sI, hp_I_sI, hp_sA_sI, hp_sI_sI, hp_E_sA' _ _ n21]) (hp_I_sI _ _ _ _) ⟨by omega, by have : k ≤ 3 := hk; omega⟩
    rw [md_cq_back, hp_sA_sI, hp_sA_sA, hp_sA_nd (show hp_E (hp_sA M (A 2) (md_cq 0 0 141 g' (hp_E M (A 2)))) (A 1) = g' from (hp_E_sA' _ _ n21.symm).trans hg)] at this
    show am_CT _ _ _ _ (hp_sI (hp_sA (hp_sA M (A 2) _) (A 1) g') 153 (A 0) (i3 k)) _ _ _
    rw [hp_sA_nd (show hp_E (hp_sA M (A 2) (md_cq 0 0 141 g' (hp_E M (A 2)))) (A 1) = g' from (hp_E_sA' _ _ n21.symm).trans hg)]
    exact this
theorem spF_add (g : md_R) (s e w : Int32) : spF g (sp_add g s e w) := by
  unfold sp_add spF
  repeat' split
  all_goals exact ⟨Nat.le_of_ble_eq_true rfl, fun z => by first | exact ⟨rfl, rfl⟩ | exact absurd rfl z⟩
theorem spF_rem (g : md_R) (v : Int32) : spF g (sp_rem g v) := by
  unfold sp_rem spF
  repeat' split
  all_goals exact ⟨Nat.le_of_ble_eq_true rfl, fun z => by first | exact ⟨rfl, rfl⟩ | exact absurd rfl z⟩
theorem spF_hold (g : md_R) (v s : Int32) : spF g (sp_hold g v s) := by
  unfold sp_hold spF
  repeat' split
  all_goals exact ⟨Nat.le_of_ble_eq_true rfl, fun z => by first | exact ⟨rfl, rfl⟩ | exact absurd rfl z⟩
theorem spF_stop (g : md_R) (v : Int32) : spF g (sp_stop g v) := by
  unfold sp_stop spF
  repeat' split
  all_goals exact ⟨Nat.le_of_ble_eq_true rfl, fun z => by first | exact ⟨rfl, rfl⟩ | exact absurd rfl z⟩
theorem spF_start (g : md_R) (v : Int32) : spF g (sp_start g v) := by
  unfold sp_start spF
  repeat' split
  all_goals exact ⟨Nat.le_of_ble_eq_true rfl, fun z => by first | exact ⟨rfl, rfl⟩ | exact absurd rfl z⟩
theorem spF_limit (g : md_R) (v k : Int32) : spF g (sp_limit g v k) := by
  unfold sp_limit spF
  repeat' split
  all_goals exact ⟨Nat.le_of_ble_eq_true rfl, fun z => by first | exact ⟨rfl, rfl⟩ | exact absurd rfl z⟩
theorem spF_adv (g : md_R) (v : Int32) : spF g (sp_adv g v) := by
  unfold sp_adv spF
  repeat' split
  all_goals exact ⟨Nat.le_of_ble_eq_true rfl, fun z => by first | exact ⟨rfl, rfl⟩ | exact absurd rfl z⟩
theorem c_addPassenger {G : am_Gx} {d : Nat} {M : am_Hp} {A : Nat → Nat} {g : md_R} {c : Nat} {s e w : Int32} (h : mL M A) (hg : hp_E M (A 1) = g) (hc : hp_I M 144 (A 0) = i3 c) (hc8 : c ≤ 8) (ok : md_ok g) : am_CT G (d + 9) rX7_addPassenger [.ref (A 0), .int s, .int e, .int w] M 0 0 (qi (sp_add g s e w).2.1 (mC M A g c (sp_add g s e w))) := by
  have n12 : A 1 ≠ A 2 := fun z => absurd (h.2.2.2.2.2.2.2.2.2.2.2.2.2.2.2.2.2.2.2.2.2.2.2.2.2.2.2.2.2.2.2.2.2 1 2 (by omega) (by omega) z) (by omega)
  refine am_intro mkX7_addPassenger rfl (Nat.le_of_ble_eq_true rfl) rfl (fun X hX hM => ?_)
  exact vX7_addPassenger_0 hX hM ⟨h.1, ct_v (c_begin h hg) ⟨h.1, ct_i (c_adds (M := hp_sA M (A 2) _) h ((hp_E_sA' _ _ n12).trans hg) ok) ⟨h.1, ct_i (c_keep h hg hc hc8 (spF_add g s e w)) ⟨rfl, rfl⟩⟩⟩⟩
theorem c_removePassenger {G : am_Gx} {d : Nat} {M : am_Hp} {A : Nat → Nat} {g : md_R} {c : Nat} {v : Int32} (h : mL M A) (hg : hp_E M (A 1) = g) (hc : hp_I M 144 (A 0) = i3 c) (hc8 : c ≤ 8) (ok : md_ok g) : am_CT G (d + 9) rX7_removePassenger [.ref (A 0), .int v] M 0 0 (qi (sp_rem g v).2.1 (mC M A g c (sp_rem g v))) := by
  have n12 : A 1 ≠ A 2 := fun z => absurd (h.2.2.2.2.2.2.2.2.2.2.2.2.2.2.2.2.2.2.2.2.2.2.2.2.2.2.2.2.2.2.2.2.2 1 2 (by omega) (by omega) z) (by omega)
  refine am_intro mkX7_removePassenger rfl (Nat.le_of_ble_eq_true rfl) rfl (fun X hX hM => ?_)
  exact vX7_removePassenger_0 hX hM ⟨h.1, ct_v (c_begin h hg) ⟨h.1, ct_i (c_removes (M := hp_sA M (A 2) _) h ((hp_E_sA' _ _ n12).trans hg) ok) ⟨h.1, ct_i (c_keep h hg hc hc8 (spF_rem g v)) ⟨rfl, rfl⟩⟩⟩⟩
theorem c_holdDoors {G : am_Gx} {d : Nat} {M : am_Hp} {A : Nat → Nat} {g : md_R} {c : Nat} {v s : Int32} (h : mL M A) (hg : hp_E M (A 1) = g) (hc : hp_I M 144 (A 0) = i3 c) (hc8 : c ≤ 8)  : am_CT G (d + 9) rX7_holdDoors [.ref (A 0), .int v, .int s] M 0 0 (qi (sp_hold g v s).2.1 (mC M A g c (sp_hold g v s))) := by
  have n12 : A 1 ≠ A 2 := fun z => absurd (h.2.2.2.2.2.2.2.2.2.2.2.2.2.2.2.2.2.2.2.2.2.2.2.2.2.2.2.2.2.2.2.2.2 1 2 (by omega) (by omega) z) (by omega)
  refine am_intro mkX7_holdDoors rfl (Nat.le_of_ble_eq_true rfl) rfl (fun X hX hM => ?_)
  exact vX7_holdDoors_0 hX hM ⟨h.1, ct_v (c_begin h hg) ⟨h.1, ct_i (c_holds (M := hp_sA M (A 2) _) h ((hp_E_sA' _ _ n12).trans hg) ) ⟨h.1, ct_i (c_keep h hg hc hc8 (spF_hold g v s)) ⟨rfl, rfl⟩⟩⟩⟩
theorem c_stopCar {G : am_Gx} {d : Nat} {M : am_Hp} {A : Nat → Nat} {g : md_R} {c : Nat} {v : Int32} (h : mL M A) (hg : hp_E M (A 1) = g) (hc : hp_I M 144 (A 0) = i3 c) (hc8 : c ≤ 8) (ok : md_ok g) : am_CT G (d + 9) rX7_stopCar [.ref (A 0), .int v] M 0 0 (qi (sp_stop g v).2.1 (mC M A g c (sp_stop g v))) := by
  have n12 : A 1 ≠ A 2 := fun z => absurd (h.2.2.2.2.2.2.2.2.2.2.2.2.2.2.2.2.2.2.2.2.2.2.2.2.2.2.2.2.2.2.2.2.2 1 2 (by omega) (by omega) z) (by omega)
  refine am_intro mkX7_stopCar rfl (Nat.le_of_ble_eq_true rfl) rfl (fun X hX hM => ?_)
  exact vX7_stopCar_0 hX hM ⟨h.1, ct_v (c_begin h hg) ⟨h.1, ct_i (c_stops (M := hp_sA M (A 2) _) h ((hp_E_sA' _ _ n12).trans hg) ok) ⟨h.1, ct_i (c_keep h hg hc hc8 (spF_stop g v)) ⟨rfl, rfl⟩⟩⟩⟩
theorem c_startCar {G : am_Gx} {d : Nat} {M : am_Hp} {A : Nat → Nat} {g : md_R} {c : Nat} {v : Int32} (h : mL M A) (hg : hp_E M (A 1) = g) (hc : hp_I M 144 (A 0) = i3 c) (hc8 : c ≤ 8)  : am_CT G (d + 9) rX7_startCar [.ref (A 0), .int v] M 0 0 (qi (sp_start g v).2.1 (mC M A g c (sp_start g v))) := by
  have n12 : A 1 ≠ A 2 := fun z => absurd (h.2.2.2.2.2.2.2.2.2.2.2.2.2.2.2.2.2.2.2.2.2.2.2.2.2.2.2.2.2.2.2.2.2 1 2 (by omega) (by omega) z) (by omega)
  refine am_intro mkX7_startCar rfl (Nat.le_of_ble_eq_true rfl) rfl (fun X hX hM => ?_)
  exact vX7_startCar_0 hX hM ⟨h.1, ct_v (c_begin h hg) ⟨h.1, ct_i (c_starts (M := hp_sA M (A 2) _) h ((hp_E_sA' _ _ n12).trans hg) ) ⟨h.1, ct_i (c_keep h hg hc hc8 (spF_start g v)) ⟨rfl, rfl⟩⟩⟩⟩
theorem c_setCapacity {G : am_Gx} {d : Nat} {M : am_Hp} {A : Nat → Nat} {g : md_R} {c : Nat} {v k : Int32} (h : mL M A) (hg : hp_E M (A 1) = g) (hc : hp_I M 144 (A 0) = i3 c) (hc8 : c ≤ 8) (ok : md_ok g) : am_CT G (d + 9) rX7_setCapacity [.ref (A 0), .int v, .int k] M 0 0 (qi (sp_limit g v k).2.1 (mC M A g c (sp_limit g v k))) := by
  have n12 : A 1 ≠ A 2 := fun z => absurd (h.2.2.2.2.2.2.2.2.2.2.2.2.2.2.2.2.2.2.2.2.2.2.2.2.2.2.2.2.2.2.2.2.2 1 2 (by omega) (by omega) z) (by omega)
  refine am_intro mkX7_setCapacity rfl (Nat.le_of_ble_eq_true rfl) rfl (fun X hX hM => ?_)
  exact vX7_setCapacity_0 hX hM ⟨h.1, ct_v (c_begin h hg) ⟨h.1, ct_i (c_limits (M := hp_sA M (A 2) _) h ((hp_E_sA' _ _ n12).trans hg) ok) ⟨h.1, ct_i (c_keep h hg hc hc8 (spF_limit g v k)) ⟨rfl, rfl⟩⟩⟩⟩
theorem c_advance {G : am_Gx} {d : Nat} {M : am_Hp} {A : Nat → Nat} {g : md_R} {c : Nat} {v : Int32} (h : mL M A) (hg : hp_E M (A 1) = g) (hc : hp_I M 144 (A 0) = i3 c) (hc8 : c ≤ 8) {T : Nat} (hw : md_wf T g) (hT : T < 100000000) : am_CT G (d + 10) rX7_advance [.ref (A 0), .int v] M 0 0 (qi (sp_adv g v).2.1 (mC M A g c (sp_adv g v))) := by
  have n12 : A 1 ≠ A 2 := fun z => absurd (h.2.2.2.2.2.2.2.2.2.2.2.2.2.2.2.2.2.2.2.2.2.2.2.2.2.2.2.2.2.2.2.2.2 1 2 (by omega) (by omega) z) (by omega)
  refine am_intro mkX7_advance rfl (Nat.le_of_ble_eq_true rfl) rfl (fun X hX hM => ?_)
  exact vX7_advance_0 hX hM ⟨h.1, ct_v (c_begin h hg) ⟨h.1, ct_i (c_advances (M := hp_sA M (A 2) _) h ((hp_E_sA' _ _ n12).trans hg) hw hT) ⟨h.1, ct_i (c_keep h hg hc hc8 (spF_adv g v)) ⟨rfl, rfl⟩⟩⟩⟩
