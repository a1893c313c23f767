/-! .. undo, snapshots, predictions, ranks, the log, totals -/
theorem ct_l {G : am_Gx} {d : Nat} {r : am_Rec} {as : List Value} {M M1 : am_Hp} {mc ms : Nat} {v : Int64} {P : Int64 → am_Hp → Prop} (h : am_CT G d r as M mc ms (fun o M' => o = .inl (some (.long v)) ∧ M' = M1)) (k : P v M1) : am_CT G d r as M mc ms (fun o M' => ∃ v, o = .inl (some (.long v)) ∧ P v M') :=
  am_CT.mono (fun o M' ⟨e1, e2⟩ => ⟨v, e1, e2 ▸ k⟩) h
abbrev ql (v : Int64) (M1 : am_Hp) : am_Q := fun o M' => o = .inl (some (.long v)) ∧ M' = M1
def sq_flag (v : Int32) : md_Sq := if v = -1 then (1, i3 0) else (0, v)
theorem c_errorPosition {G : am_Gx} {d : Nat} {M : am_Hp} {A : Nat → Nat} (h : mL M A) : am_CT G (d + 2) rX7_errorPosition [.ref (A 0)] M 0 0 (qa (sq_flag (hp_I M 149 (A 0))) M A) := by
  refine am_intro mkX7_errorPosition rfl (Nat.le_of_ble_eq_true rfl) rfl (fun X hX hM => ?_)
  exact vX7_errorPosition_0 hX hM ⟨h.1, fun a1 => ct_i (c_fails h) (qa_e (by unfold sq_flag; rw [if_pos a1])), fun a1 => ct_i (c_done h) (qa_e (by unfold sq_flag; rw [if_neg a1]))⟩
theorem c_failedCommand {G : am_Gx} {d : Nat} {M : am_Hp} {A : Nat → Nat} (h : mL M A) : am_CT G (d + 2) rX7_failedCommand [.ref (A 0)] M 0 0 (qa (sq_flag (hp_I M 150 (A 0))) M A) := by
  refine am_intro mkX7_failedCommand rfl (Nat.le_of_ble_eq_true rfl) rfl (fun X hX hM => ?_)
  exact vX7_failedCommand_0 hX hM ⟨h.1, fun a1 => ct_i (c_fails h) (qa_e (by unfold sq_flag; rw [if_pos a1])), fun a1 => ct_i (c_done h) (qa_e (by unfold sq_flag; rw [if_neg a1]))⟩
theorem c_undo0 {G : am_Gx} {d : Nat} {M : am_Hp} {A : Nat → Nat} (h : mL M A) (hc : hp_I M 144 (A 0) = i3 0) : am_CT G (d + 2) rX7_undo [.ref (A 0)] M 0 0 (qi (i3 0) (hp_sI M 153 (A 0) (i3 1))) := by
  refine am_intro mkX7_undo rfl (Nat.le_of_ble_eq_true rfl) rfl (fun X hX hM => ?_)
  exact vX7_undo_0 hX hM ⟨h.1, fun _ => ct_i (c_fails h) ⟨rfl, rfl⟩, fun z => absurd hc z⟩
theorem c_undo1 {G : am_Gx} {d : Nat} {M : am_Hp} {A : Nat → Nat} {g : md_R} {c : Nat} (h : mL M A) (hg : hp_E M (A 1) = g) (hc : hp_I M 144 (A 0) = i3 (c + 1)) (hc8 : c < 8) : am_CT G (d + 2) rX7_undo [.ref (A 0)] M 0 0 (qi (i3 c) (hp_sI (hp_sI (hp_sA M (A 1) (md_cq (141 * c) 0 141 (hp_E M (A 4)) g)) 144 (A 0) (i3 c)) 153 (A 0) (i3 0))) := by
  have h0 := h
  obtain ⟨t0, r1, r2, r3, r4, r5, r6, r7, r8, t1, t2, t3, t4, t5, t6, t7, t8, n1, n2, n3, n4, n5, n6, n7, n8, z1, z2, z3, z4, z5, z6, z7, z8, hJ⟩ := h
  have n41 : A 4 ≠ A 1 := fun z => absurd (hJ 4 1 (by omega) (by omega) z) (by omega)
  refine am_intro mkX7_undo rfl (Nat.le_of_ble_eq_true rfl) rfl (fun X hX hM => ?_)
  refine vX7_undo_0 hX hM ?_
  simp (disch := omega) only [t0, r1, r2, r3, r4, r5, r6, r7, r8, t1, t2, t3, t4, t5, t6, t7, t8, n1, n2, n3, n4, n5, n6, n7, n8, z1, z2, z3, z4, z5, z6, z7, z8, forall_eq, Nat.reduceAdd, Nat.reduceMul, Nat.reduceEqDiff, Nat.reduceLeDiff, Nat.reduceSub, ne_eq, not_false_eq_true, not_true_eq_false, false_implies, true_implies, implies_true, true_and, and_true, eq_self, li0, li1, li2, li3, li4, li5, li6, li7, li8, li9, li10, li11, li12, li15, li18, li21, li22, li23, li24, li27, li30, li32, li39, li50, li51, li59, li60, li63, li75, li87, li90, li99, li100, li111, li121, li126, li131, li141, li150, li400, li900, li987, li1128, li240, i3_add, i3_toNat, vpt, bI_0, bI_1, bI_bo, Bool.not_eq_false, Bool.true_eq_false, Bool.false_eq_true, Bool.not_eq_true, i3_le', i3_lt', i3_eq', hp_sE_sA, hp_sA_sA, hp_E_sA, hp_T_sA, hp_N_sA, hp_R_sA, hp_I_sA, hp_T_sI, hp_N_sI, hp_R_sI, hp_E_sI, hp_I_sI, hp_sA_sI, hp_sI_sI, hc, i3_sub, i3_mul]
  refine ct_v (c_copy (M := hp_sI M 144 (A 0) (i3 c)) (s := c * 141) (t := 0) t4 t1 n41 n4 n1 (by omega) (by omega) (by omega) (by omega)) ?_
  simp (disch := omega) only [t0, r1, r2, r3, r4, r5, r6, r7, r8, t1, t2, t3, t4, t5, t6, t7, t8, n1, n2, n3, n4, n5, n6, n7, n8, z1, z2, z3, z4, z5, z6, z7, z8, forall_eq, Nat.reduceAdd, Nat.reduceMul, Nat.reduceEqDiff, Nat.reduceLeDiff, Nat.reduceSub, ne_eq, not_false_eq_true, not_true_eq_false, false_implies, true_implies, implies_true, true_and, and_true, eq_self, li0, li1, li2, li3, li4, li5, li6, li7, li8, li9, li10, li11, li12, li15, li18, li21, li22, li23, li24, li27, li30, li32, li39, li50, li51, li59, li60, li63, li75, li87, li90, li99, li100, li111, li121, li126, li131, li141, li150, li400, li900, li987, li1128, li240, i3_add, i3_toNat, vpt, bI_0, bI_1, bI_bo, Bool.not_eq_false, Bool.true_eq_false, Bool.false_eq_true, Bool.not_eq_true, i3_le', i3_lt', i3_eq', hp_sE_sA, hp_sA_sA, hp_E_sA, hp_T_sA, hp_N_sA, hp_R_sA, hp_I_sA, hp_T_sI, hp_N_sI, hp_R_sI, hp_E_sI, hp_I_sI, hp_sA_sI, hp_sI_sI, hg]
  refine ct_i (c_done (M := hp_sI (hp_sA M (A 1) _) 144 (A 0) (i3 c)) h0) ?_
  rw [Nat.mul_comm]
  exact ⟨rfl, rfl⟩
theorem c_save {G : am_Gx} {d : Nat} {M : am_Hp} {A : Nat → Nat} {g : md_R} (h : mL M A) (hg : hp_E M (A 1) = g) (ok : md_ok g) : am_CT G (d + 2) rX7_save [.ref (A 0)] M 0 0 (qi (g 1) (hp_sI (hp_sI (hp_sA M (A 5) (md_cq 0 0 141 g (hp_E M (A 5)))) 146 (A 0) (i3 1)) 153 (A 0) (i3 0))) := by
  have h0 := h
  obtain ⟨t0, r1, r2, r3, r4, r5, r6, r7, r8, t1, t2, t3, t4, t5, t6, t7, t8, n1, n2, n3, n4, n5, n6, n7, n8, z1, z2, z3, z4, z5, z6, z7, z8, hJ⟩ := h
  have n15 : A 1 ≠ A 5 := fun z => absurd (hJ 1 5 (by omega) (by omega) z) (by omega)
  refine am_intro mkX7_save rfl (Nat.le_of_ble_eq_true rfl) rfl (fun X hX hM => ?_)
  refine vX7_save_0 hX hM ?_
  simp (disch := omega) only [t0, r1, r2, r3, r4, r5, r6, r7, r8, t1, t2, t3, t4, t5, t6, t7, t8, n1, n2, n3, n4, n5, n6, n7, n8, z1, z2, z3, z4, z5, z6, z7, z8, forall_eq, ne_eq, not_false_eq_true, true_and]
  refine ct_v (c_copy (s := 0) (t := 0) t1 t5 n15 n1 n5 (by omega) (by omega) (by omega) (by omega)) ?_
  rw [hg]
  simp (disch := omega) only [t0, r1, r2, r3, r4, r5, r6, r7, r8, t1, t2, t3, t4, t5, t6, t7, t8, n1, n2, n3, n4, n5, n6, n7, n8, z1, z2, z3, z4, z5, z6, z7, z8, forall_eq, Nat.reduceAdd, Nat.reduceMul, Nat.reduceEqDiff, Nat.reduceLeDiff, Nat.reduceSub, ne_eq, not_false_eq_true, not_true_eq_false, false_implies, true_implies, implies_true, true_and, and_true, eq_self, li0, li1, li2, li3, li4, li5, li6, li7, li8, li9, li10, li11, li12, li15, li18, li21, li22, li23, li24, li27, li30, li32, li39, li50, li51, li59, li60, li63, li75, li87, li90, li99, li100, li111, li121, li126, li131, li141, li150, li400, li900, li987, li1128, li240, i3_add, i3_toNat, vpt, bI_0, bI_1, bI_bo, Bool.not_eq_false, Bool.true_eq_false, Bool.false_eq_true, Bool.not_eq_true, i3_le', i3_lt', i3_eq', hp_sE_sA, hp_sA_sA, hp_E_sA, hp_T_sA, hp_N_sA, hp_R_sA, hp_I_sA, hp_T_sI, hp_N_sI, hp_R_sI, hp_E_sI, hp_I_sI, hp_sA_sI, hp_sI_sI, hp_E_sA' _ _ n15, hg]
  refine ⟨Or.inr rfl, ct_i (c_done (M := hp_sI (hp_sA M (A 5) _) 146 (A 0) (i3 1)) h0) ⟨rfl, rfl⟩⟩
theorem c_restore0 {G : am_Gx} {d : Nat} {M : am_Hp} {A : Nat → Nat} (h : mL M A) (hs : hp_I M 146 (A 0) = i3 0) : am_CT G (d + 2) rX7_restore [.ref (A 0)] M 0 0 (qi (i3 0) (hp_sI M 153 (A 0) (i3 1))) := by
  refine am_intro mkX7_restore rfl (Nat.le_of_ble_eq_true rfl) rfl (fun X hX hM => ?_)
  exact vX7_restore_0 hX hM ⟨h.1, fun _ => ct_i (c_fails h) ⟨rfl, rfl⟩, fun z => absurd hs z⟩
theorem c_restore1 {G : am_Gx} {d : Nat} {M : am_Hp} {A : Nat → Nat} {g : md_R} {s : md_R} (h : mL M A) (hg : hp_E M (A 1) = g) (hs : hp_I M 146 (A 0) = i3 1) (hsv : hp_E M (A 5) = s) : am_CT G (d + 2) rX7_restore [.ref (A 0)] M 0 0 (qi (s 1) (hp_sI (hp_sI (hp_sA M (A 1) (md_cq 0 0 141 s g)) 144 (A 0) (i3 0)) 153 (A 0) (i3 0))) := by
  have h0 := h
  obtain ⟨t0, r1, r2, r3, r4, r5, r6, r7, r8, t1, t2, t3, t4, t5, t6, t7, t8, n1, n2, n3, n4, n5, n6, n7, n8, z1, z2, z3, z4, z5, z6, z7, z8, hJ⟩ := h
  have n51 : A 5 ≠ A 1 := fun z => absurd (hJ 5 1 (by omega) (by omega) z) (by omega)
  refine am_intro mkX7_restore rfl (Nat.le_of_ble_eq_true rfl) rfl (fun X hX hM => ?_)
  refine vX7_restore_0 hX hM ?_
  simp (disch := omega) only [t0, r1, r2, r3, r4, r5, r6, r7, r8, t1, t2, t3, t4, t5, t6, t7, t8, n1, n2, n3, n4, n5, n6, n7, n8, z1, z2, z3, z4, z5, z6, z7, z8, forall_eq, Nat.reduceAdd, Nat.reduceMul, Nat.reduceEqDiff, Nat.reduceLeDiff, Nat.reduceSub, ne_eq, not_false_eq_true, not_true_eq_false, false_implies, true_implies, implies_true, true_and, and_true, eq_self, li0, li1, li2, li3, li4, li5, li6, li7, li8, li9, li10, li11, li12, li15, li18, li21, li22, li23, li24, li27, li30, li32, li39, li50, li51, li59, li60, li63, li75, li87, li90, li99, li100, li111, li121, li126, li131, li141, li150, li400, li900, li987, li1128, li240, i3_add, i3_toNat, vpt, bI_0, bI_1, bI_bo, Bool.not_eq_false, Bool.true_eq_false, Bool.false_eq_true, Bool.not_eq_true, i3_le', i3_lt', i3_eq', hp_sE_sA, hp_sA_sA, hp_E_sA, hp_T_sA, hp_N_sA, hp_R_sA, hp_I_sA, hp_T_sI, hp_N_sI, hp_R_sI, hp_E_sI, hp_I_sI, hp_sA_sI, hp_sI_sI, hs]
  refine ct_v (c_copy (s := 0) (t := 0) t5 t1 n51 n5 n1 (by omega) (by omega) (by omega) (by omega)) ?_
  rw [hg, hsv]
  simp (disch := omega) only [t0, r1, r2, r3, r4, r5, r6, r7, r8, t1, t2, t3, t4, t5, t6, t7, t8, n1, n2, n3, n4, n5, n6, n7, n8, z1, z2, z3, z4, z5, z6, z7, z8, forall_eq, Nat.reduceAdd, Nat.reduceMul, Nat.reduceEqDiff, Nat.reduceLeDiff, Nat.reduceSub, ne_eq, not_false_eq_true, not_true_eq_false, false_implies, true_implies, implies_true, true_and, and_true, eq_self, li0, li1, li2, li3, li4, li5, li6, li7, li8, li9, li10, li11, li12, li15, li18, li21, li22, li23, li24, li27, li30, li32, li39, li50, li51, li59, li60, li63, li75, li87, li90, li99, li100, li111, li121, li126, li131, li141, li150, li400, li900, li987, li1128, li240, i3_add, i3_toNat, vpt, bI_0, bI_1, bI_bo, Bool.not_eq_false, Bool.true_eq_false, Bool.false_eq_true, Bool.not_eq_true, i3_le', i3_lt', i3_eq', hp_sE_sA, hp_sA_sA, hp_E_sA, hp_T_sA, hp_N_sA, hp_R_sA, hp_I_sA, hp_T_sI, hp_N_sI, hp_R_sI, hp_E_sI, hp_I_sI, hp_sA_sI, hp_sI_sI]
  refine ct_i (c_done (M := hp_sI (hp_sA M (A 1) _) 144 (A 0) (i3 0)) h0) ⟨?_, rfl⟩
  rfl
/-- the first number of steps from s on, at most k more, with P -/
def md_fs (P : Nat → Bool) : Nat → Nat → Int32
  | 0, _ => -1
  | k + 1, s => if P s = true then i3 s else md_fs P k (s + 1)
theorem md_fs_val (P : Nat → Bool) : ∀ k s, md_fs P k s = -1 ∨ ∃ p, s ≤ p ∧ p < s + k ∧ md_fs P k s = i3 p
  | 0, _ => .inl rfl
  | k + 1, s => by
    rw [md_fs]
    split
    · exact .inr ⟨s, Nat.le_refl _, by omega, rfl⟩
    · rcases md_fs_val P k (s + 1) with h | ⟨p, h1, h2, h3⟩
      · exact .inl h
      · exact .inr ⟨p, by omega, by omega, h3⟩
def md_su (g : md_R) (N : Int32) (b : Bool) : Int32 := md_fs (fun s => md_rc (md_it g s) N b) 91 0
/-- a prediction leaves the row as it was, as far as it goes -/
abbrev qp (v : Int32) (M : am_Hp) (A : Nat → Nat) (g : md_R) (k : Nat) : am_Q := fun o M' => o = .inl (some (.int v)) ∧ ∃ x y : md_R, (∀ j, j < 141 → x j = g j) ∧ M' = hp_sI (hp_sA (hp_sA M (A 3) y) (A 1) x) 153 (A 0) (i3 k)
abbrev qp0 (v : Int32) (M : am_Hp) (A : Nat → Nat) (g : md_R) : am_Q := fun o M' => o = .inl (some (.int v)) ∧ ∃ x y : md_R, (∀ j, j < 141 → x j = g j) ∧ M' = hp_sA (hp_sA M (A 3) y) (A 1) x
theorem md_cq_lo (g y x : md_R) {k : Nat} (hk : k < 141) : md_cq 0 0 141 (md_cq 0 0 141 g y) x k = g k := by
  unfold md_cq
  simp [hk]
theorem ct_p {G : am_Gx} {d : Nat} {r : am_Rec} {as : List Value} {M N : am_Hp} {A : Nat → Nat} {g : md_R} {mc ms : Nat} {v : Int32} {P : Int32 → am_Hp → Prop} (h : am_CT G d r as M mc ms (qp0 v N A g)) (k : ∀ x y : md_R, (∀ j, j < 141 → x j = g j) → P v (hp_sA (hp_sA N (A 3) y) (A 1) x)) : am_CT G d r as M mc ms (fun o M' => ∃ v, o = .inl (some (.int v)) ∧ P v M') :=
  am_CT.mono (fun o M' ⟨e1, x, y, e2, e3⟩ => ⟨v, e1, e3 ▸ k x y e2⟩) h
theorem qp_e {s : md_Sq} {M : am_Hp} {A : Nat → Nat} {g x y : md_R} {k : Nat} {v : Int32} (e : s = (k, v)) (hx : ∀ j, j < 141 → x j = g j) : qp s.2 M A g s.1 (.inl (some (.int v))) (hp_sI (hp_sA (hp_sA M (A 3) y) (A 1) x) 153 (A 0) (i3 k)) := by
  rw [e]
  exact ⟨rfl, x, y, hx, rfl⟩
theorem qp_f {s : md_Sq} {M : am_Hp} {A : Nat → Nat} {g : md_R} {k : Nat} {v : Int32} (hg : hp_E M (A 1) = g) (e : s = (k, v)) : qp s.2 M A g s.1 (.inl (some (.int v))) (hp_sI M 153 (A 0) (i3 k)) := by
  rw [e]
  refine ⟨rfl, g, hp_E M (A 3), fun _ _ => rfl, ?_⟩
  rw [hp_sA_id, hp_sA_nd hg]
theorem c_stepsUntil {G : am_Gx} {d : Nat} {M : am_Hp} {A : Nat → Nat} {g : md_R} {T : Nat} {N : Int32} {b : Bool} (h : mL M A) (hg : hp_E M (A 1) = g) (hw : md_wf T g) (hT : T < 100000000) : am_CT G (d + 8) rX7_stepsUntil [.ref (A 0), .int N, .int (bI b)] M 0 0 (qp0 (md_su g N b) M A g) := by
  have h0 := h
  obtain ⟨t0, r1, r2, r3, r4, r5, r6, r7, r8, t1, t2, t3, t4, t5, t6, t7, t8, n1, n2, n3, n4, n5, n6, n7, n8, z1, z2, z3, z4, z5, z6, z7, z8, hJ⟩ := h
  have n13 : A 1 ≠ A 3 := fun z => absurd (hJ 1 3 (by omega) (by omega) z) (by omega)
  obtain ⟨y, hy⟩ : ∃ y, y = md_cq 0 0 141 g (hp_E M (A 3)) := ⟨_, rfl⟩
  refine am_intro mkX7_stepsUntil rfl (Nat.le_of_ble_eq_true rfl) rfl (fun X hX hM => ?_)
  have L : ∀ k s, s + k = 91 → md_fs (fun s => md_rc (md_it g s) N b) k s = md_su g N b → am_J X 15 [(0, .ref (A 0)), (1, .int N), (2, .int (bI b)), (3, .int (i3 s))] [] (hp_sA (hp_sA M (A 3) y) (A 1) (md_it g s)) 0 0 := by
    intro k
    induction k with
    | zero =>
      intro s hs he
      have e : s = 91 := by omega
      subst e
      refine vX7_stepsUntil_15 hX hM (fun x0 x1 x2 x3 M => am_J X 15 [(0, .ref x0), (1, .int x1), (2, .int x2), (3, .int x3)] [] M 0 0) (fun _ _ _ _ _ h => h) ?_
      simp (disch := omega) only [t0, r1, r2, r3, r4, r5, r6, r7, r8, t1, t2, t3, t4, t5, t6, t7, t8, n1, n2, n3, n4, n5, n6, n7, n8, z1, z2, z3, z4, z5, z6, z7, z8, forall_eq, Nat.reduceAdd, Nat.reduceMul, Nat.reduceEqDiff, Nat.reduceLeDiff, Nat.reduceSub, ne_eq, not_false_eq_true, not_true_eq_false, false_implies, true_implies, implies_true, true_and, and_true, eq_self, li0, li1, li2, li3, li4, li5, li6, li7, li8, li9, li10, li11, li12, li15, li18, li21, li22, li23, li24, li27, li30, li32, li39, li50, li51, li59, li60, li63, li75, li87, li90, li99, li100, li111, li121, li126, li131, li141, li150, li400, li900, li987, li1128, li240, i3_add, i3_toNat, vpt, bI_0, bI_1, bI_bo, Bool.not_eq_false, Bool.true_eq_false, Bool.false_eq_true, Bool.not_eq_true, i3_le', i3_lt', i3_eq', hp_sE_sA, hp_sA_sA, hp_E_sA, hp_T_sA, hp_N_sA, hp_R_sA, hp_I_sA, hp_T_sI, hp_N_sI, hp_R_sI, hp_E_sI, hp_I_sI, hp_sA_sI, hp_sI_sI]
      refine ⟨fun _ => ct_v (c_copy (M := hp_sA (hp_sA M (A 3) y) (A 1) (md_it g 91)) (s := 0) (t := 0) t3 t1 n13.symm n3 n1 (by omega) (by omega) (by omega) (by omega)) ?_, fun z => absurd (show 90 < 91 by omega) z⟩
      simp (disch := omega) only [t0, r1, r2, r3, r4, r5, r6, r7, r8, t1, t2, t3, t4, t5, t6, t7, t8, n1, n2, n3, n4, n5, n6, n7, n8, z1, z2, z3, z4, z5, z6, z7, z8, forall_eq, Nat.reduceAdd, Nat.reduceMul, Nat.reduceEqDiff, Nat.reduceLeDiff, Nat.reduceSub, ne_eq, not_false_eq_true, not_true_eq_false, false_implies, true_implies, implies_true, true_and, and_true, eq_self, li0, li1, li2, li3, li4, li5, li6, li7, li8, li9, li10, li11, li12, li15, li18, li21, li22, li23, li24, li27, li30, li32, li39, li50, li51, li59, li60, li63, li75, li87, li90, li99, li100, li111, li121, li126, li131, li141, li150, li400, li900, li987, li1128, li240, i3_add, i3_toNat, vpt, bI_0, bI_1, bI_bo, Bool.not_eq_false, Bool.true_eq_false, Bool.false_eq_true, Bool.not_eq_true, i3_le', i3_lt', i3_eq', hp_sE_sA, hp_sA_sA, hp_E_sA, hp_T_sA, hp_N_sA, hp_R_sA, hp_I_sA, hp_T_sI, hp_N_sI, hp_R_sI, hp_E_sI, hp_I_sI, hp_sA_sI, hp_sI_sI, hp_E_sA' _ _ n13.symm]
      refine ⟨by rw [← he]; rfl, _, y, fun j hj => ?_, rfl⟩
      rw [hy]
      exact md_cq_lo _ _ _ hj
    | succ k ih =>
      intro s hs he
      have w1 := md_wf_it hw s (by omega)
      rw [md_fs] at he
      have I := ih (s + 1) (by omega)
      rw [md_it_s] at I
      refine vX7_stepsUntil_15 hX hM (fun x0 x1 x2 x3 M => am_J X 15 [(0, .ref x0), (1, .int x1), (2, .int x2), (3, .int x3)] [] M 0 0) (fun _ _ _ _ _ h => h) ?_
      simp (disch := omega) only [t0, r1, r2, r3, r4, r5, r6, r7, r8, t1, t2, t3, t4, t5, t6, t7, t8, n1, n2, n3, n4, n5, n6, n7, n8, z1, z2, z3, z4, z5, z6, z7, z8, forall_eq, Nat.reduceAdd, Nat.reduceMul, Nat.reduceEqDiff, Nat.reduceLeDiff, Nat.reduceSub, ne_eq, not_false_eq_true, not_true_eq_false, false_implies, true_implies, implies_true, true_and, and_true, eq_self, li0, li1, li2, li3, li4, li5, li6, li7, li8, li9, li10, li11, li12, li15, li18, li21, li22, li23, li24, li27, li30, li32, li39, li50, li51, li59, li60, li63, li75, li87, li90, li99, li100, li111, li121, li126, li131, li141, li150, li400, li900, li987, li1128, li240, i3_add, i3_toNat, vpt, bI_0, bI_1, bI_bo, Bool.not_eq_false, Bool.true_eq_false, Bool.false_eq_true, Bool.not_eq_true, i3_le', i3_lt', i3_eq', hp_sE_sA, hp_sA_sA, hp_E_sA, hp_T_sA, hp_N_sA, hp_R_sA, hp_I_sA, hp_T_sI, hp_N_sI, hp_R_sI, hp_E_sI, hp_I_sI, hp_sA_sI, hp_sI_sI]
      refine ⟨fun z => absurd z (by omega), fun _ => ct_i (c_isReached (M := hp_sA (hp_sA M (A 3) y) (A 1) (md_it g s)) h0 (hp_E_sA _ _ _) (md_wf_ok w1)) ?_⟩
      simp (disch := omega) only [t0, r1, r2, r3, r4, r5, r6, r7, r8, t1, t2, t3, t4, t5, t6, t7, t8, n1, n2, n3, n4, n5, n6, n7, n8, z1, z2, z3, z4, z5, z6, z7, z8, forall_eq, Nat.reduceAdd, Nat.reduceMul, Nat.reduceEqDiff, Nat.reduceLeDiff, Nat.reduceSub, ne_eq, not_false_eq_true, not_true_eq_false, false_implies, true_implies, implies_true, true_and, and_true, eq_self, li0, li1, li2, li3, li4, li5, li6, li7, li8, li9, li10, li11, li12, li15, li18, li21, li22, li23, li24, li27, li30, li32, li39, li50, li51, li59, li60, li63, li75, li87, li90, li99, li100, li111, li121, li126, li131, li141, li150, li400, li900, li987, li1128, li240, i3_add, i3_toNat, vpt, bI_0, bI_1, bI_bo, Bool.not_eq_false, Bool.true_eq_false, Bool.false_eq_true, Bool.not_eq_true, i3_le', i3_lt', i3_eq', hp_sE_sA, hp_sA_sA, hp_E_sA, hp_T_sA, hp_N_sA, hp_R_sA, hp_I_sA, hp_T_sI, hp_N_sI, hp_R_sI, hp_E_sI, hp_I_sI, hp_sA_sI, hp_sI_sI]
      refine ⟨fun a1 => ct_v (c_step (M := hp_sA (hp_sA M (A 3) y) (A 1) (md_it g s)) h0 (hp_E_sA _ _ _) w1 (by omega)) ?_, fun a1 => ct_v (c_copy (M := hp_sA (hp_sA M (A 3) y) (A 1) (md_it g s)) (s := 0) (t := 0) t3 t1 n13.symm n3 n1 (by omega) (by omega) (by omega) (by omega)) ?_⟩
      · rw [if_neg (by rw [a1]; decide)] at he
        simp (disch := omega) only [t0, r1, r2, r3, r4, r5, r6, r7, r8, t1, t2, t3, t4, t5, t6, t7, t8, n1, n2, n3, n4, n5, n6, n7, n8, z1, z2, z3, z4, z5, z6, z7, z8, forall_eq, Nat.reduceAdd, Nat.reduceMul, Nat.reduceEqDiff, Nat.reduceLeDiff, Nat.reduceSub, ne_eq, not_false_eq_true, not_true_eq_false, false_implies, true_implies, implies_true, true_and, and_true, eq_self, li0, li1, li2, li3, li4, li5, li6, li7, li8, li9, li10, li11, li12, li15, li18, li21, li22, li23, li24, li27, li30, li32, li39, li50, li51, li59, li60, li63, li75, li87, li90, li99, li100, li111, li121, li126, li131, li141, li150, li400, li900, li987, li1128, li240, i3_add, i3_toNat, vpt, bI_0, bI_1, bI_bo, Bool.not_eq_false, Bool.true_eq_false, Bool.false_eq_true, Bool.not_eq_true, i3_le', i3_lt', i3_eq', hp_sE_sA, hp_sA_sA, hp_E_sA, hp_T_sA, hp_N_sA, hp_R_sA, hp_I_sA, hp_T_sI, hp_N_sI, hp_R_sI, hp_E_sI, hp_I_sI, hp_sA_sI, hp_sI_sI]
        exact I he
      · rw [if_pos a1] at he
        simp (disch := omega) only [t0, r1, r2, r3, r4, r5, r6, r7, r8, t1, t2, t3, t4, t5, t6, t7, t8, n1, n2, n3, n4, n5, n6, n7, n8, z1, z2, z3, z4, z5, z6, z7, z8, forall_eq, Nat.reduceAdd, Nat.reduceMul, Nat.reduceEqDiff, Nat.reduceLeDiff, Nat.reduceSub, ne_eq, not_false_eq_true, not_true_eq_false, false_implies, true_implies, implies_true, true_and, and_true, eq_self, li0, li1, li2, li3, li4, li5, li6, li7, li8, li9, li10, li11, li12, li15, li18, li21, li22, li23, li24, li27, li30, li32, li39, li50, li51, li59, li60, li63, li75, li87, li90, li99, li100, li111, li121, li126, li131, li141, li150, li400, li900, li987, li1128, li240, i3_add, i3_toNat, vpt, bI_0, bI_1, bI_bo, Bool.not_eq_false, Bool.true_eq_false, Bool.false_eq_true, Bool.not_eq_true, i3_le', i3_lt', i3_eq', hp_sE_sA, hp_sA_sA, hp_E_sA, hp_T_sA, hp_N_sA, hp_R_sA, hp_I_sA, hp_T_sI, hp_N_sI, hp_R_sI, hp_E_sI, hp_I_sI, hp_sA_sI, hp_sI_sI, hp_E_sA' _ _ n13.symm]
        refine ⟨fun _ => ⟨by rw [← he], _, y, fun j hj => ?_, rfl⟩, fun z => absurd (show s ≤ 90 by omega) z⟩
        rw [hy]
        exact md_cq_lo _ _ _ hj
  refine vX7_stepsUntil_0 hX hM (fun x0 x1 x2 x3 M => am_J X 15 [(0, .ref x0), (1, .int x1), (2, .int x2), (3, .int x3)] [] M 0 0) (fun _ _ _ _ _ h => h) ?_
  simp (disch := omega) only [t0, r1, r2, r3, r4, r5, r6, r7, r8, t1, t2, t3, t4, t5, t6, t7, t8, n1, n2, n3, n4, n5, n6, n7, n8, z1, z2, z3, z4, z5, z6, z7, z8, forall_eq, ne_eq, not_false_eq_true, true_and]
  refine ct_v (c_copy (s := 0) (t := 0) t1 t3 n13 n1 n3 (by omega) (by omega) (by omega) (by omega)) ?_
  rw [hg, ← hy]
  have I := L 91 0 (by omega) rfl
  rw [show md_it g 0 = g from rfl, hp_sA_nd (show hp_E (hp_sA M (A 3) y) (A 1) = g from (hp_E_sA' _ _ n13).trans hg)] at I
  exact I
def sq_pred (g : md_R) (v : Int32) (b : Bool) : md_Sq := if md_ip g v = true then (if md_su g (g (27 + v.toNatClampNeg)) b = -1 then (2, i3 0) else (0, md_su g (g (27 + v.toNatClampNeg)) b)) else (1, i3 0)
theorem c_predicted {G : am_Gx} {d : Nat} {M : am_Hp} {A : Nat → Nat} {g : md_R} {T : Nat} {v : Int32} {b : Bool} (h : mL M A) (hg : hp_E M (A 1) = g) (hw : md_wf T g) (hT : T < 100000000) : am_CT G (d + 9) rX7_predicted [.ref (A 0), .int v, .int (bI b)] M 0 0 (qp (sq_pred g v b).2 M A g (sq_pred g v b).1) := by
  have h0 := h
  have ok0 := md_wf_ok hw
  have h12 := ok0.2
  obtain ⟨t0, r1, r2, r3, r4, r5, r6, r7, r8, t1, t2, t3, t4, t5, t6, t7, t8, n1, n2, n3, n4, n5, n6, n7, n8, z1, z2, z3, z4, z5, z6, z7, z8, hJ⟩ := h
  refine am_intro mkX7_predicted rfl (Nat.le_of_ble_eq_true rfl) rfl (fun X hX hM => ?_)
  refine vX7_predicted_0 hX hM ⟨t0, ct_i (c_isPassenger h0 hg ok0) ?_⟩
  refine ⟨fun a1 => ⟨t0, ct_i (c_fails h0) (qp_f hg ?_)⟩, fun a1 => ?_⟩
  · rw [show (0 : Int32) = i3 0 from rfl, bI_0] at a1
    unfold sq_pred
    rw [if_neg (by rw [a1]; decide)]
  · rw [show (0 : Int32) = i3 0 from rfl, bI_0, Bool.not_eq_false] at a1
    obtain ⟨p, hp, rfl⟩ := (md_ip_iff ok0).mp a1
    simp (disch := omega) only [t0, r1, r2, r3, r4, r5, r6, r7, r8, t1, t2, t3, t4, t5, t6, t7, t8, n1, n2, n3, n4, n5, n6, n7, n8, z1, z2, z3, z4, z5, z6, z7, z8, forall_eq, Nat.reduceAdd, Nat.reduceMul, Nat.reduceEqDiff, Nat.reduceLeDiff, Nat.reduceSub, ne_eq, not_false_eq_true, not_true_eq_false, false_implies, true_implies, implies_true, true_and, and_true, eq_self, li0, li1, li2, li3, li4, li5, li6, li7, li8, li9, li10, li11, li12, li15, li18, li21, li22, li23, li24, li27, li30, li32, li39, li50, li51, li59, li60, li63, li75, li87, li90, li99, li100, li111, li121, li126, li131, li141, li150, li400, li900, li987, li1128, li240, i3_add, i3_toNat, vpt, bI_0, bI_1, bI_bo, Bool.not_eq_false, Bool.true_eq_false, Bool.false_eq_true, Bool.not_eq_true, i3_le', i3_lt', i3_eq', hp_sE_sA, hp_sA_sA, hp_E_sA, hp_T_sA, hp_N_sA, hp_R_sA, hp_I_sA, hp_T_sI, hp_N_sI, hp_R_sI, hp_E_sI, hp_I_sI, hp_sA_sI, hp_sI_sI, hg]
    refine ct_p (c_stepsUntil h0 hg hw hT) (fun x y hxy => ?_)
    refine ⟨fun a2 => ⟨t0, ct_i (c_fails (M := hp_sA (hp_sA M (A 3) y) (A 1) x) h0) (qp_e (k := 2) ?_ hxy)⟩, fun a2 => ⟨t0, ct_i (c_done (M := hp_sA (hp_sA M (A 3) y) (A 1) x) h0) (qp_e (k := 0) ?_ hxy)⟩⟩
    · unfold sq_pred
      rw [if_pos a1, i3_toNat (by omega), if_pos (show md_su g (g (27 + p)) b = -1 from a2)]
    · unfold sq_pred
      rw [if_pos a1, i3_toNat (by omega), if_neg (show ¬ md_su g (g (27 + p)) b = -1 from a2)]
theorem c_stepsUntilBoarding {G : am_Gx} {d : Nat} {M : am_Hp} {A : Nat → Nat} {g : md_R} {T : Nat} {v : Int32} (h : mL M A) (hg : hp_E M (A 1) = g) (hw : md_wf T g) (hT : T < 100000000) : am_CT G (d + 10) rX7_stepsUntilBoarding [.ref (A 0), .int v] M 0 0 (qp (sq_pred g v true).2 M A g (sq_pred g v true).1) := by
  refine am_intro mkX7_stepsUntilBoarding rfl (Nat.le_of_ble_eq_true rfl) rfl (fun X hX hM => ?_)
  exact vX7_stepsUntilBoarding_0 hX hM ⟨h.1, am_CT.mono (fun o M' ⟨e1, e2⟩ => ⟨_, e1, rfl, e2⟩) (c_predicted (b := true) h hg hw hT)⟩
theorem c_stepsUntilArrival {G : am_Gx} {d : Nat} {M : am_Hp} {A : Nat → Nat} {g : md_R} {T : Nat} {v : Int32} (h : mL M A) (hg : hp_E M (A 1) = g) (hw : md_wf T g) (hT : T < 100000000) : am_CT G (d + 10) rX7_stepsUntilArrival [.ref (A 0), .int v] M 0 0 (qp (sq_pred g v false).2 M A g (sq_pred g v false).1) := by
  refine am_intro mkX7_stepsUntilArrival rfl (Nat.le_of_ble_eq_true rfl) rfl (fun X hX hM => ?_)
  exact vX7_stepsUntilArrival_0 hX hM ⟨h.1, am_CT.mono (fun o M' ⟨e1, e2⟩ => ⟨_, e1, rfl, e2⟩) (c_predicted (b := false) h hg hw hT)⟩
def sq_trips (g : md_R) (v : Int32) : md_Sq := if md_bt (i3 0) v (i3 90) = true then (0, md_it g v.toNatClampNeg 3 - g 3) else (1, i3 0)
theorem c_tripsWithin {G : am_Gx} {d : Nat} {M : am_Hp} {A : Nat → Nat} {g : md_R} {T : Nat} {v : Int32} (h : mL M A) (hg : hp_E M (A 1) = g) (hw : md_wf T g) (hT : T < 100000000) : am_CT G (d + 8) rX7_tripsWithin [.ref (A 0), .int v] M 0 0 (qp (sq_trips g v).2 M A g (sq_trips g v).1) := by
  have h0 := h
  obtain ⟨t0, r1, r2, r3, r4, r5, r6, r7, r8, t1, t2, t3, t4, t5, t6, t7, t8, n1, n2, n3, n4, n5, n6, n7, n8, z1, z2, z3, z4, z5, z6, z7, z8, hJ⟩ := h
  have n13 : A 1 ≠ A 3 := fun z => absurd (hJ 1 3 (by omega) (by omega) z) (by omega)
  obtain ⟨y, hy⟩ : ∃ y, y = md_cq 0 0 141 g (hp_E M (A 3)) := ⟨_, rfl⟩
  refine am_intro mkX7_tripsWithin rfl (Nat.le_of_ble_eq_true rfl) rfl (fun X hX hM => ?_)
  refine vX7_tripsWithin_0 hX hM (fun x0 x1 x2 M => am_J X 31 [(0, .ref x0), (1, .int x1), (2, .int x2)] [] M 0 0) (fun _ _ _ _ h => h) ?_
  refine ct_i c_in' ?_
  simp (disch := omega) only [t0, r1, r2, r3, r4, r5, r6, r7, r8, t1, t2, t3, t4, t5, t6, t7, t8, n1, n2, n3, n4, n5, n6, n7, n8, z1, z2, z3, z4, z5, z6, z7, z8, forall_eq, Nat.reduceAdd, Nat.reduceMul, Nat.reduceEqDiff, Nat.reduceLeDiff, Nat.reduceSub, ne_eq, not_false_eq_true, not_true_eq_false, false_implies, true_implies, implies_true, true_and, and_true, eq_self, li0, li1, li2, li3, li4, li5, li6, li7, li8, li9, li10, li11, li12, li15, li18, li21, li22, li23, li24, li27, li30, li32, li39, li50, li51, li59, li60, li63, li75, li87, li90, li99, li100, li111, li121, li126, li131, li141, li150, li400, li900, li987, li1128, li240, i3_add, i3_toNat, vpt, bI_0, bI_1, bI_bo, Bool.not_eq_false, Bool.true_eq_false, Bool.false_eq_true, Bool.not_eq_true, i3_le', i3_lt', i3_eq', hp_sE_sA, hp_sA_sA, hp_E_sA, hp_T_sA, hp_N_sA, hp_R_sA, hp_I_sA, hp_T_sI, hp_N_sI, hp_R_sI, hp_E_sI, hp_I_sI, hp_sA_sI, hp_sI_sI]
  refine ⟨fun a1 => ct_i (c_fails h0) (qp_f hg (by unfold sq_trips; rw [if_neg (by rw [a1]; decide)])), fun a1 => ?_⟩
  have a2 := a1
  unfold md_bt at a2
  rw [Bool.and_eq_true, decide_eq_true_eq, decide_eq_true_eq] at a2
  obtain ⟨n, hn, rfl⟩ := i3_of (v := v) (n := 91) a2.1 (by have := a2.2; rw [Int32.lt_iff_toInt_lt]; rw [Int32.le_iff_toInt_le] at this; have e1 : (i3 90).toInt = 90 := rfl; have e2 : (i3 91).toInt = 91 := rfl; omega) (by omega)
  have L : ∀ k j, j + k = n → am_J X 31 [(0, .ref (A 0)), (1, .int (i3 n)), (2, .int (i3 j))] [] (hp_sA (hp_sA M (A 3) y) (A 1) (md_it g j)) 0 0 := by
    intro k
    induction k with
    | zero =>
      intro j hj
      have e : j = n := by omega
      subst e
      refine vX7_tripsWithin_31 hX hM (fun x0 x1 x2 M => am_J X 31 [(0, .ref x0), (1, .int x1), (2, .int x2)] [] M 0 0) (fun _ _ _ _ h => h) ?_
      simp (disch := omega) only [t0, r1, r2, r3, r4, r5, r6, r7, r8, t1, t2, t3, t4, t5, t6, t7, t8, n1, n2, n3, n4, n5, n6, n7, n8, z1, z2, z3, z4, z5, z6, z7, z8, forall_eq, Nat.reduceAdd, Nat.reduceMul, Nat.reduceEqDiff, Nat.reduceLeDiff, Nat.reduceSub, ne_eq, not_false_eq_true, not_true_eq_false, false_implies, true_implies, implies_true, true_and, and_true, eq_self, li0, li1, li2, li3, li4, li5, li6, li7, li8, li9, li10, li11, li12, li15, li18, li21, li22, li23, li24, li27, li30, li32, li39, li50, li51, li59, li60, li63, li75, li87, li90, li99, li100, li111, li121, li126, li131, li141, li150, li400, li900, li987, li1128, li240, i3_add, i3_toNat, vpt, bI_0, bI_1, bI_bo, Bool.not_eq_false, Bool.true_eq_false, Bool.false_eq_true, Bool.not_eq_true, i3_le', i3_lt', i3_eq', hp_sE_sA, hp_sA_sA, hp_E_sA, hp_T_sA, hp_N_sA, hp_R_sA, hp_I_sA, hp_T_sI, hp_N_sI, hp_R_sI, hp_E_sI, hp_I_sI, hp_sA_sI, hp_sI_sI]
      refine ⟨fun _ => ct_v (c_copy (M := hp_sA (hp_sA M (A 3) y) (A 1) (md_it g j)) (s := 0) (t := 0) t3 t1 n13.symm n3 n1 (by omega) (by omega) (by omega) (by omega)) ?_, fun z => absurd (Nat.le_refl _) z⟩
      simp (disch := omega) only [t0, r1, r2, r3, r4, r5, r6, r7, r8, t1, t2, t3, t4, t5, t6, t7, t8, n1, n2, n3, n4, n5, n6, n7, n8, z1, z2, z3, z4, z5, z6, z7, z8, forall_eq, Nat.reduceAdd, Nat.reduceMul, Nat.reduceEqDiff, Nat.reduceLeDiff, Nat.reduceSub, ne_eq, not_false_eq_true, not_true_eq_false, false_implies, true_implies, implies_true, true_and, and_true, eq_self, li0, li1, li2, li3, li4, li5, li6, li7, li8, li9, li10, li11, li12, li15, li18, li21, li22, li23, li24, li27, li30, li32, li39, li50, li51, li59, li60, li63, li75, li87, li90, li99, li100, li111, li121, li126, li131, li141, li150, li400, li900, li987, li1128, li240, i3_add, i3_toNat, vpt, bI_0, bI_1, bI_bo, Bool.not_eq_false, Bool.true_eq_false, Bool.false_eq_true, Bool.not_eq_true, i3_le', i3_lt', i3_eq', hp_sE_sA, hp_sA_sA, hp_E_sA, hp_T_sA, hp_N_sA, hp_R_sA, hp_I_sA, hp_T_sI, hp_N_sI, hp_R_sI, hp_E_sI, hp_I_sI, hp_sA_sI, hp_sI_sI, hp_E_sA' _ _ n13.symm]
      refine ct_i (c_done (M := hp_sA (hp_sA M (A 3) y) (A 1) _) h0) ?_
      have e3 : md_cq 0 0 141 y (md_it g j) 3 = g 3 := by rw [hy]; exact md_cq_lo _ _ _ (by omega)
      rw [e3]
      refine qp_e ?_ (fun k hk => by rw [hy]; exact md_cq_lo _ _ _ hk)
      unfold sq_trips
      rw [if_pos a1, i3_toNat (by omega)]
    | succ k ih =>
      intro j hj
      have I := ih (j + 1) (by omega)
      rw [md_it_s] at I
      refine vX7_tripsWithin_31 hX hM (fun x0 x1 x2 M => am_J X 31 [(0, .ref x0), (1, .int x1), (2, .int x2)] [] M 0 0) (fun _ _ _ _ h => h) ?_
      simp (disch := omega) only [t0, r1, r2, r3, r4, r5, r6, r7, r8, t1, t2, t3, t4, t5, t6, t7, t8, n1, n2, n3, n4, n5, n6, n7, n8, z1, z2, z3, z4, z5, z6, z7, z8, forall_eq, Nat.reduceAdd, Nat.reduceMul, Nat.reduceEqDiff, Nat.reduceLeDiff, Nat.reduceSub, ne_eq, not_false_eq_true, not_true_eq_false, false_implies, true_implies, implies_true, true_and, and_true, eq_self, li0, li1, li2, li3, li4, li5, li6, li7, li8, li9, li10, li11, li12, li15, li18, li21, li22, li23, li24, li27, li30, li32, li39, li50, li51, li59, li60, li63, li75, li87, li90, li99, li100, li111, li121, li126, li131, li141, li150, li400, li900, li987, li1128, li240, i3_add, i3_toNat, vpt, bI_0, bI_1, bI_bo, Bool.not_eq_false, Bool.true_eq_false, Bool.false_eq_true, Bool.not_eq_true, i3_le', i3_lt', i3_eq', hp_sE_sA, hp_sA_sA, hp_E_sA, hp_T_sA, hp_N_sA, hp_R_sA, hp_I_sA, hp_T_sI, hp_N_sI, hp_R_sI, hp_E_sI, hp_I_sI, hp_sA_sI, hp_sI_sI]
      refine ⟨fun z => absurd z (by omega), fun _ => ct_v (c_step (M := hp_sA (hp_sA M (A 3) y) (A 1) (md_it g j)) h0 (hp_E_sA _ _ _) (md_wf_it hw j (by omega)) (by omega)) ?_⟩
      simp (disch := omega) only [t0, r1, r2, r3, r4, r5, r6, r7, r8, t1, t2, t3, t4, t5, t6, t7, t8, n1, n2, n3, n4, n5, n6, n7, n8, z1, z2, z3, z4, z5, z6, z7, z8, forall_eq, Nat.reduceAdd, Nat.reduceMul, Nat.reduceEqDiff, Nat.reduceLeDiff, Nat.reduceSub, ne_eq, not_false_eq_true, not_true_eq_false, false_implies, true_implies, implies_true, true_and, and_true, eq_self, li0, li1, li2, li3, li4, li5, li6, li7, li8, li9, li10, li11, li12, li15, li18, li21, li22, li23, li24, li27, li30, li32, li39, li50, li51, li59, li60, li63, li75, li87, li90, li99, li100, li111, li121, li126, li131, li141, li150, li400, li900, li987, li1128, li240, i3_add, i3_toNat, vpt, bI_0, bI_1, bI_bo, Bool.not_eq_false, Bool.true_eq_false, Bool.false_eq_true, Bool.not_eq_true, i3_le', i3_lt', i3_eq', hp_sE_sA, hp_sA_sA, hp_E_sA, hp_T_sA, hp_N_sA, hp_R_sA, hp_I_sA, hp_T_sI, hp_N_sI, hp_R_sI, hp_E_sI, hp_I_sI, hp_sA_sI, hp_sI_sI]
      exact I
  refine ct_v (c_copy (s := 0) (t := 0) t1 t3 n13 n1 n3 (by omega) (by omega) (by omega) (by omega)) ?_
  rw [hg, ← hy]
  have I := L n 0 (by omega)
  rw [show md_it g 0 = g from rfl, hp_sA_nd (show hp_E (hp_sA M (A 3) y) (A 1) = g from (hp_E_sA' _ _ n13).trans hg)] at I
  exact I
