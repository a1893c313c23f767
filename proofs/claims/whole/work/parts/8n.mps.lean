/-! .. the reference's parser (made by gen/mk/mk8n.py) -/
def qFr (A : Nat → Nat) (M M' : am_Hp) : Prop := sk M M' ∧ (∀ x, x ≠ A 0 → x ≠ A 8 → ag M M' x) ∧ ∀ u, u ≠ 154 → u ≠ 155 → hp_I M' u (A 0) = hp_I M u (A 0)
theorem qFr.rf (A : Nat → Nat) (M : am_Hp) : qFr A M M := ⟨sk.rf M, fun _ _ _ => ⟨fun _ => rfl, rfl, rfl⟩, fun _ _ _ => rfl⟩
theorem qFr.tr {A : Nat → Nat} {M M1 M2 : am_Hp} (h : qFr A M M1) (k : qFr A M1 M2) : qFr A M M2 := ⟨h.1.trans k.1, fun x a b => ag.tr (h.2.1 x a b) (k.2.1 x a b), fun u a b => (k.2.2 u a b).trans (h.2.2 u a b)⟩
theorem mL_sk {M M' : am_Hp} {A : Nat → Nat} (s : sk M M') (h : mL M A) : mL M' A := by
  unfold mL at h ⊢
  rw [s.1, s.2.1, s.2.2.1]
  exact h
/-- the reference's parsing state, from M0 on -/
def nS (A : Nat → Nat) (M0 M : am_Hp) (l : List Nat) (w : Bool) (sp : Nat) (F : md_R) : Prop := qFr A M0 M ∧ mL M A ∧ yT M A l ∧ hp_I M 154 (A 0) = i3 sp ∧ hp_I M 155 (A 0) = bI w ∧ hp_E M (A 8) = F
theorem nS_f {A : Nat → Nat} {M0 M : am_Hp} {l : List Nat} {w : Bool} {sp : Nat} {F : md_R} (h : nS A M0 M l w sp F) : hp_T M (A 0) = 8 ∧ hp_R M 156 (A 0) = A 8 ∧ hp_T M (A 8) = 22 ∧ hp_N M (A 8) = 240 ∧ A 8 ≠ 0 := by
  obtain ⟨t0, r1, r2, r3, r4, r5, r6, r7, r8, t1, t2, t3, t4, t5, t6, t7, t8, n1, n2, n3, n4, n5, n6, n7, n8, z1, z2, z3, z4, z5, z6, z7, z8, hJ⟩ := h.2.1
  exact ⟨t0, r8, t8, n8, z8⟩
theorem mL_ne {M : am_Hp} {A : Nat → Nat} {i j : Nat} (h : mL M A) (hi : i ≤ 8) (hj : j ≤ 8) (hne : i ≠ j) : A i ≠ A j := by
  obtain ⟨t0, r1, r2, r3, r4, r5, r6, r7, r8, t1, t2, t3, t4, t5, t6, t7, t8, n1, n2, n3, n4, n5, n6, n7, n8, z1, z2, z3, z4, z5, z6, z7, z8, hJ⟩ := h
  exact fun z => hne (hJ i j hi hj z)
theorem qF_I {A : Nat → Nat} {M : am_Hp} {u : Nat} {v : Int32} (hu : u = 154 ∨ u = 155) : qFr A M (hp_sI M u (A 0) v) := ⟨⟨rfl, rfl, rfl, rfl, rfl⟩, fun x a _ => ⟨fun w => hp_I_sIa M u w v a, rfl, rfl⟩, fun w a b => hp_I_sIu _ _ _ _ (by omega)⟩
theorem qF_E {A : Nat → Nat} {M : am_Hp} {k : Nat} {v : Int32} : qFr A M (hp_sE M (A 8) k v) := ⟨⟨rfl, rfl, rfl, rfl, rfl⟩, fun x _ b => ⟨fun _ => rfl, hp_u_row' _ _ b, rfl⟩, fun _ _ _ => rfl⟩
theorem yT_I {A : Nat → Nat} {M : am_Hp} {l : List Nat} {u : Nat} {v : Int32} (hu : u ≠ 148) (h : yT M A l) : yT (hp_sI M u (A 0) v) A l := ⟨by rw [hp_I_sIu _ _ _ _ (by omega)]; exact h.1, h.2⟩
theorem yT_E {A : Nat → Nat} {M : am_Hp} {l : List Nat} {k : Nat} {v : Int32} (hm : mL M A) (h : yT M A l) : yT (hp_sE M (A 8) k v) A l := ⟨h.1, h.2.1, fun i hi => by
  have e : hp_E (hp_sE M (A 8) k v) (A 6) = hp_E M (A 6) := hp_u_row' _ _ (mL_ne hm (by omega) (by omega) (by omega))
  rw [e]
  exact h.2.2 i hi⟩
theorem nS_put {A : Nat → Nat} {M0 M M' : am_Hp} {l : List Nat} {w : Bool} {sp k : Nat} {F : md_R} {v : Int32} (h : nS A M0 M l w sp F) (e : M' = hp_sE M (A 8) k v) : nS A M0 M' l w sp (va_up F k v) := by
  subst e
  obtain ⟨h1, h2, h3, h4, h5, h6⟩ := h
  exact ⟨h1.tr qF_E, h2, yT_E h2 h3, h4, h5, by rw [← h6]; exact hp_u_row _ _ _ _⟩
theorem nS_I {A : Nat → Nat} {M0 M : am_Hp} {l : List Nat} {w : Bool} {sp s : Nat} {F : md_R} (h : nS A M0 M l w sp F) : nS A M0 (hp_sI M 154 (A 0) (i3 s)) l w s F := by
  obtain ⟨h1, h2, h3, h4, h5, h6⟩ := h
  exact ⟨h1.tr (qF_I (.inl rfl)), h2, yT_I (by decide) h3, hp_I_sI _ _ _ _, by rw [hp_I_sIu _ _ _ _ (by decide)]; exact h5, h6⟩
theorem nS_W {A : Nat → Nat} {M0 M : am_Hp} {l : List Nat} {w b : Bool} {sp : Nat} {F : md_R} {v : Int32} (h : nS A M0 M l w sp F) (hv : v = bI b) : nS A M0 (hp_sI M 155 (A 0) v) l b sp F := by
  obtain ⟨h1, h2, h3, h4, h5, h6⟩ := h
  exact ⟨h1.tr (qF_I (.inr rfl)), h2, yT_I (by decide) h3, by rw [hp_I_sIu _ _ _ _ (by decide)]; exact h4, by rw [hv]; exact hp_I_sI _ _ _ _, h6⟩
/-- the letter at the place, or -1 -/
def hv (l : List Nat) (sp : Nat) : Int32 := if sp < l.length then i3 (l.getD sp 0) else -1
theorem hv_eq {l : List Nat} {sp c : Nat} (hl : ∀ i, i < l.length → l.getD i 0 < 128) (hc : c < 128) : hv l sp = i3 c ↔ tk l sp = c := by
  unfold hv tk
  by_cases h : sp < l.length
  · rw [if_pos h, if_pos h]
    exact i3_eq (by have := hl sp h; omega) (by omega)
  · rw [if_neg h, if_neg h]
    exact ⟨fun z => absurd z.symm (i3_nm1 (by omega)), fun z => by omega⟩
theorem hv_in {l : List Nat} {sp : Nat} (hl : ∀ i, i < l.length → l.getD i 0 < 128) : (decide ((48 : Int32) ≤ hv l sp) && decide (hv l sp ≤ 57)) = decide (48 ≤ tk l sp ∧ tk l sp ≤ 57) := by
  unfold hv tk
  by_cases h : sp < l.length
  · rw [if_pos h, if_pos h]
    have h1 := hl sp h
    rw [Bool.eq_iff_iff, Bool.and_eq_true, decide_eq_true_eq, decide_eq_true_eq, decide_eq_true_eq]
    exact and_congr (i3_le (a := 48) (by omega) (by omega)) (i3_le (b := 57) (by omega) (by omega))
  · rw [if_neg h, if_neg h]
    decide
theorem n_here {G : am_Gx} {d sp : Nat} {A : Nat → Nat} {M0 M : am_Hp} {l : List Nat} {w : Bool} {F : md_R} (h : nS A M0 M l w sp F) (hs : sp < 100000) : am_CT G (d + 1) rX7_here [.ref (A 0)] M 0 0 (qi (hv l sp) M) := by
  obtain ⟨-, h2, h3, h4, -, -⟩ := h
  obtain ⟨t0, r1, r2, r3, r4, r5, r6, r7, r8, t1, t2, t3, t4, t5, t6, t7, t8, n1, n2, n3, n4, n5, n6, n7, n8, z1, z2, z3, z4, z5, z6, z7, z8, hJ⟩ := h2
  obtain ⟨y1, y2, y3⟩ := h3
  refine am_intro mkX7_here rfl (Nat.le_of_ble_eq_true rfl) rfl (fun X hX hM => ?_)
  refine vX7_here_0 hX hM ⟨t0, ?_⟩
  simp only [forall_eq]
  rw [y1, h4, r6, n6]
  unfold hv
  refine ⟨fun z => ?_, fun z => ?_⟩
  · have z1 := (i3_le (by omega) (by omega)).mp z
    rw [if_neg (by omega)]
    exact ⟨rfl, rfl⟩
  · have z1 : sp < l.length := Nat.lt_of_not_le (fun y => z ((i3_le (by omega) (by omega)).mpr y))
    rw [if_pos z1, i3_toNat (by omega), (y3 sp z1).2.2]
    exact ⟨z6, t6, vp_in_i3 (by omega) (by omega), rfl, rfl⟩
def ns (l : List Nat) (c : Nat) (w : Bool) (sp : Nat) : Bool × Nat := if w = true then (true, sp) else if tk l sp = c then (false, sp + 1) else (true, sp)
theorem yT_128 {A : Nat → Nat} {M : am_Hp} {l : List Nat} (h : yT M A l) : ∀ i, i < l.length → l.getD i 0 < 128 := fun i hi => (h.2.2 i hi).1
theorem b1_ne : ¬ bI true = (0 : Int32) := by decide
theorem n_needs {G : am_Gx} {d sp c : Nat} {A : Nat → Nat} {M0 M : am_Hp} {l : List Nat} {w : Bool} {F : md_R} (h : nS A M0 M l w sp F) (hs : sp < 1000) (hc : c < 128) : am_CT G (d + 2) rX7_needs [.ref (A 0), .int (i3 c)] M 0 0 (fun o M' => o = .inl none ∧ nS A M0 M' l (ns l c w sp).1 (ns l c w sp).2 F) := by
  have h0 := h
  obtain ⟨h1, h2, h3, h4, h5, h6⟩ := h
  refine am_intro mkX7_needs rfl (Nat.le_of_ble_eq_true rfl) rfl (fun X hX hM => ?_)
  refine vX7_needs_0 hX hM ⟨(nS_f h0).1, ?_⟩
  rw [h5]
  simp only [forall_eq]
  refine ⟨fun z => ?_, fun z => ?_⟩
  · have w0 : w = false := (bI_0 w).mp z
    subst w0
    refine ct_i (n_here h0 (by omega)) ⟨fun y => ?_, fun y => ?_⟩
    · have y1 := (hv_eq (yT_128 h3) hc).mp y
      refine ⟨(nS_f h0).1, Or.inl rfl, ?_⟩
      rw [hp_I_sI, hp_I_sIu _ _ _ _ (by decide), h4]
      refine ⟨fun _ => ⟨by trivial, ?_⟩, fun x => absurd (by trivial) x⟩
      rw [i3_one, show ns l c false sp = (false, sp + 1) by unfold ns; rw [if_neg (by decide), if_pos y1]]
      exact nS_I (nS_W h0 rfl)
    · have y1 : tk l sp ≠ c := fun q => y ((hv_eq (yT_128 h3) hc).mpr q)
      refine ⟨(nS_f h0).1, Or.inr rfl, ?_⟩
      rw [hp_I_sI, hp_I_sIu _ _ _ _ (by decide), h4]
      refine ⟨fun x => absurd x (by decide), fun _ => ⟨by trivial, ?_⟩⟩
      rw [show i3 sp + 0 = i3 sp from i3_add sp 0, show ns l c false sp = (true, sp) by unfold ns; rw [if_neg (by decide), if_neg y1]]
      exact nS_I (nS_W h0 rfl)
  · have w0 : w = true := Bool.not_eq_false _ |>.mp (fun y => z ((bI_0 w).mpr y))
    subst w0
    refine ⟨Or.inr rfl, ?_⟩
    rw [hp_I_sI, hp_I_sIu _ _ _ _ (by decide), h4]
    refine ⟨fun x => absurd x (by decide), fun _ => ⟨by trivial, ?_⟩⟩
    rw [show i3 sp + 0 = i3 sp from i3_add sp 0, show ns l c true sp = (true, sp) from if_pos rfl]
    exact nS_I (nS_W h0 rfl)
theorem ns_le {l : List Nat} {c sp n : Nat} {w : Bool} (hc : c < 1000) (h : sp ≤ n) (hn : l.length ≤ n) : (ns l c w sp).2 ≤ n := by
  unfold ns
  split
  · exact h
  · split
    · rename_i e
      by_cases z : sp < l.length
      · show sp + 1 ≤ n
        omega
      · rw [tk_out (by omega)] at e
        omega
    · exact h
theorem ct_nS {G : am_Gx} {d : Nat} {r : am_Rec} {as : List Value} {A : Nat → Nat} {M0 M : am_Hp} {l : List Nat} {w : Bool} {sp : Nat} {F : md_R} {P : am_Hp → Prop} (h : am_CT G d r as M 0 0 (fun o M' => o = .inl none ∧ nS A M0 M' l w sp F)) (k : ∀ M', nS A M0 M' l w sp F → P M') : am_CT G d r as M 0 0 (fun o M' => o = .inl none ∧ P M') := am_CT.mono (fun _ M' h => ⟨h.1, k M' h.2⟩) h
theorem n_needsThree {G : am_Gx} {d sp a b c : Nat} {A : Nat → Nat} {M0 M : am_Hp} {l : List Nat} {w : Bool} {F : md_R} (h : nS A M0 M l w sp F) (hs : sp ≤ 100) (ha : a < 128) (hb : b < 128) (hc : c < 128) : am_CT G (d + 3) rX7_needsThree [.ref (A 0), .int (i3 a), .int (i3 b), .int (i3 c)] M 0 0 (fun o M' => o = .inl none ∧ nS A M0 M' l (ns l c (ns l b (ns l a w sp).1 (ns l a w sp).2).1 (ns l b (ns l a w sp).1 (ns l a w sp).2).2).1 (ns l c (ns l b (ns l a w sp).1 (ns l a w sp).2).1 (ns l b (ns l a w sp).1 (ns l a w sp).2).2).2 F) := by
  have hl := h.2.2.1.2.1
  have l1 := ns_le (l := l) (c := a) (sp := sp) (n := 100) (w := w) (by omega) hs (by omega)
  have l2 := ns_le (l := l) (c := b) (n := 100) (w := (ns l a w sp).1) (by omega) l1 (by omega)
  refine am_intro mkX7_needsThree rfl (Nat.le_of_ble_eq_true rfl) rfl (fun X hX hM => ?_)
  refine vX7_needsThree_0 hX hM ⟨(nS_f h).1, ct_nS (n_needs h (by omega) ha) (fun M1 h1 => ⟨(nS_f h1).1, ct_nS (n_needs h1 (by omega) hb) (fun M2 h2 => ⟨(nS_f h2).1, ct_nS (n_needs h2 (by omega) hc) (fun M3 h3 => ⟨rfl, h3⟩)⟩)⟩)⟩
def dsg (l : List Nat) (m : Nat) (w : Bool) (sp : Nat) : Bool × Nat × Nat := if (ns l 32 w sp).1 = true then (true, (ns l 32 w sp).2, 0) else if dE l m (ns l 32 w sp).2 = (ns l 32 w sp).2 then (true, (ns l 32 w sp).2, 0) else (false, dE l m (ns l 32 w sp).2, dV l (dE l m (ns l 32 w sp).2 - (ns l 32 w sp).2) (ns l 32 w sp).2 0)
theorem dV_snoc (l : List Nat) : ∀ n a v, dV l (n + 1) a v = 10 * dV l n a v + (tk l (a + n) - 48)
  | 0, a, v => rfl
  | n + 1, a, v => by
    rw [dV, dV_snoc l n (a + 1), dV]
    congr 3
    omega
theorem n_digits {G : am_Gx} {d sp m : Nat} {A : Nat → Nat} {M0 M : am_Hp} {l : List Nat} {w : Bool} {F : md_R} (h : nS A M0 M l w sp F) (hs : sp ≤ 100) (hm : 1 ≤ m) (hm3 : m ≤ 3) : am_CT G (d + 3) rX7_digits [.ref (A 0), .int (i3 m)] M 0 0 (fun o M' => o = .inl (some (.int (i3 (dsg l m w sp).2.2))) ∧ nS A M0 M' l (dsg l m w sp).1 (dsg l m w sp).2.1 F) := by
  have hl := h.2.2.1.2.1
  have l1 := ns_le (l := l) (c := 32) (sp := sp) (n := 100) (w := w) (by omega) hs (by omega)
  have hc := yT_128 h.2.2.1
  refine am_intro mkX7_digits rfl (Nat.le_of_ble_eq_true rfl) rfl (fun X hX hM => ?_)
  refine vX7_digits_0 hX hM (fun x0 x1 x2 x3 M => am_J X 40 [(0, .ref x0), (1, .int x1), (2, .int x2), (3, .int x3)] [] M 0 0) (fun _ _ _ _ _ h => h) ⟨(nS_f h).1, ct_nS (n_needs (c := 32) h (by omega) (by omega)) (fun M1 h1 => ⟨(nS_f h1).1, ?_⟩)⟩
  generalize hw1 : (ns l 32 w sp).1 = w1 at h1
  generalize hs1 : (ns l 32 w sp).2 = s1 at h1 l1
  have loop : ∀ n x M2, n + x = m → nS A M0 M2 l false (s1 + x) F → dE l n (s1 + x) = dE l m s1 → (∀ i, s1 ≤ i → i < s1 + x → 48 ≤ tk l i ∧ tk l i ≤ 57) → s1 + x ≤ 100 → dE l m s1 ≠ s1 → w1 = false → am_J X 40 [(0, .ref (A 0)), (1, .int (i3 m)), (2, .int (i3 (dV l x s1 0))), (3, .int (i3 x))] [] M2 0 0 := by
    intro n
    induction n with
    | zero =>
      intro x M2 hx h2 hd hdig hb hne hwf
      obtain rfl : x = m := by omega
      rw [dE] at hd
      refine vX7_digits_40 hX hM (fun x0 x1 x2 x3 M => am_J X 40 [(0, .ref x0), (1, .int x1), (2, .int x2), (3, .int x3)] [] M 0 0) (fun _ _ _ _ _ h => h) ⟨(nS_f h2).1, ?_⟩
      rw [h2.2.2.2.2.1]
      refine ⟨fun _ => ⟨fun _ => ?_, fun z => absurd (Int32.le_refl _) z⟩, fun z => absurd rfl z⟩
      have e : dsg l x w sp = (false, dE l x s1, dV l (dE l x s1 - s1) s1 0) := by
        unfold dsg
        rw [hw1, hs1, hwf, if_neg (by decide), if_neg hne]
      rw [e, ← hd, Nat.add_sub_cancel_left]
      exact ⟨rfl, h2⟩
    | succ n ih =>
      intro x M2 hx h2 hd hdig hb hne hwf
      have e : dsg l m w sp = (false, dE l m s1, dV l (dE l m s1 - s1) s1 0) := by
        unfold dsg
        rw [hw1, hs1, hwf, if_neg (by decide), if_neg hne]
      refine vX7_digits_40 hX hM (fun x0 x1 x2 x3 M => am_J X 40 [(0, .ref x0), (1, .int x1), (2, .int x2), (3, .int x3)] [] M 0 0) (fun _ _ _ _ _ h => h) ⟨(nS_f h2).1, ?_⟩
      rw [h2.2.2.2.2.1]
      refine ⟨fun _ => ⟨fun z => absurd ((i3_le (by omega) (by omega)).mp z) (by omega), fun _ => ct_i (n_here h2 (by omega)) (ct_i c_in ?_)⟩, fun z => absurd rfl z⟩
      rw [hv_in hc]
      by_cases cd : 48 ≤ tk l (s1 + x) ∧ tk l (s1 + x) ≤ 57
      · rw [decide_eq_true cd]
        refine ⟨fun z => absurd z (by decide), fun _ => ⟨(nS_f h2).1, ct_i (n_here h2 (by omega)) ?_⟩⟩
        have lt : s1 + x < l.length := Nat.lt_of_not_le (fun z => by rw [tk_out z] at cd; omega)
        intro v ev
        refine ⟨(nS_f h2).1, fun M3 e3 v4 e4 => ?_⟩
        rw [dE, if_pos cd] at hd
        have hv1 : hv l (s1 + x) = i3 (tk l (s1 + x)) := by unfold hv; rw [if_pos lt, tk_in lt]
        have ev2 : v = i3 (dV l (x + 1) s1 0) := by
          rw [ev, hv1, show (10 : Int32) = i3 10 from rfl, i3_mul, i3_add, show (48 : Int32) = i3 48 from rfl, i3_sub' (by omega), dV_snoc]
          congr 1
          omega
        rw [h2.2.2.2.1, i3_one] at e3
        rw [i3_one] at e4
        rw [ev2, e4]
        have h3 : nS A M0 M3 l false (s1 + (x + 1)) F := by rw [e3]; exact nS_I h2
        exact ih (x + 1) M3 (by omega) h3 hd (fun i i1 i2 => by
          by_cases q : i = s1 + x
          · rw [q]; exact cd
          · exact hdig i i1 (by omega)) (by omega) hne hwf
      · rw [decide_eq_false cd]
        refine ⟨fun _ => ?_, fun z => absurd rfl z⟩
        rw [dE, if_neg cd] at hd
        rw [e, ← hd, Nat.add_sub_cancel_left]
        exact ⟨rfl, h2⟩
  cases w1 with
  | true =>
    rw [h1.2.2.2.2.1]
    have e : dsg l m w sp = (true, s1, 0) := by
      unfold dsg
      rw [hw1, hs1, if_pos rfl]
    refine ⟨fun z => absurd z (by decide), fun _ => ⟨Or.inr rfl, fun M7 e7 => ?_⟩⟩
    have h7 : nS A M0 M7 l true s1 F := by rw [e7]; exact nS_W h1 rfl
    refine vX7_digits_40 hX hM (fun x0 x1 x2 x3 M => am_J X 40 [(0, .ref x0), (1, .int x1), (2, .int x2), (3, .int x3)] [] M 0 0) (fun _ _ _ _ _ h => h) ⟨(nS_f h7).1, ?_⟩
    rw [h7.2.2.2.2.1, e]
    exact ⟨fun z => absurd z (by decide), fun _ => ⟨rfl, h7⟩⟩
  | false =>
    rw [h1.2.2.2.2.1]
    refine ⟨fun _ => ct_i (n_here h1 (by omega)) (ct_i c_in ?_), fun z => absurd rfl z⟩
    rw [hv_in hc]
    have dm : dE l m s1 = s1 ↔ ¬ (48 ≤ tk l s1 ∧ tk l s1 ≤ 57) := by
      obtain ⟨m', rfl⟩ : ∃ m', m = m' + 1 := ⟨m - 1, by omega⟩
      rw [dE]
      constructor
      · intro q z
        rw [if_pos z] at q
        have := dE_ge l m' (s1 + 1)
        omega
      · intro q
        rw [if_neg q]
    by_cases cd : 48 ≤ tk l s1 ∧ tk l s1 ≤ 57
    · rw [decide_eq_true cd]
      refine ⟨fun z => absurd z (by decide), fun _ => ⟨(nS_f h1).1, Or.inl rfl, fun M7 e7 => ?_⟩⟩
      have h7 : nS A M0 M7 l false s1 F := by rw [e7]; exact nS_W h1 rfl
      exact loop m 0 M7 (by omega) h7 rfl (fun i i1 i2 => by omega) l1 (fun z => (dm.mp z) cd) rfl
    · rw [decide_eq_false cd]
      have e : dsg l m w sp = (true, s1, 0) := by
        unfold dsg
        rw [hw1, hs1, if_neg (by decide), if_pos (dm.mpr cd)]
      refine ⟨fun _ => ⟨(nS_f h1).1, Or.inr rfl, fun M7 e7 => ?_⟩, fun z => absurd rfl z⟩
      have h7 : nS A M0 M7 l true s1 F := by rw [e7]; exact nS_W h1 rfl
      refine vX7_digits_40 hX hM (fun x0 x1 x2 x3 M => am_J X 40 [(0, .ref x0), (1, .int x1), (2, .int x2), (3, .int x3)] [] M 0 0) (fun _ _ _ _ _ h => h) ⟨(nS_f h7).1, ?_⟩
      rw [h7.2.2.2.2.1, e]
      exact ⟨fun z => absurd z (by decide), fun _ => ⟨rfl, h7⟩⟩
theorem dsg_le {l : List Nat} {m sp : Nat} {w : Bool} (h : sp ≤ l.length) : (dsg l m w sp).2.1 ≤ l.length := by
  have l1 := ns_le (l := l) (c := 32) (sp := sp) (n := l.length) (w := w) (by omega) h (Nat.le_refl _)
  unfold dsg
  split
  · exact l1
  · split
    · exact l1
    · exact dE_le l m _ l1
/-- the reference's way through a form -/
def pI (l : List Nat) (R : Bool × Nat × List Nat) (ps : List Nat) (w : Bool) (sp : Nat) (args : List Nat) : Prop := (w = false ∧ fR l ps sp args = R) ∨ (w = true ∧ R.1 = false ∧ R.2.1 = sp)
theorem pI_ns {l : List Nat} {R : Bool × Nat × List Nat} {c : Nat} {ps : List Nat} {w : Bool} {sp : Nat} {args : List Nat} (h1 : c ≠ 48) (h2 : c ≠ 78) (h : pI l R (c :: ps) w sp args) : pI l R ps (ns l c w sp).1 (ns l c w sp).2 args := by
  rcases h with ⟨rfl, h⟩ | ⟨rfl, h, h'⟩
  · by_cases e : tk l sp = c
    · rw [show ns l c false sp = (false, sp + 1) by unfold ns; rw [if_neg (by decide), if_pos e]]
      exact .inl ⟨rfl, by rw [← h, fR_y h1 h2 e]⟩
    · rw [show ns l c false sp = (true, sp) by unfold ns; rw [if_neg (by decide), if_neg e]]
      exact .inr ⟨rfl, by rw [← h, fR_n h1 h2 e], by rw [← h, fR_n h1 h2 e]⟩
  · rw [show ns l c true sp = (true, sp) from if_pos rfl]
    exact .inr ⟨rfl, h, h'⟩
theorem pI_dg {l : List Nat} {R : Bool × Nat × List Nat} {e m : Nat} {ps : List Nat} {w : Bool} {sp : Nat} {args : List Nat} (hm : e = 48 ∧ m = 1 ∨ e = 78 ∧ m = 3) (h : pI l R (32 :: e :: ps) w sp args) : pI l R ps (dsg l m w sp).1 (dsg l m w sp).2.1 (args ++ [(dsg l m w sp).2.2]) := by
  have h1 := pI_ns (by decide) (by decide) h
  have em : (if e = 48 then 1 else 3) = m := by
    rcases hm with ⟨rfl, rfl⟩ | ⟨rfl, rfl⟩ <;> rfl
  have eo : e = 48 ∨ e = 78 := hm.imp And.left And.left
  unfold dsg
  rcases h1 with ⟨a, b⟩ | ⟨a, b, b'⟩
  · rw [if_neg (by rw [a]; decide)]
    by_cases c : dE l m (ns l 32 w sp).2 = (ns l 32 w sp).2
    · rw [if_pos c]
      rw [fR, if_pos eo, em, if_pos c] at b
      exact .inr ⟨rfl, by rw [← b], by rw [← b]⟩
    · rw [if_neg c]
      rw [fR, if_pos eo, em, if_neg c] at b
      exact .inl ⟨rfl, b⟩
  · rw [if_pos a]
    exact .inr ⟨rfl, b, b'⟩
theorem pI_end {l : List Nat} {R : Bool × Nat × List Nat} {w : Bool} {sp : Nat} {args : List Nat} (h : pI l R [] w sp args) : w = (!R.1) ∧ sp = R.2.1 ∧ (R.1 = true → R.2.2 = args) := by
  rcases h with ⟨rfl, h⟩ | ⟨rfl, h, h'⟩
  · rw [← h]; exact ⟨rfl, rfl, fun _ => rfl⟩
  · rw [h]; exact ⟨rfl, h'.symm, fun z => absurd z (by decide)⟩
/-- the letter that stands for a form -/
def cl8 (k : Nat) : Nat := if k = 0 then 99 else if k = 1 then 108 else if k = 2 then 104 else if k = 3 then 111 else if k = 4 then 97 else if k = 5 then 105 else 115
/-- the row of a command that was read -/
def maR (F : md_R) (b k : Nat) (args : List Nat) : Prop := F b = i3 (cl8 k) ∧ (k = 7 → F (b + 1) = i3 1) ∧ (k ≠ 7 → ∀ j, j < args.length → F (b + 1 + j) = i3 (args.getD j 0))
theorem ct_dg {G : am_Gx} {d : Nat} {r : am_Rec} {as : List Value} {A : Nat → Nat} {M0 M : am_Hp} {l : List Nat} {w : Bool} {sp : Nat} {F : md_R} {v : Int32} {P : Int32 → am_Hp → Prop} (h : am_CT G d r as M 0 0 (fun o M' => o = .inl (some (.int v)) ∧ nS A M0 M' l w sp F)) (k : ∀ M', nS A M0 M' l w sp F → P v M') : am_CT G d r as M 0 0 (fun o M' => ∃ v, o = .inl (some (.int v)) ∧ P v M') := am_CT.mono (fun _ M' h => ⟨v, h.1, k M' h.2⟩) h
def pS (A : Nat → Nat) (M0 M : am_Hp) (l : List Nat) (R : Bool × Nat × List Nat) (ps args : List Nat) (F : md_R) : Prop := ∃ w sp, nS A M0 M l w sp F ∧ sp ≤ l.length ∧ pI l R ps w sp args
theorem pS_f {A : Nat → Nat} {M0 M : am_Hp} {l : List Nat} {R : Bool × Nat × List Nat} {ps args : List Nat} {F : md_R} (h : pS A M0 M l R ps args F) : hp_T M (A 0) = 8 ∧ hp_R M 156 (A 0) = A 8 ∧ hp_T M (A 8) = 22 ∧ hp_N M (A 8) = 240 ∧ A 8 ≠ 0 := by
  obtain ⟨w, sp, h1, -, -⟩ := h
  exact nS_f h1
theorem pS_put {A : Nat → Nat} {M0 M M' : am_Hp} {l : List Nat} {R : Bool × Nat × List Nat} {ps args : List Nat} {F : md_R} {k : Nat} {v : Int32} (h : pS A M0 M l R ps args F) (e : M' = hp_sE M (A 8) k v) : pS A M0 M' l R ps args (va_up F k v) := by
  obtain ⟨w, sp, h1, h2, h3⟩ := h
  exact ⟨w, sp, nS_put h1 e, h2, h3⟩
theorem pS_end {A : Nat → Nat} {M0 M : am_Hp} {l : List Nat} {R : Bool × Nat × List Nat} {args : List Nat} {F : md_R} (h : pS A M0 M l R [] args F) : nS A M0 M l (!R.1) R.2.1 F ∧ (R.1 = true → R.2.2 = args) := by
  obtain ⟨w, sp, h1, h2, h3⟩ := h
  obtain ⟨e1, e2, e3⟩ := pI_end h3
  rw [e1, e2] at h1
  exact ⟨h1, e3⟩
theorem p_needs {G : am_Gx} {d c : Nat} {A : Nat → Nat} {M0 M : am_Hp} {l : List Nat} {R : Bool × Nat × List Nat} {ps args : List Nat} {F : md_R} (h : pS A M0 M l R (c :: ps) args F) (hc : c < 128) (h1 : c ≠ 48) (h2 : c ≠ 78) : am_CT G (d + 2) rX7_needs [.ref (A 0), .int (i3 c)] M 0 0 (fun o M' => o = .inl none ∧ pS A M0 M' l R ps args F) := by
  obtain ⟨w, sp, hn, hs, hp⟩ := h
  have hl := hn.2.2.1.2.1
  exact am_CT.mono (fun o M' k => ⟨k.1, _, _, k.2, ns_le (by omega) hs (Nat.le_refl _), pI_ns h1 h2 hp⟩) (n_needs hn (by omega) hc)
theorem ct_pS {G : am_Gx} {d : Nat} {r : am_Rec} {as : List Value} {A : Nat → Nat} {M0 M : am_Hp} {l : List Nat} {R : Bool × Nat × List Nat} {ps args : List Nat} {F : md_R} {P : am_Hp → Prop} (h : am_CT G d r as M 0 0 (fun o M' => o = .inl none ∧ pS A M0 M' l R ps args F)) (k : ∀ M', pS A M0 M' l R ps args F → P M') : am_CT G d r as M 0 0 (fun o M' => o = .inl none ∧ P M') := am_CT.mono (fun _ M' h => ⟨h.1, k M' h.2⟩) h
theorem p_needsThree {G : am_Gx} {d a b c : Nat} {A : Nat → Nat} {M0 M : am_Hp} {l : List Nat} {R : Bool × Nat × List Nat} {ps args : List Nat} {F : md_R} (h : pS A M0 M l R (a :: b :: c :: ps) args F) (ha : a < 128 ∧ a ≠ 48 ∧ a ≠ 78) (hb : b < 128 ∧ b ≠ 48 ∧ b ≠ 78) (hc : c < 128 ∧ c ≠ 48 ∧ c ≠ 78) : am_CT G (d + 3) rX7_needsThree [.ref (A 0), .int (i3 a), .int (i3 b), .int (i3 c)] M 0 0 (fun o M' => o = .inl none ∧ pS A M0 M' l R ps args F) := by
  refine am_intro mkX7_needsThree rfl (Nat.le_of_ble_eq_true rfl) rfl (fun X hX hM => ?_)
  refine vX7_needsThree_0 hX hM ⟨(pS_f h).1, ct_pS (p_needs h ha.1 ha.2.1 ha.2.2) (fun M1 h1 => ⟨(pS_f h1).1, ct_pS (p_needs h1 hb.1 hb.2.1 hb.2.2) (fun M2 h2 => ⟨(pS_f h2).1, ct_pS (p_needs h2 hc.1 hc.2.1 hc.2.2) (fun M3 h3 => ⟨rfl, h3⟩)⟩)⟩)⟩
theorem p_digits {G : am_Gx} {d e m : Nat} {A : Nat → Nat} {M0 M : am_Hp} {l : List Nat} {R : Bool × Nat × List Nat} {ps args : List Nat} {F : md_R} {P : Int32 → am_Hp → Prop} (h : pS A M0 M l R (32 :: e :: ps) args F) (hm : e = 48 ∧ m = 1 ∨ e = 78 ∧ m = 3) (k : ∀ v M', pS A M0 M' l R ps (args ++ [v]) F → P (i3 v) M') : am_CT G (d + 3) rX7_digits [.ref (A 0), .int (i3 m)] M 0 0 (fun o M' => ∃ v, o = .inl (some (.int v)) ∧ P v M') := by
  obtain ⟨w, sp, hn, hs, hp⟩ := h
  have hl := hn.2.2.1.2.1
  exact am_CT.mono (fun o M' q => ⟨_, q.1, k _ M' ⟨_, _, q.2, dsg_le hs, pI_dg hm hp⟩⟩) (n_digits hn (by omega) (by omega) (by omega))
/-- what reading a command leaves -/
def cmP (A : Nat → Nat) (M0 M' : am_Hp) (l : List Nat) (p b : Nat) (F : md_R) : Prop := ∃ F' k, k = sel l p ∧ ∃ R, R = fR l (fmt k) p [] ∧ nS A M0 M' l (!R.1) R.2.1 F' ∧ (∀ j, j < b → F' j = F j) ∧ (R.1 = true → maR F' b k R.2.2)
theorem n_parsesS {G : am_Gx} {d p b : Nat} {A : Nat → Nat} {M0 M : am_Hp} {l : List Nat} {F : md_R} (h : nS A M0 M l false (p + 1) F) (hp : p + 1 ≤ l.length) (h115 : tk l p = 115) (hb : b + 3 < 240) (hF : F b = i3 115) : am_CT G (d + 4) rX7_parsesS [.ref (A 0), .int (i3 b)] M 0 0 (fun o M' => o = .inl none ∧ ∃ F' k, k = sel l p ∧ nS A M0 M' l (!(fR l (fmt k) p []).1) (fR l (fmt k) p []).2.1 F' ∧ (∀ j, j < b → F' j = F j) ∧ ((fR l (fmt k) p []).1 = true → maR F' b k (fR l (fmt k) p []).2.2)) := by
  have hl := h.2.2.1.2.1
  have hc := yT_128 h.2.2.1
  have ix1 : i3 b + (1 : Int32) = i3 (b + 1) := i3_add b 1
  have n99 : ¬ tk l p = 99 := by omega
  have n108 : ¬ tk l p = 108 := by omega
  have n104 : ¬ tk l p = 104 := by omega
  refine am_intro mkX7_parsesS rfl (Nat.le_of_ble_eq_true rfl) rfl (fun X hX hM => ?_)
  refine vX7_parsesS_0 hX hM ⟨(nS_f h).1, ct_nS (n_needs (c := 116) h (by omega) (by omega)) (fun M1 h1 => ⟨(nS_f h1).1, ?_⟩)⟩
  by_cases c116 : tk l (p + 1) = 116
  · rw [show ns l 116 false (p + 1) = (false, p + 2) by unfold ns; rw [if_neg (by decide), if_pos c116]] at h1
    have lt1 : p + 1 < l.length := Nat.lt_of_not_le (fun z => by rw [tk_out z] at c116; omega)
    rw [h1.2.2.2.2.1]
    refine ⟨fun _ => ct_i (n_here h1 (by show p + 2 < 100000; omega)) ⟨fun y => ?_, fun y => ⟨fun y2 => ?_, fun y2 => ?_⟩⟩, fun z => absurd rfl z⟩
    · have c111 := (hv_eq (c := 111) hc (by omega)).mp y
      have hsel : sel l p = 3 := by unfold sel; rw [if_neg n99, if_neg n108, if_neg n104, if_pos h115, if_pos ⟨c116, c111⟩]
      have hn : pS A M0 M1 l (fR l (fmt 3) p []) [111, 112, 32, 48] [] F := ⟨false, p + 2, h1, lt1, .inl ⟨rfl, by show _ = fR l [115, 116, 111, 112, 32, 48] p []; rw [fR_y (by decide) (by decide) h115, fR_y (by decide) (by decide) c116]⟩⟩
      refine ⟨(pS_f hn).1, by rw [(pS_f hn).2.1]; exact (pS_f hn).2.2.2.2, fun p60 e60 => ?_⟩
      rw [(pS_f hn).2.1] at e60
      subst p60
      refine ⟨(pS_f hn).2.2.1, by rw [(pS_f hn).2.2.2.1]; exact vp_in_i3 (by omega) (by omega), fun M63 e63 => ?_⟩
      rw [i3_toNat (by omega)] at e63
      replace hn := pS_put hn e63
      refine ct_pS (p_needs (c := 111) hn (by omega) (by omega) (by omega)) (fun M1 hn => ⟨(pS_f hn).1, ?_⟩)
      refine ct_pS (p_needs (c := 112) hn (by omega) (by omega) (by omega)) (fun M1 hn => ⟨(pS_f hn).1, ?_⟩)
      refine ⟨by rw [(pS_f hn).2.1]; exact (pS_f hn).2.2.2.2, fun p ep => ?_⟩
      rw [(pS_f hn).2.1] at ep
      subst p
      refine p_digits (e := 48) (m := 1) hn (by omega) (fun v1 M1 hn => ⟨(pS_f hn).2.2.1, by rw [(pS_f hn).2.2.2.1, ix1]; exact vp_in_i3 (by omega) (by omega), fun M2 e2 => ?_⟩)
      rw [ix1, i3_toNat (by omega)] at e2
      replace hn := pS_put hn e2
      obtain ⟨g1, g2⟩ := pS_end hn
      refine ⟨rfl, _, 3, hsel.symm, g1, fun j hj => by (simp only [va_up, if_true]; (try (repeat (first | rw [if_pos (by omega)] | rw [if_neg (by omega)]))); (try rfl)), fun hr => ?_⟩
      rw [g2 hr]
      refine ⟨by (simp only [va_up, if_true]; (try (repeat (first | rw [if_pos (by omega)] | rw [if_neg (by omega)]))); (try rfl)), fun z => absurd z (by decide), fun _ j hj => ?_⟩
      simp only [List.nil_append, List.cons_append, List.length_cons, List.length_nil] at hj ⊢
      obtain rfl : j = 0 := by omega
      (simp only [va_up, if_true]; (try (repeat (first | rw [if_pos (by omega)] | rw [if_neg (by omega)]))); (try rfl))
    · have c111 : ¬ tk l (p + 2) = 111 := fun q => y ((hv_eq (c := 111) hc (by omega)).mpr q)
      have c97 := (hv_eq (c := 97) hc (by omega)).mp y2
      have hsel : sel l p = 4 := by unfold sel; rw [if_neg n99, if_neg n108, if_neg n104, if_pos h115, if_neg (fun z => c111 z.2), if_pos ⟨c116, c97⟩]
      have hn : pS A M0 M1 l (fR l (fmt 4) p []) [97, 114, 116, 32, 48] [] F := ⟨false, p + 2, h1, lt1, .inl ⟨rfl, by show _ = fR l [115, 116, 97, 114, 116, 32, 48] p []; rw [fR_y (by decide) (by decide) h115, fR_y (by decide) (by decide) c116]⟩⟩
      refine ⟨(pS_f hn).1, by rw [(pS_f hn).2.1]; exact (pS_f hn).2.2.2.2, fun p60 e60 => ?_⟩
      rw [(pS_f hn).2.1] at e60
      subst p60
      refine ⟨(pS_f hn).2.2.1, by rw [(pS_f hn).2.2.2.1]; exact vp_in_i3 (by omega) (by omega), fun M63 e63 => ?_⟩
      rw [i3_toNat (by omega)] at e63
      replace hn := pS_put hn e63
      refine ct_pS (p_needsThree (a := 97) (b := 114) (c := 116) hn (by omega) (by omega) (by omega)) (fun M1 hn => ⟨(pS_f hn).1, ?_⟩)
      refine ⟨by rw [(pS_f hn).2.1]; exact (pS_f hn).2.2.2.2, fun p ep => ?_⟩
      rw [(pS_f hn).2.1] at ep
      subst p
      refine p_digits (e := 48) (m := 1) hn (by omega) (fun v1 M1 hn => ⟨(pS_f hn).2.2.1, by rw [(pS_f hn).2.2.2.1, ix1]; exact vp_in_i3 (by omega) (by omega), fun M2 e2 => ?_⟩)
      rw [ix1, i3_toNat (by omega)] at e2
      replace hn := pS_put hn e2
      obtain ⟨g1, g2⟩ := pS_end hn
      refine ⟨rfl, _, 4, hsel.symm, g1, fun j hj => by (simp only [va_up, if_true]; (try (repeat (first | rw [if_pos (by omega)] | rw [if_neg (by omega)]))); (try rfl)), fun hr => ?_⟩
      rw [g2 hr]
      refine ⟨by (simp only [va_up, if_true]; (try (repeat (first | rw [if_pos (by omega)] | rw [if_neg (by omega)]))); (try rfl)), fun z => absurd z (by decide), fun _ j hj => ?_⟩
      simp only [List.nil_append, List.cons_append, List.length_cons, List.length_nil] at hj ⊢
      obtain rfl : j = 0 := by omega
      (simp only [va_up, if_true]; (try (repeat (first | rw [if_pos (by omega)] | rw [if_neg (by omega)]))); (try rfl))
    · have c111 : ¬ tk l (p + 2) = 111 := fun q => y ((hv_eq (c := 111) hc (by omega)).mpr q)
      have c97 : ¬ tk l (p + 2) = 97 := fun q => y2 ((hv_eq (c := 97) hc (by omega)).mpr q)
      refine ⟨(nS_f h1).1, ct_nS (n_needs (c := 101) h1 (by show p + 2 < 1000; omega) (by omega)) (fun M2 h2 => ⟨(nS_f h2).1, ?_⟩)⟩
      by_cases c101 : tk l (p + 2) = 101
      · rw [show ns l 101 false (p + 2) = (false, p + 3) by unfold ns; rw [if_neg (by decide), if_pos c101]] at h2
        have lt2 : p + 2 < l.length := Nat.lt_of_not_le (fun z => by rw [tk_out z] at c101; omega)
        refine ct_nS (n_needs (c := 112) h2 (by show p + 3 < 1000; omega) (by omega)) (fun M3 h3 => ⟨(nS_f h3).1, by rw [(nS_f h3).2.1]; exact (nS_f h3).2.2.2.2, fun p18 e18 => ?_⟩)
        rw [(nS_f h3).2.1] at e18
        subst p18
        by_cases c112 : tk l (p + 3) = 112
        · rw [show ns l 112 false (p + 3) = (false, p + 4) by unfold ns; rw [if_neg (by decide), if_pos c112]] at h3
          have lt3 : p + 3 < l.length := Nat.lt_of_not_le (fun z => by rw [tk_out z] at c112; omega)
          rw [h3.2.2.2.2.1]
          refine ⟨fun _ => ct_i (n_here h3 (by show p + 4 < 100000; omega)) ⟨fun y3 => ⟨(nS_f h3).1, ?_⟩, fun y3 => ⟨(nS_f h3).2.2.1, by rw [(nS_f h3).2.2.2.1, ix1]; exact vp_in_i3 (by omega) (by omega), fun M30 e30 => ?_⟩⟩, fun z => absurd rfl z⟩
          · have c32 := (hv_eq (c := 32) hc (by omega)).mp y3
            have hsel : sel l p = 6 := by unfold sel; rw [if_neg n99, if_neg n108, if_neg n104, if_pos h115, if_neg (fun z => c111 z.2), if_neg (fun z => c97 z.2), if_pos ⟨c116, c101, c112, c32⟩]
            have hn : pS A M0 M3 l (fR l (fmt 6) p []) [32, 78] [] F := ⟨false, p + 4, h3, lt3, .inl ⟨rfl, by show _ = fR l [115, 116, 101, 112, 32, 78] p []; rw [fR_y (by decide) (by decide) h115, fR_y (by decide) (by decide) c116, fR_y (by decide) (by decide) c101, fR_y (by decide) (by decide) c112]⟩⟩
            refine p_digits (e := 78) (m := 3) hn (by omega) (fun v1 M1 hn => ⟨(pS_f hn).2.2.1, by rw [(pS_f hn).2.2.2.1, ix1]; exact vp_in_i3 (by omega) (by omega), fun M2 e2 => ?_⟩)
            rw [ix1, i3_toNat (by omega)] at e2
            replace hn := pS_put hn e2
            obtain ⟨g1, g2⟩ := pS_end hn
            refine ⟨rfl, _, 6, hsel.symm, g1, fun j hj => by (simp only [va_up, if_true]; (try (repeat (first | rw [if_pos (by omega)] | rw [if_neg (by omega)]))); (try rfl)), fun hr => ?_⟩
            rw [g2 hr]
            refine ⟨(up_n _ _ (by omega)).trans hF, fun z => absurd z (by decide), fun _ j hj => ?_⟩
            simp only [List.nil_append, List.cons_append, List.length_cons, List.length_nil] at hj ⊢
            obtain rfl : j = 0 := by omega
            (simp only [va_up, if_true]; (try (repeat (first | rw [if_pos (by omega)] | rw [if_neg (by omega)]))); (try rfl))
          · have c32 : ¬ tk l (p + 4) = 32 := fun q => y3 ((hv_eq (c := 32) hc (by omega)).mpr q)
            have hsel : sel l p = 7 := by unfold sel; rw [if_neg n99, if_neg n108, if_neg n104, if_pos h115, if_neg (fun z => c111 z.2), if_neg (fun z => c97 z.2), if_neg (fun z => c32 z.2.2.2)]
            have e7 : fR l (fmt 7) p [] = (true, p + 4, []) := by
              show fR l [115, 116, 101, 112] p [] = _
              rw [fR_y (by decide) (by decide) h115, fR_y (by decide) (by decide) c116, fR_y (by decide) (by decide) c101, fR_y (by decide) (by decide) c112]
              rfl
            rw [ix1, i3_toNat (by omega)] at e30
            refine ⟨rfl, _, 7, hsel.symm, by rw [e7]; exact nS_put h3 e30, fun j hj => up_n _ _ (by omega), fun _ => ⟨(up_n _ _ (by omega)).trans hF, fun _ => up_e _ _ _, fun z => absurd rfl z⟩⟩
        · rw [show ns l 112 false (p + 3) = (true, p + 3) by unfold ns; rw [if_neg (by decide), if_neg c112]] at h3
          have hsel : sel l p = 7 := by unfold sel; rw [if_neg n99, if_neg n108, if_neg n104, if_pos h115, if_neg (fun z => c111 z.2), if_neg (fun z => c97 z.2), if_neg (fun z => c112 z.2.2.1)]
          have e7 : fR l (fmt 7) p [] = (false, p + 3, []) := by
            show fR l [115, 116, 101, 112] p [] = _
            rw [fR_y (by decide) (by decide) h115, fR_y (by decide) (by decide) c116, fR_y (by decide) (by decide) c101, fR_n (by decide) (by decide) c112]
          rw [h3.2.2.2.2.1]
          refine ⟨fun z => absurd z b1_ne, fun _ => ⟨(nS_f h3).2.2.1, by rw [(nS_f h3).2.2.2.1, ix1]; exact vp_in_i3 (by omega) (by omega), fun M30 e30 => ?_⟩⟩
          rw [ix1, i3_toNat (by omega)] at e30
          exact ⟨rfl, _, 7, hsel.symm, by rw [e7]; exact nS_put h3 e30, fun j hj => up_n _ _ (by omega), fun z => by rw [e7] at z; exact absurd z Bool.false_ne_true⟩
      · rw [show ns l 101 false (p + 2) = (true, p + 2) by unfold ns; rw [if_neg (by decide), if_neg c101]] at h2
        refine ct_nS (n_needs (c := 112) h2 (by show p + 2 < 1000; omega) (by omega)) (fun M3 h3 => ⟨(nS_f h3).1, by rw [(nS_f h3).2.1]; exact (nS_f h3).2.2.2.2, fun p18 e18 => ?_⟩)
        rw [(nS_f h3).2.1] at e18
        subst p18
        rw [show ns l 112 true (p + 2) = (true, p + 2) from if_pos rfl] at h3
        have hsel : sel l p = 7 := by unfold sel; rw [if_neg n99, if_neg n108, if_neg n104, if_pos h115, if_neg (fun z => c111 z.2), if_neg (fun z => c97 z.2), if_neg (fun z => c101 z.2.1)]
        have e7 : fR l (fmt 7) p [] = (false, p + 2, []) := by
          show fR l [115, 116, 101, 112] p [] = _
          rw [fR_y (by decide) (by decide) h115, fR_y (by decide) (by decide) c116, fR_n (by decide) (by decide) c101]
        rw [h3.2.2.2.2.1]
        refine ⟨fun z => absurd z b1_ne, fun _ => ⟨(nS_f h3).2.2.1, by rw [(nS_f h3).2.2.2.1, ix1]; exact vp_in_i3 (by omega) (by omega), fun M30 e30 => ?_⟩⟩
        rw [ix1, i3_toNat (by omega)] at e30
        exact ⟨rfl, _, 7, hsel.symm, by rw [e7]; exact nS_put h3 e30, fun j hj => up_n _ _ (by omega), fun z => by rw [e7] at z; exact absurd z Bool.false_ne_true⟩
  · rw [show ns l 116 false (p + 1) = (true, p + 1) by unfold ns; rw [if_neg (by decide), if_neg c116]] at h1
    have hsel : sel l p = 7 := by unfold sel; rw [if_neg n99, if_neg n108, if_neg n104, if_pos h115, if_neg (fun z => c116 z.1), if_neg (fun z => c116 z.1), if_neg (fun z => c116 z.1)]
    have e7 : fR l (fmt 7) p [] = (false, p + 1, []) := by
      show fR l [115, 116, 101, 112] p [] = _
      rw [fR_y (by decide) (by decide) h115, fR_n (by decide) (by decide) c116]
    rw [h1.2.2.2.2.1]
    refine ⟨fun z => absurd z b1_ne, fun _ => ⟨fun z => absurd z (by decide), fun _ => ⟨fun z => absurd z (by decide), fun _ => ?_⟩⟩⟩
    refine ct_nS (n_needs (c := 101) h1 (by show p + 1 < 1000; omega) (by omega)) (fun M2 h2 => ⟨(nS_f h2).1, ?_⟩)
    rw [show ns l 101 true (p + 1) = (true, p + 1) from if_pos rfl] at h2
    refine ct_nS (n_needs (c := 112) h2 (by show p + 1 < 1000; omega) (by omega)) (fun M3 h3 => ⟨(nS_f h3).1, by rw [(nS_f h3).2.1]; exact (nS_f h3).2.2.2.2, fun p18 e18 => ?_⟩)
    rw [(nS_f h3).2.1] at e18
    subst p18
    rw [show ns l 112 true (p + 1) = (true, p + 1) from if_pos rfl] at h3
    rw [h3.2.2.2.2.1]
    refine ⟨fun z => absurd z b1_ne, fun _ => ⟨(nS_f h3).2.2.1, by rw [(nS_f h3).2.2.2.1, ix1]; exact vp_in_i3 (by omega) (by omega), fun M30 e30 => ?_⟩⟩
    rw [ix1, i3_toNat (by omega)] at e30
    exact ⟨rfl, _, 7, hsel.symm, by rw [e7]; exact nS_put h3 e30, fun j hj => up_n _ _ (by omega), fun z => by rw [e7] at z; exact absurd z Bool.false_ne_true⟩
theorem n_parsesCommand {G : am_Gx} {d p b : Nat} {A : Nat → Nat} {M0 M : am_Hp} {l : List Nat} {F : md_R} (h : nS A M0 M l false p F) (hp : p ≤ l.length) (hb : b + 3 < 240) : am_CT G (d + 5) rX7_parsesCommand [.ref (A 0), .int (i3 b)] M 0 0 (fun o M' => o = .inl none ∧ ∃ F' k, k = sel l p ∧ nS A M0 M' l (!(fR l (fmt k) p []).1) (fR l (fmt k) p []).2.1 F' ∧ (∀ j, j < b → F' j = F j) ∧ ((fR l (fmt k) p []).1 = true → maR F' b k (fR l (fmt k) p []).2.2)) := by
  have hl := h.2.2.1.2.1
  have hc := yT_128 h.2.2.1
  have ix1 : i3 b + (1 : Int32) = i3 (b + 1) := i3_add b 1
  have ix2 : i3 b + (2 : Int32) = i3 (b + 2) := i3_add b 2
  have ix3 : i3 b + (3 : Int32) = i3 (b + 3) := i3_add b 3
  refine am_intro mkX7_parsesCommand rfl (Nat.le_of_ble_eq_true rfl) rfl (fun X hX hM => ?_)
  refine vX7_parsesCommand_0 hX hM ⟨(nS_f h).1, ct_i (n_here h (by omega)) ⟨(nS_f h).1, fun M5 e5 => ?_⟩⟩
  rw [h.2.2.2.1, i3_one] at e5
  have h5 : nS A M0 M5 l false (p + 1) F := by rw [e5]; exact nS_I h
  refine ⟨by rw [(nS_f h5).2.1]; exact (nS_f h5).2.2.2.2, fun p8 e8 => ?_⟩
  rw [(nS_f h5).2.1] at e8
  subst p8
  refine ⟨(nS_f h5).2.2.1, by rw [(nS_f h5).2.2.2.1]; exact vp_in_i3 (by omega) (by omega), fun M11 e11 => ?_⟩
  rw [i3_toNat (by omega)] at e11
  have h11 := nS_put h5 e11
  refine ⟨fun y => ?_, fun y => ?_, fun y => ?_, fun y => ?_, fun y => ?_⟩
  · have c99 := (hv_eq (c := 99) hc (by omega)).mp y
    have lt : p < l.length := Nat.lt_of_not_le (fun z => by rw [tk_out z] at c99; omega)
    have hsel : sel l p = 0 := by unfold sel; rw [if_pos c99]
    rw [y] at h11
    have hn : pS A M0 M11 l (fR l (fmt 0) p []) [97, 108, 108, 32, 48, 32, 48, 32, 78] [] _ := ⟨false, p + 1, h11, lt, .inl ⟨rfl, by show _ = fR l [99, 97, 108, 108, 32, 48, 32, 48, 32, 78] p []; rw [fR_y (by decide) (by decide) c99]⟩⟩
    refine ct_pS (p_needsThree (a := 97) (b := 108) (c := 108) hn (by omega) (by omega) (by omega)) (fun M1 hn => ⟨(pS_f hn).1, ?_⟩)
    refine ⟨by rw [(pS_f hn).2.1]; exact (pS_f hn).2.2.2.2, fun p ep => ?_⟩
    rw [(pS_f hn).2.1] at ep
    subst p
    refine p_digits (e := 48) (m := 1) hn (by omega) (fun v1 M1 hn => ⟨(pS_f hn).2.2.1, by rw [(pS_f hn).2.2.2.1, ix1]; exact vp_in_i3 (by omega) (by omega), fun M2 e2 => ?_⟩)
    rw [ix1, i3_toNat (by omega)] at e2
    replace hn := pS_put hn e2
    refine ⟨(pS_f hn).1, ?_⟩
    refine ⟨by rw [(pS_f hn).2.1]; exact (pS_f hn).2.2.2.2, fun p ep => ?_⟩
    rw [(pS_f hn).2.1] at ep
    subst p
    refine p_digits (e := 48) (m := 1) hn (by omega) (fun v2 M1 hn => ⟨(pS_f hn).2.2.1, by rw [(pS_f hn).2.2.2.1, ix2]; exact vp_in_i3 (by omega) (by omega), fun M2 e2 => ?_⟩)
    rw [ix2, i3_toNat (by omega)] at e2
    replace hn := pS_put hn e2
    refine ⟨(pS_f hn).1, ?_⟩
    refine ⟨by rw [(pS_f hn).2.1]; exact (pS_f hn).2.2.2.2, fun p ep => ?_⟩
    rw [(pS_f hn).2.1] at ep
    subst p
    refine p_digits (e := 78) (m := 3) hn (by omega) (fun v3 M1 hn => ⟨(pS_f hn).2.2.1, by rw [(pS_f hn).2.2.2.1, ix3]; exact vp_in_i3 (by omega) (by omega), fun M2 e2 => ?_⟩)
    rw [ix3, i3_toNat (by omega)] at e2
    replace hn := pS_put hn e2
    obtain ⟨g1, g2⟩ := pS_end hn
    refine ⟨rfl, _, 0, hsel.symm, g1, fun j hj => by (simp only [va_up, if_true]; (try (repeat (first | rw [if_pos (by omega)] | rw [if_neg (by omega)]))); (try rfl)), fun hr => ?_⟩
    rw [g2 hr]
    refine ⟨by (simp only [va_up, if_true]; (try (repeat (first | rw [if_pos (by omega)] | rw [if_neg (by omega)]))); (try rfl)), fun z => absurd z (by decide), fun _ j hj => ?_⟩
    simp only [List.nil_append, List.cons_append, List.length_cons, List.length_nil] at hj ⊢
    rcases (by omega : j = 0 ∨ j = 1 ∨ j = 2) with rfl | rfl | rfl <;> ((simp only [va_up, if_true]; (try (repeat (first | rw [if_pos (by omega)] | rw [if_neg (by omega)]))); (try rfl)))
  · have c104 := (hv_eq (c := 104) hc (by omega)).mp y
    have lt : p < l.length := Nat.lt_of_not_le (fun z => by rw [tk_out z] at c104; omega)
    have hsel : sel l p = 2 := by unfold sel; rw [if_neg (by omega), if_neg (by omega), if_pos c104]
    rw [y] at h11
    have hn : pS A M0 M11 l (fR l (fmt 2) p []) [111, 108, 100, 32, 48, 32, 48] [] _ := ⟨false, p + 1, h11, lt, .inl ⟨rfl, by show _ = fR l [104, 111, 108, 100, 32, 48, 32, 48] p []; rw [fR_y (by decide) (by decide) c104]⟩⟩
    refine ct_pS (p_needsThree (a := 111) (b := 108) (c := 100) hn (by omega) (by omega) (by omega)) (fun M1 hn => ⟨(pS_f hn).1, ?_⟩)
    refine ⟨by rw [(pS_f hn).2.1]; exact (pS_f hn).2.2.2.2, fun p ep => ?_⟩
    rw [(pS_f hn).2.1] at ep
    subst p
    refine p_digits (e := 48) (m := 1) hn (by omega) (fun v1 M1 hn => ⟨(pS_f hn).2.2.1, by rw [(pS_f hn).2.2.2.1, ix1]; exact vp_in_i3 (by omega) (by omega), fun M2 e2 => ?_⟩)
    rw [ix1, i3_toNat (by omega)] at e2
    replace hn := pS_put hn e2
    refine ⟨(pS_f hn).1, ?_⟩
    refine ⟨by rw [(pS_f hn).2.1]; exact (pS_f hn).2.2.2.2, fun p ep => ?_⟩
    rw [(pS_f hn).2.1] at ep
    subst p
    refine p_digits (e := 48) (m := 1) hn (by omega) (fun v2 M1 hn => ⟨(pS_f hn).2.2.1, by rw [(pS_f hn).2.2.2.1, ix2]; exact vp_in_i3 (by omega) (by omega), fun M2 e2 => ?_⟩)
    rw [ix2, i3_toNat (by omega)] at e2
    replace hn := pS_put hn e2
    obtain ⟨g1, g2⟩ := pS_end hn
    refine ⟨rfl, _, 2, hsel.symm, g1, fun j hj => by (simp only [va_up, if_true]; (try (repeat (first | rw [if_pos (by omega)] | rw [if_neg (by omega)]))); (try rfl)), fun hr => ?_⟩
    rw [g2 hr]
    refine ⟨by (simp only [va_up, if_true]; (try (repeat (first | rw [if_pos (by omega)] | rw [if_neg (by omega)]))); (try rfl)), fun z => absurd z (by decide), fun _ j hj => ?_⟩
    simp only [List.nil_append, List.cons_append, List.length_cons, List.length_nil] at hj ⊢
    rcases (by omega : j = 0 ∨ j = 1) with rfl | rfl <;> ((simp only [va_up, if_true]; (try (repeat (first | rw [if_pos (by omega)] | rw [if_neg (by omega)]))); (try rfl)))
  · have c108 := (hv_eq (c := 108) hc (by omega)).mp y
    have lt : p < l.length := Nat.lt_of_not_le (fun z => by rw [tk_out z] at c108; omega)
    rw [y] at h11
    refine ct_i (n_here h11 (by omega)) ⟨fun y2 => ?_, fun y2 => ?_⟩
    · have c105 := (hv_eq (c := 105) hc (by omega)).mp y2
      have hsel : sel l p = 5 := by unfold sel; rw [if_neg (by omega), if_pos c108, if_pos c105]
      have hn : pS A M0 M11 l (fR l (fmt 5) p []) [105, 109, 105, 116, 32, 48, 32, 78] [] _ := ⟨false, p + 1, h11, lt, .inl ⟨rfl, by show _ = fR l [108, 105, 109, 105, 116, 32, 48, 32, 78] p []; rw [fR_y (by decide) (by decide) c108]⟩⟩
      refine ⟨(pS_f hn).1, by rw [(pS_f hn).2.1]; exact (pS_f hn).2.2.2.2, fun p60 e60 => ?_⟩
      rw [(pS_f hn).2.1] at e60
      subst p60
      refine ⟨(pS_f hn).2.2.1, by rw [(pS_f hn).2.2.2.1]; exact vp_in_i3 (by omega) (by omega), fun M63 e63 => ?_⟩
      rw [i3_toNat (by omega)] at e63
      replace hn := pS_put hn e63
      refine ct_pS (p_needsThree (a := 105) (b := 109) (c := 105) hn (by omega) (by omega) (by omega)) (fun M1 hn => ⟨(pS_f hn).1, ?_⟩)
      refine ct_pS (p_needs (c := 116) hn (by omega) (by omega) (by omega)) (fun M1 hn => ⟨(pS_f hn).1, ?_⟩)
      refine ⟨by rw [(pS_f hn).2.1]; exact (pS_f hn).2.2.2.2, fun p ep => ?_⟩
      rw [(pS_f hn).2.1] at ep
      subst p
      refine p_digits (e := 48) (m := 1) hn (by omega) (fun v1 M1 hn => ⟨(pS_f hn).2.2.1, by rw [(pS_f hn).2.2.2.1, ix1]; exact vp_in_i3 (by omega) (by omega), fun M2 e2 => ?_⟩)
      rw [ix1, i3_toNat (by omega)] at e2
      replace hn := pS_put hn e2
      refine ⟨(pS_f hn).1, ?_⟩
      refine ⟨by rw [(pS_f hn).2.1]; exact (pS_f hn).2.2.2.2, fun p ep => ?_⟩
      rw [(pS_f hn).2.1] at ep
      subst p
      refine p_digits (e := 78) (m := 3) hn (by omega) (fun v2 M1 hn => ⟨(pS_f hn).2.2.1, by rw [(pS_f hn).2.2.2.1, ix2]; exact vp_in_i3 (by omega) (by omega), fun M2 e2 => ?_⟩)
      rw [ix2, i3_toNat (by omega)] at e2
      replace hn := pS_put hn e2
      obtain ⟨g1, g2⟩ := pS_end hn
      refine ⟨rfl, _, 5, hsel.symm, g1, fun j hj => by (simp only [va_up, if_true]; (try (repeat (first | rw [if_pos (by omega)] | rw [if_neg (by omega)]))); (try rfl)), fun hr => ?_⟩
      rw [g2 hr]
      refine ⟨by (simp only [va_up, if_true]; (try (repeat (first | rw [if_pos (by omega)] | rw [if_neg (by omega)]))); (try rfl)), fun z => absurd z (by decide), fun _ j hj => ?_⟩
      simp only [List.nil_append, List.cons_append, List.length_cons, List.length_nil] at hj ⊢
      rcases (by omega : j = 0 ∨ j = 1) with rfl | rfl <;> ((simp only [va_up, if_true]; (try (repeat (first | rw [if_pos (by omega)] | rw [if_neg (by omega)]))); (try rfl)))
    · have c105 : ¬ tk l (p + 1) = 105 := fun q => y2 ((hv_eq (c := 105) hc (by omega)).mpr q)
      have hsel : sel l p = 1 := by unfold sel; rw [if_neg (by omega), if_pos c108, if_neg c105]
      have hn : pS A M0 M11 l (fR l (fmt 1) p []) [101, 97, 118, 101, 32, 78] [] _ := ⟨false, p + 1, h11, lt, .inl ⟨rfl, by show _ = fR l [108, 101, 97, 118, 101, 32, 78] p []; rw [fR_y (by decide) (by decide) c108]⟩⟩
      refine ⟨(pS_f hn).1, ?_⟩
      refine ct_pS (p_needsThree (a := 101) (b := 97) (c := 118) hn (by omega) (by omega) (by omega)) (fun M1 hn => ⟨(pS_f hn).1, ?_⟩)
      refine ct_pS (p_needs (c := 101) hn (by omega) (by omega) (by omega)) (fun M1 hn => ⟨(pS_f hn).1, ?_⟩)
      refine ⟨by rw [(pS_f hn).2.1]; exact (pS_f hn).2.2.2.2, fun p ep => ?_⟩
      rw [(pS_f hn).2.1] at ep
      subst p
      refine p_digits (e := 78) (m := 3) hn (by omega) (fun v1 M1 hn => ⟨(pS_f hn).2.2.1, by rw [(pS_f hn).2.2.2.1, ix1]; exact vp_in_i3 (by omega) (by omega), fun M2 e2 => ?_⟩)
      rw [ix1, i3_toNat (by omega)] at e2
      replace hn := pS_put hn e2
      obtain ⟨g1, g2⟩ := pS_end hn
      refine ⟨rfl, _, 1, hsel.symm, g1, fun j hj => by (simp only [va_up, if_true]; (try (repeat (first | rw [if_pos (by omega)] | rw [if_neg (by omega)]))); (try rfl)), fun hr => ?_⟩
      rw [g2 hr]
      refine ⟨by (simp only [va_up, if_true]; (try (repeat (first | rw [if_pos (by omega)] | rw [if_neg (by omega)]))); (try rfl)), fun z => absurd z (by decide), fun _ j hj => ?_⟩
      simp only [List.nil_append, List.cons_append, List.length_cons, List.length_nil] at hj ⊢
      obtain rfl : j = 0 := by omega
      (simp only [va_up, if_true]; (try (repeat (first | rw [if_pos (by omega)] | rw [if_neg (by omega)]))); (try rfl))
  · have c115 := (hv_eq (c := 115) hc (by omega)).mp y
    have lt : p < l.length := Nat.lt_of_not_le (fun z => by rw [tk_out z] at c115; omega)
    rw [y] at h11
    refine am_CT.mono ?_ (n_parsesS h11 lt c115 hb (up_e _ _ _))
    rintro o M' ⟨e, F', k, g1, g2, g3, g4⟩
    exact ⟨e, rfl, F', k, g1, g2, fun j hj => (g3 j hj).trans (up_n _ _ (by omega)), g4⟩
  · obtain ⟨y1, y2, y3, y4⟩ := y
    have d99 : ¬ tk l p = 99 := fun q => y1 ((hv_eq (c := 99) hc (by omega)).mpr q)
    have d104 : ¬ tk l p = 104 := fun q => y2 ((hv_eq (c := 104) hc (by omega)).mpr q)
    have d108 : ¬ tk l p = 108 := fun q => y3 ((hv_eq (c := 108) hc (by omega)).mpr q)
    have d115 : ¬ tk l p = 115 := fun q => y4 ((hv_eq (c := 115) hc (by omega)).mpr q)
    have hsel : sel l p = 8 := by unfold sel; rw [if_neg d99, if_neg d108, if_neg d104, if_neg d115]
    have e8 : fR l (fmt 8) p [] = (false, p, []) := by
      show fR l [200] p [] = _
      rw [fR_n (by decide) (by decide) (fun z => ?_)]
      by_cases q : p < l.length
      · rw [tk_in q] at z
        have := hc p q
        omega
      · rw [tk_out (by omega)] at z
        exact absurd z (by decide)
    refine ⟨Or.inr rfl, fun M119 e119 M122 e122 => ⟨rfl, va_up F b (hv l p), 8, hsel.symm, ?_, fun j hj => up_n _ _ (by omega), fun z => by rw [e8] at z; exact absurd z Bool.false_ne_true⟩⟩
    have h119 : nS A M0 M119 l true (p + 1) (va_up F b (hv l p)) := by rw [e119]; exact nS_W h11 rfl
    rw [h119.2.2.2.1, show i3 (p + 1) - (1 : Int32) = i3 p from i3_sub p 1] at e122
    rw [e8, e122]
    exact nS_I h119
