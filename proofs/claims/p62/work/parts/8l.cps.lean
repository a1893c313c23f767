/-! .. the class's parser (made by gen/mk/mk8l.py) -/
abbrev sioo (G : am_Gx) : Prop := sio G
/-- the String at s holds the codes cs -/
def stO (M : am_Hp) (s : Nat) (cs : List Nat) : Prop := hp_T M s = 40 ∧ True ∧ hp_T M (hp_R M 180 s) = 41 ∧ hp_N M (hp_R M 180 s) = cs.length ∧ hp_I M 181 s = 0 ∧ ∀ i, i < cs.length → hp_E M (hp_R M 180 s) i = i3 (cs.getD i 0)
theorem stO_sm {M M' : am_Hp} {s : Nat} {cs : List Nat} (h1 : sm M M' s) (h2 : sm M M' (hp_R M 180 s)) (h : stO M s cs) : stO M' s cs := by
  obtain ⟨a1, a2, a3, a4, a5, a6⟩ := h
  unfold stO
  rw [h1.2.2.2.1]
  exact ⟨h1.1.trans a1, a2, h2.1.trans a3, h2.2.1.trans a4, (h1.2.2.1 _).trans a5, fun i hi => by rw [h2.2.2.2.2.1]; exact a6 i hi⟩
def stK (G : am_Gx) (M : am_Hp) : Prop := ∀ k, k < 8 → stO M (gx_s G "LiftGroup$Script" (34 + 2 * k)) (fmt k)
theorem fmt_c {k : Nat} (hk : k < 8) : (fmt k).length ≤ 10 ∧ ∀ i, i < (fmt k).length → (fmt k).getD i 0 < 128 := by
  have : ∀ k : Fin 8, (fmt k.1).length ≤ 10 ∧ ∀ i : Fin 10, i.1 < (fmt k.1).length → (fmt k.1).getD i.1 0 < 128 := by decide +kernel
  obtain ⟨a, b⟩ := this ⟨k, hk⟩
  exact ⟨a, fun i hi => b ⟨i, Nat.lt_of_lt_of_le hi a⟩ hi⟩
theorem k_formOf {G : am_Gx} {d k : Nat} {M : am_Hp} (hk : k < 8) : am_CT G (d + 1) rX4_formOf [.int (i3 k)] M 0 0 (fun o M' => o = .inl (some (.ref (gx_s G "LiftGroup$Script" (34 + 2 * k)))) ∧ M' = M) := by
  refine am_intro mkX4_formOf rfl (Nat.le_of_ble_eq_true rfl) rfl (fun X hX hM => ?_)
  refine vX4_formOf_0 hX hM ?_
  rcases (by omega : k = 0 ∨ k = 1 ∨ k = 2 ∨ k = 3 ∨ k = 4 ∨ k = 5 ∨ k = 6 ∨ k = 7) with rfl | rfl | rfl | rfl | rfl | rfl | rfl | rfl <;>
    exact ⟨fun z => by first | exact ⟨rfl, rfl⟩ | exact absurd z (by decide), fun z => by first | exact ⟨rfl, rfl⟩ | exact absurd z (by decide), fun z => by first | exact ⟨rfl, rfl⟩ | exact absurd z (by decide), fun z => by first | exact ⟨rfl, rfl⟩ | exact absurd z (by decide), fun z => by first | exact ⟨rfl, rfl⟩ | exact absurd z (by decide), fun z => by first | exact ⟨rfl, rfl⟩ | exact absurd z (by decide), fun z => by first | exact ⟨rfl, rfl⟩ | exact absurd z (by decide), fun z => by first | exact ⟨rfl, rfl⟩ | exact absurd z (by decide)⟩
theorem k_coder {G : am_Gx} {d s : Nat} {M : am_Hp} {cs : List Nat} (hz : cz G) (h : stO M s cs) : am_CT G (d + 1) rJ0_coder_7d493 [.ref s] M 0 0 (qi 0 M) := by
  obtain ⟨a1, -, -, -, a5, -⟩ := h
  refine am_intro mkJ0_coder_7d493 rfl (Nat.le_of_ble_eq_true rfl) rfl (fun X hX hM => ?_)
  refine vJ0_coder_7d493_0 hX hM ⟨hz, fun z => absurd z (by decide), fun _ => ⟨a1, ?_, ?_, rfl⟩⟩
  · rw [a5]; decide
  · rw [a5]
theorem k_sLat {G : am_Gx} {d s : Nat} {M : am_Hp} {cs : List Nat} (hz : cz G) (h : stO M s cs) : am_CT G (d + 1) rJ0_isLatin1_aae02 [.ref s] M 0 0 (qi 1 M) := by
  obtain ⟨a1, -, -, -, a5, -⟩ := h
  refine am_intro mkJ0_isLatin1_aae02 rfl (Nat.le_of_ble_eq_true rfl) rfl (fun X hX hM => ?_)
  exact vJ0_isLatin1_aae02_0 hX hM ⟨hz, fun z => absurd z (by decide), fun _ => ⟨a1, fun _ => ⟨rfl, rfl⟩, fun z => absurd a5 z⟩⟩
theorem k_sLen {G : am_Gx} {d s : Nat} {M : am_Hp} {cs : List Nat} (hz : cz G) (h : stO M s cs) : am_CT G (d + 2) rJ0_length_8abf5 [.ref s] M 0 0 (qi (i3 cs.length) M) := by
  have h0 := h
  obtain ⟨a1, a2, a3, a4, -, -⟩ := h
  refine am_intro mkJ0_length_8abf5 rfl (Nat.le_of_ble_eq_true rfl) rfl (fun X hX hM => ?_)
  refine vJ0_length_8abf5_0 hX hM ⟨a1, a2, fun p e => ?_⟩
  subst e
  refine ⟨a3, ct_i (k_coder hz h0) ⟨?_, rfl⟩⟩
  rw [a4, i3_sh0]
  rfl
theorem k_sChr {G : am_Gx} {d s i : Nat} {M : am_Hp} {cs : List Nat} (hz : cz G) (hp : sioo G) (h : stO M s cs) (hi : i < cs.length) (hl : cs.length < 1000) (hc : cs.getD i 0 < 128) : am_CT G (d + 4) rJ0_charAt_5068e [.ref s, .int (i3 i)] M 0 0 (qi (i3 (cs.getD i 0)) M) := by
  have h0 := h
  obtain ⟨a1, a2, a3, a4, -, a6⟩ := h
  have C : am_CT G (d + 3) rJ1_charAt_3b067 [.ref (hp_R M 180 s), .int (i3 i)] M 0 0 (qi (i3 (cs.getD i 0)) M) := by
    refine am_intro mkJ1_charAt_3b067 rfl (Nat.le_of_ble_eq_true rfl) rfl (fun X hX hM => ?_)
    refine vJ1_charAt_3b067_0 hX hM ⟨a3, ?_⟩
    rw [a4]
    refine ct_v (k_check0 (n := cs.length) hp hi (by omega)) ⟨a3, vp_in_i3 (by rw [a4]; exact hi) (by omega), ?_⟩
    rw [i3_toNat (by omega), a6 i hi, ch_i3 hc]
    exact ⟨nc_i3 hc, rfl, rfl⟩
  refine am_intro mkJ0_charAt_5068e rfl (Nat.le_of_ble_eq_true rfl) rfl (fun X hX hM => ?_)
  refine vJ0_charAt_5068e_0 hX hM ⟨a1, ct_i (k_sLat hz h0) ⟨fun z => absurd z (by decide), fun _ => ⟨a1, a2, fun p e => ?_⟩⟩⟩
  subst e
  exact ct_i C ⟨nc_i3 hc, rfl, rfl⟩
theorem tk_in {l : List Nat} {a : Nat} (h : a < l.length) : tk l a = l.getD a 0 := if_pos h
theorem tk_out {l : List Nat} {a : Nat} (h : l.length ≤ a) : tk l a = 1000 := if_neg (by omega)
theorem dE_le (l : List Nat) : ∀ m a, a ≤ l.length → dE l m a ≤ l.length
  | 0, _, h => h
  | m + 1, a, h => by
    rw [dE]
    split
    · rename_i c
      refine dE_le l m (a + 1) (Nat.lt_of_not_le (fun z => ?_))
      rw [tk_out z] at c
      omega
    · exact h
theorem dE_dig (l : List Nat) : ∀ m a i, a ≤ i → i < dE l m a → 48 ≤ tk l i ∧ tk l i ≤ 57
  | 0, a, i, h1, h2 => by rw [dE] at h2; omega
  | m + 1, a, i, h1, h2 => by
    rw [dE] at h2
    split at h2
    · rename_i c
      by_cases e : i = a
      · rw [e]; exact c
      · exact dE_dig l m (a + 1) i (by omega) h2
    · omega
/-- the text at a place, read by the class -/
theorem k_endOfDigits {G : am_Gx} {d sc st b m ks rs a w : Nat} {l : List Nat} {M : am_Hp} (hp : sioo G) (hS : scR M sc st ks rs) (hT : sT M st b m l) (hl : l.length ≤ 60) (ha : a ≤ l.length) (hw : w ≤ 3) : am_CT G (d + 5) rX4_endOfDigits [.ref sc, .int (i3 a), .int (i3 w)] M 0 0 (qi (i3 (dE l w a)) M) := by
  obtain ⟨s1, s2, -, -, s5, -⟩ := hS
  subst s2
  have t9 := hT.1.1
  refine am_intro mkX4_endOfDigits rfl (Nat.le_of_ble_eq_true rfl) rfl (fun X hX hM => ?_)
  refine vX4_endOfDigits_0 hX hM (fun x0 x1 x2 x3 M => am_J X 2 [(0, .ref x0), (1, .int x1), (2, .int x2), (3, .int x3)] [] M 0 0) (fun _ _ _ _ _ h => h) ?_
  have L : ∀ j x, x + j = a + w → x ≤ l.length → dE l j x = dE l w a → am_J X 2 [(0, .ref sc), (1, .int (i3 a)), (2, .int (i3 w)), (3, .int (i3 x))] [] M 0 0 := by
    intro j
    induction j with
    | zero =>
      intro x hx hx2 hd
      refine vX4_endOfDigits_2 hX hM (fun x0 x1 x2 x3 M => am_J X 2 [(0, .ref x0), (1, .int x1), (2, .int x2), (3, .int x3)] [] M 0 0) (fun _ _ _ _ _ h => h) ⟨fun _ => ⟨?_, rfl⟩, fun z => absurd ?_ z⟩
      · rw [i3_add, ← hx, ← hd]; rfl
      · rw [i3_add, ← hx]; exact Int32.le_refl _
    | succ j ih =>
      intro x hx hx2 hd
      refine vX4_endOfDigits_2 hX hM (fun x0 x1 x2 x3 M => am_J X 2 [(0, .ref x0), (1, .int x1), (2, .int x2), (3, .int x3)] [] M 0 0) (fun _ _ _ _ _ h => h) ⟨fun z => ?_, fun _ => ?_⟩
      · rw [i3_add] at z
        exact absurd ((i3_le (by omega) (by omega)).mp z) (by omega)
      · simp only [forall_eq]
        refine ⟨s1, s5, t9, ct_i (k_len hT.1) ⟨fun z => ⟨?_, rfl⟩, fun z => ?_⟩⟩
        · have z1 := (i3_le (by omega) (by omega)).mp z
          rw [← hd, dE, tk_out z1, if_neg (by omega)]
        · have z1 : x < l.length := Nat.lt_of_not_le (fun y => z ((i3_le (by omega) (by omega)).mpr y))
          have hc : l.getD x 0 < 128 := (hT.1.2.2.2.2.2.2.2.2.2 x z1).1
          refine ⟨s1, s5, t9, ct_i (k_charAt hp hT.1 z1) ⟨fun c => ⟨?_, rfl⟩, fun c => ⟨s1, s5, t9, ct_i (k_charAt hp hT.1 z1) ⟨fun c2 => ?_, fun c2 => ⟨?_, rfl⟩⟩⟩⟩⟩
          · have c' := (i3_lt (b := 48) (by omega) (by omega)).mp c
            rw [← hd, dE, tk_in z1, if_neg (by omega)]
          · have c' : 48 ≤ l.getD x 0 := Nat.le_of_not_lt (fun y => c ((i3_lt (b := 48) (by omega) (by omega)).mpr y))
            have c3 := (i3_le (b := 57) (by omega) (by omega)).mp c2
            rw [show i3 x + 1 = i3 (x + 1) from i3_one x]
            refine ih (x + 1) (by omega) z1 ?_
            rw [← hd, dE, tk_in z1, if_pos ⟨c', c3⟩]
          · have c3 : ¬ l.getD x 0 ≤ 57 := fun y => c2 ((i3_le (b := 57) (by omega) (by omega)).mpr y)
            rw [← hd, dE, tk_in z1, if_neg (by omega)]
  exact L w a rfl ha rfl
theorem k_valueOf {G : am_Gx} {d sc st b m ks rs a e : Nat} {l : List Nat} {M : am_Hp} (hp : sioo G) (hS : scR M sc st ks rs) (hT : sT M st b m l) (hl : l.length ≤ 60) (hae : a ≤ e) (he : e ≤ l.length) (hd : ∀ i, a ≤ i → i < e → 48 ≤ tk l i ∧ tk l i ≤ 57) : am_CT G (d + 5) rX4_valueOf [.ref sc, .int (i3 a), .int (i3 e)] M 0 0 (qi (i3 (dV l (e - a) a 0)) M) := by
  obtain ⟨s1, s2, -, -, s5, -⟩ := hS
  subst s2
  have t9 := hT.1.1
  refine am_intro mkX4_valueOf rfl (Nat.le_of_ble_eq_true rfl) rfl (fun X hX hM => ?_)
  refine vX4_valueOf_0 hX hM (fun x0 x2 x3 x4 M => am_J X 5 [(0, .ref x0), (2, .int x2), (3, .int x3), (4, .int x4)] [] M 0 0) (fun _ _ _ _ _ h => h) ?_
  have L : ∀ j x v, x + j = e → a ≤ x → dV l j x v = dV l (e - a) a 0 → am_J X 5 [(0, .ref sc), (2, .int (i3 e)), (3, .int (i3 v)), (4, .int (i3 x))] [] M 0 0 := by
    intro j
    induction j with
    | zero =>
      intro x v hx hx2 hv
      refine vX4_valueOf_5 hX hM (fun x0 x2 x3 x4 M => am_J X 5 [(0, .ref x0), (2, .int x2), (3, .int x3), (4, .int x4)] [] M 0 0) (fun _ _ _ _ _ h => h) ⟨fun _ => ⟨?_, rfl⟩, fun z => absurd ?_ z⟩
      · rw [← hv]; rfl
      · rw [← hx]; exact Int32.le_refl _
    | succ j ih =>
      intro x v hx hx2 hv
      have z1 : x < l.length := by omega
      have hc : l.getD x 0 < 128 := (hT.1.2.2.2.2.2.2.2.2.2 x z1).1
      have hdx := (hd x hx2 (by omega)).1
      rw [tk_in z1] at hdx
      refine vX4_valueOf_5 hX hM (fun x0 x2 x3 x4 M => am_J X 5 [(0, .ref x0), (2, .int x2), (3, .int x3), (4, .int x4)] [] M 0 0) (fun _ _ _ _ _ h => h) ⟨fun z => absurd ((i3_le (by omega) (by omega)).mp z) (by omega), fun _ => ?_⟩
      simp only [forall_eq]
      refine ⟨s1, s5, t9, ct_i (k_len hT.1) ⟨fun z => absurd ((i3_le (by omega) (by omega)).mp z) (by omega), fun _ => ⟨s1, s5, t9, ct_i (k_charAt hp hT.1 z1) ?_⟩⟩⟩
      have e1 : (10 : Int32) * i3 v + (i3 (l.getD x 0) - 48) = i3 (10 * v + (l.getD x 0 - 48)) := by
        rw [show (10 : Int32) = i3 10 from rfl, show (48 : Int32) = i3 48 from rfl, i3_mul, i3_sub' hdx, i3_add]
      rw [e1, show i3 x + 1 = i3 (x + 1) from i3_one x]
      refine ih (x + 1) _ (by omega) (by omega) ?_
      rw [← hv, dV, tk_in z1]
  exact L (e - a) a 0 (by omega) (Nat.le_refl _) rfl
def mx (err q : Nat) : Nat := if err < q then q else err
theorem k_breakOff {G : am_Gx} {d sc err q : Nat} {M : am_Hp} (ts : hp_T M sc = 5) (h84 : hp_I M 84 sc = i3 err) (he : err < 1000) (hq : q < 1000) : am_CT G (d + 1) rX4_breakOff [.ref sc, .int (i3 q)] M 0 0 (qi (-1) (hp_sI M 84 sc (i3 (mx err q)))) := by
  refine am_intro mkX4_breakOff rfl (Nat.le_of_ble_eq_true rfl) rfl (fun X hX hM => ?_)
  refine vX4_breakOff_0 hX hM ⟨ts, fun v e M3 e3 => ⟨rfl, ?_⟩⟩
  rw [e3, e, h84]
  unfold mx
  by_cases c : err < q
  · rw [if_pos c, if_pos ((i3_lt (by omega) (by omega)).mpr c)]
  · rw [if_neg c, if_neg (fun z => c ((i3_lt (by omega) (by omega)).mp z))]
def nd : List Nat → Nat
  | [] => 0
  | w :: ps => (if w = 48 ∨ w = 78 then 1 else 0) + nd ps
theorem nd_fmt {k : Nat} (hk : k < 8) : nd (fmt k) ≤ 3 := by
  rcases (by omega : k = 0 ∨ k = 1 ∨ k = 2 ∨ k = 3 ∨ k = 4 ∨ k = 5 ∨ k = 6 ∨ k = 7) with rfl | rfl | rfl | rfl | rfl | rfl | rfl | rfl <;> decide
theorem getD_snoc {l : List Nat} {v : Nat} : (l ++ [v]).getD l.length 0 = v := by
  have := getD_r (l := l) (ds := [v]) (j := 0)
  rw [Nat.add_zero] at this
  exact this
/-- reading by a form, from a place in it -/
theorem ef_loop {X : am_Cx} {G : am_Gx} {d sc st b m ks rs cc k p err s : Nat} {l : List Nat} {M0 : am_Hp} {Q : am_Q} (hX : am_ok X rX4_endOfForm G (d + 6)) (hM : am_me X rX4_endOfForm Q) (hz : cz G) (hp : sioo G) (hS : scR M0 sc st ks rs) (hT : sT M0 st b m l) (hl : l.length ≤ 60) (hcc : cc < 13) (h83 : hp_I M0 83 sc = i3 cc) (h84 : hp_I M0 84 sc = i3 err) (he : err < 1000) (hk : k < 8) (hs : stO M0 s (fmt k))
    (hQ1 : ∀ f : md_R, (fE l k p).1 = true → (∀ j, j < (fE l k p).2.2.length → f j = i3 ((fE l k p).2.2.getD j 0)) → Q (.inl (some (.int (i3 (fE l k p).2.1)))) (hp_sA M0 (rs + 1 + cc) f))
    (hQ2 : ∀ f : md_R, (fE l k p).1 = false → Q (.inl (some (.int (-1)))) (hp_sI (hp_sA M0 (rs + 1 + cc) f) 84 sc (i3 (mx err (fE l k p).2.1)))) : ∀ rem pre a args f, fmt k = pre ++ rem → a ≤ l.length → args.length + nd rem ≤ 3 → (∀ j, j < args.length → f j = i3 (args.getD j 0)) → fR l rem a args = fR l (fmt k) p [] → am_J X 14 [(0, .ref sc), (3, .ref s), (4, .int (i3 a)), (5, .int (i3 args.length)), (6, .int (i3 pre.length))] [] (hp_sA M0 (rs + 1 + cc) f) 0 0 := by
  obtain ⟨s1, s2, s3, s4, s5, s6, s7, s8, s9, s10, s11, s12⟩ := hS
  have hS : scR M0 sc st ks rs := ⟨s1, s2, s3, s4, s5, s6, s7, s8, s9, s10, s11, s12⟩
  subst s2
  obtain ⟨fl, fc⟩ := fmt_c hk
  have h12 := s12 cc hcc
  have t9 := hT.1.1
  have bq : b ≠ rs + 1 + cc := fun z => by have := hT.1.2.2.2.1; rw [z, h12.2.1] at this; exact absurd this (by decide)
  have sq : hp_R M0 80 sc ≠ rs + 1 + cc := fun z => by rw [z, h12.2.1] at t9; exact absurd t9 (by decide)
  have rq : rs ≠ rs + 1 + cc := by omega
  have cq : sc ≠ rs + 1 + cc := fun z => by rw [z, h12.2.1] at s1; exact absurd s1 (by decide)
  have kq : hp_R M0 180 s ≠ rs + 1 + cc := fun z => by have := hs.2.2.1; rw [z, h12.2.1] at this; exact absurd this (by decide)
  have kq' : s ≠ rs + 1 + cc := fun z => by have := hs.1; rw [z, h12.2.1] at this; exact absurd this (by decide)
  have zr : rs + 1 + cc ≠ 0 := by omega
  intro rem
  induction rem with
  | nil =>
    intro pre a args f hpre ha hn hf hR
    have hT1 : sT (hp_sA M0 (rs + 1 + cc) f) (hp_R M0 80 sc) b m l := sT_sm (sm_sA sq) (sm_sA bq) hT
    have hs1 : stO (hp_sA M0 (rs + 1 + cc) f) s (fmt k) := stO_sm (sm_sA kq') (sm_sA kq) hs
    have pl : pre.length = (fmt k).length := by rw [hpre, List.append_nil]
    have R1 : (fR l (fmt k) p []).1 = true ∧ (fR l (fmt k) p []).2 = (a, args) := by rw [← hR]; exact ⟨rfl, rfl⟩
    have fe := fE_2 l k p
    rw [R1.2] at fe
    refine vX4_endOfForm_14 hX hM (fun x0 x3 x4 x5 x6 M => am_J X 14 [(0, .ref x0), (3, .ref x3), (4, .int x4), (5, .int x5), (6, .int x6)] [] M 0 0) (fun _ _ _ _ _ _ h => h) ⟨hs1.1, ct_i (k_sLen hz hs1) ⟨fun _ => ?_, fun z => absurd ((i3_le (by omega) (by omega)).mpr (Nat.le_of_eq pl.symm)) z⟩⟩
    simp only [forall_eq]
    refine ⟨s1, s5, t9, ct_i (k_len hT1.1) ⟨fun z => ?_, fun z => ⟨s1, s5, t9, ?_⟩⟩⟩
    · have z1 := (i3_le (by omega) (by omega)).mp z
      have F1 : (fE l k p).1 = true := by
        unfold fE
        rw [if_pos R1.1, if_neg (fun y => by rw [R1.2] at y; exact absurd y.1 (by show ¬ a < _; omega))]
      have := hQ1 f F1 (by rw [fe]; exact hf)
      rw [fe] at this
      exact this
    · have z1 : a < l.length := Nat.lt_of_not_le (fun y => z ((i3_le (by omega) (by omega)).mpr y))
      have hc : l.getD a 0 < 128 := (hT.1.2.2.2.2.2.2.2.2.2 a z1).1
      refine ct_i (k_charAt hp hT1.1 z1) ⟨fun c => ?_, fun c => ⟨s1, ?_⟩⟩
      · have c' := (i3_eq (b := 59) (by omega) (by omega)).mp c
        have F1 : (fE l k p).1 = true := by
          unfold fE
          rw [if_pos R1.1, if_neg (fun y => by rw [R1.2] at y; exact absurd (tk_in z1 ▸ c') y.2)]
        have := hQ1 f F1 (by rw [fe]; exact hf)
        rw [fe] at this
        exact this
      · have c' : tk l a ≠ 59 := fun y => c (by rw [← tk_in z1, y]; rfl)
        have F1 : (fE l k p).1 = false := by
          unfold fE
          rw [if_pos R1.1, if_pos (by rw [R1.2]; exact ⟨z1, c'⟩)]
        have := hQ2 f F1
        rw [fe] at this
        exact ct_i (k_breakOff (M := hp_sA M0 (rs + 1 + cc) f) s1 h84 he (by omega)) this
  | cons w rem ih =>
    intro pre a args f hpre ha hn hf hR
    have hT1 : sT (hp_sA M0 (rs + 1 + cc) f) (hp_R M0 80 sc) b m l := sT_sm (sm_sA sq) (sm_sA bq) hT
    have hS1 : scR (hp_sA M0 (rs + 1 + cc) f) sc (hp_R M0 80 sc) ks rs := hS
    have hs1 : stO (hp_sA M0 (rs + 1 + cc) f) s (fmt k) := stO_sm (sm_sA kq') (sm_sA kq) hs
    have pl : pre.length < (fmt k).length := by rw [hpre, List.length_append, List.length_cons]; omega
    have wk : (fmt k).getD pre.length 0 = w := by
      rw [hpre]
      have := getD_r (l := pre) (ds := w :: rem) (j := 0)
      rw [Nat.add_zero] at this
      exact this
    have hw := fc _ pl
    rw [wk] at hw
    have hpre2 : fmt k = (pre ++ [w]) ++ rem := by rw [hpre, List.append_assoc]; rfl
    have pl2 : (pre ++ [w]).length = pre.length + 1 := by rw [List.length_append]; rfl
    rw [nd] at hn
    -- a break at q
    have brk : ∀ (f : md_R) q, q < 1000 → fR l (fmt k) p [] = (false, q, args) → Q (.inl (some (.int (-1)))) (hp_sI (hp_sA M0 (rs + 1 + cc) f) 84 sc (i3 (mx err q))) := fun f q _ hq => by
      have F1 : (fE l k p).1 = false := by rw [fE_f (by rw [hq])]
      have := hQ2 f F1
      rw [fE_2, hq] at this
      exact this
    refine vX4_endOfForm_14 hX hM (fun x0 x3 x4 x5 x6 M => am_J X 14 [(0, .ref x0), (3, .ref x3), (4, .int x4), (5, .int x5), (6, .int x6)] [] M 0 0) (fun _ _ _ _ _ _ h => h) ⟨hs1.1, ct_i (k_sLen hz hs1) ⟨fun z => absurd ((i3_le (by omega) (by omega)).mp z) (by omega), fun _ => ⟨hs1.1, ct_i (k_sChr hz hp hs1 pl (by omega) (by rw [wk]; exact hw)) ?_⟩⟩⟩
    rw [wk]
    refine ⟨fun WD => ⟨fun _ => ?_, fun z => absurd WD z⟩, fun W0 => ⟨fun WD => ⟨fun z => absurd z W0, fun _ => ?_⟩, fun W1 => ?_⟩⟩
    · have hwd : w = 48 := (i3_eq (b := 48) (by omega) (by omega)).mp WD
      have hm : (if w = 48 then 1 else 3) = 1 := by rw [hwd]; rfl
      have hor : w = 48 ∨ w = 78 := by omega
      rw [if_pos hor] at hn
      refine ⟨s1, ct_i (k_endOfDigits (w := 1) hp hS1 hT1 hl ha (by omega)) ⟨fun z => absurd ((i3_le (a := 3) (by omega) (by omega)).mp z) (by omega), fun _ => ?_⟩⟩
      have d1 := dE_ge l 1 a
      have d2 := dE_le l 1 a ha
      simp only [forall_eq]
      rw [hp_R_sA, s4, hp_I_sA, h83, hp_Q_sA, i3_toNat (by omega), h12.1, hp_N_sA, s11]
      refine ⟨s1, s7, s10, vp_in_i3 hcc (by omega), zr, ct_i (k_valueOf hp hS1 hT1 hl d1 d2 (fun i i1 i2 => dE_dig l 1 a i i1 i2)) ⟨h12.2.1, by rw [hp_N_sA, h12.2.2]; exact vp_in_i3 (by omega) (by omega), ?_⟩⟩
      rw [i3_toNat (by omega), hp_sE_sA, hp_sA_sA, hp_E_sA]
      refine ⟨fun z => ⟨s1, ?_⟩, fun z => ?_⟩
      · have z1 := (i3_eq (by omega) (by omega)).mp z
        refine ct_i (k_breakOff (M := hp_sA M0 (rs + 1 + cc) _) s1 h84 he (by omega)) ?_
        refine brk _ _ (by omega) ?_
        rw [← hR, fR, if_pos hor, hm, if_pos z1, z1]
      · have z1 : dE l 1 a ≠ a := fun y => z (by rw [y])
        rw [i3_one, i3_one]
        have := ih (pre ++ [w]) (dE l 1 a) (args ++ [dV l (dE l 1 a - a) a 0]) (va_up f args.length (i3 (dV l (dE l 1 a - a) a 0))) hpre2 d2 (by rw [List.length_append, List.length_singleton]; omega) (fun j hj => ?_) (by rw [← hR, fR, if_pos hor, hm, if_neg z1])
        · rw [List.length_append, List.length_singleton, pl2] at this
          exact this
        · rw [List.length_append, List.length_singleton] at hj
          by_cases c : j < args.length
          · rw [getD_l c, up_n _ _ (by omega)]
            exact hf j c
          · obtain rfl : j = args.length := by omega
            rw [getD_snoc, up_e]
    · have hwd : w = 78 := (i3_eq (b := 78) (by omega) (by omega)).mp WD
      have hm : (if w = 48 then 1 else 3) = 3 := by rw [hwd]; rfl
      have hor : w = 48 ∨ w = 78 := by omega
      rw [if_pos hor] at hn
      refine ⟨s1, ct_i (k_endOfDigits (w := 3) hp hS1 hT1 hl ha (by omega)) ⟨fun z => absurd ((i3_le (a := 3) (by omega) (by omega)).mp z) (by omega), fun _ => ?_⟩⟩
      have d1 := dE_ge l 3 a
      have d2 := dE_le l 3 a ha
      simp only [forall_eq]
      rw [hp_R_sA, s4, hp_I_sA, h83, hp_Q_sA, i3_toNat (by omega), h12.1, hp_N_sA, s11]
      refine ⟨s1, s7, s10, vp_in_i3 hcc (by omega), zr, ct_i (k_valueOf hp hS1 hT1 hl d1 d2 (fun i i1 i2 => dE_dig l 3 a i i1 i2)) ⟨h12.2.1, by rw [hp_N_sA, h12.2.2]; exact vp_in_i3 (by omega) (by omega), ?_⟩⟩
      rw [i3_toNat (by omega), hp_sE_sA, hp_sA_sA, hp_E_sA]
      refine ⟨fun z => ⟨s1, ?_⟩, fun z => ?_⟩
      · have z1 := (i3_eq (by omega) (by omega)).mp z
        refine ct_i (k_breakOff (M := hp_sA M0 (rs + 1 + cc) _) s1 h84 he (by omega)) ?_
        refine brk _ _ (by omega) ?_
        rw [← hR, fR, if_pos hor, hm, if_pos z1, z1]
      · have z1 : dE l 3 a ≠ a := fun y => z (by rw [y])
        rw [i3_one, i3_one]
        have := ih (pre ++ [w]) (dE l 3 a) (args ++ [dV l (dE l 3 a - a) a 0]) (va_up f args.length (i3 (dV l (dE l 3 a - a) a 0))) hpre2 d2 (by rw [List.length_append, List.length_singleton]; omega) (fun j hj => ?_) (by rw [← hR, fR, if_pos hor, hm, if_neg z1])
        · rw [List.length_append, List.length_singleton, pl2] at this
          exact this
        · rw [List.length_append, List.length_singleton] at hj
          by_cases c : j < args.length
          · rw [getD_l c, up_n _ _ (by omega)]
            exact hf j c
          · obtain rfl : j = args.length := by omega
            rw [getD_snoc, up_e]
    · have n48 : w ≠ 48 := fun y => W0 (by rw [y]; rfl)
      have n78 : w ≠ 78 := fun y => W1 (by rw [y]; rfl)
      rw [if_neg (by omega)] at hn
      simp only [forall_eq]
      refine ⟨s1, s5, t9, ct_i (k_len hT1.1) ⟨fun z => ⟨fun _ => ⟨s1, ?_⟩, fun y => absurd trivial y⟩, fun z => ⟨s1, s5, t9, ?_⟩⟩⟩
      · have z1 := (i3_le (by omega) (by omega)).mp z
        refine ct_i (k_breakOff (M := hp_sA M0 (rs + 1 + cc) f) s1 h84 he (by omega)) (brk f a (by omega) ?_)
        rw [← hR, fR_n n48 n78 (by rw [tk_out z1]; omega)]
      · have z1 : a < l.length := Nat.lt_of_not_le (fun y => z ((i3_le (by omega) (by omega)).mpr y))
        have hc : l.getD a 0 < 128 := (hT.1.2.2.2.2.2.2.2.2.2 a z1).1
        refine ct_i (k_charAt hp hT1.1 z1) ⟨fun c => ⟨fun y => ?_, fun _ => ?_⟩, fun c => ⟨fun _ => ⟨s1, ?_⟩, fun y => absurd trivial y⟩⟩
        · rw [i3_one] at y
          exact absurd ((i3_eq (by omega) (by omega)).mp y) (by omega)
        · have c' := (i3_eq (by omega) (by omega)).mp c
          rw [i3_one, i3_one]
          have := ih (pre ++ [w]) (a + 1) args f hpre2 z1 (by omega) hf (by rw [← hR, fR_y n48 n78 (by rw [tk_in z1]; exact c')])
          rw [pl2] at this
          exact this
        · have c' : tk l a ≠ w := fun y => c (by rw [← tk_in z1, y])
          refine ct_i (k_breakOff (M := hp_sA M0 (rs + 1 + cc) f) s1 h84 he (by omega)) (brk f a (by omega) ?_)
          rw [← hR, fR_n n48 n78 c']
theorem k_endOfForm {G : am_Gx} {d sc st b m ks rs cc k p err : Nat} {l : List Nat} {M : am_Hp} (hz : cz G) (hp : sioo G) (hS : scR M sc st ks rs) (hT : sT M st b m l) (hl : l.length ≤ 60) (hcc : cc < 13) (h83 : hp_I M 83 sc = i3 cc) (h84 : hp_I M 84 sc = i3 err) (he : err < 1000) (hk : k < 8) (hs : stK G M) (hpl : p ≤ l.length) : am_CT G (d + 6) rX4_endOfForm [.ref sc, .int (i3 k), .int (i3 p)] M 0 0 (fun o M' => ((fE l k p).1 = true ∧ o = .inl (some (.int (i3 (fE l k p).2.1))) ∧ ∃ f : md_R, M' = hp_sA M (rs + 1 + cc) f ∧ ∀ j, j < (fE l k p).2.2.length → f j = i3 ((fE l k p).2.2.getD j 0)) ∨ ((fE l k p).1 = false ∧ o = .inl (some (.int (-1))) ∧ ∃ f : md_R, M' = hp_sI (hp_sA M (rs + 1 + cc) f) 84 sc (i3 (mx err (fE l k p).2.1)))) := by
  refine am_intro mkX4_endOfForm rfl (Nat.le_of_ble_eq_true rfl) rfl (fun X hX hM => ?_)
  refine vX4_endOfForm_0 hX hM (fun x0 x3 x4 x5 x6 M => am_J X 14 [(0, .ref x0), (3, .ref x3), (4, .int x4), (5, .int x5), (6, .int x6)] [] M 0 0) (fun _ _ _ _ _ _ h => h) (am_CT.mono ?_ (k_formOf hk))
  rintro o M1 ⟨e, rfl⟩
  refine ⟨_, e, ?_⟩
  have := ef_loop (Q := _) hX hM hz hp hS hT hl hcc h83 h84 he hk (hs k hk) (fun f f1 f2 => .inl ⟨f1, rfl, f, rfl, f2⟩) (fun f f1 => .inr ⟨f1, rfl, f, rfl⟩) (fmt k) [] p [] (hp_E M1 (rs + 1 + cc)) rfl hpl (by have := nd_fmt hk; simpa using this) (fun j hj => absurd hj (Nat.not_lt_zero _)) rfl
  rw [hp_sA_id] at this
  exact this
