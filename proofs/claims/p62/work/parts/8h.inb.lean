/-! .. the constructors of the buildings -/
theorem sx_arr {M M8 M12 : am_Hp} {a p t n u : Nat} (e8 : M8 = hp_a M p t n) (e12 : M12 = hp_sR M8 u a p) (ha : hp_T M a ≠ 0) (hp : hp_T M p = 0) : hp_T M12 a = hp_T M a ∧ hp_T M12 p = t ∧ hp_N M12 p = n ∧ hp_E M12 p = (fun _ => 0) ∧ hp_R M12 u a = p ∧ (∀ v, v ≠ u → hp_R M12 v a = hp_R M v a) ∧ (∀ v, hp_I M12 v a = hp_I M v a) ∧ ∀ x, hp_T M x ≠ 0 → x ≠ a → sm M M12 x := by
  subst e12 e8
  have ap := ne_fr ha hp
  have s := sm_a (M := M) (a := p) (x := a) (t := t) (n := n) ap
  obtain ⟨a1, a2, a3, -⟩ := a_at M p t n
  exact ⟨s.1, a1, a2, a3, R_at _ _ _ _, fun v hv => (R_ne hv).trans (s.2.2.2.1 v), s.2.2.1, fun x x1 x2 => (sm_a (ne_fr x1 hp)).tr (sm_sR x2)⟩
theorem i_X5 {G : am_Gx} {d a : Nat} {M : am_Hp} (ta : hp_T M a = 6) : am_CT G (d + 1) rX5_init [.ref a] M 3 30 (fun o M' => o = .inl none ∧ ∃ e0 e1 e2, (hp_T M e0 = 0 ∧ hp_T M e1 = 0 ∧ hp_T M e2 = 0 ∧ e0 ≠ 0 ∧ e1 ≠ 0 ∧ e2 ≠ 0 ∧ e0 ≠ e1 ∧ e0 ≠ e2 ∧ e1 ≠ e2) ∧ (hp_T M' a = 6 ∧ hp_R M' 100 a = e0 ∧ hp_R M' 101 a = e1 ∧ hp_R M' 102 a = e2 ∧ hp_I M' 103 a = 0 ∧ hp_I M' 104 a = 0) ∧ (hp_T M' e0 = 22 ∧ hp_N M' e0 = 10 ∧ hp_E M' e0 = (fun _ => 0)) ∧ (hp_T M' e1 = 22 ∧ hp_N M' e1 = 10 ∧ hp_E M' e1 = (fun _ => 0)) ∧ (hp_T M' e2 = 22 ∧ hp_N M' e2 = 10 ∧ hp_E M' e2 = (fun _ => 0)) ∧ fr (fun x => x = a) M M') := by
  refine am_intro mkX5_init rfl (Nat.le_of_ble_eq_true rfl) rfl (fun X hX hM => ?_)
  refine vX5_init_0 hX hM ⟨by decide, by decide, by omega, by decide, fun e0 h0 z0 M8 e8 => ?_⟩
  have n10 : ((10 : Int32)).toNatClampNeg = 10 := by decide
  rw [n10] at e8
  have ta0 : hp_T M a ≠ 0 := by rw [ta]; decide
  refine ⟨by rw [e8, (sm_a (ne_fr ta0 h0)).1]; exact ta, z0, fun M12 e12 => ?_⟩
  obtain ⟨x1, x2, x3, x4, x5, -, -, x8⟩ := sx_arr e8 e12 ta0 h0
  have ta1 : hp_T M12 a ≠ 0 := by rw [x1]; exact ta0
  have a0 : e0 ≠ a := (ne_fr ta0 h0).symm
  refine ⟨by decide, by decide, by omega, by decide, fun e1 h1 z1 M22 e22 => ⟨z1, fun M27 e27 => ?_⟩⟩
  rw [n10] at e22
  obtain ⟨y1, y2, y3, y4, y5, y6, -, y8⟩ := sx_arr e22 e27 ta1 h1
  have ta2 : hp_T M27 a ≠ 0 := by rw [y1]; exact ta1
  have a1 : e1 ≠ a := (ne_fr ta1 h1).symm
  have s0 := y8 e0 (by rw [x2]; decide) a0
  have ne01 : e0 ≠ e1 := ne_fr (by rw [x2]; decide) h1
  refine ⟨by decide, by decide, by omega, by decide, fun e2 h2 z2 M38 e38 => ⟨z2, fun M44 e44 => ?_⟩⟩
  rw [n10] at e38
  obtain ⟨w1, w2, w3, w4, w5, w6, -, w8⟩ := sx_arr e38 e44 ta2 h2
  have a2 : e2 ≠ a := (ne_fr ta2 h2).symm
  have r0 := w8 e0 (by rw [s0.1, x2]; decide) a0
  have r1 := w8 e1 (by rw [y2]; decide) a1
  have ne02 : e0 ≠ e2 := ne_fr (by rw [s0.1, x2]; decide) h2
  have ne12 : e1 ≠ e2 := ne_fr (by rw [y2]; decide) h2
  intro M49 e49 M54 e54
  have g : ∀ x, x ≠ a → sm M44 M54 x := fun x hx => by
    rw [e54, e49]
    exact (sm_sI hx).tr (sm_sI hx)
  have ga : hp_T M54 = hp_T M44 ∧ hp_R M54 = hp_R M44 := by rw [e54, e49]; exact ⟨rfl, rfl⟩
  have k1 : ∀ x, hp_T M x ≠ 0 → x ≠ a → sm M M27 x := fun x p1 p2 => (x8 x p1 p2).tr (y8 x (by rw [(x8 x p1 p2).1]; exact p1) p2)
  have k2 : ∀ x, hp_T M x ≠ 0 → x ≠ a → sm M M44 x := fun x p1 p2 => (k1 x p1 p2).tr (w8 x (by rw [(k1 x p1 p2).1]; exact p1) p2)
  refine ⟨rfl, e0, e1, e2, ⟨h0, Classical.byContradiction (fun z => ?_), Classical.byContradiction (fun z => ?_), z0, z1, z2, ne01, ne02, ne12⟩, ⟨?_, ?_, ?_, ?_, ?_, ?_⟩, ⟨?_, ?_, ?_⟩, ⟨?_, ?_, ?_⟩, ⟨?_, ?_, ?_⟩, fun x p1 p2 => (k2 x p1 p2).tr (g x p2)⟩
  · rw [(x8 e1 z a1).1] at h1; exact z h1
  · rw [(k1 e2 z a2).1] at h2; exact z h2
  · rw [ga.1, w1, y1, x1]; exact ta
  · rw [ga.2, w6 _ (by decide), y6 _ (by decide)]; exact x5
  · rw [ga.2, w6 _ (by decide)]; exact y5
  · rw [ga.2]; exact w5
  · rw [e54, hp_I_sIu _ _ _ _ (by decide), e49, hp_I_sI]
  · rw [e54, hp_I_sI]
  · rw [(g e0 a0).1, r0.1, s0.1]; exact x2
  · rw [(g e0 a0).2.1, r0.2.1, s0.2.1]; exact x3
  · rw [(g e0 a0).2.2.2.2.1, r0.2.2.2.2.1, s0.2.2.2.2.1]; exact x4
  · rw [(g e1 a1).1, r1.1]; exact y2
  · rw [(g e1 a1).2.1, r1.2.1]; exact y3
  · rw [(g e1 a1).2.2.2.2.1, r1.2.2.2.2.1]; exact y4
  · rw [(g e2 a2).1]; exact w2
  · rw [(g e2 a2).2.1]; exact w3
  · rw [(g e2 a2).2.2.2.2.1]; exact w4
theorem i_X1 {G : am_Gx} {d a : Nat} {M : am_Hp} (ta : hp_T M a = 2) : am_CT G (d + 1) rX1_init [.ref a] M 0 0 (fun o M' => o = .inl none ∧ hp_T M' a = 2 ∧ (∀ u, 20 ≤ u → u < 28 → hp_I M' u a = if u = 22 then 400 else if u = 27 then 1 else 0) ∧ fr (fun x => x = a) M M') := by
  refine am_intro mkX1_init rfl (Nat.le_of_ble_eq_true rfl) rfl (fun X hX hM => ?_)
  refine vX1_init_0 hX hM ⟨ta, ?_⟩
  simp only [forall_eq]
  refine ⟨Or.inr rfl, by trivial, ta, fun u h1 h2 => ?_, fun x _ x2 => ?_⟩
  · rcases (by omega : u = 20 ∨ u = 21 ∨ u = 22 ∨ u = 23 ∨ u = 24 ∨ u = 25 ∨ u = 26 ∨ u = 27) with rfl | rfl | rfl | rfl | rfl | rfl | rfl | rfl <;> simp [hp_I, hp_sI, hp_u]
  · exact (((((((sm_sI x2).tr (sm_sI x2)).tr (sm_sI x2)).tr (sm_sI x2)).tr (sm_sI x2)).tr (sm_sI x2)).tr (sm_sI x2)).tr (sm_sI x2)
theorem i_X3 {G : am_Gx} {d a : Nat} {M : am_Hp} (ta : hp_T M a = 4) : am_CT G (d + 1) rX3_init [.ref a] M 0 0 (fun o M' => o = .inl none ∧ hp_T M' a = 4 ∧ fr (fun x => x = a) M M') := by
  refine am_intro mkX3_init rfl (Nat.le_of_ble_eq_true rfl) rfl (fun X hX hM => ?_)
  refine vX3_init_0 hX hM ⟨ta, ?_⟩
  simp only [forall_eq]
  refine ⟨Or.inl rfl, by trivial, ta, fun x _ x2 => ?_⟩
  exact ((((((sm_sI x2).tr (sm_sI x2)).tr (sm_sI x2)).tr (sm_sI x2)).tr (sm_sI x2)).tr (sm_sI x2)).tr (sm_sI x2)
/-! a building grows place by place -/
def tB (i : Nat) : Nat := if i = 0 then 1 else if i = 1 then 26 else if i = 2 then 27 else if i = 3 then 6 else if i < 7 then 22 else if i < 10 then 2 else 4
theorem tB_0 (i : Nat) : tB i ≠ 0 := by
  unfold tB
  split
  · decide
  · split
    · decide
    · split
      · decide
      · split
        · decide
        · split
          · decide
          · split <;> decide
def iI (n : Nat) (M0 M1 : am_Hp) (B : Nat → Nat) : Prop := (∀ i, i < n → B i ≠ 0 ∧ hp_T M1 (B i) = tB i) ∧ (∀ i j, i < n → j < n → B i = B j → i = j) ∧ (∀ i, 0 < i → i < n → hp_T M0 (B i) = 0) ∧ fr (fun x => x = B 0) M0 M1
theorem iI_T {n : Nat} {M0 M1 : am_Hp} {B : Nat → Nat} (h : iI n M0 M1 B) {i : Nat} (hi : i < n) : hp_T M1 (B i) ≠ 0 := by rw [(h.1 i hi).2]; exact tB_0 i
theorem iI_mod {n : Nat} {M0 M1 M2 : am_Hp} {B : Nat → Nat} (h : iI n M0 M1 B) (hT : ∀ i, i < n → hp_T M2 (B i) = hp_T M1 (B i)) (hf : ∀ x, hp_T M1 x ≠ 0 → (∀ i, i < n → x ≠ B i) → sm M1 M2 x) : iI n M0 M2 B := by
  obtain ⟨h1, h2, h3, h4⟩ := h
  refine ⟨fun i hi => ⟨(h1 i hi).1, (hT i hi).trans (h1 i hi).2⟩, h2, h3, fun x x1 x2 => ?_⟩
  have s := h4 x x1 x2
  refine s.tr (hf x (by rw [s.1]; exact x1) (fun i hi z => ?_))
  by_cases e : i = 0
  · exact x2 (by rw [z, e])
  · exact x1 (by rw [z]; exact h3 i (by omega) hi)
theorem iI_ins {n : Nat} {M0 M1 : am_Hp} {B : Nat → Nat} {p : Nat} (h : iI n M0 M1 B) (hn : 0 < n) (np : ∀ i, i < n → B i ≠ p) (h0 : hp_T M0 p = 0) (zp : p ≠ 0) (tp : hp_T M1 p = tB n) : iI (n + 1) M0 M1 (va_up B n p) := by
  obtain ⟨h1, h2, h3, h4⟩ := h
  have e1 : ∀ i, i < n → va_up B n p i = B i := fun i hi => if_neg (by omega)
  have e2 : va_up B n p n = p := if_pos rfl
  refine ⟨fun i hi => ?_, fun i j hi hj e => ?_, fun i hi0 hi => ?_, ?_⟩
  · by_cases c : i = n
    · rw [c, e2]; exact ⟨zp, tp⟩
    · rw [e1 i (by omega)]; exact h1 i (by omega)
  · by_cases c : i = n
    · by_cases c' : j = n
      · omega
      · rw [c, e2, e1 j (by omega)] at e
        exact absurd e.symm (np j (by omega))
    · by_cases c' : j = n
      · rw [c', e2, e1 i (by omega)] at e
        exact absurd e (np i (by omega))
      · rw [e1 i (by omega), e1 j (by omega)] at e
        exact h2 i j (by omega) (by omega) e
  · by_cases c : i = n
    · rw [c, e2]; exact h0
    · rw [e1 i (by omega)]; exact h3 i hi0 (by omega)
  · rw [e1 0 hn]
    exact h4
/-- what is fresh now was fresh then -/
theorem iI_fresh {n : Nat} {M0 M1 : am_Hp} {B : Nat → Nat} {p : Nat} (h : iI n M0 M1 B) (hn : 0 < n) (hp : hp_T M1 p = 0) : hp_T M0 p = 0 := Classical.byContradiction (fun z => by
  have := (h.2.2.2 p z (fun y => ne_fr (iI_T h hn) hp y.symm)).1
  rw [hp] at this
  exact z this.symm)
theorem iI_add {n : Nat} {M0 M1 M2 : am_Hp} {B : Nat → Nat} {p : Nat} (h : iI n M0 M1 B) (hn : 0 < n) (hp : hp_T M1 p = 0) (zp : p ≠ 0) (tp : hp_T M2 p = tB n) (hT : ∀ i, i < n → hp_T M2 (B i) = hp_T M1 (B i)) (hf : ∀ x, hp_T M1 x ≠ 0 → (∀ i, i < n → x ≠ B i) → sm M1 M2 x) : iI (n + 1) M0 M2 (va_up B n p) :=
  iI_ins (iI_mod h hT hf) hn (fun i hi => ne_fr (iI_T h hi) hp) (iI_fresh h hn hp) zp tp
theorem iI_0 {M : am_Hp} {a : Nat} (ta : hp_T M a = 1) (za : a ≠ 0) : iI 1 M M (fun _ => a) := ⟨fun i hi => ⟨za, by rw [show i = 0 by omega]; exact ta⟩, fun i j hi hj _ => by omega, fun i h0 hi => by omega, fr.rf _ _⟩
def iS (k j : Nat) (M : am_Hp) (B : Nat → Nat) : Prop := (hp_R M 0 (B 0) = B 1 ∧ hp_R M 1 (B 0) = B 2 ∧ hp_R M 2 (B 0) = B 3 ∧ hp_N M (B 1) = 3 ∧ hp_N M (B 2) = 12 ∧ hp_R M 100 (B 3) = B 4 ∧ hp_R M 101 (B 3) = B 5 ∧ hp_R M 102 (B 3) = B 6 ∧ hp_N M (B 4) = 10 ∧ hp_N M (B 5) = 10 ∧ hp_N M (B 6) = 10) ∧ ((∀ u, 3 ≤ u → u < 10 → hp_I M u (B 0) = 0) ∧ hp_I M 103 (B 3) = 0 ∧ hp_I M 104 (B 3) = 0 ∧ hp_E M (B 4) = (fun _ => 0) ∧ hp_E M (B 5) = (fun _ => 0) ∧ hp_E M (B 6) = (fun _ => 0)) ∧ (∀ c, c < k → hp_Q M (B 1) c = B (7 + c) ∧ ∀ u, 20 ≤ u → u < 28 → hp_I M u (B (7 + c)) = if u = 22 then 400 else if u = 27 then 1 else 0) ∧ ∀ i, i < j → hp_Q M (B 2) i = B (10 + i)
/-- what a step that leaves the old places alone, but for the two rows' elements, keeps -/
theorem iS_keep {k j n : Nat} {M M2 : am_Hp} {B : Nat → Nat} {p : Nat} (h : iS k j M B) (hn : 7 + k ≤ n) (hj : j = 0 ∨ 10 + j ≤ n) (h1 : sm M M2 (B 0)) (h3 : ∀ i, 3 ≤ i → i < n → sm M M2 (B i)) (n1 : hp_N M2 (B 1) = hp_N M (B 1)) (n2 : hp_N M2 (B 2) = hp_N M (B 2)) (q1 : ∀ c, c < k → hp_Q M2 (B 1) c = hp_Q M (B 1) c) (q2 : ∀ i, i < j → hp_Q M2 (B 2) i = hp_Q M (B 2) i) : iS k j M2 (va_up B n p) := by
  obtain ⟨⟨r0, r1, r2, m1, m2, r3, r4, r5, m4, m5, m6⟩, ⟨f0, f1, f2, f3, f4, f5⟩, hc, hi⟩ := h
  have e : ∀ i, i < n → va_up B n p i = B i := fun i hi => if_neg (by omega)
  unfold iS
  rw [e 0 (by omega), e 1 (by omega), e 2 (by omega), e 3 (by omega), e 4 (by omega), e 5 (by omega), e 6 (by omega)]
  have s3 := h3 3 (by omega) (by omega)
  have s4 := h3 4 (by omega) (by omega)
  have s5 := h3 5 (by omega) (by omega)
  have s6 := h3 6 (by omega) (by omega)
  refine ⟨⟨(h1.2.2.2.1 _).trans r0, (h1.2.2.2.1 _).trans r1, (h1.2.2.2.1 _).trans r2, n1.trans m1, n2.trans m2, (s3.2.2.2.1 _).trans r3, (s3.2.2.2.1 _).trans r4, (s3.2.2.2.1 _).trans r5, s4.2.1.trans m4, s5.2.1.trans m5, s6.2.1.trans m6⟩, ⟨fun u a b => (h1.2.2.1 u).trans (f0 u a b), (s3.2.2.1 _).trans f1, (s3.2.2.1 _).trans f2, s4.2.2.2.2.1.trans f3, s5.2.2.2.2.1.trans f4, s6.2.2.2.2.1.trans f5⟩, fun c hck => ?_, fun i hij => ?_⟩
  · rw [e (7 + c) (by omega)]
    exact ⟨(q1 c hck).trans (hc c hck).1, fun u a b => ((h3 (7 + c) (by omega) (by omega)).2.2.1 u).trans ((hc c hck).2 u a b)⟩
  · rw [e (10 + i) (by omega)]
    exact (q2 i hij).trans (hi i hij)
theorem iS_bR {M0 M : am_Hp} {B : Nat → Nat} (h : iI 22 M0 M B) (hs : iS 3 12 M B) : bR M B md_g0 := by
  obtain ⟨h1, h2, h3, h4⟩ := h
  obtain ⟨⟨r0, r1, r2, m1, m2, r3, r4, r5, m4, m5, m6⟩, ⟨f0, f1, f2, f3, f4, f5⟩, hc, hi⟩ := hs
  refine ⟨⟨⟨(h1 0 (by omega)).2, r0, r1, r2, (h1 1 (by omega)).2, m1, (h1 2 (by omega)).2, m2, (h1 3 (by omega)).2, r3, r4, r5, (h1 4 (by omega)).2, (h1 5 (by omega)).2, (h1 6 (by omega)).2, m4, m5, m6⟩, fun c hc3 => ?_, fun k hk => ?_, fun i hi' => (h1 i hi').1, h2⟩, ⟨fun c hc3 => (hc c hc3).1, fun i hi' => ⟨i, hi', hi i hi'⟩, fun i j hi' hj' e => ?_⟩, ⟨f0 3 (by omega) (by omega), f0 4 (by omega) (by omega), f0 5 (by omega) (by omega), f0 6 (by omega) (by omega), f0 7 (by omega) (by omega), f0 8 (by omega) (by omega), f0 9 (by omega) (by omega)⟩, fun c hc3 => ?_, fun p hp => absurd (show p < 0 from hp) (Nat.not_lt_zero p), f1, f2, fun k hk => ?_, fun k hk => ?_, fun k hk => ?_⟩
  · rw [(h1 (7 + c) (by omega)).2]
    rcases (by omega : c = 0 ∨ c = 1 ∨ c = 2) with rfl | rfl | rfl <;> rfl
  · rw [(h1 (10 + k) (by omega)).2]
    unfold tB
    rw [if_neg (by omega), if_neg (by omega), if_neg (by omega), if_neg (by omega), if_neg (by omega), if_neg (by omega)]
  · rw [hi i hi', hi j hj'] at e
    have := h2 _ _ (by omega) (by omega) e
    omega
  · have g := (hc c hc3).2
    rcases (by omega : c = 0 ∨ c = 1 ∨ c = 2) with rfl | rfl | rfl <;> exact ⟨g 20 (by omega) (by omega), g 21 (by omega) (by omega), g 22 (by omega) (by omega), g 23 (by omega) (by omega), g 24 (by omega) (by omega), g 25 (by omega) (by omega), g 26 (by omega) (by omega), g 27 (by omega) (by omega)⟩
  · rw [f3]
    unfold md_g0
    rw [if_neg (by omega), if_neg (by omega)]
  · rw [f4]
    unfold md_g0
    rw [if_neg (by omega), if_neg (by omega)]
  · rw [f5]
    unfold md_g0
    rw [if_neg (by omega), if_neg (by omega)]
def bch (M : am_Hp) (a p : Nat) : am_Hp := hp_sI (hp_sI (hp_sI (hp_sI (hp_sI (hp_sI (hp_sI (hp_sR M 2 a p) 3 a (0 : Int32)) 4 a (0 : Int32)) 5 a (0 : Int32)) 6 a (0 : Int32)) 7 a (0 : Int32)) 8 a (0 : Int32)) 9 a (0 : Int32)
theorem bch_f (M : am_Hp) (a p : Nat) : (∀ x, x ≠ a → sm M (bch M a p) x) ∧ hp_T (bch M a p) = hp_T M ∧ hp_R (bch M a p) 2 a = p ∧ (∀ v, v ≠ 2 → hp_R (bch M a p) v a = hp_R M v a) ∧ (∀ u, 3 ≤ u → u < 10 → hp_I (bch M a p) u a = 0) := by
  refine ⟨fun x hx => (((((((sm_sR hx).tr (sm_sI hx)).tr (sm_sI hx)).tr (sm_sI hx)).tr (sm_sI hx)).tr (sm_sI hx)).tr (sm_sI hx)).tr (sm_sI hx), rfl, R_at _ _ _ _, fun v hv => R_ne hv, fun u h1 h2 => ?_⟩
  rcases (by omega : u = 3 ∨ u = 4 ∨ u = 5 ∨ u = 6 ∨ u = 7 ∨ u = 8 ∨ u = 9) with rfl | rfl | rfl | rfl | rfl | rfl | rfl <;> simp [bch, hp_I, hp_sI, hp_u]
theorem ib_pas {X : am_Cx} {G : am_Gx} {d a : Nat} {M : am_Hp} {Q : am_Q} (hX : am_ok X rX0_init G (d + 2)) (hM : am_me X rX0_init Q) (hQ : ∀ M1 B, B 0 = a → iI 22 M M1 B → iS 3 12 M1 B → Q (.inl none) M1) : ∀ j k M1 B bc bs, k + j = 12 → j ≤ bc → 7 * j ≤ bs → B 0 = a → iI (10 + k) M M1 B → iS 3 k M1 B → am_J X 95 [(0, .ref a), (1, .int (i3 k))] [] M1 bc bs := by
  intro j
  induction j with
  | zero =>
    intro k M1 B bc bs hk _ _ hB hI hS
    obtain rfl : k = 12 := by omega
    exact vX0_init_95 hX hM (fun x0 x1 M bc bs => am_J X 95 [(0, .ref x0), (1, .int x1)] [] M bc bs) (fun _ _ _ _ _ h => h) ⟨fun _ => hQ M1 B hB hI hS, fun z => absurd (by decide) z⟩
  | succ j ih =>
    intro k M1 B bc bs hk hbc hbs hB hI hS
    have h0 := hI.1 0 (by omega)
    have h2 := hI.1 2 (by omega)
    have r2 := hS.1.2.1
    have m2 := hS.1.2.2.2.2.1
    rw [hB] at h0 r2
    refine vX0_init_95 hX hM (fun x0 x1 M bc bs => am_J X 95 [(0, .ref x0), (1, .int x1)] [] M bc bs) (fun _ _ _ _ _ h => h) ⟨fun z => absurd ((i3_le (a := 12) (by omega) (by omega)).mp z) (by omega), fun _ => ⟨h0.2, by rw [r2]; exact h2.1, fun p4 e4 => ⟨by omega, by omega, fun p hp zp M11 e11 => ?_⟩⟩⟩
    rw [r2] at e4
    subst p4
    obtain ⟨o1, -, -⟩ := o_at M1 p 4
    rw [← e11] at o1
    refine am_CT.mono ?_ (i_X3 o1)
    rintro o M14 ⟨e, t4, f⟩
    have S1 : ∀ x, hp_T M1 x ≠ 0 → sm M1 M14 x := fun x x1 => by
      have xp := ne_fr x1 hp
      have s := sm_o (M := M1) (a := p) (t := 4) xp
      rw [← e11] at s
      exact s.tr (f x (by rw [s.1]; exact x1) xp)
    have sB2 := S1 (B 2) (iI_T hI (by omega))
    refine ⟨e, sB2.1.trans h2.2, t4, zp, by rw [sB2.2.1, m2]; exact vp_in_i3 (by omega) (by omega), fun M20 e20 v23 e23 => ?_⟩
    have bp : B 2 ≠ p := ne_fr (iI_T hI (by omega)) hp
    rw [i3_toNat (by omega)] at e20
    rw [show i3 k + 1 = i3 (k + 1) from i3_one k] at e23
    subst e23
    have S2 : ∀ x, hp_T M1 x ≠ 0 → x ≠ B 2 → sm M1 M20 x := fun x x1 x2 => by
      rw [e20]
      exact (S1 x x1).tr (sm_sQ x2)
    have T2 : hp_T M20 = hp_T M14 := by rw [e20]; rfl
    have Q2 : hp_Q M20 (B 2) = va_up (hp_Q M14 (B 2)) k p := by rw [e20]; exact hp_Q_sQ _ _ _ _
    have dj : ∀ i, i < 10 + k → i ≠ 2 → B i ≠ B 2 := fun i hi h z => h (hI.2.1 i 2 hi (by omega) z)
    refine ih (k + 1) M20 (va_up B (10 + k) p) _ _ (by omega) (by omega) (by omega) (by rw [va_up, if_neg (by omega)]; exact hB) (iI_add (n := 10 + k) hI (by omega) hp zp ?_ (fun i hi => by rw [T2]; exact (S1 _ (iI_T hI hi)).1) (fun x x1 x2 => S2 x x1 (x2 2 (by omega)))) ?_
    · rw [T2, t4]
      unfold tB
      rw [if_neg (by omega), if_neg (by omega), if_neg (by omega), if_neg (by omega), if_neg (by omega), if_neg (by omega)]
    · have K := iS_keep (M2 := M20) (p := p) hS (n := 10 + k) (by omega) (.inr (by omega)) (S2 _ (iI_T hI (by omega)) (dj 0 (by omega) (by omega))) (fun i i3 hi => S2 _ (iI_T hI hi) (dj i hi (by omega))) ((S2 _ (iI_T hI (by omega)) (dj 1 (by omega) (by omega))).2.1) (by rw [e20]; exact sB2.2.1) (fun c hc => by rw [(S2 _ (iI_T hI (by omega)) (dj 1 (by omega) (by omega))).2.2.2.2.2.1]) (fun i hi => by
        rw [Q2, up_n _ _ (by omega), sB2.2.2.2.2.2.1])
      refine ⟨K.1, K.2.1, K.2.2.1, fun i hi => ?_⟩
      by_cases c : i = k
      · subst c
        rw [show va_up B (10 + i) p 2 = B 2 from if_neg (by omega), show va_up B (10 + i) p (10 + i) = p from if_pos rfl, Q2]
        exact up_e _ _ _
      · exact K.2.2.2 i (by omega)
theorem ib_car {X : am_Cx} {G : am_Gx} {d a : Nat} {M : am_Hp} {Q : am_Q} (hX : am_ok X rX0_init G (d + 2)) (hM : am_me X rX0_init Q) (hQ : ∀ M1 B, B 0 = a → iI 22 M M1 B → iS 3 12 M1 B → Q (.inl none) M1) : ∀ j k M1 B bc bs, k + j = 3 → j + 12 ≤ bc → 8 * j + 84 ≤ bs → B 0 = a → iI (7 + k) M M1 B → iS k 0 M1 B → am_J X 69 [(0, .ref a), (1, .int (i3 k))] [] M1 bc bs := by
  intro j
  induction j with
  | zero =>
    intro k M1 B bc bs hk hbc hbs hB hI hS
    obtain rfl : k = 3 := by omega
    refine vX0_init_69 hX hM (fun x0 x1 M bc bs => am_J X 69 [(0, .ref x0), (1, .int x1)] [] M bc bs) (fun _ _ _ _ _ h => h) (fun x0 x1 M bc bs => am_J X 95 [(0, .ref x0), (1, .int x1)] [] M bc bs) (fun _ _ _ _ _ h => h) ⟨fun _ => ?_, fun z => absurd (by decide) z⟩
    exact ib_pas hX hM hQ 12 0 M1 B bc bs rfl (by omega) (by omega) hB hI hS
  | succ j ih =>
    intro k M1 B bc bs hk hbc hbs hB hI hS
    have h0 := hI.1 0 (by omega)
    have h2 := hI.1 1 (by omega)
    have r2 := hS.1.1
    have m2 := hS.1.2.2.2.1
    rw [hB] at h0 r2
    refine vX0_init_69 hX hM (fun x0 x1 M bc bs => am_J X 69 [(0, .ref x0), (1, .int x1)] [] M bc bs) (fun _ _ _ _ _ h => h) (fun x0 x1 M bc bs => am_J X 95 [(0, .ref x0), (1, .int x1)] [] M bc bs) (fun _ _ _ _ _ h => h) ⟨fun z => absurd ((i3_le (a := 3) (by omega) (by omega)).mp z) (by omega), fun _ => ⟨h0.2, by rw [r2]; exact h2.1, fun p4 e4 => ⟨by omega, by omega, fun p hp zp M11 e11 => ?_⟩⟩⟩
    rw [r2] at e4
    subst p4
    obtain ⟨o1, -, -⟩ := o_at M1 p 2
    rw [← e11] at o1
    refine am_CT.mono ?_ (i_X1 o1)
    rintro o M14 ⟨e, t4, i14, f⟩
    have S1 : ∀ x, hp_T M1 x ≠ 0 → sm M1 M14 x := fun x x1 => by
      have xp := ne_fr x1 hp
      have s := sm_o (M := M1) (a := p) (t := 2) xp
      rw [← e11] at s
      exact s.tr (f x (by rw [s.1]; exact x1) xp)
    have sB2 := S1 (B 1) (iI_T hI (by omega))
    refine ⟨e, sB2.1.trans h2.2, t4, zp, by rw [sB2.2.1, m2]; exact vp_in_i3 (by omega) (by omega), fun M20 e20 v23 e23 => ?_⟩
    have bp : B 1 ≠ p := ne_fr (iI_T hI (by omega)) hp
    rw [i3_toNat (by omega)] at e20
    rw [show i3 k + 1 = i3 (k + 1) from i3_one k] at e23
    subst e23
    have S2 : ∀ x, hp_T M1 x ≠ 0 → x ≠ B 1 → sm M1 M20 x := fun x x1 x2 => by
      rw [e20]
      exact (S1 x x1).tr (sm_sQ x2)
    have T2 : hp_T M20 = hp_T M14 := by rw [e20]; rfl
    have Q2 : hp_Q M20 (B 1) = va_up (hp_Q M14 (B 1)) k p := by rw [e20]; exact hp_Q_sQ _ _ _ _
    have I2 : ∀ u, hp_I M20 u p = hp_I M14 u p := fun u => by rw [e20]; rfl
    have dj : ∀ i, i < 7 + k → i ≠ 1 → B i ≠ B 1 := fun i hi h z => h (hI.2.1 i 1 hi (by omega) z)
    refine ih (k + 1) M20 (va_up B (7 + k) p) _ _ (by omega) (by omega) (by omega) (by rw [va_up, if_neg (by omega)]; exact hB) (iI_add (n := 7 + k) hI (by omega) hp zp ?_ (fun i hi => by rw [T2]; exact (S1 _ (iI_T hI hi)).1) (fun x x1 x2 => S2 x x1 (x2 1 (by omega)))) ?_
    · rw [T2, t4]
      unfold tB
      rw [if_neg (by omega), if_neg (by omega), if_neg (by omega), if_neg (by omega), if_neg (by omega), if_pos (by omega)]
    · have K := iS_keep (M2 := M20) (p := p) hS (n := 7 + k) (by omega) (.inl rfl) (S2 _ (iI_T hI (by omega)) (dj 0 (by omega) (by omega))) (fun i i3 hi => S2 _ (iI_T hI hi) (dj i hi (by omega))) (by rw [e20]; exact sB2.2.1) ((S2 _ (iI_T hI (by omega)) (dj 2 (by omega) (by omega))).2.1) (fun i hi => by
        rw [Q2, up_n _ _ (by omega), sB2.2.2.2.2.2.1]) (fun i hi => absurd hi (Nat.not_lt_zero _))
      refine ⟨K.1, K.2.1, fun i hi => ?_, K.2.2.2⟩
      by_cases c : i = k
      · subst c
        rw [show va_up B (7 + i) p 1 = B 1 from if_neg (by omega), show va_up B (7 + i) p (7 + i) = p from if_pos rfl, Q2]
        exact ⟨up_e _ _ _, fun u u1 u2 => (I2 u).trans (i14 u u1 u2)⟩
      · exact K.2.2.1 i (by omega)
theorem i_X0 {G : am_Gx} {d a : Nat} {M : am_Hp} (ta : hp_T M a = 1) (za : a ≠ 0) : am_CT G (d + 2) rX0_init [.ref a] M 21 158 (fun o M' => o = .inl none ∧ ∃ B : Nat → Nat, B 0 = a ∧ (∀ i, 0 < i → i < 22 → hp_T M (B i) = 0) ∧ bR M' B md_g0 ∧ fr (fun x => x = a) M M') := by
  refine am_intro mkX0_init rfl (Nat.le_of_ble_eq_true rfl) rfl (fun X hX hM => ?_)
  have I0 := iI_0 ta za
  have ta0 : hp_T M a ≠ 0 := iI_T I0 (i := 0) (by omega)
  refine vX0_init_0 hX hM (fun x0 x1 M bc bs => am_J X 69 [(0, .ref x0), (1, .int x1)] [] M bc bs) (fun _ _ _ _ _ h => h) ⟨by decide, by decide, by omega, by decide, fun p1 h1 z1 M8 e8 => ⟨by rw [e8, (sm_a (ne_fr ta0 h1)).1]; exact ta, z1, fun M12 e12 => ⟨by decide, by decide, by omega, by decide, fun p2 h2 z2 M22 e22 => ⟨z2, fun M27 e27 => ⟨by omega, by decide, fun p3 h3 z3 M37 e37 => ⟨by omega, by decide, ?_⟩⟩⟩⟩⟩⟩
  rw [show ((3 : Int32)).toNatClampNeg = 3 by decide] at e8
  rw [show ((12 : Int32)).toNatClampNeg = 12 by decide] at e22
  obtain ⟨x1, x2, x3, -, x5, x6, x7, x8⟩ := sx_arr e8 e12 ta0 h1
  have ta1 : hp_T M12 a ≠ 0 := by rw [x1]; exact ta0
  obtain ⟨y1, y2, y3, -, y5, y6, y7, y8⟩ := sx_arr e22 e27 ta1 h2
  have ta2 : hp_T M27 a ≠ 0 := by rw [y1]; exact ta1
  obtain ⟨o1, o2, -⟩ := o_at M27 p3 6
  rw [← e37] at o1
  have ap3 := ne_fr ta2 h3
  have so : ∀ x, x ≠ p3 → sm M27 M37 x := fun x hx => by rw [e37]; exact sm_o hx
  have a1 : p1 ≠ a := (ne_fr ta0 h1).symm
  have a2 : p2 ≠ a := (ne_fr ta1 h2).symm
  have t12 : hp_T M12 p1 ≠ 0 := by rw [x2]; decide
  have s1 := y8 p1 t12 a1
  have I1 : iI 2 M M12 (va_up (fun _ => a) 1 p1) := iI_add I0 (by omega) h1 z1 x2 (fun _ _ => x1) (fun x q1 q2 => x8 x q1 (q2 0 (by omega)))
  have I2 : iI 3 M M27 (va_up (va_up (fun _ => a) 1 p1) 2 p2) := iI_add I1 (by omega) h2 z2 y2 (fun i hi => by
    rcases (by omega : i = 0 ∨ i = 1) with rfl | rfl
    · exact y1
    · exact s1.1) (fun x q1 q2 => y8 x q1 (q2 0 (by omega)))
  have I3 : iI 4 M M37 (va_up (va_up (va_up (fun _ => a) 1 p1) 2 p2) 3 p3) := iI_add I2 (by omega) h3 z3 o1 (fun i hi => (so _ (ne_fr (iI_T I2 hi) h3)).1) (fun x q1 q2 => so x (ne_fr q1 h3))
  refine am_CT.mono ?_ (i_X5 o1)
  rintro o M42 ⟨e, c0, c1, c2, ⟨hc0, hc1, hc2, zc0, zc1, zc2, d01, d02, d12⟩, ⟨tp, rp0, rp1, rp2, ip3, ip4⟩, ⟨u0, v0, w0⟩, ⟨u1, v1, w1⟩, ⟨u2, v2, w2⟩, f⟩
  have S42 : ∀ x, hp_T M37 x ≠ 0 → x ≠ p3 → sm M37 M42 x := f
  have I4 : iI 4 M M42 (va_up (va_up (va_up (fun _ => a) 1 p1) 2 p2) 3 p3) := iI_mod I3 (fun i hi => by
    by_cases c : i = 3
    · subst c
      exact tp.trans o1.symm
    · exact (S42 _ (iI_T I3 hi) (fun z => c (I3.2.1 i 3 hi (by omega) z))).1) (fun x q1 q2 => S42 x q1 (q2 3 (by omega)))
  have I5 := iI_ins I4 (by omega) (fun i hi => ne_fr (iI_T I3 hi) hc0) (iI_fresh I3 (by omega) hc0) zc0 u0
  have I6 := iI_ins I5 (by omega) (fun i hi => by
    by_cases c : i = 4
    · subst c; exact d01
    · rw [va_up, if_neg c]; exact ne_fr (iI_T I3 (by omega)) hc1) (iI_fresh I3 (by omega) hc1) zc1 u1
  have I7 := iI_ins I6 (by omega) (fun i hi => by
    by_cases c : i = 5
    · subst c; exact d12
    · rw [va_up, if_neg c]
      by_cases c : i = 4
      · subst c; exact d02
      · rw [va_up, if_neg c]; exact ne_fr (iI_T I3 (by omega)) hc2) (iI_fresh I3 (by omega) hc2) zc2 u2
  simp only [forall_eq]
  have sa := (so a ap3).tr (S42 a (by rw [(so a ap3).1]; exact ta2) ap3)
  have tA : hp_T M42 a = 1 := by rw [sa.1, y1, x1]; exact ta
  refine ⟨e, tA, z3, ?_⟩
  obtain ⟨g1, g2, g3, g4, g5⟩ := bch_f M42 a p3
  have I8 := iI_mod (M2 := bch M42 a p3) I7 (fun i hi => by rw [g2]) (fun x q1 q2 => g1 x (q2 0 (by omega)))
  have np1 : p1 ≠ p3 := ne_fr (by rw [s1.1]; exact t12) h3
  have np2 : p2 ≠ p3 := ne_fr (by rw [y2]; decide) h3
  have q1 := (so p1 np1).tr (S42 p1 (by rw [(so p1 np1).1, s1.1]; exact t12) np1)
  have q2 := (so p2 np2).tr (S42 p2 (by rw [(so p2 np2).1, y2]; decide) np2)
  have b0 : c0 ≠ a := fun z => by rw [z, tA] at u0; exact absurd u0 (by decide)
  have b1 : c1 ≠ a := fun z => by rw [z, tA] at u1; exact absurd u1 (by decide)
  have b2 : c2 ≠ a := fun z => by rw [z, tA] at u2; exact absurd u2 (by decide)
  refine ib_car hX hM (fun M1 B hB hI hS => ⟨rfl, B, hB, hI.2.2.1, iS_bR hI hS, hB ▸ hI.2.2.2⟩) 3 0 (bch M42 a p3) _ _ _ rfl (by decide) (by decide) rfl I8 ⟨⟨?_, ?_, g3, ?_, ?_, ?_, ?_, ?_, ?_, ?_, ?_⟩, ⟨g5, ?_, ?_, ?_, ?_, ?_⟩, fun c hc => absurd hc (Nat.not_lt_zero _), fun c hc => absurd hc (Nat.not_lt_zero _)⟩
  · exact (g4 0 (by decide)).trans ((sa.2.2.2.1 0).trans ((y6 0 (by decide)).trans x5))
  · exact (g4 1 (by decide)).trans ((sa.2.2.2.1 1).trans y5)
  · exact (g1 p1 a1).2.1.trans (q1.2.1.trans (s1.2.1.trans x3))
  · exact (g1 p2 a2).2.1.trans (q2.2.1.trans y3)
  · exact ((g1 p3 ap3.symm).2.2.2.1 100).trans rp0
  · exact ((g1 p3 ap3.symm).2.2.2.1 101).trans rp1
  · exact ((g1 p3 ap3.symm).2.2.2.1 102).trans rp2
  · exact (g1 c0 b0).2.1.trans v0
  · exact (g1 c1 b1).2.1.trans v1
  · exact (g1 c2 b2).2.1.trans v2
  · exact ((g1 p3 ap3.symm).2.2.1 103).trans ip3
  · exact ((g1 p3 ap3.symm).2.2.1 104).trans ip4
  · exact (g1 c0 b0).2.2.2.2.1.trans w0
  · exact (g1 c1 b1).2.2.2.2.1.trans w1
  · exact (g1 c2 b2).2.2.2.2.1.trans w2
