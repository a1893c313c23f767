/-! .. runScript of the class -/
def xa (args : List Nat) : md_R := fun j => i3 (args.getD j 0)
/-- the commands carried out one after the other: (all, where it stopped, the row) -/
def rn : md_R → List (Nat × List Nat) → Nat → Bool × Nat × md_R
  | g, [], i => (true, i, g)
  | g, c :: cs, i => if rf_k g c.1 (xa c.2) = 0 then rn (pf_k g c.1 (xa c.2)) cs (i + 1) else (false, i, g)
theorem rf_k_le {g x : md_R} {k : Nat} : rf_k g k x ≤ 4 := by
  unfold rf_k
  split
  · exact rf_add_le
  · split
    · exact rf_rem_le
    · split
      · exact rf_hold_le
      · split
        · exact rf_stop_le
        · split
          · exact rf_start_le
          · split
            · exact rf_limit_le
            · split
              · exact rf_pass_le
              · omega
theorem rf_cg {g x y : md_R} {k : Nat} (h : ∀ j, j < nd (fmt k) → x j = y j) : rf_k g k x = rf_k g k y := by
  by_cases hk : k < 7
  · rcases (by omega : k = 0 ∨ k = 1 ∨ k = 2 ∨ k = 3 ∨ k = 4 ∨ k = 5 ∨ k = 6) with rfl | rfl | rfl | rfl | rfl | rfl | rfl
    · unfold rf_k; simp only [if_true, h 0 (by decide), h 1 (by decide), h 2 (by decide)]
    · have := h 0 (by decide); simp [rf_k, this]
    · have := h 0 (by decide); have h1 := h 1 (by decide); simp [rf_k, this, h1]
    · have := h 0 (by decide); simp [rf_k, this]
    · have := h 0 (by decide); simp [rf_k, this]
    · have := h 0 (by decide); have h1 := h 1 (by decide); simp [rf_k, this, h1]
    · have := h 0 (by decide); simp [rf_k, this]
  · unfold rf_k
    rw [if_neg (by omega), if_neg (by omega), if_neg (by omega), if_neg (by omega), if_neg (by omega), if_neg (by omega), if_neg (by omega), if_neg (by omega), if_neg (by omega), if_neg (by omega), if_neg (by omega), if_neg (by omega), if_neg (by omega), if_neg (by omega)]
theorem pf_cg {g x y : md_R} {k : Nat} (h : ∀ j, j < nd (fmt k) → x j = y j) : pf_k g k x = pf_k g k y := by
  by_cases hk : k < 7
  · rcases (by omega : k = 0 ∨ k = 1 ∨ k = 2 ∨ k = 3 ∨ k = 4 ∨ k = 5 ∨ k = 6) with rfl | rfl | rfl | rfl | rfl | rfl | rfl
    · unfold pf_k; simp only [if_true, h 0 (by decide), h 1 (by decide), h 2 (by decide)]
    · have := h 0 (by decide); simp [pf_k, this]
    · have := h 0 (by decide); have h1 := h 1 (by decide); simp [pf_k, this, h1]
    · have := h 0 (by decide); simp [pf_k, this]
    · have := h 0 (by decide); simp [pf_k, this]
    · have := h 0 (by decide); have h1 := h 1 (by decide); simp [pf_k, this, h1]
    · have := h 0 (by decide); simp [pf_k, this]
  · unfold pf_k
    rw [if_neg (by omega), if_neg (by omega), if_neg (by omega), if_neg (by omega), if_neg (by omega), if_neg (by omega), if_neg (by omega), if_neg (by omega), if_neg (by omega), if_neg (by omega), if_neg (by omega), if_neg (by omega), if_neg (by omega), if_neg (by omega)]
/-- a form that fits has as many arguments as digits -/
theorem fR_args (l : List Nat) : ∀ ps a args, (fR l ps a args).1 = true → (fR l ps a args).2.2.length = args.length + nd ps
  | [], a, args, _ => rfl
  | w :: ps, a, args, h => by
    rw [fR] at h ⊢
    rw [nd]
    by_cases c : w = 48 ∨ w = 78
    · rw [if_pos c] at h ⊢
      rw [if_pos c]
      by_cases c2 : dE l (if w = 48 then 1 else 3) a = a
      · rw [if_pos c2] at h
        exact absurd h Bool.false_ne_true
      · rw [if_neg c2] at h ⊢
        rw [fR_args l ps _ _ h, List.length_append]
        simp only [List.length_singleton]
        omega
    · rw [if_neg c] at h ⊢
      rw [if_neg c]
      by_cases c2 : tk l a = w
      · rw [if_pos c2] at h ⊢
        rw [fR_args l ps _ _ h]
        omega
      · rw [if_neg c2] at h
        exact absurd h Bool.false_ne_true
theorem fE_args {l : List Nat} {k p : Nat} (h : (fE l k p).1 = true) : (fE l k p).2.2.length = nd (fmt k) := by
  have h1 : (fR l (fmt k) p []).1 = true := by
    cases e : (fR l (fmt k) p []).1 with
    | true => rfl
    | false => rw [fE_f e] at h; exact absurd h Bool.false_ne_true
  rw [fE_2, fR_args l _ p [] h1]
  simp
def okC (cs : List (Nat × List Nat)) : Prop := ∀ c, c ∈ cs → c.1 < 8 ∧ c.2.length = nd (fmt c.1)
theorem rS_ok {l : List Nat} (h128 : ∀ i, i < l.length → l.getD i 0 < 128) : ∀ n p acc, okC acc → okC (rS l n p acc).2.2
  | 0, p, acc, h => h
  | n + 1, p, acc, h => by
    rw [rS]
    split
    · rename_i c
      obtain ⟨c1, c2, c3⟩ := cE_sel l p h128
      rw [c1] at c
      obtain ⟨e, hlt⟩ := c3 c
      have h2 : okC (acc ++ [(cE l p 8 0 p).2.2]) := fun x hx => by
        rcases List.mem_append.mp hx with hx | hx
        · exact h x hx
        · rw [List.mem_singleton.mp hx, e]
          exact ⟨hlt, fE_args c⟩
      split
      · exact h2
      · exact rS_ok h128 n _ _ h2
    · exact h
/-! the class's state under its own calls -/
theorem bL_tt {M : am_Hp} {C : Nat → Nat} (h : bL M C) {i : Nat} (hi : i < 22) : hp_T M (C i) = 1 ∨ hp_T M (C i) = 26 ∨ hp_T M (C i) = 27 ∨ hp_T M (C i) = 6 ∨ hp_T M (C i) = 22 ∨ hp_T M (C i) = 2 ∨ hp_T M (C i) = 4 := by
  obtain ⟨⟨a0, a1, a2, a3, a4, a5, a6, a7, a8, a9, a10, a11, a12, a13, a14, a15, a16, a17⟩, ht, hk, hz, hJ⟩ := h
  by_cases h7 : i < 7
  · match i, h7 with
    | 0, _ => rw [a0]; decide
    | 1, _ => rw [a4]; decide
    | 2, _ => rw [a6]; decide
    | 3, _ => rw [a8]; decide
    | 4, _ => rw [a12]; decide
    | 5, _ => rw [a13]; decide
    | 6, _ => rw [a14]; decide
  · by_cases h10 : i < 10
    · have := ht (i - 7) (by omega)
      rw [show 7 + (i - 7) = i by omega] at this
      rw [this]; decide
    · have := hk (i - 10) (by omega)
      rw [show 10 + (i - 10) = i by omega] at this
      rw [this]; decide
theorem gL_bL {T : Nat} {M : am_Hp} {a h E n c : Nat} {L : Nat → Nat → Nat} {g sn : md_R} {hist : Nat → md_R} (hg : gL T M a h E n c L g sn hist) {i : Nat} (hi : i < 11) : bL M (L i) := by
  obtain ⟨ta, -, ⟨hR, hw⟩, ht, hs10, hy, hsn⟩ := hg
  by_cases h8 : i < 8
  · exact (hy.2.1 i h8).2.1
  · rcases (by omega : i = 8 ∨ i = 9 ∨ i = 10) with rfl | rfl | rfl
    · exact hR.1
    · exact ht.1
    · exact hs10.1
theorem gL_T {T : Nat} {M : am_Hp} {a h E n c : Nat} {L : Nat → Nat → Nat} {g sn : md_R} {hist : Nat → md_R} (hg : gL T M a h E n c L g sn hist) : hp_T M a = 7 ∧ hp_T M h = 3 ∧ hp_T M E = 25 := ⟨hg.1, hg.2.2.2.2.2.1.1.1, hg.2.2.2.2.2.1.1.2.2.1⟩
/-- the text's part of the class's state -/
def xL (M : am_Hp) (a sc st b1 m1 ks rs so b2 m2 : Nat) (tx ou : List Nat) (e1 e2 : Int32) : Prop := (hp_R M 124 a = sc ∧ hp_R M 125 a = so ∧ hp_I M 127 a = e1 ∧ hp_I M 128 a = e2) ∧ scR M sc st ks rs ∧ sT M st b1 m1 tx ∧ sT M so b2 m2 ou ∧ b1 ≠ b2
/-- .. is kept by what changes the buildings -/
theorem xL_sk {T : Nat} {M M' : am_Hp} {a h E n c : Nat} {L : Nat → Nat → Nat} {g sn : md_R} {hist : Nat → md_R} {sc st b1 m1 ks rs so b2 m2 : Nat} {tx ou : List Nat} {e1 e2 : Int32} (hJ : cJ a h E L sc st ks rs so) (hg : gL T M a h E n c L g sn hist) (hx : xL M a sc st b1 m1 ks rs so b2 m2 tx ou e1 e2) (hs : sk M M') (hf : ∀ x, x ≠ a → x ≠ h → (∀ i j, i < 11 → j < 22 → x ≠ L i j) → ag M M' x) (h1 : hp_I M' 127 a = e1) (h2 : hp_I M' 128 a = e2) : xL M' a sc st b1 m1 ks rs so b2 m2 tx ou e1 e2 := by
  obtain ⟨⟨x1, x2, x3, x4⟩, hS, hT1, hT2, hbb⟩ := hx
  obtain ⟨ta, th, tE⟩ := gL_T hg
  have N : ∀ x t, hp_T M x = t → t ≠ 7 → t ≠ 3 → (t ≠ 1 ∧ t ≠ 26 ∧ t ≠ 27 ∧ t ≠ 6 ∧ t ≠ 22 ∧ t ≠ 2 ∧ t ≠ 4) → sm M M' x := fun x t ht n7 n3 n => sm_sk hs (hf x (fun z => n7 (by rw [← ht, z]; exact ta)) (fun z => n3 (by rw [← ht, z]; exact th)) (fun i j hi hj z => by
    have := bL_tt (gL_bL hg hi) hj
    rw [← z, ht] at this
    omega))
  have K : ∀ x, hp_T M x = 22 → (∀ i j, i < 11 → j < 22 → L i j ≠ x) → sm M M' x := fun x ht hd => sm_sk hs (hf x (fun z => by rw [z, ta] at ht; exact absurd ht (by decide)) (fun z => by rw [z, th] at ht; exact absurd ht (by decide)) (fun i j hi hj z => hd i j hi hj z.symm))
  obtain ⟨s1, s2, s3, s4, s5, s6, s7, s8, s9, s10, s11, s12⟩ := hS
  have hS : scR M sc st ks rs := ⟨s1, s2, s3, s4, s5, s6, s7, s8, s9, s10, s11, s12⟩
  refine ⟨⟨by rw [hs.2.2.1]; exact x1, by rw [hs.2.2.1]; exact x2, h1, h2⟩, scR_sm (N sc 5 s1 (by omega) (by omega) (by omega)) (K ks s8 (fun i j hi hj => (hJ.2.1 i j hi hj).1)) (N rs 28 s10 (by omega) (by omega) (by omega)) (fun j hj => K _ (s12 j hj).2.1 (fun i j' hi hj' => by rw [Nat.add_assoc]; exact (hJ.2.1 i j' hi hj').2 (1 + j) (by omega))) hS, sT_sm (N st 9 hT1.1.1 (by omega) (by omega) (by omega)) (N b1 20 hT1.1.2.2.2.1 (by omega) (by omega) (by omega)) hT1, sT_sm (N so 9 hT2.1.1 (by omega) (by omega) (by omega)) (N b2 20 hT2.1.2.2.2.1 (by omega) (by omega) (by omega)) hT2, hbb⟩
/-- the buildings are kept by what changes the text's part -/
theorem gL_tx {T : Nat} {M M' : am_Hp} {a h E n c : Nat} {L : Nat → Nat → Nat} {g sn : md_R} {hist : Nat → md_R} (hg : gL T M a h E n c L g sn hist) (hf : ∀ x, hp_T M x = 7 ∨ hp_T M x = 3 ∨ hp_T M x = 25 ∨ (∃ i j, i < 11 ∧ j < 22 ∧ x = L i j) → sm M M' x) : gL T M' a h E n c L g sn hist := by
  obtain ⟨ta, th, tE⟩ := gL_T hg
  exact gL_sm (hf a (.inl ta)) (hf h (.inr (.inl th))) (hf E (.inr (.inr (.inl tE)))) (fun i j hi hj => hf _ (.inr (.inr (.inr ⟨i, j, hi, hj, rfl⟩)))) hg
theorem gL_I {T : Nat} {M : am_Hp} {a h E n c u : Nat} {L : Nat → Nat → Nat} {g sn : md_R} {hist : Nat → md_R} {v : Int32} (hj : gJ a h E L) (hu : u ≠ 126) (hg : gL T M a h E n c L g sn hist) : gL T (hp_sI M u a v) a h E n c L g sn hist := by
  obtain ⟨ta, th, tE⟩ := gL_T hg
  have hL : ∀ i j, i < 11 → j < 22 → ag M (hp_sI M u a v) (L i j) := fun i j hi hj' => ⟨fun w => hp_I_sIa M u w v (hj.2.1 i j hi hj').1, rfl, rfl⟩
  have S : ∀ i, i < 11 → ∀ j, j < 22 → sm M (hp_sI M u a v) (L i j) := fun i hi j hj' => sm_sI (hj.2.1 i j hi hj').1
  have h0 := hg
  obtain ⟨-, -, ⟨hR, hw⟩, ht, hs10, hy, hsn⟩ := h0
  refine gL_side hg ⟨rfl, rfl, rfl, rfl, rfl⟩ ⟨fun w => hp_I_sIa M u w v hj.2.2.1.symm, rfl, rfl⟩ ⟨fun w => hp_I_sIa M u w v hj.2.2.2.1.symm, rfl, rfl⟩ (fun i j hi hj' => hL i j (by omega) hj') ⟨bL_sm (S 9 (by omega)) ht.1, bQ_sm (S 9 (by omega)) ht.2⟩ ⟨bL_sm (S 10 (by omega)) hs10.1, bQ_sm (S 10 (by omega)) hs10.2⟩ ?_
  rw [hp_I_sIu _ _ _ _ (Ne.symm hu)]
  rcases hsn with z | ⟨z1, z2, z3⟩
  · exact .inl z
  · exact .inr ⟨z1, bR_sm (S 10 (by omega)) (md_wf_ok z3) z2, z3⟩
theorem xL_I {T : Nat} {M : am_Hp} {a h E n c u : Nat} {L : Nat → Nat → Nat} {g sn : md_R} {hist : Nat → md_R} {sc st b1 m1 ks rs so b2 m2 : Nat} {tx ou : List Nat} {e1 e2 f1 f2 v : Int32} (hJ : cJ a h E L sc st ks rs so) (hg : gL T M a h E n c L g sn hist) (hx : xL M a sc st b1 m1 ks rs so b2 m2 tx ou e1 e2) (h1 : hp_I (hp_sI M u a v) 127 a = f1) (h2 : hp_I (hp_sI M u a v) 128 a = f2) : xL (hp_sI M u a v) a sc st b1 m1 ks rs so b2 m2 tx ou f1 f2 := by
  obtain ⟨ta, th, tE⟩ := gL_T hg
  obtain ⟨⟨x1, x2, x3, x4⟩, hS, hT1, hT2, hbb⟩ := hx
  have N : ∀ x t, hp_T M x = t → t ≠ 7 → sm M (hp_sI M u a v) x := fun x t ht n7 => sm_sI (fun z => n7 (by rw [← ht, z]; exact ta))
  exact ⟨⟨x1, x2, h1, h2⟩, hS, sT_sm (N st 9 hT1.1.1 (by omega)) (N b1 20 hT1.1.2.2.2.1 (by omega)) hT1, sT_sm (N so 9 hT2.1.1 (by omega)) (N b2 20 hT2.1.2.2.2.1 (by omega)) hT2, hbb⟩
theorem rs_loop {X : am_Cx} {G : am_Gx} {d T a h E n c : Nat} {M1 : am_Hp} {L : Nat → Nat → Nat} {g sn : md_R} {hist : Nat → md_R} {sc st ks rs so : Nat} {cs : List (Nat × List Nat)} {Q : am_Q} (hX : am_ok X rX6_runScript G (d + 9)) (hM : am_me X rX6_runScript Q) (hJ : cJ a h E L sc st ks rs so) (hg : gL T M1 a h E n c L g sn hist) (r4 : hp_R M1 124 a = sc) (hS : scR M1 sc st ks rs) (hT : T < 80000000) (hcm : cmR M1 ks rs cs) (hok : okC cs) (h13 : cs.length ≤ 13) (h83 : hp_I M1 83 sc = i3 cs.length)
    (hQ1 : ∀ M2 gg, rn g cs 0 = (true, cs.length, gg) → (∃ n1, gL (T + 23790) M2 a h E n1 (if c = 8 then 8 else c + 1) L gg sn (yP c g hist)) → zF h L M1 M2 → Q (.inl (some (.int (i3 cs.length)))) M2)
    (hQ2 : ∀ M2 i gg, rn g cs 0 = (false, i, gg) → i < 13 → gL T M2 a h E n c L g sn hist → zF h L M1 M2 → Q (.inr "java/lang/IllegalStateException") (hp_sI M2 128 a (i3 i))) : ∀ rem i gi M2, cs.drop i = rem → i ≤ cs.length → rn gi rem i = rn g cs 0 → bR M2 (L 9) gi → md_wf (T + 1830 * i) gi → bF (L 9) M1 M2 → am_J X 53 [(0, .ref a), (2, .int (i3 i))] [] M2 1 6 := by
  have hj := hJ.1
  obtain ⟨s1, s2, s3, s4, s5, s6, s7, s8, s9, s10, s11, s12⟩ := hS
  have hg0 := hg
  obtain ⟨ta, ⟨ra, rt, rsn, rh⟩, ⟨hR, hw⟩, ht, hs10, hy, hsn⟩ := hg
  have y0 := hR.1.2.2.2.1 0 (by omega)
  have b0 := hR.1.1.1
  have z9 := ht.1.2.2.2.1 0 (by omega)
  have t9 := ht.1.1.1
  intro rem
  induction rem with
  | nil =>
    intro i gi M2 hd hi hr hRi hwi hF
    have hil : i = cs.length := by
      have := congrArg List.length hd
      rw [List.length_drop, List.length_nil] at this
      omega
    subst hil
    rw [rn] at hr
    refine vX6_runScript_53 hX hM (fun x0 x2 M bc bs => am_J X 53 [(0, .ref x0), (2, .int x2)] [] M bc bs) (fun _ _ _ _ _ h => h) ?_
    have eT := hF.1.1
    have eR := hF.1.2.2.1
    simp only [forall_eq]
    rw [eT, eR, r4]
    have ns : sc ≠ h := fun z => by have := (gL_T hg0).2.1; rw [← z, s1] at this; exact absurd this (by decide)
    have n9 : ∀ j, j < 22 → sc ≠ L 9 j := fun j hj' z => by
      have := bL_tt ht.1 hj'
      rw [← z, s1] at this
      omega
    have e83 : hp_I M2 83 sc = i3 cs.length := ((hF.2 sc n9).1 83).trans h83
    rw [e83, rh, ra]
    refine ⟨ta, hJ.2.2.2.2.2.2, s1, fun _ => ⟨hj.2.2.2.2.2, y0, (gL_T hg0).2.1, ?_⟩, fun z => absurd (Int32.le_refl _) z⟩
    obtain ⟨x1, x2⟩ := gL_trial hj hg0 hF ⟨hRi.1, hRi.2.1⟩
    have x1' := x1
    obtain ⟨-, -, ⟨hR2, hw2⟩, -, -, hy2, -⟩ := x1
    refine am_CT.mono ?_ (k_remember (d := d + 5) hy2 hR2 hw2 (fun i a b hi ha hb => hj.1 8 i (by omega) (by omega) (by omega) a b ha hb))
    rintro o M3 ⟨e, hy3, hF3⟩
    refine ⟨e, ?_⟩
    have d9 : ∀ j, j < 22 → ag M2 M3 (L 9 j) := fun j hj' => hF3.2 _ (hj.2.1 9 j (by omega) hj').2.1 (fun i k hi hk => hj.1 9 i (by omega) (by omega) (by omega) j k hj' hk)
    have d8 : ∀ j, j < 22 → ag M2 M3 (L 8 j) := fun j hj' => hF3.2 _ (hj.2.1 8 j (by omega) hj').2.1 (fun i k hi hk => hj.1 8 i (by omega) (by omega) (by omega) j k hj' hk)
    have hR3 := bR_ag hF3.1 d9 (md_wf_ok hwi) hRi
    have hB3 := bR_ag hF3.1 d8 (md_wf_ok hw2) hR2
    have eT3 := hF3.1.1
    have eR3 := hF3.1.2.2.1
    rw [eT3, eT, eR3, eR, ra, rt]
    refine ⟨ta, y0, z9, b0, ct_w (k_copy (d := d + 6) hB3.1 hB3.2.1 (fun i j hi hj' => hj.1 9 8 (by omega) (by omega) (by omega) i j hi hj') hR3 hwi) (fun M4 r4' f4 => ?_)⟩
    obtain ⟨G1, G2⟩ := gL_after (U := T + 23790) hj x1' hy3 hF3 r4' f4 (md_wf_mono (by omega) hwi) (by omega)
    have zz : zF h L M1 M4 := ⟨x2.1.trans G2.1, fun x p q => ag.tr (x2.2 x p q) (G2.2 x p q)⟩
    have e83' : hp_I M4 83 sc = i3 cs.length := ((zz.2 sc ns (fun i j hi hj' z => by
      have := bL_tt (gL_bL hg0 hi) hj'
      rw [← z, s1] at this
      omega)).1 83).trans h83
    rw [zz.1.1, zz.1.2.2.1, r4, e83']
    exact ⟨ta, hJ.2.2.2.2.2.2, s1, hQ1 M4 gi hr.symm ⟨_, G1⟩ zz⟩
  | cons c0 rem ih =>
    intro i gi M2 hd hi hr hRi hwi hF
    have hil : i < cs.length := by
      have := congrArg List.length hd
      rw [List.length_drop, List.length_cons] at this
      omega
    have hget : cs.getD i (0, []) = c0 := by
      have h1 := congrArg (fun l => l.head?) hd
      simp only [List.head?_drop, List.head?_cons] at h1
      rw [List.getD_eq_getElem?_getD, h1]
      rfl
    have hmem : c0 ∈ cs := by
      have : c0 ∈ cs.drop i := by rw [hd]; exact List.mem_cons_self
      exact List.mem_of_mem_drop this
    have hdrop : cs.drop (i + 1) = rem := by
      have := congrArg List.tail hd
      rw [List.tail_drop, List.tail_cons] at this
      exact this
    obtain ⟨k8, kn⟩ := hok c0 hmem
    obtain ⟨m1', m2'⟩ := hcm i hil
    rw [hget] at m1' m2'
    have eT := hF.1.1
    have eN := hF.1.2.1
    have eR := hF.1.2.2.1
    have n9 : ∀ x t, hp_T M1 x = t → (t ≠ 1 ∧ t ≠ 26 ∧ t ≠ 27 ∧ t ≠ 6 ∧ t ≠ 22 ∧ t ≠ 2 ∧ t ≠ 4) → ag M1 M2 x := fun x t hx ht' => hF.2 x (fun j hj' z => by
      have := bL_tt ht.1 hj'
      rw [← z, hx] at this
      omega)
    have ek : ag M1 M2 ks := hF.2 ks (fun j hj' z => (hJ.2.1 9 j (by omega) hj').1 z.symm)
    have er : ag M1 M2 (rs + 1 + i) := hF.2 _ (fun j hj' z => (hJ.2.1 9 j (by omega) hj').2 (1 + i) (by omega) (by rw [← Nat.add_assoc]; exact z.symm))
    have eq : hp_Q M2 rs i = rs + 1 + i := by rw [(n9 rs 28 s10 (by omega)).2.2]; exact (s12 i (by omega)).1
    have ekd : hp_E M2 ks i = i3 c0.1 := by rw [ek.2.1]; exact m1'
    have exa : ∀ j, j < nd (fmt c0.1) → hp_E M2 (rs + 1 + i) j = xa c0.2 j := fun j hj' => by rw [er.2.1]; exact m2' j (by omega)
    have t22 : hp_T M2 (rs + 1 + i) = 22 := by rw [eT]; exact (s12 i (by omega)).2.1
    have n3 : hp_N M2 (rs + 1 + i) = 3 := by rw [eN]; exact (s12 i (by omega)).2.2
    have e83 : hp_I M2 83 sc = i3 cs.length := ((n9 sc 5 s1 (by omega)).1 83).trans h83
    have zr : rs + 1 + i ≠ 0 := by omega
    have erf := rf_cg (g := gi) exa
    have epf := pf_cg (g := gi) exa
    rw [rn] at hr
    refine vX6_runScript_53 hX hM (fun x0 x2 M bc bs => am_J X 53 [(0, .ref x0), (2, .int x2)] [] M bc bs) (fun _ _ _ _ _ h => h) ?_
    simp only [forall_eq]
    rw [eT, eR, eN, r4, rt, s3, s4, e83, i3_toNat (by omega), eq, ekd, s9, s11]
    refine ⟨ta, hJ.2.2.2.2.2.2, s1, fun z => absurd ((i3_le (by omega) (by omega)).mp z) (by omega), fun _ => ⟨z9, hJ.2.2.2.2.2.2, s1, s6, s8, vp_in_i3 (by omega) (by omega), hJ.2.2.2.2.2.2, s1, s7, s10, vp_in_i3 (by omega) (by omega), zr, t9, ?_⟩⟩
    refine ct_i (k_refusal (d := d + 5) hRi (md_wf_ok hwi) t22 n3 k8) ⟨fun z => ?_, fun z => ⟨by rw [eT]; exact ta, by omega, by omega, ?_⟩⟩
    · have z0 : rf_k gi c0.1 (hp_E M2 (rs + 1 + i)) = 0 := (i3_eq (b := 0) (by have := rf_k_le (g := gi) (k := c0.1) (x := hp_E M2 (rs + 1 + i)); omega) (by omega)).mp z
      rw [eT, eR, eN, r4, rt, s3, s4, eq, ekd, s9, s11]
      refine ⟨ta, z9, hJ.2.2.2.2.2.2, s1, s6, s8, vp_in_i3 (by omega) (by omega), hJ.2.2.2.2.2.2, s1, s7, s10, vp_in_i3 (by omega) (by omega), zr, t9, am_CT.mono ?_ (k_perform (d := d + 2) hRi hwi (by omega) t22 n3 k8 z0)⟩
      rintro o M3 ⟨v, e, r3, f3⟩
      refine ⟨v, e, ?_⟩
      rw [i3_one]
      have wf2 := md_wf_pf hwi (by omega) k8 z0
      rw [epf] at r3 wf2
      rw [erf] at z0
      rw [if_pos z0] at hr
      exact ih (i + 1) (pf_k gi c0.1 (xa c0.2)) M3 hdrop hil hr r3 (by rw [Nat.mul_succ, ← Nat.add_assoc]; exact wf2) (hF.trans f3)
    · have z0 : ¬ rf_k gi c0.1 (xa c0.2) = 0 := fun y => z (by rw [erf, y]; rfl)
      rw [if_neg z0] at hr
      obtain ⟨x1, x2⟩ := gL_trial hj hg0 hF ⟨hRi.1, hRi.2.1⟩
      exact hQ2 M2 i gi hr.symm (by omega) x1 x2
theorem fr_of {M M' : am_Hp} {P : Nat → Prop} (hs : sk M M') (h : ∀ x, ¬ P x → ag M M' x) : fr P M M' := fun x _ hp => sm_sk hs (h x hp)
/-- runScript -/
theorem g_runScript {G : am_Gx} {d T a h E n c : Nat} {M : am_Hp} {L : Nat → Nat → Nat} {g sn : md_R} {hist : Nat → md_R} {sc st b1 m1 ks rs so b2 m2 : Nat} {tx ou : List Nat} {e1 e2 : Int32} (hz : cz G) (hp : sioo G) (hJ : cJ a h E L sc st ks rs so) (hg : gL T M a h E n c L g sn hist) (hx : xL M a sc st b1 m1 ks rs so b2 m2 tx ou e1 e2) (hl : tx.length ≤ 60) (hs : stK G M) (hT : T < 80000000) : am_CT G (d + 9) rX6_runScript [.ref a] M 1 6 (fun o M' => fr (fun x => cS a h E L sc st ks rs so x) M M' ∧ hp_I M' 126 a = hp_I M 126 a ∧
    (((rS tx 13 0 []).1 = false ∧ o = .inr "java/lang/IllegalArgumentException" ∧ gL T M' a h E n c L g sn hist ∧ xL M' a sc st b1 m1 ks rs so b2 m2 [] ou (i3 (rS tx 13 0 []).2.1) e2 ∧ (rS tx 13 0 []).2.1 ≤ 60)
    ∨ ((rS tx 13 0 []).1 = true ∧ ∃ i gg, rn g (rS tx 13 0 []).2.2 0 = (false, i, gg) ∧ i < 13 ∧ o = .inr "java/lang/IllegalStateException" ∧ gL T M' a h E n c L g sn hist ∧ xL M' a sc st b1 m1 ks rs so b2 m2 [] ou e1 (i3 i))
    ∨ ((rS tx 13 0 []).1 = true ∧ ∃ gg, rn g (rS tx 13 0 []).2.2 0 = (true, (rS tx 13 0 []).2.2.length, gg) ∧ o = .inl (some (.int (i3 (rS tx 13 0 []).2.2.length))) ∧ (∃ n1, gL (T + 23790) M' a h E n1 (if c = 8 then 8 else c + 1) L gg sn (yP c g hist)) ∧ xL M' a sc st b1 m1 ks rs so b2 m2 [] ou e1 e2))) := by
  have hx0 := hx
  obtain ⟨⟨x1, x2, x3, x4⟩, hS, hT1, hT2, hbb⟩ := hx
  have hj := hJ.1
  have hg0 := hg
  obtain ⟨ta, ⟨ra, rt, rsn, rh⟩, ⟨hR, hw⟩, ht, hs10, hy, hsn⟩ := hg
  have y0 := hR.1.2.2.2.1 0 (by omega)
  have z9 := ht.1.2.2.2.1 0 (by omega)
  have t9 := ht.1.1.1
  have s1 := hS.1
  have s2 := hS.2.1
  have hokc : okC (rS tx 13 0 []).2.2 := rS_ok (fun i hi => (hT1.1.2.2.2.2.2.2.2.2.2 i hi).1) 13 0 [] (fun c hc => by cases hc)
  refine am_intro mkX6_runScript rfl (Nat.le_of_ble_eq_true rfl) rfl (fun X hX hM => ?_)
  refine vX6_runScript_0 hX hM (fun x0 x2 M bc bs => am_J X 53 [(0, .ref x0), (2, .int x2)] [] M bc bs) (fun _ _ _ _ _ h => h) ?_
  simp only [forall_eq]
  rw [x1]
  refine ⟨ta, hJ.2.2.2.2.2.2, s1, am_CT.mono ?_ (k_read (d := d) hz hp hS hT1 hl hs (fun j hj' => by rw [Nat.add_assoc]; exact hJ.2.2.1 (1 + j) (by omega)))⟩
  rintro o M4 ⟨F4, S4, hres⟩
  -- the state after reading
  have N4 : ∀ x, x ≠ sc → x ≠ ks → (∀ j, j < 13 → x ≠ rs + 1 + j) → sm M M4 x := fun x p q r => sm_sk F4.1 (F4.2 x p q r)
  have Nt : ∀ x t, hp_T M x = t → t ≠ 5 → t ≠ 22 → sm M M4 x := fun x t hx' n5 n22 => N4 x (fun z => n5 (by rw [← hx', z]; exact s1)) (fun z => n22 (by rw [← hx', z]; exact hS.2.2.2.2.2.2.2.1)) (fun j hj' z => n22 (by rw [← hx', z]; exact (hS.2.2.2.2.2.2.2.2.2.2.2 j hj').2.1))
  have g4 : gL T M4 a h E n c L g sn hist := gL_tx hg0 (fun x hx' => by
    rcases hx' with q | q | q | ⟨i, j, hi, hj', rfl⟩
    · exact Nt x 7 q (by decide) (by decide)
    · exact Nt x 3 q (by decide) (by decide)
    · exact Nt x 25 q (by decide) (by decide)
    · refine N4 _ (fun z => ?_) (hJ.2.1 i j hi hj').1 (fun k hk => by rw [Nat.add_assoc]; exact (hJ.2.1 i j hi hj').2 (1 + k) (by omega))
      have := bL_tt (gL_bL hg0 hi) hj'
      rw [z, s1] at this
      omega)
  have a4 := Nt a 7 ta (by decide) (by decide)
  have T14 : sT M4 st b1 m1 tx := sT_sm (Nt st 9 hT1.1.1 (by decide) (by decide)) (Nt b1 20 hT1.1.2.2.2.1 (by decide) (by decide)) hT1
  have T24 : sT M4 so b2 m2 ou := sT_sm (Nt so 9 hT2.1.1 (by decide) (by decide)) (Nt b2 20 hT2.1.2.2.2.1 (by decide) (by decide)) hT2
  have x14 : hp_R M4 124 a = sc := (a4.2.2.2.1 _).trans x1
  have x24 : hp_R M4 125 a = so := (a4.2.2.2.1 _).trans x2
  have x34 : hp_I M4 127 a = e1 := (a4.2.2.1 _).trans x3
  have x44 : hp_I M4 128 a = e2 := (a4.2.2.1 _).trans x4
  have S4' := S4
  obtain ⟨q1, q2, q3, q4, q5, q6, q7, q8, q9, q10, q11, q12⟩ := S4'
  have fr4 : fr (fun x => cS a h E L sc st ks rs so x) M M4 := fr_of F4.1 (fun x hx' => F4.2 x (fun z => hx' (by unfold cS; simp [z])) (fun z => hx' (by unfold cS; simp [z])) (fun j hj' z => hx' (.inr (.inr (.inr (.inr (.inr (.inr (.inr (.inl ⟨1 + j, by omega, by rw [z, Nat.add_assoc]⟩))))))))))
  have zst : st ≠ 0 := q5
  have p5 : ∀ M5, sT M5 st b1 m1 [] → fr (fun x => x = st) M4 M5 → gL T M5 a h E n c L g sn hist ∧ xL M5 a sc st b1 m1 ks rs so b2 m2 [] ou e1 e2 ∧ (∀ cs, cmR M4 ks rs cs → cs.length ≤ 13 → cmR M5 ks rs cs) ∧ hp_I M5 83 sc = hp_I M4 83 sc ∧ fr (fun x => cS a h E L sc st ks rs so x) M M5 ∧ hp_I M5 126 a = hp_I M 126 a := fun M5 t5 f5 => by
    have N5 : ∀ x t, hp_T M4 x = t + 1 → t ≠ 8 → sm M4 M5 x := fun x t hx' n9 => f5 x (by rw [hx']; exact Nat.succ_ne_zero t) (fun z => n9 (by have := T14.1.1; rw [← z, hx'] at this; omega))
    have ta4 : hp_T M4 a = 6 + 1 := a4.1.trans ta
    have a5 := N5 a 6 ta4 (by decide)
    have c5 := N5 sc 4 q1 (by decide)
    have k5 := N5 ks 21 q8 (by decide)
    have r5 := N5 rs 27 q10 (by decide)
    have j5 : ∀ j, j < 13 → sm M4 M5 (rs + 1 + j) := fun j hj' => N5 _ 21 (q12 j hj').2.1 (by decide)
    have so5 : sm M4 M5 so := f5 so (by rw [T24.1.1]; decide) hJ.2.2.2.1.symm
    refine ⟨gL_tx g4 (fun x hx' => ?_), ⟨⟨(a5.2.2.2.1 _).trans x14, (a5.2.2.2.1 _).trans x24, (a5.2.2.1 _).trans x34, (a5.2.2.1 _).trans x44⟩, scR_sm c5 k5 r5 j5 S4, t5, sT_sm so5 (N5 b2 19 T24.1.2.2.2.1 (by decide)) T24, hbb⟩, fun cs hcs h13 i hi => ?_, c5.2.2.1 83, fr4.tr f5 (fun x _ hx' z => hx' (by unfold cS; simp [z])), (a5.2.2.1 126).trans (a4.2.2.1 126)⟩
    · rcases hx' with q | q | q | ⟨i, j, hi, hj', rfl⟩
      · exact N5 x 6 q (by decide)
      · exact N5 x 2 q (by decide)
      · exact N5 x 24 q (by decide)
      · refine f5 _ (bL_T (gL_bL g4 hi) hj') (fun z => ?_)
        have := bL_tt (gL_bL g4 hi) hj'
        rw [z, T14.1.1] at this
        omega
    · rw [k5.2.2.2.2.1, (j5 i (by omega)).2.2.2.2.1]
      exact hcs i hi
  rcases hres with ⟨p1, rfl, p2, p3, p4⟩ | ⟨p1, rfl, p2⟩
  · refine ⟨_, rfl, a4.1.trans ta, by rw [x14]; exact hJ.2.2.2.2.2.2, ?_⟩
    rw [x14, q2]
    refine ⟨q1, q5, T14.1.1, ct_vq (k_setLen4 (d := d + 3) T14) (fun M5 sl => ⟨fun _ => ?_, fun z => absurd rfl z⟩)⟩
    obtain ⟨g5, xx5, cm5, i5, f5, j126⟩ := p5 M5 sl.1 sl.2
    have g5' := g5
    obtain ⟨ta5, ⟨ra5, rt5, -, -⟩, ⟨hR5, hw5⟩, ht5, -, -, -⟩ := g5'
    rw [ra5, rt5]
    refine ⟨ta5, z9, y0, ht5.1.1.1, ct_w (k_copy (d := d + 6) ht5.1 ht5.2 (fun i j hi hj' => hj.1 8 9 (by omega) (by omega) (by omega) i j hi hj') hR5 hw5) (fun M6 r6 f6 => ?_)⟩
    have haL : ∀ M2, zF h L M5 M2 → ag M5 M2 a := fun M2 zf => zf.2 a hj.2.2.1 (fun i j hi hj' z => (hj.2.1 i j hi hj').1 z.symm)
    have frz : ∀ M2, zF h L M5 M2 → fr (fun x => cS a h E L sc st ks rs so x) M M2 := fun M2 zf => f5.tr (fr_of (P := fun x => cS a h E L sc st ks rs so x) zf.1 (fun x hx' => zf.2 x (fun z => hx' (by unfold cS; simp [z])) (fun i j hi hj' z => hx' (.inr (.inr (.inr (.inl ⟨i, j, hi, hj', z⟩))))))) (fun x _ hx' => hx')
    refine rs_loop (d := d) (Q := _) hX hM hJ g5 xx5.1.1 xx5.2.1 hT (cm5 _ p2 p4) hokc p4 (i5.trans p3) (fun M2 gg r1 r2 zf => ?_) (fun M2 i gg r1 r2 r3 zf => ?_) _ 0 g M6 rfl (Nat.zero_le _) rfl r6 (md_wf_mono (by omega) hw5) f6
    · exact ⟨frz M2 zf, ((haL M2 zf).1 126).trans j126, .inr (.inr ⟨p1, gg, r1, rfl, r2, xL_sk hJ g5 xx5 zf.1 (fun x _ b c' => zf.2 x b c') (((haL M2 zf).1 127).trans xx5.1.2.2.1) (((haL M2 zf).1 128).trans xx5.1.2.2.2)⟩)⟩
    · have X2 := xL_sk hJ g5 xx5 zf.1 (fun x _ b c' => zf.2 x b c') (((haL M2 zf).1 127).trans xx5.1.2.2.1) (((haL M2 zf).1 128).trans xx5.1.2.2.2)
      refine ⟨(frz M2 zf).tr (R := fun x => x = a) (fun x _ hx' => sm_sI hx') (fun x _ hx' z => hx' (.inl z)), (hp_I_sIu _ _ _ _ (by decide)).trans (((haL M2 zf).1 126).trans j126), .inr (.inl ⟨p1, i, gg, r1, r2, rfl, gL_I hj (by decide) r3, xL_I hJ r3 X2 ?_ (hp_I_sI _ _ _ _)⟩)⟩
      rw [hp_I_sIu _ _ _ _ (by decide)]
      exact X2.1.2.2.1
  · refine ⟨_, rfl, a4.1.trans ta, by rw [x14]; exact hJ.2.2.2.2.2.2, ?_⟩
    rw [x14, q2]
    refine ⟨q1, q5, T14.1.1, ct_vq (k_setLen4 (d := d + 3) T14) (fun M5 sl => ⟨fun z => absurd z (i3_nm1 (by omega)), fun _ => ?_⟩)⟩
    obtain ⟨g5, xx5, cm5, i5, f5, j126⟩ := p5 M5 sl.1 sl.2
    refine ⟨g5.1, by omega, by omega, f5.tr (R := fun x => x = a) (fun x _ hx' => sm_sI hx') (fun x _ hx' z => hx' (.inl z)), (hp_I_sIu _ _ _ _ (by decide)).trans j126, .inl ⟨p1, ?_, gL_I hj (by decide) g5, xL_I hJ g5 xx5 (hp_I_sI _ _ _ _) ?_, p2⟩⟩
    · trivial
    · rw [hp_I_sIu _ _ _ _ (by decide)]
      exact xx5.1.2.2.2
