/-! .. the state of the class, and what a change makes of it -/
abbrev ag (M M' : am_Hp) (x : Nat) : Prop := (∀ u, hp_I M' u x = hp_I M u x) ∧ hp_E M' x = hp_E M x ∧ hp_Q M' x = hp_Q M x
theorem ag.tr {M M1 M2 : am_Hp} {x : Nat} (h : ag M M1 x) (k : ag M1 M2 x) : ag M M2 x := ⟨fun u => (k.1 u).trans (h.1 u), k.2.1.trans h.2.1, k.2.2.trans h.2.2⟩
theorem bR_ag {M M' : am_Hp} {C : Nat → Nat} {g : md_R} (hs : sk M M') (hc : ∀ i, i < 22 → ag M M' (C i)) (ok : md_ok g) (hR : bR M C g) : bR M' C g := by
  have h12 := ok.2
  obtain ⟨r1, r2, r3, r4, r5, r6⟩ := hR
  obtain ⟨q1, q2, q3⟩ := r2
  refine ⟨bL_sk r1 hs, ⟨fun c hc3 => by rw [(hc 1 (by omega)).2.2]; exact q1 c hc3, fun i hi => by rw [(hc 2 (by omega)).2.2]; exact q2 i hi, fun i j hi hj h => by rw [(hc 2 (by omega)).2.2] at h; exact q3 i j hi hj h⟩, iR_cg (fun u _ _ => (hc 0 (by omega)).1 u) (fun _ _ => rfl) r3, fun c hc3 => cR_cg hc3 (fun u _ _ => (hc _ (by omega)).1 u) (fun _ _ => rfl) rfl rfl (r4 c hc3), fun p hp => ?_, ?_⟩
  · rw [(hc 2 (by omega)).2.2]
    obtain ⟨k, hk, e⟩ := q2 p (by omega)
    have := r5 p hp
    rw [e] at this ⊢
    exact pR_cg (fun u _ _ => (hc _ (by omega)).1 u) (fun _ _ => rfl) this
  · unfold tR at r6 ⊢
    rw [(hc 3 (by omega)).1, (hc 3 (by omega)).1, (hc 4 (by omega)).2.1, (hc 5 (by omega)).2.1, (hc 6 (by omega)).2.1]
    exact r6
theorem yR_ag {T U : Nat} {M M' : am_Hp} {h E n c : Nat} {H : Nat → Nat → Nat} {hist : Nat → md_R} (hs : sk M M') (hTU : T ≤ U) (ah : ag M M' h) (aE : ag M M' E) (aH : ∀ i j, i < 8 → j < 22 → ag M M' (H i j)) (hy : yR T M h E H n c hist) : yR U M' h E H n c hist := by
  obtain ⟨⟨t0, r0, tE, nE, zE, i41, i42, hn, hc⟩, hH, hJ, hO, hhE, hX0⟩ := hy
  refine ⟨⟨by rw [hs.1]; exact t0, by rw [hs.2.2.1]; exact r0, by rw [hs.1]; exact tE, by rw [hs.2.1]; exact nE, zE, by rw [ah.1, i41], by rw [ah.1, i42], hn, hc⟩, fun i hi => ?_, hJ, hO, hhE, fun j hj => ?_⟩
  · obtain ⟨x1, x2, x3⟩ := hH i hi
    exact ⟨by rw [aE.2.2]; exact x1, bL_sk x2 hs, bQ_fr (aH i 1 hi (by omega)).2.2 (aH i 2 hi (by omega)).2.2 x3⟩
  · obtain ⟨x1, x2⟩ := hX0 j hj
    exact ⟨bR_ag hs (fun i hi => aH _ i (by omega) hi) (md_wf_ok x2) x1, md_wf_mono hTU x2⟩
/-- the places of a group: its own, the history's, its row's, and eleven buildings (0 to 7 the history, 8 now, 9 the trial, 10 the snapshot) -/
def gJ (a h E : Nat) (L : Nat → Nat → Nat) : Prop := (∀ i j, i < 11 → j < 11 → i ≠ j → ∀ x y, x < 22 → y < 22 → L i x ≠ L j y) ∧ (∀ i x, i < 11 → x < 22 → L i x ≠ a ∧ L i x ≠ h ∧ L i x ≠ E) ∧ a ≠ h ∧ a ≠ E ∧ h ≠ E ∧ h ≠ 0
def gL (T : Nat) (M : am_Hp) (a h E n c : Nat) (L : Nat → Nat → Nat) (g sn : md_R) (hist : Nat → md_R) : Prop := hp_T M a = 7 ∧ (hp_R M 120 a = L 8 0 ∧ hp_R M 121 a = L 9 0 ∧ hp_R M 122 a = L 10 0 ∧ hp_R M 123 a = h) ∧ (bR M (L 8) g ∧ md_wf T g) ∧ (bL M (L 9) ∧ bQ M (L 9)) ∧ (bL M (L 10) ∧ bQ M (L 10)) ∧ yR T M h E L n c hist ∧ (hp_I M 126 a = i3 0 ∨ (hp_I M 126 a = i3 1 ∧ bR M (L 10) sn ∧ md_wf T sn))
/-- what a call of the class may touch -/
def zF (h : Nat) (L : Nat → Nat → Nat) (M M' : am_Hp) : Prop := sk M M' ∧ ∀ x, x ≠ h → (∀ i j, i < 11 → j < 22 → x ≠ L i j) → ag M M' x
theorem gL_after {T U : Nat} {M M1 M2 : am_Hp} {a h E n c n1 c1 : Nat} {L : Nat → Nat → Nat} {g g' sn : md_R} {hist hist1 : Nat → md_R} (hj : gJ a h E L) (hg : gL T M a h E n c L g sn hist) (hy : yR T M1 h E L n1 c1 hist1) (hF : yF h L M M1) (r : bR M2 (L 8) g') (f : bF (L 8) M1 M2) (hw : md_wf U g') (hU : T ≤ U) : gL U M2 a h E n1 c1 L g' sn hist1 ∧ zF h L M M2 := by
  obtain ⟨j1, j2, j3, j4, j5, j6⟩ := hj
  obtain ⟨ta, ⟨r0, r1, r2, r3⟩, -, ⟨t1, t2⟩, ⟨s1, s2⟩, -, hsn⟩ := hg
  have hs := hF.1.trans f.1
  have A1 : ∀ x, x ≠ h → (∀ i j, i < 8 → j < 22 → x ≠ L i j) → (∀ i, i < 22 → x ≠ L 8 i) → ag M M2 x := fun x x1 x2 x3 => ag.tr (hF.2 x x1 x2) (f.2 x x3)
  have A9 : ∀ i, i < 22 → ag M M2 (L 9 i) := fun i hi => A1 _ (j2 9 i (by omega) hi).2.1 (fun k j hk hj' => j1 9 k (by omega) (by omega) (by omega) i j hi hj') (fun j hj' => j1 9 8 (by omega) (by omega) (by omega) i j hi hj')
  have A10 : ∀ i, i < 22 → ag M M2 (L 10 i) := fun i hi => A1 _ (j2 10 i (by omega) hi).2.1 (fun k j hk hj' => j1 10 k (by omega) (by omega) (by omega) i j hi hj') (fun j hj' => j1 10 8 (by omega) (by omega) (by omega) i j hi hj')
  have Aa : ag M M2 a := A1 _ j3 (fun k j hk hj' z => (j2 k j (by omega) hj').1 z.symm) (fun j hj' z => (j2 8 j (by omega) hj').1 z.symm)
  refine ⟨⟨by rw [hs.1]; exact ta, ⟨by rw [hs.2.2.1]; exact r0, by rw [hs.2.2.1]; exact r1, by rw [hs.2.2.1]; exact r2, by rw [hs.2.2.1]; exact r3⟩, ⟨r, hw⟩, ⟨bL_sk t1 hs, bQ_fr (A9 1 (by omega)).2.2 (A9 2 (by omega)).2.2 t2⟩, ⟨bL_sk s1 hs, bQ_fr (A10 1 (by omega)).2.2 (A10 2 (by omega)).2.2 s2⟩, ?_, ?_⟩, hs, fun x x1 x2 => A1 x x1 (fun i j hi hj' => x2 i j (by omega) hj') (fun i hi => x2 8 i (by omega) hi)⟩
  · exact yR_ag f.1 hU (f.2 h (fun i hi z => (j2 8 i (by omega) hi).2.1 z.symm)) (f.2 E (fun i hi z => (j2 8 i (by omega) hi).2.2 z.symm)) (fun i j hi hj' => f.2 _ (fun k hk => j1 i 8 (by omega) (by omega) (by omega) j k hj' hk)) hy
  · rw [Aa.1]
    rcases hsn with z | ⟨z1, z2, z3⟩
    · exact .inl z
    · exact .inr ⟨z1, bR_ag hs A10 (md_wf_ok z3) z2, md_wf_mono hU z3⟩
def xn (n : Nat) : String := if n = 1 then "java/lang/IndexOutOfBoundsException" else if n = 2 then "java/lang/IllegalArgumentException" else if n = 3 then "java/lang/IllegalStateException" else "java/lang/UnsupportedOperationException"
abbrev qt (n : Nat) (M : am_Hp) : am_Q := fun o M' => o = (if n = 0 then .inl none else .inr (xn n)) ∧ M' = M
theorem k_thr {G : am_Gx} {d n : Nat} {M : am_Hp} (hn : n ≤ 4) : am_CT G (d + 1) rX6_throwIfRefused [.int (i3 n)] M 1 6 (qt n M) := by
  refine am_intro mkX6_throwIfRefused rfl (Nat.le_of_ble_eq_true rfl) rfl (fun X hX hM => ?_)
  have e5 : n = 0 ∨ n = 1 ∨ n = 2 ∨ n = 3 ∨ n = 4 := by omega
  refine vX6_throwIfRefused_0 hX hM ⟨fun z => ?_, fun z1 => ⟨fun z => ?_, fun z2 => ⟨fun z => ?_, fun z3 => ⟨fun z => ?_, fun z4 => ?_⟩⟩⟩⟩
  · have e : n = 1 := (i3_eq (b := 1) (by omega) (by omega)).mp z
    subst e
    exact ⟨by omega, by omega, rfl, rfl⟩
  · have e : n = 2 := (i3_eq (b := 2) (by omega) (by omega)).mp z
    subst e
    exact ⟨by omega, by omega, rfl, rfl⟩
  · have e : n = 3 := (i3_eq (b := 3) (by omega) (by omega)).mp z
    subst e
    exact ⟨by omega, by omega, rfl, rfl⟩
  · have e : n = 4 := (i3_eq (b := 4) (by omega) (by omega)).mp z
    subst e
    exact ⟨by omega, by omega, rfl, rfl⟩
  · rcases e5 with rfl | rfl | rfl | rfl | rfl
    · exact ⟨rfl, rfl⟩
    · exact absurd rfl z1
    · exact absurd rfl z2
    · exact absurd rfl z3
    · exact absurd rfl z4
theorem ct_thr {G : am_Gx} {d n : Nat} {r : am_Rec} {as : List Value} {M : am_Hp} {mc ms : Nat} {P : am_Hp → Prop} {Q : am_Q} (h : am_CT G d r as M mc ms (qt n M)) (hn : n ≤ 4) (k0 : n = 0 → P M) (k1 : n ≠ 0 → Q (.inr (xn n)) M) : am_CT G d r as M mc ms (fun o M1 => (o = .inl none ∧ P M1) ∨ (o = .inr "java/lang/IllegalArgumentException" ∧ Q (.inr "java/lang/IllegalArgumentException") M1) ∨ (o = .inr "java/lang/IllegalStateException" ∧ Q (.inr "java/lang/IllegalStateException") M1) ∨ (o = .inr "java/lang/IndexOutOfBoundsException" ∧ Q (.inr "java/lang/IndexOutOfBoundsException") M1) ∨ (o = .inr "java/lang/UnsupportedOperationException" ∧ Q (.inr "java/lang/UnsupportedOperationException") M1)) := by
  refine am_CT.mono (fun o M' h => ?_) h
  obtain ⟨e1, rfl⟩ := h
  have e5 : n = 0 ∨ n = 1 ∨ n = 2 ∨ n = 3 ∨ n = 4 := by omega
  rcases e5 with rfl | rfl | rfl | rfl | rfl
  · exact .inl ⟨e1, k0 rfl⟩
  · exact .inr (.inr (.inr (.inl ⟨e1, k1 (by omega)⟩)))
  · exact .inr (.inl ⟨e1, k1 (by omega)⟩)
  · exact .inr (.inr (.inl ⟨e1, k1 (by omega)⟩))
  · exact .inr (.inr (.inr (.inr ⟨e1, k1 (by omega)⟩)))
