/-! THE JOINT STATE: the group and the reference stand for the same row -/
/-- the class's side -/
def cls (T : Nat) (M : am_Hp) (a h E : Nat) (L : Nat → Nat → Nat) (sc st ks rs so p q : Nat) (g : md_R) (c : Nat) (hist : Nat → md_R) (f : Int32) (sn : md_R) (tx ou : List Nat) (e1 e2 : Int32) : Prop := ∃ n b1 m1 b2 m2, gL T M a h E n c L g sn hist ∧ xL M a sc st b1 m1 ks rs so b2 m2 tx ou e1 e2 ∧ hp_I M 126 a = f ∧ p ≠ b1 ∧ q ≠ b1 ∧ p ≠ b2 ∧ q ≠ b2
/-- what no call changes -/
def stt (G : am_Gx) (M : am_Hp) (a h E : Nat) (L : Nat → Nat → Nat) (sc st ks rs so : Nat) (A : Nat → Nat) (sb N0 o1 o2 p q : Nat) : Prop := cJ a h E L sc st ks rs so ∧ (∀ x, cS a h E L sc st ks rs so x → ∀ i, i ≤ 8 → x ≠ A i) ∧ stK G M ∧ dgt G M p q ∧ hp_T M sb = 42 ∧ hp_N M sb = N0 ∧ hp_T M o1 = 23 ∧ hp_N M o1 = 1 ∧ hp_T M o2 = 24 ∧ hp_N M o2 = 1
def nus (K : Nat) (g : md_R) (f : Int32) (sn : md_R) (c : Nat) (hist : Nat → md_R) : Prop := md_nu K g ∧ (f = i3 1 → md_nu K sn) ∧ ∀ j, j < c → md_nu K (hist j)
def JJ (G : am_Gx) (a h E : Nat) (L : Nat → Nat → Nat) (sc st ks rs so : Nat) (A : Nat → Nat) (sb N0 o1 o2 p q : Nat) (T K : Nat) (M : am_Hp) : Prop := ∃ g c hist f sn tx ou e1 e2, stt G M a h E L sc st ks rs so A sb N0 o1 o2 p q ∧ cls T M a h E L sc st ks rs so p q g c hist f sn tx ou e1 e2 ∧ mS M A g c hist f sn tx ou e1 e2 ∧ nus K g f sn c hist
theorem cS_tt {T : Nat} {M : am_Hp} {a h E n c : Nat} {L : Nat → Nat → Nat} {g sn : md_R} {hist : Nat → md_R} {sc st b1 m1 ks rs so b2 m2 : Nat} {tx ou : List Nat} {e1 e2 : Int32} (hg : gL T M a h E n c L g sn hist) (hx : xL M a sc st b1 m1 ks rs so b2 m2 tx ou e1 e2) {x : Nat} (h1 : cS a h E L sc st ks rs so x) : hp_T M x ≠ 0 ∧ hp_T M x ≠ 20 ∧ hp_T M x ≠ 23 ∧ hp_T M x ≠ 24 ∧ hp_T M x < 40 := by
  obtain ⟨ta, th, tE⟩ := gL_T hg
  obtain ⟨-, hS, hT1, hT2, -⟩ := hx
  rcases h1 with z | z | z | ⟨i, j, hi, hj, z⟩ | z | z | z | ⟨j, hj, z⟩ | z
  · rw [z, ta]; decide
  · rw [z, th]; decide
  · rw [z, tE]; decide
  · have := bL_tt (gL_bL hg hi) hj
    rw [z]
    omega
  · rw [z, hS.1]; decide
  · rw [z, hT1.1.1]; decide
  · rw [z, hS.2.2.2.2.2.2.2.1]; decide
  · by_cases j0 : j = 0
    · subst j0
      rw [z, Nat.add_zero, hS.2.2.2.2.2.2.2.2.2.1]; decide
    · have := (hS.2.2.2.2.2.2.2.2.2.2.2 (j - 1) (by omega)).2.1
      rw [show rs + 1 + (j - 1) = rs + j by omega] at this
      rw [z, this]; decide
  · rw [z, hT2.1.1]; decide
theorem mL_tt {M : am_Hp} {A : Nat → Nat} (h : mL M A) {i : Nat} (hi : i ≤ 8) : hp_T M (A i) = 8 ∨ hp_T M (A i) = 22 ∨ hp_T M (A i) = 21 := by
  obtain ⟨t0, r1, r2, r3, r4, r5, r6, r7, r8, t1, t2, t3, t4, t5, t6, t7, t8, n1, n2, n3, n4, n5, n6, n7, n8, z1, z2, z3, z4, z5, z6, z7, z8, hJ⟩ := h
  rcases (by omega : i = 0 ∨ i = 1 ∨ i = 2 ∨ i = 3 ∨ i = 4 ∨ i = 5 ∨ i = 6 ∨ i = 7 ∨ i = 8) with rfl | rfl | rfl | rfl | rfl | rfl | rfl | rfl | rfl
  · exact .inl t0
  · exact .inr (.inl t1)
  · exact .inr (.inl t2)
  · exact .inr (.inl t3)
  · exact .inr (.inl t4)
  · exact .inr (.inl t5)
  · exact .inr (.inr t6)
  · exact .inr (.inr t7)
  · exact .inr (.inl t8)
theorem mL_sm {M M' : am_Hp} {A : Nat → Nat} (s : ∀ i, i ≤ 8 → sm M M' (A i)) (h : mL M A) : mL M' A := by
  obtain ⟨t0, r1, r2, r3, r4, r5, r6, r7, r8, t1, t2, t3, t4, t5, t6, t7, t8, n1, n2, n3, n4, n5, n6, n7, n8, z1, z2, z3, z4, z5, z6, z7, z8, hJ⟩ := h
  have R := fun u => (s 0 (by omega)).2.2.2.1 u
  have t := fun i (hi : i ≤ 8) => (s i hi).1
  have n := fun i (hi : i ≤ 8) => (s i hi).2.1
  exact ⟨(t 0 (by omega)).trans t0, (R _).trans r1, (R _).trans r2, (R _).trans r3, (R _).trans r4, (R _).trans r5, (R _).trans r6, (R _).trans r7, (R _).trans r8, (t 1 (by omega)).trans t1, (t 2 (by omega)).trans t2, (t 3 (by omega)).trans t3, (t 4 (by omega)).trans t4, (t 5 (by omega)).trans t5, (t 6 (by omega)).trans t6, (t 7 (by omega)).trans t7, (t 8 (by omega)).trans t8, (n 1 (by omega)).trans n1, (n 2 (by omega)).trans n2, (n 3 (by omega)).trans n3, (n 4 (by omega)).trans n4, (n 5 (by omega)).trans n5, (n 6 (by omega)).trans n6, (n 7 (by omega)).trans n7, (n 8 (by omega)).trans n8, z1, z2, z3, z4, z5, z6, z7, z8, hJ⟩
theorem mS_sm {M M' : am_Hp} {A : Nat → Nat} {g : md_R} {c : Nat} {hist : Nat → md_R} {f : Int32} {sn : md_R} {tx ou : List Nat} {e1 e2 : Int32} (s : ∀ i, i ≤ 8 → sm M M' (A i)) (h : mS M A g c hist f sn tx ou e1 e2) : mS M' A g c hist f sn tx ou e1 e2 := by
  obtain ⟨hm, hg, hc, hc8, hh, hf, hsv, he1, he2, hy, hwt⟩ := h
  have I := fun u => (s 0 (by omega)).2.2.1 u
  have E := fun i (hi : i ≤ 8) => (s i hi).2.2.2.2.1
  exact ⟨mL_sm s hm, (E 1 (by omega)).trans hg, (I _).trans hc, hc8, fun j k hj hk => by rw [E 4 (by omega)]; exact hh j k hj hk, (I _).trans hf, fun k hf1 hk => by rw [E 5 (by omega)]; exact hsv k hf1 hk, (I _).trans he1, (I _).trans he2, ⟨(I _).trans hy.1, hy.2.1, fun i hi => by rw [E 6 (by omega)]; exact hy.2.2 i hi⟩, ⟨(I _).trans hwt.1, hwt.2.1, fun i hi => by rw [E 7 (by omega)]; exact hwt.2.2 i hi⟩⟩
/-- a call of the class leaves the reference and what stands still alone -/
theorem mS_c {G : am_Gx} {T : Nat} {M M' : am_Hp} {a h E n c c' : Nat} {L : Nat → Nat → Nat} {g sn g' sn' : md_R} {hist hist' : Nat → md_R} {sc st b1 m1 ks rs so b2 m2 : Nat} {tx ou tx' ou' : List Nat} {e1 e2 e1' e2' f : Int32} {A : Nat → Nat} {sb N0 o1 o2 p q : Nat} (hs : stt G M a h E L sc st ks rs so A sb N0 o1 o2 p q) (hx : xL M a sc st b1 m1 ks rs so b2 m2 tx ou e1 e2) (hf : fr (fun x => cS a h E L sc st ks rs so x ∨ x = b1 ∨ x = b2) M M') (hm : mS M A g' c' hist' f sn' tx' ou' e1' e2') : mS M' A g' c' hist' f sn' tx' ou' e1' e2' := by
  refine mS_sm (fun i hi => hf (A i) (by have := mL_tt hm.1 hi; omega) (fun z => ?_)) hm
  have t := mL_tt hm.1 hi
  rcases z with z | z | z
  · exact hs.2.1 _ z i hi rfl
  · rw [z, hx.2.2.1.1.2.2.2.1] at t; omega
  · rw [z, hx.2.2.2.1.1.2.2.2.1] at t; omega
theorem stt_c {G : am_Gx} {T : Nat} {M M' : am_Hp} {a h E n c : Nat} {L : Nat → Nat → Nat} {g sn : md_R} {hist : Nat → md_R} {sc st b1 m1 ks rs so b2 m2 : Nat} {tx ou : List Nat} {e1 e2 : Int32} {A : Nat → Nat} {sb N0 o1 o2 p q : Nat} (hs : stt G M a h E L sc st ks rs so A sb N0 o1 o2 p q) (hg : gL T M a h E n c L g sn hist) (hx : xL M a sc st b1 m1 ks rs so b2 m2 tx ou e1 e2) (hpq : p ≠ b1 ∧ q ≠ b1 ∧ p ≠ b2 ∧ q ≠ b2) (hf : fr (fun x => cS a h E L sc st ks rs so x ∨ x = b1 ∨ x = b2) M M') : stt G M' a h E L sc st ks rs so A sb N0 o1 o2 p q ∧ hp_E M' sb = hp_E M sb ∧ hp_L M' o1 = hp_L M o1 := by
  obtain ⟨s1, s2, s3, s4, s5, s6, s7, s8, s9, s10⟩ := hs
  have tb1 := hx.2.2.1.1.2.2.2.1
  have tb2 := hx.2.2.2.1.1.2.2.2.1
  have N : ∀ x, (hp_T M x = 23 ∨ hp_T M x = 24 ∨ 40 ≤ hp_T M x) → sm M M' x := fun x ht => hf x (by omega) (fun z => by
    rcases z with z | z | z
    · have := cS_tt hg hx z
      omega
    · rw [z, tb1] at ht; omega
    · rw [z, tb2] at ht; omega)
  have P : ∀ x, hp_T M x = 20 → x ≠ b1 → x ≠ b2 → sm M M' x := fun x ht n1 n2 => hf x (by omega) (fun z => by
    rcases z with z | z | z
    · have := cS_tt hg hx z
      omega
    · exact n1 z
    · exact n2 z)
  refine ⟨⟨s1, s2, stK_ty s3 (fun x hx' => N x (by omega)), dgt_sm (N p (by have := s4.2.2.1; omega)) (N q (by have := s4.2.2.2.1; omega)) s4, (N sb (by omega)).1.trans s5, (N sb (by omega)).2.1.trans s6, (N o1 (by omega)).1.trans s7, (N o1 (by omega)).2.1.trans s8, (N o2 (by omega)).1.trans s9, (N o2 (by omega)).2.1.trans s10⟩, (N sb (by omega)).2.2.2.2.1, (N o1 (by omega)).2.2.2.2.2.2.1⟩
/-- a call of the reference leaves the class alone -/
theorem cls_r {G : am_Gx} {T : Nat} {M M' : am_Hp} {a h E c : Nat} {L : Nat → Nat → Nat} {g sn : md_R} {hist : Nat → md_R} {sc st ks rs so : Nat} {tx ou : List Nat} {e1 e2 f : Int32} {A : Nat → Nat} {sb N0 o1 o2 p q : Nat} (hs : stt G M a h E L sc st ks rs so A sb N0 o1 o2 p q) (hm : mL M A) (hf : mfr A M M') (hc : cls T M a h E L sc st ks rs so p q g c hist f sn tx ou e1 e2) : cls T M' a h E L sc st ks rs so p q g c hist f sn tx ou e1 e2 := by
  obtain ⟨n, b1, m1, b2, m2, hg, hx, hff, hpq⟩ := hc
  have S : ∀ x, cS a h E L sc st ks rs so x → sm M M' x := fun x hx' => sm_sk hf.1 (hf.2 x (hs.2.1 x hx'))
  have B : ∀ x, hp_T M x = 20 → sm M M' x := fun x ht => sm_sk hf.1 (hf.2 x (fun i hi z => by
    have := mL_tt hm hi
    rw [← z, ht] at this
    omega))
  have Sa := S a (.inl rfl)
  obtain ⟨⟨x1, x2, x3, x4⟩, hS, hT1, hT2, hbb⟩ := hx
  refine ⟨n, b1, m1, b2, m2, gL_sm Sa (S h (.inr (.inl rfl))) (S E (.inr (.inr (.inl rfl)))) (fun i j hi hj => S _ (.inr (.inr (.inr (.inl ⟨i, j, hi, hj, rfl⟩))))) hg, ⟨⟨(Sa.2.2.2.1 _).trans x1, (Sa.2.2.2.1 _).trans x2, (Sa.2.2.1 _).trans x3, (Sa.2.2.1 _).trans x4⟩, scR_sm (S sc (by unfold cS; simp)) (S ks (by unfold cS; simp)) (S rs (.inr (.inr (.inr (.inr (.inr (.inr (.inr (.inl ⟨0, by omega, rfl⟩))))))))) (fun j hj => S _ (.inr (.inr (.inr (.inr (.inr (.inr (.inr (.inl ⟨1 + j, by omega, by rw [Nat.add_assoc]⟩))))))))) hS, sT_sm (S st (by unfold cS; simp)) (B b1 hT1.1.2.2.2.1) hT1, sT_sm (S so (by unfold cS; simp)) (B b2 hT2.1.2.2.2.1) hT2, hbb⟩, (Sa.2.2.1 _).trans hff, hpq⟩
theorem stt_r {G : am_Gx} {M M' : am_Hp} {a h E : Nat} {L : Nat → Nat → Nat} {sc st ks rs so : Nat} {A : Nat → Nat} {sb N0 o1 o2 p q : Nat} (hm : mL M A) (hf : mfr A M M') (hs : stt G M a h E L sc st ks rs so A sb N0 o1 o2 p q) : stt G M' a h E L sc st ks rs so A sb N0 o1 o2 p q := by
  obtain ⟨s1, s2, s3, s4, s5, s6, s7, s8, s9, s10⟩ := hs
  have N : ∀ x, (hp_T M x = 20 ∨ 40 ≤ hp_T M x) → sm M M' x := fun x ht => sm_sk hf.1 (hf.2 x (fun i hi z => by
    have := mL_tt hm hi
    rw [← z] at this
    omega))
  have e1 := hf.1.1
  have e2 := hf.1.2.1
  refine ⟨s1, s2, stK_ty s3 (fun x hx' => N x (by omega)), dgt_sm (N p (by have := s4.2.2.1; omega)) (N q (by have := s4.2.2.2.1; omega)) s4, by rw [e1]; exact s5, by rw [e2]; exact s6, by rw [e1]; exact s7, by rw [e2]; exact s8, by rw [e1]; exact s9, by rw [e2]; exact s10⟩
theorem JJ_T {G : am_Gx} {a h E : Nat} {L : Nat → Nat → Nat} {sc st ks rs so : Nat} {A : Nat → Nat} {sb N0 o1 o2 p q T K T' K' : Nat} {M : am_Hp} (hT : T ≤ T') (hK : K ≤ K') (hJ : JJ G a h E L sc st ks rs so A sb N0 o1 o2 p q T K M) : JJ G a h E L sc st ks rs so A sb N0 o1 o2 p q T' K' M := by
  obtain ⟨g, c, hist, f, sn, tx, ou, e1, e2, hs, ⟨n, b1, m1, b2, m2, hg, hx, hff, hpq⟩, hm, hn⟩ := hJ
  refine ⟨g, c, hist, f, sn, tx, ou, e1, e2, hs, ⟨n, b1, m1, b2, m2, ?_, hx, hff, hpq⟩, hm, ⟨nu_mono hn.1 hK, fun z => nu_mono (hn.2.1 z) hK, fun j hj => nu_mono (hn.2.2 j hj) hK⟩⟩
  obtain ⟨ta, rr, ⟨hR, hw⟩, ht, hs10, hy, hsn⟩ := hg
  refine ⟨ta, rr, ⟨hR, md_wf_mono hT hw⟩, ht, hs10, ?_, ?_⟩
  · obtain ⟨q1, q2, q3, q4, q5, q6⟩ := hy
    exact ⟨q1, q2, q3, q4, q5, fun j hj => ⟨(q6 j hj).1, md_wf_mono hT (q6 j hj).2⟩⟩
  · rcases hsn with z | ⟨z1, z2, z3⟩
    · exact .inl z
    · exact .inr ⟨z1, z2, md_wf_mono hT z3⟩
/-! the comparisons -/
theorem lg_self (x : Int64) : lg_cmp x x = 0 := by
  unfold lg_cmp
  simp
theorem cmp_end {k : Nat} {v : Int32} {lo : Int64} {R P1 P2 : Prop} (hk : k < 1000) (h1 : P1) (h2 : P2) (hlo : k = 0 → lo = v.toInt64) (hR : R) : ((i3 k = i3 k) → (((i3 k = 0) → (P1 ∧ (P2 ∧ ((((lg_cmp lo (v.toInt64)) = 0) → R) ∧ (¬ ((lg_cmp lo (v.toInt64)) = 0) → (False)))))) ∧ (¬ (i3 k = 0) → R))) ∧ (¬ (i3 k = i3 k) → (False)) := by
  refine ⟨fun _ => ⟨fun z => ⟨h1, h2, fun _ => hR, fun y => y ?_⟩, fun _ => hR⟩, fun z => z rfl⟩
  rw [hlo ((i3_eq (b := 0) (by omega) (by omega)).mp z)]
  exact lg_self _
theorem cmp_endb {k : Nat} {v : Int32} {lo : Int64} {R P1 P2 : Prop} (hk : k < 1000) (h1 : P1) (h2 : P2) (hlo : k = 0 → lo = v.toInt64) (hb : v = 0 ∨ v = 1) (hR : R) : ((i3 k = i3 k) → (((i3 k = 0) → (P1 ∧ (P2 ∧ (((v = 0) → ((((lg_cmp lo (0 : Int64)) = 0) → R) ∧ (¬ ((lg_cmp lo (0 : Int64)) = 0) → (False)))) ∧ (¬ (v = 0) → ((((lg_cmp lo (1 : Int64)) = 0) → R) ∧ (¬ ((lg_cmp lo (1 : Int64)) = 0) → (False)))))))) ∧ (¬ (i3 k = 0) → R))) ∧ (¬ (i3 k = i3 k) → (False)) := by
  refine ⟨fun _ => ⟨fun z => ⟨h1, h2, fun y => ⟨fun _ => hR, fun w => w ?_⟩, fun y => ⟨fun _ => hR, fun w => w ?_⟩⟩, fun _ => hR⟩, fun z => z rfl⟩
  · rw [hlo ((i3_eq (b := 0) (by omega) (by omega)).mp z), y]
    exact lg_self _
  · rw [hlo ((i3_eq (b := 0) (by omega) (by omega)).mp z), hb.resolve_left y]
    exact lg_self _
theorem mS_153 {M : am_Hp} {A : Nat → Nat} {g : md_R} {c : Nat} {hist : Nat → md_R} {f : Int32} {sn : md_R} {tx ou : List Nat} {e1 e2 v : Int32} (h : mS M A g c hist f sn tx ou e1 e2) : mS (hp_sI M 153 (A 0) v) A g c hist f sn tx ou e1 e2 := by
  obtain ⟨hm, hg, hc, hc8, hh, hf, hsv, he1, he2, hy, hwt⟩ := h
  have I : ∀ u, u ≠ 153 → hp_I (hp_sI M 153 (A 0) v) u (A 0) = hp_I M u (A 0) := fun u hu => hp_I_sIu _ _ _ _ hu
  exact ⟨hm, hg, (I _ (by decide)).trans hc, hc8, hh, (I _ (by decide)).trans hf, hsv, (I _ (by decide)).trans he1, (I _ (by decide)).trans he2, ⟨(I _ (by decide)).trans hy.1, hy.2⟩, ⟨(I _ (by decide)).trans hwt.1, hwt.2⟩⟩
theorem JJ_153 {G : am_Gx} {a h E : Nat} {L : Nat → Nat → Nat} {sc st ks rs so : Nat} {A : Nat → Nat} {sb N0 o1 o2 p q T K : Nat} {M : am_Hp} {v : Int32} (hJ : JJ G a h E L sc st ks rs so A sb N0 o1 o2 p q T K M) : JJ G a h E L sc st ks rs so A sb N0 o1 o2 p q T K (hp_sI M 153 (A 0) v) := by
  obtain ⟨g, c, hist, f, sn, tx, ou, e1, e2, hs, hc, hm, hn⟩ := hJ
  exact ⟨g, c, hist, f, sn, tx, ou, e1, e2, stt_r hm.1 mfr_I hs, cls_r hs hm.1 mfr_I hc, mS_153 hm, hn⟩
theorem JJ_L {G : am_Gx} {a h E : Nat} {L : Nat → Nat → Nat} {sc st ks rs so : Nat} {A : Nat → Nat} {sb N0 o1 o2 p q T K x k : Nat} {M : am_Hp} {v : Int64} (hJ : JJ G a h E L sc st ks rs so A sb N0 o1 o2 p q T K M) : JJ G a h E L sc st ks rs so A sb N0 o1 o2 p q T K (hp_sL M x k v) := hJ
theorem JJ_D {G : am_Gx} {a h E : Nat} {L : Nat → Nat → Nat} {sc st ks rs so : Nat} {A : Nat → Nat} {sb N0 o1 o2 p q T K x k : Nat} {M : am_Hp} {v : UInt64} (hJ : JJ G a h E L sc st ks rs so A sb N0 o1 o2 p q T K M) : JJ G a h E L sc st ks rs so A sb N0 o1 o2 p q T K (hp_sD M x k v) := hJ
theorem hp_L_at (M : am_Hp) (x : Nat) (v : Int64) : hp_L (hp_sL M x 0 v) x ((0 : Int32)).toNatClampNeg = v := by
  show hp_u (hp_L M) x 0 v x 0 = v
  simp [hp_u]
/-- what a query's block needs of the state -/
theorem JJ_q {G : am_Gx} {a h E : Nat} {L : Nat → Nat → Nat} {sc st ks rs so : Nat} {A : Nat → Nat} {sb N0 o1 o2 p q T K : Nat} {M : am_Hp} (hJ : JJ G a h E L sc st ks rs so A sb N0 o1 o2 p q T K M) : ∃ g, gN M a (L 8) g ∧ md_wf T g ∧ mL M A ∧ hp_E M (A 1) = g ∧ hp_T M sb = 42 ∧ hp_N M sb = N0 ∧ hp_T M o1 = 23 ∧ hp_N M o1 = 1 ∧ hp_T M o2 = 24 ∧ hp_N M o2 = 1 ∧ hp_I M 127 a = hp_I M 149 (A 0) ∧ hp_I M 128 a = hp_I M 150 (A 0) := by
  obtain ⟨g, c, hist, f, sn, tx, ou, e1, e2, hs, ⟨n, b1, m1, b2, m2, hg, hx, hff, hpq⟩, hm, hn⟩ := hJ
  obtain ⟨ta, rr, ⟨hR, hw⟩, -⟩ := hg
  exact ⟨g, ⟨ta, rr.1, hR⟩, hw, hm.1, hm.2.1, hs.2.2.2.2.1, hs.2.2.2.2.2.1, hs.2.2.2.2.2.2.1, hs.2.2.2.2.2.2.2.1, hs.2.2.2.2.2.2.2.2.1, hs.2.2.2.2.2.2.2.2.2, hx.1.2.2.1.trans hm.2.2.2.2.2.2.2.1.symm, hx.1.2.2.2.trans hm.2.2.2.2.2.2.2.2.1.symm⟩
