/-! .. runScript of the reference (made by gen/mk/mk8p.py) -/
/-! one command -/
def sp_k (g : md_R) (k : Nat) (x : md_R) : md_Sp := if k = 0 then sp_add g (x 0) (x 1) (x 2) else if k = 1 then sp_rem g (x 0) else if k = 2 then sp_hold g (x 0) (x 1) else if k = 3 then sp_stop g (x 0) else if k = 4 then sp_start g (x 0) else if k = 5 then sp_limit g (x 0) (x 1) else if k = 6 then sp_adv g (x 0) else sp_adv g 1
theorem tn_ne {n : Nat} : tn_add n ≠ 0 ∧ tn_rem n ≠ 0 ∧ tn_add n ≤ 3 ∧ tn_rem n ≤ 3 := by
  unfold tn_add tn_rem
  refine ⟨?_, ?_, ?_, ?_⟩ <;> split <;> omega
theorem tn_lim_ne {n : Nat} (h : n ≠ 0) (h4 : n ≤ 4) : tn_lim n ≠ 0 ∧ tn_lim n ≤ 3 := by
  unfold tn_lim
  split <;> omega
theorem sp_k_rf {T k : Nat} {g x : md_R} (hw : md_wf T g) (hk : k < 8) : (rf_k g k x = 0 → (sp_k g k x).1 = 0 ∧ (sp_k g k x).2.2 = pf_k g k x) ∧ (rf_k g k x ≠ 0 → (sp_k g k x).1 ≠ 0 ∧ (sp_k g k x).1 ≤ 3 ∧ (sp_k g k x).2.2 = g) := by
  have A : ∀ {sp : md_Sp} {rf n : Nat} {v : Int32} {g' : md_R}, sp = (if rf = 0 then (0, v, g') else (n, i3 0, g)) → (rf ≠ 0 → n ≠ 0 ∧ n ≤ 3) → (rf = 0 → sp.1 = 0 ∧ sp.2.2 = g') ∧ (rf ≠ 0 → sp.1 ≠ 0 ∧ sp.1 ≤ 3 ∧ sp.2.2 = g) := fun {sp rf n v g'} e hn => by
    by_cases c : rf = 0
    · rw [if_pos c] at e
      rw [e]
      exact ⟨fun _ => ⟨rfl, rfl⟩, fun z => absurd c z⟩
    · rw [if_neg c] at e
      rw [e]
      exact ⟨fun z => absurd z c, fun z => ⟨(hn z).1, (hn z).2, rfl⟩⟩
  rcases (by omega : k = 0 ∨ k = 1 ∨ k = 2 ∨ k = 3 ∨ k = 4 ∨ k = 5 ∨ k = 6 ∨ k = 7) with rfl | rfl | rfl | rfl | rfl | rfl | rfl | rfl
  · exact A sp_add_rf (fun _ => ⟨tn_ne.1, tn_ne.2.2.1⟩)
  · exact A (sp_rem_rf hw) (fun _ => ⟨tn_ne.2.1, tn_ne.2.2.2⟩)
  · refine A (sp_hold_rf hw) (fun z => ⟨z, ?_⟩)
    unfold rf_hold
    repeat' split
    all_goals omega
  · exact A (sp_stop_rf hw) (fun _ => ⟨tn_ne.2.1, tn_ne.2.2.2⟩)
  · exact A sp_start_rf (fun _ => ⟨tn_ne.2.1, tn_ne.2.2.2⟩)
  · exact A sp_limit_rf (fun z => tn_lim_ne z rf_limit_le)
  · exact A sp_adv_rf (fun _ => ⟨by decide, by decide⟩)
  · have e := sp_adv_rf (g := g) (v := 1)
    rw [if_pos (by decide)] at e
    refine ⟨fun _ => ⟨?_, ?_⟩, fun z => absurd rfl z⟩
    · show (sp_adv g 1).1 = 0
      rw [e]
    · show (sp_adv g 1).2.2 = pf_k g 7 x
      rw [e]
      rfl
theorem n_carriesOut {G : am_Gx} {d T b k : Nat} {M : am_Hp} {A : Nat → Nat} {g F : md_R} {args : List Nat} (h : mL M A) (hg : hp_E M (A 1) = g) (hw : md_wf T g) (hT : T < 100000000) (hF : hp_E M (A 8) = F) (hb : b + 3 < 240) (hk : k < 8) (hn : args.length = nd (fmt k)) (hm : maR F b k args) : am_CT G (d + 9) rX7_carriesOut [.ref (A 0), .int (i3 b)] M 0 0 (qs (sp_k g k (xa args)) M A) := by
  have h0 := h
  have ok := md_wf_ok hw
  obtain ⟨t0, r1, r2, r3, r4, r5, r6, r7, r8, t1, t2, t3, t4, t5, t6, t7, t8, n1, n2, n3, n4, n5, n6, n7, n8, z1, z2, z3, z4, z5, z6, z7, z8, hJ⟩ := h
  obtain ⟨m1, m2, m3⟩ := hm
  have ix1 : i3 b + (1 : Int32) = i3 (b + 1) := i3_add b 1
  have ix2 : i3 b + (2 : Int32) = i3 (b + 2) := i3_add b 2
  have ix3 : i3 b + (3 : Int32) = i3 (b + 3) := i3_add b 3
  have V0 : vp_in (i3 b) 240 := vp_in_i3 (by omega) (by omega)
  have V1 : vp_in (i3 (b + 1)) 240 := vp_in_i3 (by omega) (by omega)
  have V2 : vp_in (i3 (b + 2)) 240 := vp_in_i3 (by omega) (by omega)
  have V3 : vp_in (i3 (b + 3)) 240 := vp_in_i3 (by omega) (by omega)
  refine am_intro mkX7_carriesOut rfl (Nat.le_of_ble_eq_true rfl) rfl (fun X hX hM => ?_)
  refine vX7_carriesOut_0 hX hM ?_
  simp only [forall_eq]
  rw [ix1, ix2, ix3, r8, n8, hF, i3_toNat (by omega), i3_toNat (by omega), i3_toNat (by omega), i3_toNat (by omega), m1]
  refine ⟨t0, z8, t8, V1, z8, t8, V2, z8, t8, V0, ?_⟩
  rcases (by omega : k = 0 ∨ k = 1 ∨ k = 2 ∨ k = 3 ∨ k = 4 ∨ k = 5 ∨ k = 6 ∨ k = 7) with rfl | rfl | rfl | rfl | rfl | rfl | rfl | rfl
  · have a1 : F (b + 1) = xa args 0 := m3 (by decide) 0 (by rw [hn]; decide)
    have a2 : F (b + 2) = xa args 1 := m3 (by decide) 1 (by rw [hn]; decide)
    have a3 : F (b + 3) = xa args 2 := m3 (by decide) 2 (by rw [hn]; decide)
    rw [a1, a2, a3]
    exact ⟨fun z => absurd z (by decide), fun z => absurd z (by decide), fun z => absurd z (by decide), fun _ => ⟨z8, t8, V3, ct_i (c_adds (d := d + 1) h0 hg ok) ⟨rfl, rfl⟩⟩, fun z => absurd z (by decide), fun z => absurd z (by decide), fun z => absurd z (by decide), fun z => absurd z (by decide), fun z => absurd z (by decide), fun z => absurd z (by decide), fun z => absurd z (by decide), fun z => absurd z (by decide), fun z => absurd z (by decide), fun z => absurd z (by decide), fun z => absurd z (by decide), fun z => absurd z (by decide)⟩
  · have a1 : F (b + 1) = xa args 0 := m3 (by decide) 0 (by rw [hn]; decide)
    rw [a1]
    exact ⟨fun z => absurd z (by decide), fun z => absurd z (by decide), fun z => absurd z (by decide), fun z => absurd z (by decide), fun z => absurd z (by decide), fun z => absurd z (by decide), fun z => absurd z (by decide), fun z => absurd z (by decide), fun z => absurd z (by decide), fun z => absurd z (by decide), fun z => absurd z (by decide), fun z => absurd z (by decide), fun _ => ct_i (c_removes (d := d + 5) h0 hg ok) ⟨rfl, rfl⟩, fun z => absurd z (by decide), fun z => absurd z (by decide), fun z => absurd z (by decide)⟩
  · have a1 : F (b + 1) = xa args 0 := m3 (by decide) 0 (by rw [hn]; decide)
    have a2 : F (b + 2) = xa args 1 := m3 (by decide) 1 (by rw [hn]; decide)
    rw [a1, a2]
    exact ⟨fun z => absurd z (by decide), fun z => absurd z (by decide), fun z => absurd z (by decide), fun z => absurd z (by decide), fun z => absurd z (by decide), fun z => absurd z (by decide), fun z => absurd z (by decide), fun z => absurd z (by decide), fun _ => ct_i (c_holds (d := d + 5) h0 hg) ⟨rfl, rfl⟩, fun z => absurd z (by decide), fun z => absurd z (by decide), fun z => absurd z (by decide), fun z => absurd z (by decide), fun z => absurd z (by decide), fun z => absurd z (by decide), fun z => absurd z (by decide)⟩
  · have a1 : F (b + 1) = xa args 0 := m3 (by decide) 0 (by rw [hn]; decide)
    rw [a1]
    exact ⟨fun z => absurd z (by decide), fun z => absurd z (by decide), fun z => absurd z (by decide), fun z => absurd z (by decide), fun z => absurd z (by decide), fun z => absurd z (by decide), fun z => absurd z (by decide), fun z => absurd z (by decide), fun z => absurd z (by decide), fun z => absurd z (by decide), fun z => absurd z (by decide), fun z => absurd z (by decide), fun z => absurd z (by decide), fun z => absurd z (by decide), fun z => absurd z (by decide), fun _ => ct_i (c_stops (d := d + 5) h0 hg ok) ⟨rfl, rfl⟩⟩
  · have a1 : F (b + 1) = xa args 0 := m3 (by decide) 0 (by rw [hn]; decide)
    rw [a1]
    exact ⟨fun z => absurd z (by decide), fun _ => ct_i (c_starts (d := d + 5) h0 hg) ⟨rfl, rfl⟩, fun z => absurd z (by decide), fun z => absurd z (by decide), fun z => absurd z (by decide), fun z => absurd z (by decide), fun z => absurd z (by decide), fun z => absurd z (by decide), fun z => absurd z (by decide), fun z => absurd z (by decide), fun z => absurd z (by decide), fun z => absurd z (by decide), fun z => absurd z (by decide), fun z => absurd z (by decide), fun z => absurd z (by decide), fun z => absurd z (by decide)⟩
  · have a1 : F (b + 1) = xa args 0 := m3 (by decide) 0 (by rw [hn]; decide)
    have a2 : F (b + 2) = xa args 1 := m3 (by decide) 1 (by rw [hn]; decide)
    rw [a1, a2]
    exact ⟨fun z => absurd z (by decide), fun z => absurd z (by decide), fun z => absurd z (by decide), fun z => absurd z (by decide), fun z => absurd z (by decide), fun z => absurd z (by decide), fun z => absurd z (by decide), fun z => absurd z (by decide), fun z => absurd z (by decide), fun _ => ct_i (c_limits (d := d + 5) h0 hg ok) ⟨rfl, rfl⟩, fun z => absurd z (by decide), fun z => absurd z (by decide), fun z => absurd z (by decide), fun z => absurd z (by decide), fun z => absurd z (by decide), fun z => absurd z (by decide)⟩
  · have a1 : F (b + 1) = xa args 0 := m3 (by decide) 0 (by rw [hn]; decide)
    rw [a1]
    exact ⟨fun _ => ct_i (c_advances (d := d) h0 hg hw hT) ⟨rfl, rfl⟩, fun z => absurd z (by decide), fun z => absurd z (by decide), fun z => absurd z (by decide), fun z => absurd z (by decide), fun z => absurd z (by decide), fun z => absurd z (by decide), fun z => absurd z (by decide), fun z => absurd z (by decide), fun z => absurd z (by decide), fun z => absurd z (by decide), fun z => absurd z (by decide), fun z => absurd z (by decide), fun z => absurd z (by decide), fun z => absurd z (by decide), fun z => absurd z (by decide)⟩
  · have a1 : F (b + 1) = 1 := m2 rfl
    rw [a1]
    exact ⟨fun _ => ct_i (c_advances (d := d) h0 hg hw hT) ⟨rfl, rfl⟩, fun z => absurd z (by decide), fun z => absurd z (by decide), fun z => absurd z (by decide), fun z => absurd z (by decide), fun z => absurd z (by decide), fun z => absurd z (by decide), fun z => absurd z (by decide), fun z => absurd z (by decide), fun z => absurd z (by decide), fun z => absurd z (by decide), fun z => absurd z (by decide), fun z => absurd z (by decide), fun z => absurd z (by decide), fun z => absurd z (by decide), fun z => absurd z (by decide)⟩
/-! the state of the reference -/
def mS (M : am_Hp) (A : Nat → Nat) (g : md_R) (c : Nat) (hist : Nat → md_R) (f : Int32) (sn : md_R) (tx ou : List Nat) (e1 e2 : Int32) : Prop := mL M A ∧ hp_E M (A 1) = g ∧ hp_I M 144 (A 0) = i3 c ∧ c ≤ 8 ∧ (∀ j k, j < c → k < 141 → hp_E M (A 4) (141 * j + k) = hist j k) ∧ hp_I M 146 (A 0) = f ∧ (∀ k, f = i3 1 → k < 141 → hp_E M (A 5) k = sn k) ∧ hp_I M 149 (A 0) = e1 ∧ hp_I M 150 (A 0) = e2 ∧ yT M A tx ∧ wT M A ou
/-- what the reference may touch -/
def mfr (A : Nat → Nat) (M M' : am_Hp) : Prop := sk M M' ∧ ∀ x, (∀ i, i ≤ 8 → x ≠ A i) → ag M M' x
theorem mfr.rf (A : Nat → Nat) (M : am_Hp) : mfr A M M := ⟨sk.rf M, fun _ _ => ⟨fun _ => rfl, rfl, rfl⟩⟩
theorem mfr.tr {A : Nat → Nat} {M M1 M2 : am_Hp} (h : mfr A M M1) (k : mfr A M1 M2) : mfr A M M2 := ⟨h.1.trans k.1, fun x p => ag.tr (h.2 x p) (k.2 x p)⟩
theorem mfr_I {A : Nat → Nat} {M : am_Hp} {u : Nat} {v : Int32} : mfr A M (hp_sI M u (A 0) v) := ⟨⟨rfl, rfl, rfl, rfl, rfl⟩, fun x p => ⟨fun w => hp_I_sIa M u w v (p 0 (by omega)), rfl, rfl⟩⟩
theorem mfr_A {A : Nat → Nat} {M : am_Hp} {i : Nat} {f : md_R} (hi : i ≤ 8) : mfr A M (hp_sA M (A i) f) := ⟨⟨rfl, rfl, rfl, rfl, rfl⟩, fun x p => ⟨fun _ => rfl, hp_E_sA' M f (p i hi), rfl⟩⟩
theorem mfr_q {A : Nat → Nat} {M M' : am_Hp} (h : qFr A M M') : mfr A M M' := ⟨h.1, fun x p => h.2.1 x (p 0 (by omega)) (p 8 (by omega))⟩
theorem md_hp_row {c j k : Nat} {b g : md_R} {H : md_R} {hist : Nat → md_R} (hc : c ≤ 8) (hb : ∀ k, k < 141 → b k = g k) (hH : ∀ j k, j < c → k < 141 → H (141 * j + k) = hist j k) (hj : j < (if c = 8 then 8 else c + 1)) (hk : k < 141) : md_hp c b H (141 * j + k) = yP c g hist j k := by
  unfold md_hp yP
  by_cases c8 : c = 8
  · rw [if_pos c8] at hj ⊢
    rw [if_pos c8]
    unfold md_cq
    by_cases j7 : j = 7
    · subst j7
      rw [if_pos (by omega), if_pos rfl, ← hb k hk]
      exact congrArg b (by omega)
    · rw [if_neg (by omega), if_neg j7]
      unfold md_sf
      rw [if_pos (by omega), ← hH (j + 1) k (by omega) hk]
      exact congrArg H (by omega)
  · rw [if_neg c8] at hj ⊢
    rw [if_neg c8]
    unfold md_cq
    by_cases jc : j = c
    · subst jc
      rw [if_pos (by omega), if_pos rfl, ← hb k hk]
      exact congrArg b (by omega)
    · rw [if_neg (by omega), if_neg jc]
      exact hH j k (by omega) hk
/-! parsing the whole text -/
theorem fR_adv (l : List Nat) : ∀ ps a args, (fR l ps a args).1 = true → a + ps.length ≤ (fR l ps a args).2.1
  | [], a, args, _ => Nat.le_refl _
  | w :: ps, a, args, h => by
    rw [fR] at h ⊢
    rw [List.length_cons]
    by_cases c : w = 48 ∨ w = 78
    · rw [if_pos c] at h ⊢
      by_cases c2 : dE l (if w = 48 then 1 else 3) a = a
      · rw [if_pos c2] at h
        exact absurd h Bool.false_ne_true
      · rw [if_neg c2] at h ⊢
        have := fR_adv l ps _ _ h
        have := dE_ge l (if w = 48 then 1 else 3) a
        omega
    · rw [if_neg c] at h ⊢
      by_cases c2 : tk l a = w
      · rw [if_pos c2] at h ⊢
        have := fR_adv l ps _ _ h
        omega
      · rw [if_neg c2] at h
        exact absurd h Bool.false_ne_true
theorem fmt_4 {k : Nat} (hk : k < 8) : 4 ≤ (fmt k).length := by
  rcases (by omega : k = 0 ∨ k = 1 ∨ k = 2 ∨ k = 3 ∨ k = 4 ∨ k = 5 ∨ k = 6 ∨ k = 7) with rfl | rfl | rfl | rfl | rfl | rfl | rfl | rfl <;> decide
def mrows (F : md_R) (acc : List (Nat × List Nat)) : Prop := ∀ i, i < acc.length → maR F (4 * i) (acc.getD i (0, [])).1 (acc.getD i (0, [])).2
theorem maR_cg {F F' : md_R} {b k : Nat} {args : List Nat} (h : ∀ j, j < b + 4 → F' j = F j) (hn : args.length ≤ 3) (hm : maR F b k args) : maR F' b k args := by
  obtain ⟨a1, a2, a3⟩ := hm
  exact ⟨(h b (by omega)).trans a1, fun z => (h _ (by omega)).trans (a2 z), fun z j hj => (h _ (by omega)).trans (a3 z j hj)⟩
theorem mrows_snoc {F F' : md_R} {acc : List (Nat × List Nat)} {k : Nat} {args : List Nat} (hok : okC acc) (h : ∀ j, j < 4 * acc.length → F' j = F j) (hm : mrows F acc) (hn : maR F' (4 * acc.length) k args) : mrows F' (acc ++ [(k, args)]) := by
  intro i hi
  rw [List.length_append, List.length_singleton] at hi
  by_cases c : i < acc.length
  · rw [getD_app c]
    have hmem : acc.getD i (0, []) ∈ acc := by
      rw [List.getD_eq_getElem?_getD, List.getElem?_eq_getElem c]
      exact List.getElem_mem c
    obtain ⟨k8, kn⟩ := hok _ hmem
    exact maR_cg (fun j hj => h j (by omega)) (by rw [kn]; exact nd_fmt k8) (hm i c)
  · obtain rfl : i = acc.length := by omega
    rw [getD_end]
    exact hn
/-- the end of the parsing: nothing wrong and all read -/
theorem pl_ok {X : am_Cx} {G : am_Gx} {d q n : Nat} {A : Nat → Nat} {M0 M : am_Hp} {l : List Nat} {F : md_R} {Q : am_Q} (hX : am_ok X rX7_runScript G (d + 10)) (hM : am_me X rX7_runScript Q) (h : nS A M0 M l false q F) (hq : l.length ≤ q) (hq2 : q < 100000) (hQ : am_J X 130 [(0, .ref (A 0)), (1, .int (i3 n)), (3, .int (i3 0))] [] (hp_sA (hp_sI (hp_sI M 155 (A 0) (0 : Int32)) 148 (A 0) (0 : Int32)) (A 2) (md_cq 0 0 141 (hp_E M (A 1)) (hp_E M (A 2)))) 0 0) : am_J X 14 [(0, .ref (A 0)), (1, .int (i3 n)), (2, .int (0 : Int32))] [] M 0 0 := by
  refine vX7_runScript_14 hX hM (fun x0 x1 x2 M => am_J X 14 [(0, .ref x0), (1, .int x1), (2, .int x2)] [] M 0 0) (fun _ _ _ _ h => h) (fun x0 x1 x3 M => am_J X 130 [(0, .ref x0), (1, .int x1), (3, .int x3)] [] M 0 0) (fun _ _ _ _ h => h) ⟨fun _ => ⟨(nS_f h).1, ?_⟩, fun z => absurd rfl z⟩
  rw [h.2.2.2.2.1, h.2.2.2.1, h.2.2.1.1]
  refine ⟨fun _ => ⟨fun _ => ⟨Or.inl rfl, fun M18 e18 M20 e20 => ⟨fun _ => ?_, fun z => absurd ?_ z⟩⟩, fun z => absurd ((i3_le (by omega) (by omega)).mpr hq) z⟩, fun z => absurd rfl z⟩
  · subst e20 e18
    exact ct_v (c_begin (M := hp_sI (hp_sI M 155 (A 0) (0 : Int32)) 148 (A 0) (0 : Int32)) h.2.1 rfl) hQ
  · rw [e20, hp_I_sIu _ _ _ _ (by decide), e18, hp_I_sI]
/-- .. something wrong -/
theorem pl_bad {X : am_Cx} {G : am_Gx} {d q n : Nat} {A : Nat → Nat} {M0 M : am_Hp} {l : List Nat} {w : Bool} {F : md_R} {Q : am_Q} (hX : am_ok X rX7_runScript G (d + 10)) (hM : am_me X rX7_runScript Q) (h : nS A M0 M l w q F) (hq : w = true ∨ q < l.length) (hq2 : q < 100000) (hQ : Q (.inl (some (.int (i3 0)))) (hp_sI (hp_sI (hp_sI (hp_sI M 155 (A 0) (1 : Int32)) 148 (A 0) (0 : Int32)) 149 (A 0) (i3 q)) 153 (A 0) (i3 1))) : am_J X 14 [(0, .ref (A 0)), (1, .int (i3 n)), (2, .int (0 : Int32))] [] M 0 0 := by
  have hl := h.2.2.1.2.1
  refine vX7_runScript_14 hX hM (fun x0 x1 x2 M => am_J X 14 [(0, .ref x0), (1, .int x1), (2, .int x2)] [] M 0 0) (fun _ _ _ _ h => h) (fun x0 x1 x3 M => am_J X 130 [(0, .ref x0), (1, .int x1), (3, .int x3)] [] M 0 0) (fun _ _ _ _ h => h) ⟨fun _ => ⟨(nS_f h).1, ?_⟩, fun z => absurd rfl z⟩
  have fin : ∀ M18, M18 = hp_sI M 155 (A 0) (1 : Int32) → ∀ M20, M20 = hp_sI M18 148 (A 0) (0 : Int32) → ¬ hp_I M20 155 (A 0) = 0 ∧ hp_I M20 154 (A 0) = i3 q ∧ ∀ M25, M25 = hp_sI M20 149 (A 0) (i3 q) → am_CT G (d + 9) rX7_fails [.ref (A 0), .int (1 : Int32)] M25 0 0 (fun oz9 M27 => ∃ v28 : Int32, oz9 = .inl (some (.int v28)) ∧ (Q (.inl (some (.int v28))) M27)) := fun M18 e18 M20 e20 => by
    subst e20 e18
    refine ⟨?_, ?_, fun M25 e25 => ?_⟩
    · rw [hp_I_sIu _ _ _ _ (by decide), hp_I_sI]; decide
    · rw [hp_I_sIu _ _ _ _ (by decide), hp_I_sIu _ _ _ _ (by decide)]; exact h.2.2.2.1
    · subst e25
      exact ct_i (c_fails (M := hp_sI (hp_sI (hp_sI M 155 (A 0) (1 : Int32)) 148 (A 0) (0 : Int32)) 149 (A 0) (i3 q)) h.2.1) hQ
  rw [h.2.2.2.2.1, h.2.2.2.1, h.2.2.1.1]
  refine ⟨fun z => ⟨fun y => ?_, fun y => ⟨Or.inr rfl, fun M30 e30 M32 e32 => ?_⟩⟩, fun z => ⟨Or.inr rfl, fun M5 e5 M7 e7 => ?_⟩⟩
  · have y1 := (i3_le (by omega) (by omega)).mp y
    have : w = false := (bI_0 w).mp z
    rcases hq with q1 | q1
    · rw [q1] at this; exact absurd this (by decide)
    · omega
  · obtain ⟨f1, f2, f3⟩ := fin M30 e30 M32 e32
    exact ⟨fun z => absurd z f1, fun _ M37 e37 => f3 M37 (by rw [e37, f2])⟩
  · obtain ⟨f1, f2, f3⟩ := fin M5 e5 M7 e7
    exact ⟨fun z => absurd z f1, fun _ M12 e12 => f3 M12 (by rw [e12, f2])⟩
theorem pl_loop {X : am_Cx} {G : am_Gx} {d : Nat} {A : Nat → Nat} {M0 : am_Hp} {l : List Nat} {Q : am_Q} (hX : am_ok X rX7_runScript G (d + 10)) (hM : am_me X rX7_runScript Q) (h128 : ∀ i, i < l.length → l.getD i 0 < 128) (hl : l.length ≤ 60)
    (hQ1 : ∀ M F q, (rS l 13 0 []).1 = true → okC (rS l 13 0 []).2.2 → nS A M0 M l false q F → mrows F (rS l 13 0 []).2.2 → (rS l 13 0 []).2.2.length ≤ 13 → am_J X 130 [(0, .ref (A 0)), (1, .int (i3 (rS l 13 0 []).2.2.length)), (3, .int (i3 0))] [] (hp_sA (hp_sI (hp_sI M 155 (A 0) (0 : Int32)) 148 (A 0) (0 : Int32)) (A 2) (md_cq 0 0 141 (hp_E M (A 1)) (hp_E M (A 2)))) 0 0)
    (hQ2 : ∀ M w F, (rS l 13 0 []).1 = false → nS A M0 M l w (rS l 13 0 []).2.1 F → (rS l 13 0 []).2.1 ≤ 60 → Q (.inl (some (.int (i3 0)))) (hp_sI (hp_sI (hp_sI (hp_sI M 155 (A 0) (1 : Int32)) 148 (A 0) (0 : Int32)) 149 (A 0) (i3 (rS l 13 0 []).2.1)) 153 (A 0) (i3 1))) : ∀ n p acc M1 F, acc.length + n = 13 → 5 * acc.length ≤ p → p ≤ l.length → rS l n p acc = rS l 13 0 [] → nS A M0 M1 l false p F → mrows F acc → okC acc → am_J X 14 [(0, .ref (A 0)), (1, .int (i3 acc.length)), (2, .int (1 : Int32))] [] M1 0 0 := by
  intro n
  induction n with
  | zero =>
    intro p acc M1 F hn h5 hpl hR h1 hm hok
    omega
  | succ n ih =>
    intro p acc M1 F hn h5 hpl hR h1 hm hok
    obtain ⟨c1, c2, c3⟩ := cE_sel l p h128
    have qle := fE_le (l := l) (k := sel l p) hpl
    rw [rS] at hR
    refine vX7_runScript_14 hX hM (fun x0 x1 x2 M => am_J X 14 [(0, .ref x0), (1, .int x1), (2, .int x2)] [] M 0 0) (fun _ _ _ _ h => h) (fun x0 x1 x3 M => am_J X 130 [(0, .ref x0), (1, .int x1), (3, .int x3)] [] M 0 0) (fun _ _ _ _ h => h) ⟨fun z => absurd z (by decide), fun _ => ⟨(nS_f h1).1, ?_⟩⟩
    rw [show (4 : Int32) * i3 acc.length = i3 (4 * acc.length) from i3_mul 4 _]
    refine am_CT.mono ?_ (n_parsesCommand (d := d + 4) h1 hpl (by omega))
    rintro o M2 ⟨e, F', k, hk, h2, hF, hma⟩
    subst hk
    refine ⟨e, fun v44 e44 => ⟨(nS_f h2).1, ?_⟩⟩
    rw [i3_one] at e44
    subst e44
    rw [h2.2.2.2.2.1]
    have q60 : (fR l (fmt (sel l p)) p []).2.1 ≤ 60 := by rw [← fE_2]; omega
    by_cases r1 : (fR l (fmt (sel l p)) p []).1 = true
    · rw [r1]
      refine ⟨fun _ => ct_i (n_here h2 (by omega)) ⟨fun y => ⟨(nS_f h2).1, fun z => absurd z (by decide), fun _ M65 e65 => ?_⟩, fun y => ⟨(nS_f h2).1, fun _ M57 e57 => ?_, fun z => absurd rfl z⟩⟩, fun z => absurd rfl z⟩
      · -- a semicolon: one more
        have y1 := (hv_eq (c := 59) h128 (by omega)).mp y
        have lt : (fR l (fmt (sel l p)) p []).2.1 < l.length := Nat.lt_of_not_le (fun z => by rw [tk_out z] at y1; omega)
        have fok : (fE l (sel l p) p).1 = true := by
          unfold fE
          rw [if_pos r1, if_neg (fun z => z.2 y1)]
        obtain ⟨g1, g2⟩ := c3 fok
        rw [c1, if_pos fok, c2, fE_2, if_neg (by omega), g1] at hR
        have adv := fR_adv l _ p [] r1
        have f4 := fmt_4 g2
        have l3 : (acc ++ [(sel l p, (fE l (sel l p) p).2.2)]).length = acc.length + 1 := by rw [List.length_append]; rfl
        rw [h2.2.2.2.1, i3_one] at e65
        have h3 : nS A M0 M65 l false ((fR l (fmt (sel l p)) p []).2.1 + 1) F' := by
          rw [e65]
          have := nS_I (s := (fR l (fmt (sel l p)) p []).2.1 + 1) h2
          rw [r1] at this
          exact this
        have := ih ((fR l (fmt (sel l p)) p []).2.1 + 1) (acc ++ [(sel l p, (fE l (sel l p) p).2.2)]) M65 F' (by rw [l3]; omega) (by rw [l3]; omega) lt hR h3 (mrows_snoc hok hF hm (by rw [fE_2]; exact hma r1)) (fun x hx => by
          rcases List.mem_append.mp hx with hx | hx
          · exact hok x hx
          · rw [List.mem_singleton.mp hx]
            exact ⟨g2, fE_args fok⟩)
        rw [l3] at this
        exact this
      · have y1 : ¬ tk l (fR l (fmt (sel l p)) p []).2.1 = 59 := fun q => y ((hv_eq (c := 59) h128 (by omega)).mpr q)
        rw [h2.2.2.2.1, show i3 (fR l (fmt (sel l p)) p []).2.1 + 0 = i3 (fR l (fmt (sel l p)) p []).2.1 from i3_add _ 0] at e57
        have h3 : nS A M0 M57 l false (fR l (fmt (sel l p)) p []).2.1 F' := by
          rw [e57]
          have := nS_I (s := (fR l (fmt (sel l p)) p []).2.1) h2
          rw [r1] at this
          exact this
        by_cases lt : (fR l (fmt (sel l p)) p []).2.1 < l.length
        · have fno : (fE l (sel l p) p).1 = false := by
            unfold fE
            rw [if_pos r1, if_pos ⟨lt, y1⟩]
          rw [c1, if_neg (by rw [fno]; exact Bool.false_ne_true), c2, fE_2] at hR
          have eR : (rS l 13 0 []).2.1 = (fR l (fmt (sel l p)) p []).2.1 := by rw [← hR]
          refine pl_bad hX hM h3 (.inr lt) (by omega) ?_
          have := hQ2 M57 false F' (by rw [← hR]) (by rw [eR]; exact h3) (by rw [eR]; exact q60)
          rw [eR] at this
          exact this
        · have fok : (fE l (sel l p) p).1 = true := by
            unfold fE
            rw [if_pos r1, if_neg (fun z => lt z.1)]
          obtain ⟨g1, g2⟩ := c3 fok
          rw [c1, if_pos fok, c2, fE_2, if_pos (by omega), g1] at hR
          have l3 : (acc ++ [(sel l p, (fE l (sel l p) p).2.2)]).length = acc.length + 1 := by rw [List.length_append]; rfl
          have eC : (rS l 13 0 []).2.2 = acc ++ [(sel l p, (fE l (sel l p) p).2.2)] := by rw [← hR]
          have hok2 : okC (acc ++ [(sel l p, (fE l (sel l p) p).2.2)]) := fun x hx => by
            rcases List.mem_append.mp hx with hx | hx
            · exact hok x hx
            · rw [List.mem_singleton.mp hx]
              exact ⟨g2, fE_args fok⟩
          refine pl_ok hX hM h3 (by omega) (by omega) ?_
          have := hQ1 M57 F' _ (by rw [← hR]) (by rw [eC]; exact hok2) h3 (by rw [eC]; exact mrows_snoc hok hF hm (by rw [fE_2]; exact hma r1)) (by rw [eC, l3]; omega)
          rw [eC, l3] at this
          exact this
    · have r0 : (fR l (fmt (sel l p)) p []).1 = false := by
        cases h : (fR l (fmt (sel l p)) p []).1 with
        | true => exact absurd h r1
        | false => rfl
      rw [r0] at h2 ⊢
      refine ⟨fun z => absurd z (by decide), fun _ => ⟨fun _ M48 e48 => ?_, fun z => absurd rfl z⟩⟩
      rw [h2.2.2.2.1, show i3 (fR l (fmt (sel l p)) p []).2.1 + 0 = i3 (fR l (fmt (sel l p)) p []).2.1 from i3_add _ 0] at e48
      have h3 : nS A M0 M48 l true (fR l (fmt (sel l p)) p []).2.1 F' := by
        rw [e48]
        exact nS_I (s := (fR l (fmt (sel l p)) p []).2.1) h2
      have fno := fE_f r0
      rw [c1, if_neg (by rw [fno]; exact Bool.false_ne_true), c2, fE_2] at hR
      have eR : (rS l 13 0 []).2.1 = (fR l (fmt (sel l p)) p []).2.1 := by rw [← hR]
      refine pl_bad hX hM h3 (.inl rfl) (by omega) ?_
      have := hQ2 M48 true F' (by rw [← hR]) (by rw [eR]; exact h3) (by rw [eR]; exact q60)
      rw [eR] at this
      exact this
/-! carrying out -/
/-- the reference's state while it carries out: from Mb on, the row and the thrown number change -/
def eF (A : Nat → Nat) (M M' : am_Hp) : Prop := sk M M' ∧ (∀ x, x ≠ A 0 → x ≠ A 1 → ag M M' x) ∧ ∀ u, u ≠ 153 → hp_I M' u (A 0) = hp_I M u (A 0)
theorem eF.tr {A : Nat → Nat} {M M1 M2 : am_Hp} (h : eF A M M1) (k : eF A M1 M2) : eF A M M2 := ⟨h.1.trans k.1, fun x a b => ag.tr (h.2.1 x a b) (k.2.1 x a b), fun u a => (k.2.2 u a).trans (h.2.2 u a)⟩
theorem eF.rf (A : Nat → Nat) (M : am_Hp) : eF A M M := ⟨sk.rf M, fun _ _ _ => ⟨fun _ => rfl, rfl, rfl⟩, fun _ _ => rfl⟩
theorem eF_s {A : Nat → Nat} {M : am_Hp} {g : md_R} {v : Int32} : eF A M (hp_sI (hp_sA M (A 1) g) 153 (A 0) v) := ⟨⟨rfl, rfl, rfl, rfl, rfl⟩, fun x a b => ⟨fun w => hp_I_sIa _ _ w v a, hp_E_sA' M g b, rfl⟩, fun u a => hp_I_sIu _ _ _ _ a⟩
theorem ex_loop {X : am_Cx} {G : am_Gx} {d T : Nat} {A : Nat → Nat} {Mb : am_Hp} {g F : md_R} {cs : List (Nat × List Nat)} {Q : am_Q} (hX : am_ok X rX7_runScript G (d + 10)) (hM : am_me X rX7_runScript Q) (hm : mL Mb A) (hT : T < 80000000) (hF : hp_E Mb (A 8) = F) (hrow : mrows F cs) (hok : okC cs) (h13 : cs.length ≤ 13)
    (hQ1 : ∀ M2 gg, rn g cs 0 = (true, cs.length, gg) → eF A Mb M2 → hp_E M2 (A 1) = gg → am_CT G (d + 9) rX7_kept [.ref (A 0), .int (i3 cs.length)] (hp_sI M2 153 (A 0) (i3 0)) 0 0 (fun o M' => ∃ v, o = .inl (some (.int v)) ∧ Q (.inl (some (.int v))) M'))
    (hQ2 : ∀ M2 i gg v, rn g cs 0 = (false, i, gg) → i < 13 → eF A Mb M2 → hp_E M2 (A 1) = gg → am_CT G (d + 9) rX7_kept [.ref (A 0), .int v] (hp_sI (hp_sI M2 150 (A 0) (i3 i)) 153 (A 0) (i3 2)) 0 0 (fun o M' => ∃ v, o = .inl (some (.int v)) ∧ Q (.inl (some (.int v))) M')) : ∀ rem i gi M2, cs.drop i = rem → i ≤ cs.length → rn gi rem i = rn g cs 0 → eF A Mb M2 → hp_E M2 (A 1) = gi → md_wf (T + 1830 * i) gi → am_J X 130 [(0, .ref (A 0)), (1, .int (i3 cs.length)), (3, .int (i3 i))] [] M2 0 0 := by
  intro rem
  induction rem with
  | nil =>
    intro i gi M2 hd hi hr hE hgi hwi
    have hil : i = cs.length := by
      have := congrArg List.length hd
      rw [List.length_drop, List.length_nil] at this
      omega
    subst hil
    rw [rn] at hr
    have m2 := mL_sk hE.1 hm
    refine vX7_runScript_130 hX hM (fun x0 x1 x3 M => am_J X 130 [(0, .ref x0), (1, .int x1), (3, .int x3)] [] M 0 0) (fun _ _ _ _ h => h) ⟨fun _ => ⟨m2.1, ct_i (c_done m2) ⟨m2.1, hQ1 M2 gi hr.symm hE hgi⟩⟩, fun z => absurd (Int32.le_refl _) z⟩
  | cons c0 rem ih =>
    intro i gi M2 hd hi hr hE hgi hwi
    have hil : i < cs.length := by
      have := congrArg List.length hd
      rw [List.length_drop, List.length_cons] at this
      omega
    have hget : cs.getD i (0, []) = c0 := by
      have h1 := congrArg (fun l => l.head?) hd
      simp only [List.head?_drop, List.head?_cons] at h1
      rw [List.getD_eq_getElem?_getD, h1]
      rfl
    have hmem : c0 ∈ cs := by
      have : c0 ∈ cs.drop i := by rw [hd]; exact List.mem_cons_self
      exact List.mem_of_mem_drop this
    have hdrop : cs.drop (i + 1) = rem := by
      have := congrArg List.tail hd
      rw [List.tail_drop, List.tail_cons] at this
      exact this
    obtain ⟨k8, kn⟩ := hok c0 hmem
    have hma := hrow i hil
    rw [hget] at hma
    have m2 := mL_sk hE.1 hm
    have eF8 : hp_E M2 (A 8) = F := by rw [(hE.2.1 (A 8) (mL_ne hm (by omega) (by omega) (by omega)) (mL_ne hm (by omega) (by omega) (by omega))).2.1]; exact hF
    obtain ⟨S1, S2⟩ := sp_k_rf (x := xa c0.2) hwi k8
    rw [rn] at hr
    refine vX7_runScript_130 hX hM (fun x0 x1 x3 M => am_J X 130 [(0, .ref x0), (1, .int x1), (3, .int x3)] [] M 0 0) (fun _ _ _ _ h => h) ⟨fun z => absurd ((i3_le (by omega) (by omega)).mp z) (by omega), fun _ => ⟨m2.1, ?_⟩⟩
    rw [show (4 : Int32) * i3 i = i3 (4 * i) from i3_mul 4 _]
    refine ct_i (n_carriesOut (d := d) m2 hgi hwi (by omega) eF8 (by omega) k8 kn hma) ⟨m2.1, fun z => ?_, fun z M14 e14 M16 e16 => ?_⟩
    · intro v e
      rw [i3_one] at e
      subst e
      rw [hp_I_sI] at z
      have s3 : (sp_k gi c0.1 (xa c0.2)).1 ≤ 3 := by
        by_cases q : rf_k gi c0.1 (xa c0.2) = 0
        · rw [(S1 q).1]; omega
        · exact (S2 q).2.1
      have z0 := (i3_eq (b := 0) (by omega) (by omega)).mp z
      have rf0 : rf_k gi c0.1 (xa c0.2) = 0 := Classical.byContradiction (fun q => (S2 q).1 z0)
      rw [if_pos rf0] at hr
      have wf2 := md_wf_pf hwi (by omega) k8 rf0
      refine ih (i + 1) (pf_k gi c0.1 (xa c0.2)) _ hdrop hil hr (hE.tr eF_s) ?_ (by rw [Nat.mul_succ, ← Nat.add_assoc]; exact wf2)
      rw [hp_E_sI, hp_E_sA]
      exact (S1 rf0).2
    · rw [hp_I_sI] at z
      have rf0 : ¬ rf_k gi c0.1 (xa c0.2) = 0 := fun q => z (by rw [(S1 q).1]; rfl)
      rw [if_neg rf0] at hr
      subst e16 e14
      refine hQ2 _ i gi _ hr.symm (by omega) (hE.tr eF_s) ?_
      rw [hp_E_sI, hp_E_sA]
      exact (S2 rf0).2.2
theorem c_runScript {G : am_Gx} {d T c : Nat} {M : am_Hp} {A : Nat → Nat} {g sn : md_R} {hist : Nat → md_R} {f e1 e2 : Int32} {tx ou : List Nat} (h : mS M A g c hist f sn tx ou e1 e2) (hw : md_wf T g) (hT : T < 80000000) : am_CT G (d + 10) rX7_runScript [.ref (A 0)] M 0 0 (fun o M' => mfr A M M' ∧ ∃ v, o = .inl (some (.int v)) ∧
    (((rS tx 13 0 []).1 = false ∧ hp_I M' 153 (A 0) = i3 1 ∧ mS M' A g c hist f sn [] ou (i3 (rS tx 13 0 []).2.1) e2)
    ∨ ((rS tx 13 0 []).1 = true ∧ ∃ i gg, rn g (rS tx 13 0 []).2.2 0 = (false, i, gg) ∧ hp_I M' 153 (A 0) = i3 2 ∧ ∃ g', (∀ k, k < 141 → g' k = g k) ∧ mS M' A g' c hist f sn [] ou e1 (i3 i))
    ∨ ((rS tx 13 0 []).1 = true ∧ ∃ gg, rn g (rS tx 13 0 []).2.2 0 = (true, (rS tx 13 0 []).2.2.length, gg) ∧ v = i3 (rS tx 13 0 []).2.2.length ∧ hp_I M' 153 (A 0) = i3 0 ∧ mS M' A gg (if c = 8 then 8 else c + 1) (yP c g hist) f sn [] ou e1 e2))) := by
  obtain ⟨hm, hg, hc, hc8, hh, hf, hsv, he1, he2, hy, hwt⟩ := h
  have ne : ∀ {i j}, i ≤ 8 → j ≤ 8 → i ≠ j → A i ≠ A j := fun hi hj hne => mL_ne hm hi hj hne
  refine am_intro mkX7_runScript rfl (Nat.le_of_ble_eq_true rfl) rfl (fun X hX hM => ?_)
  refine vX7_runScript_0 hX hM (fun x0 x1 x2 M => am_J X 14 [(0, .ref x0), (1, .int x1), (2, .int x2)] [] M 0 0) (fun _ _ _ _ h => h) ⟨hm.1, fun M2 e2' => ⟨Or.inl rfl, fun M5 e5 => ?_⟩⟩
  have n0 : nS A M M5 tx false 0 (hp_E M (A 8)) := by
    rw [e5, e2']
    refine ⟨(qF_I (.inl rfl)).tr (qF_I (.inr rfl)), hm, yT_I (by decide) (yT_I (by decide) hy), ?_, hp_I_sI _ _ _ _, rfl⟩
    rw [hp_I_sIu _ _ _ _ (by decide), hp_I_sI]
    rfl
  -- what holds of a heap that the parsing left
  have Ep : ∀ (M1 : am_Hp) (w : Bool) (q : Nat) (F : md_R), nS A M M1 tx w q F → ∀ i, i ≤ 7 → 1 ≤ i → hp_E M1 (A i) = hp_E M (A i) := fun M1 w q F h1 i hi h1' => (h1.1.2.1 (A i) (ne (by omega) (by omega) (by omega)) (ne (by omega) (by omega) (by omega))).2.1
  have wTp : ∀ (M1 M' : am_Hp), hp_I M' 152 (A 0) = hp_I M 152 (A 0) → hp_E M' (A 7) = hp_E M (A 7) → wT M' A ou := fun _ M' a b => ⟨a.trans hwt.1, hwt.2.1, fun i hi => by rw [b]; exact hwt.2.2 i hi⟩
  refine pl_loop (d := d) (M0 := M) (Q := _) hX hM (yT_128 hy) hy.2.1 (fun M1 F q p1 pok p2 p3 p4 => ?_) (fun M1 w F p1 p2 p3 => ?_) 13 0 [] M5 _ rfl (Nat.zero_le _) (Nat.zero_le _) rfl n0 (fun i hi => absurd hi (Nat.not_lt_zero _)) (fun x hx => by cases hx)
  · -- parsed
    generalize hMb : hp_sA (hp_sI (hp_sI M1 155 (A 0) (0 : Int32)) 148 (A 0) (0 : Int32)) (A 2) (md_cq 0 0 141 (hp_E M1 (A 1)) (hp_E M1 (A 2))) = Mb
    have E1 := Ep M1 false q F p2
    have mb : mL Mb A := by rw [← hMb]; exact p2.2.1
    have b8 : hp_E Mb (A 8) = F := by
      rw [← hMb, hp_E_sA' _ _ (ne (by omega) (by omega) (by omega)), hp_E_sI, hp_E_sI]
      exact p2.2.2.2.2.2
    have bE : ∀ i, i ≤ 7 → 1 ≤ i → i ≠ 2 → hp_E Mb (A i) = hp_E M (A i) := fun i hi h1 h2 => by
      rw [← hMb, hp_E_sA' _ _ (ne (by omega) (by omega) (by omega)), hp_E_sI, hp_E_sI]
      exact E1 i hi h1
    have b2 : ∀ k, k < 141 → hp_E Mb (A 2) k = g k := fun k hk => by
      rw [← hMb, hp_E_sA]
      unfold md_cq
      rw [if_pos (by omega), E1 1 (by omega) (by omega), hg]
      exact congrArg g (by omega)
    have bI9 : ∀ u, u ≠ 148 → u ≠ 154 → u ≠ 155 → hp_I Mb u (A 0) = hp_I M u (A 0) := fun u a b c' => by
      rw [← hMb, hp_I_sA, hp_I_sIu _ _ _ _ a, hp_I_sIu _ _ _ _ c']
      exact p2.1.2.2 u b c'
    have b148 : hp_I Mb 148 (A 0) = 0 := by rw [← hMb, hp_I_sA, hp_I_sI]
    have fb : mfr A M Mb := by
      rw [← hMb]
      exact (((mfr_q p2.1).tr mfr_I).tr mfr_I).tr (mfr_A (by omega))
    have yN : ∀ (M' : am_Hp), hp_I M' 148 (A 0) = 0 → yT M' A [] := fun M' a => ⟨a, Nat.zero_le _, fun i hi => absurd hi (Nat.not_lt_zero _)⟩
    refine ex_loop (d := d) (T := T) (Mb := Mb) (g := g) (F := F) (Q := _) hX hM mb hT b8 p3 pok p4 (fun M2 gg r1 r2 r3 => ?_) (fun M2 i gg v r1 r2 r3 r4 => ?_) _ 0 g Mb rfl (Nat.zero_le _) rfl (eF.rf A Mb) ((bE 1 (by omega) (by omega) (by omega)).trans hg) (md_wf_mono (by omega) hw)
    · have m2 := mL_sk r2.1 mb
      have E2 : ∀ i, i ≤ 8 → 2 ≤ i → hp_E M2 (A i) = hp_E Mb (A i) := fun i hi h1 => (r2.2.1 (A i) (ne hi (by omega) (by omega)) (ne hi (by omega) (by omega))).2.1
      have I2 : ∀ u, u ≠ 153 → u ≠ 148 → u ≠ 154 → u ≠ 155 → hp_I M2 u (A 0) = hp_I M u (A 0) := fun u a b c' d' => (r2.2.2 u a).trans (bI9 u b c' d')
      refine ct_i (c_kept0 (g := g) (d := d + 7) (M := hp_sI M2 153 (A 0) (i3 0)) m2 (b := hp_E Mb (A 2)) (hist := hp_E M (A 4)) (c := c) ?_ ?_ ?_ hc8 (hp_I_sI _ _ _ _)) ?_
      · rw [hp_E_sI]; exact E2 2 (by omega) (by omega)
      · rw [hp_E_sI, E2 4 (by omega) (by omega)]; exact bE 4 (by omega) (by omega) (by omega)
      · rw [hp_I_sIu _ _ _ _ (by decide), I2 144 (by decide) (by decide) (by decide) (by decide)]; exact hc
      · generalize hM3 : hp_sI (hp_sA (hp_sI M2 153 (A 0) (i3 0)) (A 4) (md_hp c (hp_E Mb (A 2)) (hp_E M (A 4)))) 144 (A 0) (i3 (if c = 8 then 8 else c + 1)) = M3
        have E3 : ∀ i, i ≤ 8 → i ≠ 4 → hp_E M3 (A i) = hp_E M2 (A i) := fun i hi h4 => by
          rw [← hM3, hp_E_sI, hp_E_sA' _ _ (ne hi (by omega) h4), hp_E_sI]
        have I3 : ∀ u, u ≠ 144 → u ≠ 153 → u ≠ 148 → u ≠ 154 → u ≠ 155 → hp_I M3 u (A 0) = hp_I M u (A 0) := fun u a b c' d' e' => by
          rw [← hM3, hp_I_sIu _ _ _ _ a, hp_I_sA, hp_I_sIu _ _ _ _ b]
          exact I2 u b c' d' e'
        refine ⟨?_, _, rfl, .inr (.inr ⟨p1, gg, r1, rfl, ?_, ?_, ?_, ?_, ?_, fun j k hj hk => ?_, ?_, fun k hf1 hk => ?_, ?_, ?_, yN _ ?_, wTp M1 _ ?_ ?_⟩)⟩
        · rw [← hM3]
          exact (((fb.tr ⟨r2.1, fun x p => r2.2.1 x (p 0 (by omega)) (p 1 (by omega))⟩).tr mfr_I).tr (mfr_A (by omega))).tr mfr_I
        · rw [← hM3, hp_I_sIu _ _ _ _ (by decide), hp_I_sA, hp_I_sI]
        · rw [← hM3]; exact m2
        · rw [E3 1 (by omega) (by omega)]; exact r3
        · rw [← hM3, hp_I_sI]
        · split <;> omega
        · rw [← hM3, hp_E_sI, hp_E_sA]
          exact md_hp_row hc8 b2 hh hj hk
        · rw [I3 146 (by decide) (by decide) (by decide) (by decide) (by decide)]; exact hf
        · rw [E3 5 (by omega) (by omega), E2 5 (by omega) (by omega), bE 5 (by omega) (by omega) (by omega)]
          exact hsv k hf1 hk
        · rw [I3 149 (by decide) (by decide) (by decide) (by decide) (by decide)]; exact he1
        · rw [I3 150 (by decide) (by decide) (by decide) (by decide) (by decide)]; exact he2
        · rw [← hM3, hp_I_sIu _ _ _ _ (by decide), hp_I_sA, hp_I_sIu _ _ _ _ (by decide), r2.2.2 148 (by decide)]; exact b148
        · exact I3 152 (by decide) (by decide) (by decide) (by decide) (by decide)
        · rw [E3 7 (by omega) (by omega), E2 7 (by omega) (by omega)]
          exact bE 7 (by omega) (by omega) (by omega)
    · have m2 := mL_sk r3.1 mb
      have E2 : ∀ i, i ≤ 8 → 2 ≤ i → hp_E M2 (A i) = hp_E Mb (A i) := fun i hi h1 => (r3.2.1 (A i) (ne hi (by omega) (by omega)) (ne hi (by omega) (by omega))).2.1
      have I2 : ∀ u, u ≠ 153 → u ≠ 148 → u ≠ 154 → u ≠ 155 → hp_I M2 u (A 0) = hp_I M u (A 0) := fun u a b c' d' => (r3.2.2 u a).trans (bI9 u b c' d')
      refine ct_i (c_kept1 (d := d + 7) (M := hp_sI (hp_sI M2 150 (A 0) (i3 i)) 153 (A 0) (i3 2)) m2 (g := gg) (b := hp_E Mb (A 2)) (k := 2) ?_ ?_ (hp_I_sI _ _ _ _) (by omega)) ?_
      · rw [hp_E_sI, hp_E_sI]; exact r4
      · rw [hp_E_sI, hp_E_sI]; exact E2 2 (by omega) (by omega)
      · generalize hM3 : hp_sA (hp_sI (hp_sI M2 150 (A 0) (i3 i)) 153 (A 0) (i3 2)) (A 1) (md_cq 0 0 141 (hp_E Mb (A 2)) gg) = M3
        have E3 : ∀ i, i ≤ 8 → i ≠ 1 → hp_E M3 (A i) = hp_E M2 (A i) := fun i hi h4 => by
          rw [← hM3, hp_E_sA' _ _ (ne hi (by omega) h4), hp_E_sI, hp_E_sI]
        have I3 : ∀ u, u ≠ 150 → u ≠ 153 → u ≠ 148 → u ≠ 154 → u ≠ 155 → hp_I M3 u (A 0) = hp_I M u (A 0) := fun u a b c' d' e' => by
          rw [← hM3, hp_I_sA, hp_I_sIu _ _ _ _ b, hp_I_sIu _ _ _ _ a]
          exact I2 u b c' d' e'
        refine ⟨?_, _, rfl, .inr (.inl ⟨p1, i, gg, r1, ?_, _, fun k hk => ?_, ?_, rfl, ?_, hc8, fun j k hj hk => ?_, ?_, fun k hf1 hk => ?_, ?_, ?_, yN _ ?_, wTp M1 _ ?_ ?_⟩)⟩
        · rw [← hM3]
          exact (((fb.tr ⟨r3.1, fun x p => r3.2.1 x (p 0 (by omega)) (p 1 (by omega))⟩).tr mfr_I).tr mfr_I).tr (mfr_A (by omega))
        · rw [← hM3, hp_I_sA, hp_I_sI]
        · rw [← hM3, hp_E_sA]
          unfold md_cq
          rw [if_pos (by omega), ← b2 k hk]
          exact congrArg _ (by omega)
        · rw [← hM3]; exact m2
        · rw [I3 144 (by decide) (by decide) (by decide) (by decide) (by decide)]; exact hc
        · rw [E3 4 (by omega) (by omega), E2 4 (by omega) (by omega), bE 4 (by omega) (by omega) (by omega)]
          exact hh j k hj hk
        · rw [I3 146 (by decide) (by decide) (by decide) (by decide) (by decide)]; exact hf
        · rw [E3 5 (by omega) (by omega), E2 5 (by omega) (by omega), bE 5 (by omega) (by omega) (by omega)]
          exact hsv k hf1 hk
        · rw [I3 149 (by decide) (by decide) (by decide) (by decide) (by decide)]; exact he1
        · rw [← hM3, hp_I_sA, hp_I_sIu _ _ _ _ (by decide), hp_I_sI]
        · rw [← hM3, hp_I_sA, hp_I_sIu _ _ _ _ (by decide), hp_I_sIu _ _ _ _ (by decide), r3.2.2 148 (by decide)]; exact b148
        · exact I3 152 (by decide) (by decide) (by decide) (by decide) (by decide)
        · rw [E3 7 (by omega) (by omega), E2 7 (by omega) (by omega)]
          exact bE 7 (by omega) (by omega) (by omega)
  · -- wrong
    have E1 := Ep M1 w _ F p2
    have yN : ∀ (M' : am_Hp), hp_I M' 148 (A 0) = 0 → yT M' A [] := fun M' a => ⟨a, Nat.zero_le _, fun i hi => absurd hi (Nat.not_lt_zero _)⟩
    have I1 : ∀ u, u ≠ 154 → u ≠ 155 → hp_I M1 u (A 0) = hp_I M u (A 0) := fun u a b => p2.1.2.2 u a b
    generalize hM3 : hp_sI (hp_sI (hp_sI (hp_sI M1 155 (A 0) (1 : Int32)) 148 (A 0) (0 : Int32)) 149 (A 0) (i3 (rS tx 13 0 []).2.1)) 153 (A 0) (i3 1) = M3
    have E3 : hp_E M3 = hp_E M1 := by rw [← hM3]; rfl
    have I3 : ∀ u, u ≠ 149 → u ≠ 153 → u ≠ 148 → u ≠ 154 → u ≠ 155 → hp_I M3 u (A 0) = hp_I M u (A 0) := fun u a b c' d' e' => by
      rw [← hM3, hp_I_sIu _ _ _ _ b, hp_I_sIu _ _ _ _ a, hp_I_sIu _ _ _ _ c', hp_I_sIu _ _ _ _ e']
      exact I1 u d' e'
    refine ⟨?_, _, rfl, .inl ⟨p1, ?_, ?_, ?_, ?_, hc8, fun j k hj hk => ?_, ?_, fun k hf1 hk => ?_, ?_, ?_, yN _ ?_, wTp M1 _ ?_ ?_⟩⟩
    · rw [← hM3]
      exact ((((mfr_q p2.1).tr mfr_I).tr mfr_I).tr mfr_I).tr mfr_I
    · rw [← hM3, hp_I_sI]
    · rw [← hM3]; exact p2.2.1
    · rw [E3, E1 1 (by omega) (by omega)]; exact hg
    · rw [I3 144 (by decide) (by decide) (by decide) (by decide) (by decide)]; exact hc
    · rw [E3, E1 4 (by omega) (by omega)]; exact hh j k hj hk
    · rw [I3 146 (by decide) (by decide) (by decide) (by decide) (by decide)]; exact hf
    · rw [E3, E1 5 (by omega) (by omega)]; exact hsv k hf1 hk
    · rw [← hM3, hp_I_sIu _ _ _ _ (by decide), hp_I_sI]
    · rw [I3 150 (by decide) (by decide) (by decide) (by decide) (by decide)]; exact he2
    · rw [← hM3, hp_I_sIu _ _ _ _ (by decide), hp_I_sIu _ _ _ _ (by decide), hp_I_sI]
    · exact I3 152 (by decide) (by decide) (by decide) (by decide) (by decide)
    · rw [E3]; exact E1 7 (by omega) (by omega)
