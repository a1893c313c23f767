/-! calls of inherited methods: on a receiver of a class C below the method's own (private ones too), and by invokespecial from a class to the one above it -/
def am_mU2 (own : String) (idx : Nat) (r : am_Rec) (C : String) (n : Nat) : Prop := am_mk r ∧ r.2.2.2.2 = [] ∧ am_par r n ∧ Cond.methodLink own idx r.1 ∈ am_gt ∧ Cond.sameMethod r.1.cls r.1.cls r.1.name r.1.desc ∈ am_gt ∧ Cond.instanceMethod r.1 ∈ am_gt ∧ (Cond.selects C r.1 r.1 ∈ am_gt ∨ (Cond.privateMethod r.1 ∈ am_nw ∧ ∃ k y2, Cond.instantiable C k ∈ am_gt ∧ y2.cls = r.1.cls ∧ Cond.selects C y2 y2 ∈ am_gt))
theorem am_selp {C : String} {y y2 : MethodName} {s : State} {args : Array Value} {n : Nat} (h2 : y2.cls = y.cls) (hsel2 : (Cond.selects C y2 y2).before args s = true) (hy : y.cls ≠ "java/lang/invoke/MethodHandle" ∧ y.cls ≠ "java/lang/invoke/VarHandle")
    (hins : (Cond.instantiable C n).before args s = true) (hpriv : (Cond.privateMethod y).before args s = true) (hinst : (Cond.instanceMethod y).before args s = true) :
    (Cond.selects C y y).before args s = true := by
  obtain ⟨c, k, hc, hk, -, hniab, -, -⟩ := Cond.instantiable_spec hins
  have hni : k.isInterface = false := (Bool.or_eq_false_iff.mp hniab).1
  obtain ⟨mk, methM, hnamed, hmethM, -, -⟩ := Cond.instanceMethod_spec hinst
  have hfound : s.methodFound? y.cls y.name y.desc = some mk := State.methodFound?_of_named hnamed hy
  have hsel : selectMethod {} s.vm c mk = .method mk := selectMethod_private hmethM (Cond.privateMethod_at hpriv mk methM hnamed hmethM)
  have hi : (s.vm.classes[mk.cls]?).any (fun x => !x.isInterface) = true := by
    cases hn2 : s.methodNamed? y2 with
    | none =>
      simp only [Cond.before, Cond.holds, Cond.value, hc, hn2] at hsel2
      cases hq : s.methodFound? y2.cls y2.name y2.desc <;> rw [hq] at hsel2 <;> simp at hsel2
    | some m2 =>
      have e2 : m2.cls = mk.cls := by
        have z1 := findClass_of_methodNamed hn2
        have z2 := findClass_of_methodNamed hnamed
        rw [h2, z2] at z1
        exact (Option.some.inj z1).symm
      simp only [Cond.before, Cond.holds, Cond.value, hc, hn2] at hsel2
      cases hq : s.methodFound? y2.cls y2.name y2.desc <;> rw [hq] at hsel2 <;> simp [e2] at hsel2
      split at hsel2
      · exact (Bool.and_eq_true_iff.mp hsel2).2
      · cases hsel2
  simp only [Cond.before, Cond.holds, Cond.value, hc, hfound, hnamed, hsel, hk]
  simp at hi ⊢
  exact hi
theorem j_callU {X : am_Cx} {r : am_Rec} {G : am_Gx} {d : Nat} (hX : am_ok X r G d) {pc bc bs : Nat} {lv : List (Nat × Value)} {rest st : List Value} {M : am_Hp} {a ci : Nat} {q : vw_C} {r' : am_Rec} {As : List Value} {n idx d1 kc ks : Nat} {Q1 : am_Q} (hdg : decode r.2.1 pc = .ok (.invokevirtual idx, 3)) (hm : am_mU2 r.1.cls idx r' q.1 n) (hc : am_cl[ci]? = some q) (hT : hp_T M a = ci + 1) (hc9 : ci < 19) (hn : As.length = n) (hCT : am_CT G d1 r' (.ref a :: As) M kc ks Q1) (hs : As.reverse ++ .ref a :: rest = st) (hd : d1 + 1 ≤ d) (hkc : kc ≤ bc) (hks : ks ≤ bs) (hrest : (rest.map fun v => v.category).sum ≤ 8) (kk : ∀ (v : Option Value) (M' : am_Hp), Q1 (.inl v) M' → am_J X (pc + 3) lv (v.toList ++ rest) M' (bc - kc) (bs - ks)) (kx : ∀ (E : String) (M' : am_Hp), Q1 (.inr E) M' → am_Th X pc lv E M' (bc - kc) (bs - ks)) : am_J X pc lv st M bc bs := by
  obtain ⟨p, e, R, s, m, args, below, meth, c, Qf, nL, G', mc, ms, d'⟩ := X
  obtain ⟨hx, hb, hml, hown, hts, hU, hlk, htb, hmc, hms, hfr, hlo, hst, hnL, rfl, rfl⟩ := hX
  intro H locs cells slots ls h1 h2 h3 h4 h5
  subst hs
  obtain ⟨m1, m2, m3, m4, m5, m6, m7⟩ := hm
  have hgi : GoodIn am_gt (am_ws r') := am_gi0 m1
  have hcw : Cond.code r'.1 r'.2.1 r'.2.2.1 r'.2.2.2.1 ∈ am_ws r' := by rw [am_ws0 m2]; exact List.mem_cons_self
  have hcode := hts _ (hgi _ hcw).1
  have hsel : (Cond.selects q.1 r'.1 r'.1).before args s = true := by
    rcases m7 with h | ⟨h, k, y2, hk, hy2, hs2⟩
    · exact hts _ h
    · exact am_selp hy2 (hts _ hs2) m1.2.2.2.2 (hts _ hk) (am_word hts hU (.inr h)) (hts _ m6)
  have CU : va_CU R s args r.1.cls q.1 r'.1.cls idx r'.1 r'.1 r'.2.1 r'.2.2.1 r'.2.2.2.1 (am_ws r') (am_room d1 kc ks) kc ks n := by
    refine ⟨⟨rfl, rfl, by show d1 + 10 + 1 ≤ R.frames; omega, by show 8 + (_ + 11) + (40 * d1 + 200) ≤ R.locals; have := m1.2.2.1; omega, pay_in hts hgi, hcw⟩, hcode, hts _ m1.2.1, m1.2.2.2.2, fun sig h => ?_, hts _ m4, hts _ m5, va_Decl.of (hts _ m6) hcode, hsel, hts _ m6⟩
    have h2 := m3
    unfold am_par at h2
    rw [h] at h2
    exact (Option.some.inj h2).symm
  refine am_on (d := d') (kc := kc) (ks := ks) (vx_runU (g := F0 m pc ls _) (As := As) (rest := rest) (Ts := am_gt) ⟨hx, hb, hml, hown, hts⟩ (hCT hst) CU ⟨am_blind _ _ _, va_recv hU.1 (ws := [(a, .inr (ci, am_fs ci M a))]) (by have hP := h1.one (a := a) (by omega); rw [am_rl_obj hT hc9] at hP; exact hP) hc (q0 := 0) rfl, am_pre hU h1 h2⟩ rfl hn h5.1 rfl (lv_room (m := m) (pc := pc) (ls := ls) (rest := []) hrest) hdg ⟨by omega, by omega⟩) h2 h3 h4 h5 hkc hks kk kx
theorem j_callSU {X : am_Cx} {r : am_Rec} {G : am_Gx} {d : Nat} (hX : am_ok X r G d) {pc bc bs : Nat} {lv : List (Nat × Value)} {rest st : List Value} {M : am_Hp} {a ci : Nat} {q : vw_C} {r' : am_Rec} {As : List Value} {n idx d1 kc ks : Nat} {Q1 : am_Q} (hdg : decode r.2.1 pc = .ok (.invokespecial idx, 3)) (hm : am_mSU r.1.cls idx r' n) (hc : am_cl[ci]? = some q) (hT : hp_T M a = ci + 1) (hc9 : ci < 19) (hn : As.length = n) (hCT : am_CT G d1 r' (.ref a :: As) M kc ks Q1) (hs : As.reverse ++ .ref a :: rest = st) (hd : d1 + 1 ≤ d) (hkc : kc ≤ bc) (hks : ks ≤ bs) (hrest : (rest.map fun v => v.category).sum ≤ 8) (kk : ∀ (v : Option Value) (M' : am_Hp), Q1 (.inl v) M' → am_J X (pc + 3) lv (v.toList ++ rest) M' (bc - kc) (bs - ks)) (kx : ∀ (E : String) (M' : am_Hp), Q1 (.inr E) M' → am_Th X pc lv E M' (bc - kc) (bs - ks)) : am_J X pc lv st M bc bs := by
  obtain ⟨p, e, R, s, m, args, below, meth, c, Qf, nL, G', mc, ms, d'⟩ := X
  obtain ⟨hx, hb, hml, hown, hts, hU, hlk, htb, hmc, hms, hfr, hlo, hst, hnL, rfl, rfl⟩ := hX
  intro H locs cells slots ls h1 h2 h3 h4 h5
  subst hs
  obtain ⟨m1, m2, m3, m4, m5, m6, m7, m8⟩ := hm
  have hgi : GoodIn am_gt (am_ws r') := am_gi0 m1
  have hcw : Cond.code r'.1 r'.2.1 r'.2.2.1 r'.2.2.2.1 ∈ am_ws r' := by rw [am_ws0 m2]; exact List.mem_cons_self
  have CS : va_CS R s args r.1.cls idx r'.1 r'.2.1 r'.2.2.1 r'.2.2.2.1 (am_ws r') (am_room d1 kc ks) kc ks n := by
    refine ⟨⟨rfl, rfl, by show d1 + 10 + 1 ≤ R.frames; omega, by show 8 + (_ + 11) + (40 * d1 + 200) ≤ R.locals; have := m1.2.2.1; omega, pay_in hts hgi, hcw⟩, hts _ m4, hts _ m5, hts _ m6, hts _ m7, hts _ m1.2.1, hts _ (hgi _ hcw).1, m8, fun sig h => ?_⟩
    have h2 := m3
    unfold am_par at h2
    rw [h] at h2
    exact (Option.some.inj h2).symm
  refine am_on (d := d') (kc := kc) (ks := ks) (vx_runSU (g := F0 m pc ls _) (As := As) (rest := rest) (Ts := am_gt) (hU.1.1 ci q hc).2 ⟨hx, hb, hml, hown, hts⟩ (hCT hst) CS ⟨am_blind _ _ _, va_recv hU.1 (ws := [(a, .inr (ci, am_fs ci M a))]) (by have hP := h1.one (a := a) (by omega); rw [am_rl_obj hT hc9] at hP; exact hP) hc (q0 := 0) rfl, am_pre hU h1 h2⟩ rfl hn h5.1 rfl (lv_room (m := m) (pc := pc) (ls := ls) (rest := []) hrest) hdg ⟨by omega, by omega⟩) h2 h3 h4 h5 hkc hks kk kx
