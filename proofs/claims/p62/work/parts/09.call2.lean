/-! calls, handlers, and a contract from its body -/
/-- a method's record is the tables' -/
def am_mk (r : am_Rec) : Prop := am_code r ∈ am_gt ∧ Cond.initialized r.1.cls ∈ am_gt ∧ r.2.2.1 ≤ 20 ∧ plainName r.1.cls = true ∧ r.1.cls ≠ "java/lang/invoke/MethodHandle" ∧ r.1.cls ≠ "java/lang/invoke/VarHandle"
def am_par (r : am_Rec) (n : Nat) : Prop := (parseMethodDescriptor r.1.desc).map (fun d => d.parameters.length) = some n
theorem am_gi {pre : List Cond} {r : am_Rec} (hr : am_mk r) (hp : ∀ w ∈ pre, w ∈ am_gt) : GoodIn am_gt (pre ++ am_ws r) := by
  intro w hw
  have h : w ∈ am_gt := by
    rcases List.mem_append.mp hw with h | h
    · exact hp w h
    · rcases List.mem_cons.mp h with h | h
      · rw [h]; exact hr.1
      · exact h
  exact ⟨h, am_good h⟩
theorem am_gi0 {r : am_Rec} (hr : am_mk r) : GoodIn am_gt (am_ws r) := am_gi (pre := []) hr (fun w h => by cases h)
theorem am_ws0 {r : am_Rec} (hh : r.2.2.2.2 = []) : am_ws r = Cond.code r.1 r.2.1 r.2.2.1 r.2.2.2.1 :: am_gt := by
  unfold am_ws am_code
  rw [if_pos hh]
theorem am_ws1 {r : am_Rec} (hh : r.2.2.2.2 ≠ []) : am_ws r = Cond.codeWith r.1 r.2.1 r.2.2.1 r.2.2.2.1 r.2.2.2.2 :: am_gt := by
  unfold am_ws am_code
  rw [if_neg hh]
theorem am_blind (G : am_Gx) (as : List Value) (M : am_Hp) : FrameBlind (am_Pc G as M) := fun a U g mk h => ⟨h.1, h.2.1, am_U.moved (s := U) (U := U.calling g mk a) (State.WarmedH.refl U) (Nat.le_refl _) (fun _ _ _ => rfl) h.2.2⟩
theorem am_pre {G : am_Gx} {as : List Value} {M : am_Hp} {s : State} {H : Heap} {locs : List Loc} (hU : am_U G s) (h1 : am_H G M H) (h2 : va_S (am_A G) s.heap H locs) : ∀ U : State, U.heap = H → s.WarmedH U.vm → am_Pc G as M as.toArray U := fun U hUH hW => ⟨rfl, by rw [hUH]; exact h1, am_U.moved hW (by rw [hUH]; exact h2.1) (fun q a b => by rw [hUH]; exact h2.2.1 q a b) hU⟩
/-- behind a call -/
theorem am_on {p : Program} {e : Env} {R : Room} {s : State} {m : MethodId} {args a : Array Value} {below : List Frame} {meth : Method} {c : Code} {Qf : State → Prop} {nL : Nat} {G : am_Gx} {mc ms d pc bc bs kc ks cells slots : Nat} {H : Heap} {locs : List Loc} {ls : Array Slot} {lv : List (Nat × Value)} {st rest : List Value} {Q1 : am_Q} (hr : vx_Run p (gx_l G) e R s m args below meth c H locs cells slots kc ks (F0 m pc ls st) rest (am_Qc G Q1 a) (am_XC G Q1) (am_A G)) (h2 : va_S (am_A G) s.heap H locs) (h3 : cells + bc ≤ mc) (h4 : slots + bs ≤ ms) (h5 : lv_has ls nL lv) (hkc : kc ≤ bc) (hks : ks ≤ bs)
    (kk : ∀ (v : Option Value) (M' : am_Hp), Q1 (.inl v) M' → am_J (p, e, R, s, m, args, below, meth, c, Qf, nL, G, mc, ms, d) (pc + 3) lv (v.toList ++ rest) M' (bc - kc) (bs - ks)) (kx : ∀ (E : String) (M' : am_Hp), Q1 (.inr E) M' → am_Th (p, e, R, s, m, args, below, meth, c, Qf, nL, G, mc, ms, d) pc lv E M' (bc - kc) (bs - ks)) : W p (gx_l G) e R s m args below meth c H locs cells slots Qf (F0 m pc ls st) := by
  intro T hT X
  rcases hr T hT X with ⟨v, st₀, t, T', L, h0, X', hL, e1, e2, ⟨v', M', hv, hq, hH, hF⟩, hst⟩ | ⟨q, st₀, t, T', L, E, ce, h0, X', hL, e1, e2, ⟨M', hq, hH, hF⟩, hce, hcv, hcl, hst⟩
  · cases hv
    obtain ⟨k1, k2, k3⟩ := vx_keep h0 e1 h2 (fun _ _ h => h) (fun _ h => h) hL hF
    obtain ⟨t2, a1, b1⟩ := kk v M' hq T'.heap (locs ++ L) (cells + kc) (slots + ks) ls (by rw [e1]; exact hH) k3 (by omega) (by omega) h5 T' rfl X'
    exact ⟨t2, hst t2 a1, b1⟩
  · obtain ⟨k1, k2, k3⟩ := vx_keep h0 e1 h2 (fun _ _ h => h) (fun _ h => h) hL hF
    obtain ⟨t2, a1, b1⟩ := kx E M' hq T'.heap (locs ++ L) (cells + kc) (slots + ks) ls rest q ce (by rw [e1]; exact hH) k3 (by omega) (by omega) h5 (by rw [e1]; exact hce) hcv hcl T' rfl X'
    exact ⟨t2, hst.trans a1, b1⟩
def am_mV (own : String) (idx : Nat) (r : am_Rec) (C : String) (n : Nat) : Prop := am_mk r ∧ r.2.2.2.2 = [] ∧ am_par r n ∧ r.1.cls = C ∧ Cond.methodLink own idx r.1 ∈ am_gt ∧ Cond.instanceMethod r.1 ∈ am_gt ∧ Cond.selects C r.1 r.1 ∈ am_gt ∧ Cond.initialized C ∈ am_gt
def am_mS (own : String) (idx : Nat) (r : am_Rec) (n : Nat) : Prop := am_mk r ∧ am_par r n ∧ Cond.methodLink own idx r.1 ∈ am_gt ∧ Cond.static r.1 ∈ am_gt
def am_mI (own : String) (idx : Nat) (r : am_Rec) (n : Nat) : Prop := am_mk r ∧ r.2.2.2.2 = [] ∧ am_par r n ∧ Cond.methodLink own idx r.1 ∈ am_gt ∧ Cond.instanceMethod r.1 ∈ am_gt ∧ r.1.name = "<init>" ∧ r.2.2.2.1 = none
def am_mSN (own host : String) (idx : Nat) (r : am_Rec) (n : Nat) : Prop := am_mk r ∧ r.2.2.2.2 = [] ∧ am_par r n ∧ Cond.methodLinkNest own idx r.1 host ∈ am_nw ∧ Cond.static r.1 ∈ am_gt
def am_mIN (own host : String) (idx : Nat) (r : am_Rec) (n : Nat) : Prop := am_mk r ∧ r.2.2.2.2 = [] ∧ am_par r n ∧ Cond.methodLinkNest own idx r.1 host ∈ am_nw ∧ Cond.instanceMethod r.1 ∈ am_gt ∧ r.1.name = "<init>" ∧ r.2.2.2.1 = none
def am_mSU (own : String) (idx : Nat) (r : am_Rec) (n : Nat) : Prop := am_mk r ∧ r.2.2.2.2 = [] ∧ am_par r n ∧ Cond.methodLink own idx r.1 ∈ am_gt ∧ Cond.sameMethod r.1.cls r.1.cls r.1.name r.1.desc ∈ am_gt ∧ Cond.superclass own r.1.cls ∈ am_gt ∧ Cond.instanceMethod r.1 ∈ am_gt ∧ r.1.name ≠ "<init>"
def am_mU (own : String) (idx : Nat) (x : MethodName) (r : am_Rec) (C : String) (n : Nat) : Prop := am_mk r ∧ r.2.2.2.2 = [] ∧ (parseMethodDescriptor x.desc).map (fun d => d.parameters.length) = some n ∧ r.1 = ⟨r.1.cls, x.name, x.desc⟩ ∧ Cond.methodLink own idx x ∈ am_gt ∧ Cond.sameMethod x.cls r.1.cls x.name x.desc ∈ am_gt ∧ Cond.selects C x r.1 ∈ am_gt ∧ Cond.instanceMethod r.1 ∈ am_gt
theorem j_callV {X : am_Cx} {r : am_Rec} {G : am_Gx} {d : Nat} (hX : am_ok X r G d) {pc bc bs : Nat} {lv : List (Nat × Value)} {rest st : List Value} {M : am_Hp} {a ci : Nat} {q : vw_C} {r' : am_Rec} {As : List Value} {n idx d1 kc ks : Nat} {Q1 : am_Q} (hdg : decode r.2.1 pc = .ok (.invokevirtual idx, 3)) (hm : am_mV r.1.cls idx r' q.1 n) (hc : am_cl[ci]? = some q) (hT : hp_T M a = ci + 1) (hc9 : ci < 19) (hn : As.length = n) (hCT : am_CT G d1 r' (.ref a :: As) M kc ks Q1) (hs : As.reverse ++ .ref a :: rest = st) (hd : d1 + 1 ≤ d) (hkc : kc ≤ bc) (hks : ks ≤ bs) (hrest : (rest.map fun v => v.category).sum ≤ 8) (kk : ∀ (v : Option Value) (M' : am_Hp), Q1 (.inl v) M' → am_J X (pc + 3) lv (v.toList ++ rest) M' (bc - kc) (bs - ks)) (kx : ∀ (E : String) (M' : am_Hp), Q1 (.inr E) M' → am_Th X pc lv E M' (bc - kc) (bs - ks)) : am_J X pc lv st M bc bs := by
  obtain ⟨p, e, R, s, m, args, below, meth, c, Qf, nL, G', mc, ms, d'⟩ := X
  obtain ⟨hx, hb, hml, hown, hts, hU, hlk, htb, hmc, hms, hfr, hlo, hst, hnL, rfl, rfl⟩ := hX
  intro H locs cells slots ls h1 h2 h3 h4 h5
  subst hs
  refine am_on (d := d') (kc := kc) (ks := ks) (vx_runV (g := F0 m pc ls _) (As := As) (rest := rest) (Ts := am_gt) ⟨hx, hb, hml, hown, hts⟩ (hCT hst) (cwV (rm := am_room d1 kc ks) n hts (am_gi hm.1 (by obtain ⟨-, -, -, -, w1, w2, w3, w4⟩ := hm; intro w hw; simp only [List.mem_cons, List.not_mem_nil, or_false] at hw; rcases hw with rfl | rfl | rfl | rfl <;> assumption)) (am_ws0 hm.2.1) rfl rfl ⟨hm.2.2.2.1, hm.1.2.2.2.2.1, hm.1.2.2.2.2.2, hm.2.2.1⟩ ⟨by show d1 + 10 + 1 ≤ R.frames; omega, by show 8 + (_ + 11) + (40 * d1 + 200) ≤ R.locals; have := hm.1.2.2.1; omega⟩) ⟨am_blind _ _ _, va_recv hU.1 (ws := [(a, .inr (ci, am_fs ci M a))]) (by have hP := h1.one (a := a) (by omega); rw [am_rl_obj hT hc9] at hP; exact hP) hc (q0 := 0) rfl, am_pre hU h1 h2⟩ rfl hn h5.1 rfl (lv_room (m := m) (pc := pc) (ls := ls) (rest := []) hrest) hdg ⟨by omega, by omega⟩) h2 h3 h4 h5 hkc hks kk kx
theorem j_callVs {X : am_Cx} {r : am_Rec} {G : am_Gx} {d : Nat} (hX : am_ok X r G d) {pc bc bs : Nat} {lv : List (Nat × Value)} {rest st : List Value} {M : am_Hp} {a : Nat} {q : vw_C} {r' : am_Rec} {As : List Value} {n idx d1 kc ks : Nat} {Q1 : am_Q} (hdg : decode r.2.1 pc = .ok (.invokevirtual idx, 3)) (hm : am_mV r.1.cls idx r' q.1 n) (hc : am_cl[9]? = some q) (hT : hp_T M a = 40) (hn : As.length = n) (hCT : am_CT G d1 r' (.ref a :: As) M kc ks Q1) (hs : As.reverse ++ .ref a :: rest = st) (hd : d1 + 1 ≤ d) (hkc : kc ≤ bc) (hks : ks ≤ bs) (hrest : (rest.map fun v => v.category).sum ≤ 8) (kk : ∀ (v : Option Value) (M' : am_Hp), Q1 (.inl v) M' → am_J X (pc + 3) lv (v.toList ++ rest) M' (bc - kc) (bs - ks)) (kx : ∀ (E : String) (M' : am_Hp), Q1 (.inr E) M' → am_Th X pc lv E M' (bc - kc) (bs - ks)) : am_J X pc lv st M bc bs := by
  obtain ⟨p, e, R, s, m, args, below, meth, c, Qf, nL, G', mc, ms, d'⟩ := X
  obtain ⟨hx, hb, hml, hown, hts, hU, hlk, htb, hmc, hms, hfr, hlo, hst, hnL, rfl, rfl⟩ := hX
  intro H locs cells slots ls h1 h2 h3 h4 h5
  subst hs
  refine am_on (d := d') (kc := kc) (ks := ks) (vx_runV (g := F0 m pc ls _) (As := As) (rest := rest) (Ts := am_gt) ⟨hx, hb, hml, hown, hts⟩ (hCT hst) (cwV (rm := am_room d1 kc ks) n hts (am_gi hm.1 (by obtain ⟨-, -, -, -, w1, w2, w3, w4⟩ := hm; intro w hw; simp only [List.mem_cons, List.not_mem_nil, or_false] at hw; rcases hw with rfl | rfl | rfl | rfl <;> assumption)) (am_ws0 hm.2.1) rfl rfl ⟨hm.2.2.2.1, hm.1.2.2.2.2.1, hm.1.2.2.2.2.2, hm.2.2.1⟩ ⟨by show d1 + 10 + 1 ≤ R.frames; omega, by show 8 + (_ + 11) + (40 * d1 + 200) ≤ R.locals; have := hm.1.2.2.1; omega⟩) ⟨am_blind _ _ _, (by have hc' : (RJ0, TJ0, 4) = q := Option.some.inj hc; cases hc'; exact va_Orecv (((hU.2.2.2.2.2.2.2.2 a).2.2.1 (am_ss (k := 0) (b := true) h1.choose_spec.2.2.1 hT rfl).1).1) h2), am_pre hU h1 h2⟩ rfl hn h5.1 rfl (lv_room (m := m) (pc := pc) (ls := ls) (rest := []) hrest) hdg ⟨by omega, by omega⟩) h2 h3 h4 h5 hkc hks kk kx
theorem j_callS {X : am_Cx} {r : am_Rec} {G : am_Gx} {d : Nat} (hX : am_ok X r G d) {pc bc bs : Nat} {lv : List (Nat × Value)} {rest st : List Value} {M : am_Hp}  {r' : am_Rec} {As : List Value} {n idx d1 kc ks : Nat} {Q1 : am_Q} (hdg : decode r.2.1 pc = .ok (.invokestatic idx, 3)) (hm : am_mS r.1.cls idx r' n) (hh : r'.2.2.2.2 = []) (hn : As.length = n) (hCT : am_CT G d1 r' As M kc ks Q1) (hs : As.reverse ++ rest = st) (hd : d1 + 1 ≤ d) (hkc : kc ≤ bc) (hks : ks ≤ bs) (hrest : (rest.map fun v => v.category).sum ≤ 8) (kk : ∀ (v : Option Value) (M' : am_Hp), Q1 (.inl v) M' → am_J X (pc + 3) lv (v.toList ++ rest) M' (bc - kc) (bs - ks)) (kx : ∀ (E : String) (M' : am_Hp), Q1 (.inr E) M' → am_Th X pc lv E M' (bc - kc) (bs - ks)) : am_J X pc lv st M bc bs := by
  obtain ⟨p, e, R, s, m, args, below, meth, c, Qf, nL, G', mc, ms, d'⟩ := X
  obtain ⟨hx, hb, hml, hown, hts, hU, hlk, htb, hmc, hms, hfr, hlo, hst, hnL, rfl, rfl⟩ := hX
  intro H locs cells slots ls h1 h2 h3 h4 h5
  subst hs
  refine am_on (d := d') (kc := kc) (ks := ks) (vx_runS (g := F0 m pc ls _) (As := As) (rest := rest) (Ts := am_gt) ⟨hx, hb, hml, hown, hts⟩ (hCT hst) (va_cwS (rm := am_room d1 kc ks) n hts (am_gi hm.1 (by obtain ⟨⟨-, w0, -⟩, -, w1, w2⟩ := hm; intro w hw; simp only [List.mem_cons, List.not_mem_nil, or_false] at hw; rcases hw with rfl | rfl | rfl <;> assumption)) (am_ws0 hh) rfl rfl ⟨hm.1.2.2.2.2.1, hm.1.2.2.2.2.2, hm.2.1⟩ ⟨by show d1 + 10 + 1 ≤ R.frames; omega, by show 8 + (_ + 11) + (40 * d1 + 200) ≤ R.locals; have := hm.1.2.2.1; omega⟩) ⟨am_blind _ _ _, am_pre hU h1 h2⟩ rfl hn h5.1 rfl (lv_room (m := m) (pc := pc) (ls := ls) (rest := []) hrest) hdg ⟨by omega, by omega⟩) h2 h3 h4 h5 hkc hks kk kx
theorem j_callSX {X : am_Cx} {r : am_Rec} {G : am_Gx} {d : Nat} (hX : am_ok X r G d) {pc bc bs : Nat} {lv : List (Nat × Value)} {rest st : List Value} {M : am_Hp}  {r' : am_Rec} {As : List Value} {n idx d1 kc ks : Nat} {Q1 : am_Q} (hdg : decode r.2.1 pc = .ok (.invokestatic idx, 3)) (hm : am_mS r.1.cls idx r' n) (hh : r'.2.2.2.2 ≠ []) (hn : As.length = n) (hCT : am_CT G d1 r' As M kc ks Q1) (hs : As.reverse ++ rest = st) (hd : d1 + 1 ≤ d) (hkc : kc ≤ bc) (hks : ks ≤ bs) (hrest : (rest.map fun v => v.category).sum ≤ 8) (kk : ∀ (v : Option Value) (M' : am_Hp), Q1 (.inl v) M' → am_J X (pc + 3) lv (v.toList ++ rest) M' (bc - kc) (bs - ks)) (kx : ∀ (E : String) (M' : am_Hp), Q1 (.inr E) M' → am_Th X pc lv E M' (bc - kc) (bs - ks)) : am_J X pc lv st M bc bs := by
  obtain ⟨p, e, R, s, m, args, below, meth, c, Qf, nL, G', mc, ms, d'⟩ := X
  obtain ⟨hx, hb, hml, hown, hts, hU, hlk, htb, hmc, hms, hfr, hlo, hst, hnL, rfl, rfl⟩ := hX
  intro H locs cells slots ls h1 h2 h3 h4 h5
  subst hs
  refine am_on (d := d') (kc := kc) (ks := ks) (vx_runSX (g := F0 m pc ls _) (As := As) (rest := rest) (Ts := am_gt) ⟨hx, hb, hml, hown, hts⟩ (hCT hst) (vx_cwSW (rm := am_room d1 kc ks) n hts (am_gi hm.1 (by obtain ⟨⟨-, w0, -⟩, -, w1, w2⟩ := hm; intro w hw; simp only [List.mem_cons, List.not_mem_nil, or_false] at hw; rcases hw with rfl | rfl | rfl <;> assumption)) (am_ws1 hh) rfl rfl ⟨hm.1.2.2.2.2.1, hm.1.2.2.2.2.2, hm.2.1⟩ ⟨by show d1 + 10 + 1 ≤ R.frames; omega, by show 8 + (_ + 11) + (40 * d1 + 200) ≤ R.locals; have := hm.1.2.2.1; omega⟩) ⟨am_blind _ _ _, am_pre hU h1 h2⟩ rfl hn h5.1 rfl (lv_room (m := m) (pc := pc) (ls := ls) (rest := []) hrest) hdg ⟨by omega, by omega⟩) h2 h3 h4 h5 hkc hks kk kx
theorem j_callI {X : am_Cx} {r : am_Rec} {G : am_Gx} {d : Nat} (hX : am_ok X r G d) {pc bc bs : Nat} {lv : List (Nat × Value)} {rest st : List Value} {M : am_Hp} {a : Nat} {r' : am_Rec} {As : List Value} {n idx d1 kc ks : Nat} {Q1 : am_Q} (hdg : decode r.2.1 pc = .ok (.invokespecial idx, 3)) (hm : am_mI r.1.cls idx r' n) (hn : As.length = n) (hCT : am_CT G d1 r' (.ref a :: As) M kc ks Q1) (hs : As.reverse ++ .ref a :: rest = st) (hd : d1 + 1 ≤ d) (hkc : kc ≤ bc) (hks : ks ≤ bs) (hrest : (rest.map fun v => v.category).sum ≤ 8) (kk : ∀ (v : Option Value) (M' : am_Hp), Q1 (.inl v) M' → am_J X (pc + 3) lv (v.toList ++ rest) M' (bc - kc) (bs - ks)) (kx : ∀ (E : String) (M' : am_Hp), Q1 (.inr E) M' → am_Th X pc lv E M' (bc - kc) (bs - ks)) : am_J X pc lv st M bc bs := by
  obtain ⟨p, e, R, s, m, args, below, meth, c, Qf, nL, G', mc, ms, d'⟩ := X
  obtain ⟨hx, hb, hml, hown, hts, hU, hlk, htb, hmc, hms, hfr, hlo, hst, hnL, rfl, rfl⟩ := hX
  intro H locs cells slots ls h1 h2 h3 h4 h5
  subst hs
  refine am_on (d := d') (kc := kc) (ks := ks) (vx_runI (g := F0 m pc ls _) (As := As) (rest := rest) (Ts := am_gt) ⟨hx, hb, hml, hown, hts⟩ (hCT hst) (cwI (rm := am_room d1 kc ks) n hts (am_gi0 hm.1) ((am_ws0 hm.2.1).trans (by rw [hm.2.2.2.2.2.2])) rfl rfl (hts _ hm.1.2.1) (hts _ hm.2.2.2.1) (hts _ hm.2.2.2.2.1) hm.2.2.2.2.2.1 ⟨hm.1.2.2.2.2.1, hm.1.2.2.2.2.2, hm.2.2.1⟩ ⟨by show d1 + 10 + 1 ≤ R.frames; omega, by show 8 + (_ + 11) + (40 * d1 + 200) ≤ R.locals; have := hm.1.2.2.1; omega⟩) ⟨am_blind _ _ _, am_pre hU h1 h2⟩ rfl hn h5.1 rfl (lv_room (m := m) (pc := pc) (ls := ls) (rest := []) hrest) hdg ⟨by omega, by omega⟩) h2 h3 h4 h5 hkc hks kk kx
theorem j_callSN {X : am_Cx} {r : am_Rec} {G : am_Gx} {d : Nat} (hX : am_ok X r G d) {pc bc bs : Nat} {lv : List (Nat × Value)} {rest st : List Value} {M : am_Hp} {host : String} {r' : am_Rec} {As : List Value} {n idx d1 kc ks : Nat} {Q1 : am_Q} (hdg : decode r.2.1 pc = .ok (.invokestatic idx, 3)) (hm : am_mSN r.1.cls host idx r' n) (hn : As.length = n) (hCT : am_CT G d1 r' As M kc ks Q1) (hs : As.reverse ++ rest = st) (hd : d1 + 1 ≤ d) (hkc : kc ≤ bc) (hks : ks ≤ bs) (hrest : (rest.map fun v => v.category).sum ≤ 8) (kk : ∀ (v : Option Value) (M' : am_Hp), Q1 (.inl v) M' → am_J X (pc + 3) lv (v.toList ++ rest) M' (bc - kc) (bs - ks)) (kx : ∀ (E : String) (M' : am_Hp), Q1 (.inr E) M' → am_Th X pc lv E M' (bc - kc) (bs - ks)) : am_J X pc lv st M bc bs := by
  obtain ⟨p, e, R, s, m, args, below, meth, c, Qf, nL, G', mc, ms, d'⟩ := X
  obtain ⟨hx, hb, hml, hown, hts, hU, hlk, htb, hmc, hms, hfr, hlo, hst, hnL, rfl, rfl⟩ := hX
  intro H locs cells slots ls h1 h2 h3 h4 h5
  subst hs
  refine am_on (d := d') (kc := kc) (ks := ks) (vx_runSN (g := F0 m pc ls _) (As := As) (rest := rest) (Ts := am_gt) ⟨hx, hb, hml, hown, hts⟩ (hCT hst) ⟨va_cnB (rm := am_room d1 kc ks) n hts (am_gi0 hm.1) (am_ws0 hm.2.1) rfl rfl (hU.2.2.1 _ hm.2.2.2.1) (hts _ hm.1.2.1) ⟨hm.1.2.2.2.2.1, hm.1.2.2.2.2.2, hm.2.2.1⟩ ⟨by show d1 + 10 + 1 ≤ R.frames; omega, by show 8 + (_ + 11) + (40 * d1 + 200) ≤ R.locals; have := hm.1.2.2.1; omega⟩, hts _ hm.2.2.2.2, trivial⟩ ⟨am_blind _ _ _, am_pre hU h1 h2⟩ rfl hn h5.1 rfl (lv_room (m := m) (pc := pc) (ls := ls) (rest := []) hrest) hdg ⟨by omega, by omega⟩) h2 h3 h4 h5 hkc hks kk kx
theorem j_callIN {X : am_Cx} {r : am_Rec} {G : am_Gx} {d : Nat} (hX : am_ok X r G d) {pc bc bs : Nat} {lv : List (Nat × Value)} {rest st : List Value} {M : am_Hp} {a : Nat} {host : String} {r' : am_Rec} {As : List Value} {n idx d1 kc ks : Nat} {Q1 : am_Q} (hdg : decode r.2.1 pc = .ok (.invokespecial idx, 3)) (hm : am_mIN r.1.cls host idx r' n) (hn : As.length = n) (hCT : am_CT G d1 r' (.ref a :: As) M kc ks Q1) (hs : As.reverse ++ .ref a :: rest = st) (hd : d1 + 1 ≤ d) (hkc : kc ≤ bc) (hks : ks ≤ bs) (hrest : (rest.map fun v => v.category).sum ≤ 8) (kk : ∀ (v : Option Value) (M' : am_Hp), Q1 (.inl v) M' → am_J X (pc + 3) lv (v.toList ++ rest) M' (bc - kc) (bs - ks)) (kx : ∀ (E : String) (M' : am_Hp), Q1 (.inr E) M' → am_Th X pc lv E M' (bc - kc) (bs - ks)) : am_J X pc lv st M bc bs := by
  obtain ⟨p, e, R, s, m, args, below, meth, c, Qf, nL, G', mc, ms, d'⟩ := X
  obtain ⟨hx, hb, hml, hown, hts, hU, hlk, htb, hmc, hms, hfr, hlo, hst, hnL, rfl, rfl⟩ := hX
  intro H locs cells slots ls h1 h2 h3 h4 h5
  subst hs
  refine am_on (d := d') (kc := kc) (ks := ks) (vx_runIN (g := F0 m pc ls _) (As := As) (rest := rest) (Ts := am_gt) ⟨hx, hb, hml, hown, hts⟩ (hCT hst) ⟨va_cnB (rm := am_room d1 kc ks) n hts (am_gi0 hm.1) ((am_ws0 hm.2.1).trans (by rw [hm.2.2.2.2.2.2])) rfl rfl (hU.2.2.1 _ hm.2.2.2.1) (hts _ hm.1.2.1) ⟨hm.1.2.2.2.2.1, hm.1.2.2.2.2.2, hm.2.2.1⟩ ⟨by show d1 + 10 + 1 ≤ R.frames; omega, by show 8 + (_ + 11) + (40 * d1 + 200) ≤ R.locals; have := hm.1.2.2.1; omega⟩, hm.2.2.2.2.2.1, hts _ hm.2.2.2.2.1⟩ ⟨am_blind _ _ _, am_pre hU h1 h2⟩ rfl hn h5.1 rfl (lv_room (m := m) (pc := pc) (ls := ls) (rest := []) hrest) hdg ⟨by omega, by omega⟩) h2 h3 h4 h5 hkc hks kk kx
/-- an exception that is not caught here -/
theorem am_thOut {X : am_Cx} {r : am_Rec} {G : am_Gx} {d : Nat} (hX : am_ok X r G d) {pc bc bs : Nat} {lv : List (Nat × Value)} {M : am_Hp} {Q : am_Q} (hM : am_me X r Q) {E : String} (hh : r.2.2.2.2 = []) (hq : Q (.inr E) M) : am_Th X pc lv E M bc bs := by
  obtain ⟨p, e, R, s, m, args, below, meth, c, Qf, nL, G', mc, ms, d'⟩ := X
  obtain ⟨hx, hb, hml, hown, hts, hU, hlk, htb, hmc, hms, hfr, hlo, hst, hnL, rfl, rfl⟩ := hX
  intro H locs cells slots ls rest q ce h1 h2 h3 h4 h5 h6 h7 h8
  obtain ⟨rfl, hr1, -⟩ := hM
  exact vx_out (by rw [htb, hh]; intro x hx9; cases hx9) hlk h6 h7 h8 (fun t ht hA => ⟨M, hq, by rw [ht]; exact h1, h2.F ht⟩) h2.2.2 (by omega) (by omega)
/-- caught by a row of this method's table -/
theorem am_thIn {X : am_Cx} {r : am_Rec} {G : am_Gx} {d : Nat} (hX : am_ok X r G d) {pc bc bs : Nat} {lv : List (Nat × Value)} {M : am_Hp} {E name : String} (pre : List (Nat × Nat × Nat × Nat)) (x : Nat × Nat × Nat × Nat) (suf : List (Nat × Nat × Nat × Nat)) (hh : r.2.2.2.2 = pre ++ x :: suf) (hpass : ∀ z ∈ pre, z.2.2.2 ≠ 0 ∧ ∃ nm : String, Cond.classLink r.1.cls z.2.2.2 nm ∈ am_gt ∧ (E, nm) ∈ am_nc) (hcov : covers ⟨x.1, x.2.1, x.2.2.1, x.2.2.2⟩ pc = true) (h0 : x.2.2.2 ≠ 0) (hlink : Cond.classLink r.1.cls x.2.2.2 name ∈ am_gt) (hcast : Cond.castable E name ∈ am_gt ∨ Cond.castable E name ∈ am_nw) (kk : ∀ q : Nat, am_J X x.2.2.1 lv [.ref q] M bc bs) : am_Th X pc lv E M bc bs := by
  obtain ⟨p, e, R, s, m, args, below, meth, c, Qf, nL, G', mc, ms, d'⟩ := X
  obtain ⟨hx, hb, hml, hown, hts, hU, hlk, htb, hmc, hms, hfr, hlo, hst, hnL, rfl, rfl⟩ := hX
  intro H locs cells slots ls rest q ce h1 h2 h3 h4 h5 h6 h7 h8
  refine vx_catch (name := name) hown (tableOf pre) ⟨x.1, x.2.1, x.2.2.1, x.2.2.2⟩ (tableOf suf) (by rw [htb, hh]; simp [tableOf]) (fun z hz => ?_) hcov h0 (hts _ hlink) (am_word hts hU hcast) h6 h7 h8 (kk q H locs cells slots ls h1 h2 h3 h4 h5)
  obtain ⟨y, hy, rfl⟩ := List.mem_map.mp hz
  obtain ⟨g1, nm, g2, g3⟩ := hpass y hy
  exact Or.inr ⟨g1, nm, hts _ g2, hU.2.2.2.2.2.2.2.1 _ g3⟩
/-- a contract from its body -/
theorem am_intro {G : am_Gx} {d : Nat} {r : am_Rec} {as : List Value} {M : am_Hp} {mc ms : Nat} {Q : am_Q} {lv : List (Nat × Value)} (hr : am_mk r) (hh : r.2.2.2.2 = []) (hl : (lg_sl as).length ≤ r.2.2.1) (hlv : lv_args 0 as = lv) (body : ∀ X : am_Cx, am_ok X r G d → am_me X r Q → am_J X 0 lv [] M mc ms) : am_CT G d r as M mc ms Q := by
  intro hst
  subst hlv
  refine vx_ofW (cc := r.2.1) (maxL := r.2.2.1) (ret := r.2.2.2.1) hr.2.2.2.1 (am_ws0 hh) ?_
  intro p e s m args below meth c s₁ B hml ht hP
  obtain ⟨rfl, hH, hU⟩ := hP
  have hts := atoms_spec (ws := am_ws r) B.pre
  have htb : c.exceptionTable.toList = tableOf r.2.2.2.2 := by
    rw [hh]
    cases hq : c.exceptionTable.toList with
    | nil => rfl
    | cons x t => exact (ht x (by rw [hq]; exact List.mem_cons_self)).elim
  have hb := body (p, e, am_room d mc ms, s, m, as.toArray, below, meth, c, vx_MQ below (am_Qc G Q) (am_XC G Q) as.toArray s mc ms (am_A G), r.2.2.1, G, mc, ms, d) ⟨B.exec, B.bytes, hml, findClass_of_methodNamed B.named, fun w hw => hts w (List.mem_cons_of_mem _ hw), hU, B.notSynchronized, htb, Nat.le_refl _, Nat.le_refl _, Nat.le_refl _, Nat.le_refl _, hst, rfl, rfl, rfl⟩ ⟨rfl, B.returns, (name_of_methodNamed B.named B.method).1⟩
  rw [lg_entry_eq]
  exact hb s.heap [] 0 0 _ hH va_S.rf (by omega) (by omega) (lv_entry as hl)
/-- .. of a method with a table of handlers -/
theorem am_introH {G : am_Gx} {d : Nat} {r : am_Rec} {as : List Value} {M : am_Hp} {mc ms : Nat} {Q : am_Q} {lv : List (Nat × Value)} (hr : am_mk r) (hh : r.2.2.2.2 ≠ []) (hl : (lg_sl as).length ≤ r.2.2.1) (hlv : lv_args 0 as = lv) (body : ∀ X : am_Cx, am_ok X r G d → am_me X r Q → am_J X 0 lv [] M mc ms) : am_CT G d r as M mc ms Q := by
  intro hst
  subst hlv
  refine vx_ofWH (cc := r.2.1) (maxL := r.2.2.1) (ret := r.2.2.2.1) (hh := r.2.2.2.2) hr.2.2.2.1 (am_ws1 hh) ?_
  intro p e s m args below meth c s₁ B hml hP
  obtain ⟨rfl, hH, hU⟩ := hP
  have hts := atoms_spec (ws := am_ws r) B.pre
  have htb : c.exceptionTable.toList = tableOf r.2.2.2.2 := vx_table (x := r.1) B (hts _ (by rw [am_ws1 hh]; exact List.mem_cons_self))
  have hb := body (p, e, am_room d mc ms, s, m, as.toArray, below, meth, c, vx_MQ below (am_Qc G Q) (am_XC G Q) as.toArray s mc ms (am_A G), r.2.2.1, G, mc, ms, d) ⟨B.exec, B.bytes, hml, findClass_of_methodNamed B.named, fun w hw => hts w (List.mem_cons_of_mem _ hw), hU, B.notSynchronized, htb, Nat.le_refl _, Nat.le_refl _, Nat.le_refl _, Nat.le_refl _, hst, rfl, rfl, rfl⟩ ⟨rfl, B.returns, (name_of_methodNamed B.named B.method).1⟩
  rw [lg_entry_eq]
  exact hb s.heap [] 0 0 _ hH va_S.rf (by omega) (by omega) (lv_entry as hl)
theorem am_CT.mono {G : am_Gx} {d : Nat} {r : am_Rec} {as : List Value} {M : am_Hp} {mc ms : Nat} {Q Q' : am_Q} (h : ∀ o M', Q o M' → Q' o M') (hC : am_CT G d r as M mc ms Q) : am_CT G d r as M mc ms Q' := by
  intro hst p e ha hc hk s m args below hf happ hP hK
  obtain ⟨n, o, h1, h2, h3, h4⟩ := hC hst p e ha hc hk s m args below hf happ hP hK
  refine ⟨n, o, h1, h2, h3, ?_⟩
  rcases h4 with ⟨⟨v, M', g1, g2, g3⟩, hF⟩ | ⟨q, g1, E, ce, L, ⟨M', g2, g3⟩, g4⟩
  · exact Or.inl ⟨⟨v, M', g1, h _ _ g2, g3⟩, hF⟩
  · exact Or.inr ⟨q, g1, E, ce, L, ⟨M', h _ _ g2, g3⟩, g4⟩
