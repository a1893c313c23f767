/-! THE JUDGEMENT am_J: 'from this pc, these locals, this stack, over the abstract heap M, the machine comes to its end', with all of the machine packed into one tuple X; CT: a method's contract over the abstract heap. -/
abbrev am_Rec : Type := MethodName × ByteArray × Nat × Option FieldType × List (Nat × Nat × Nat × Nat)
abbrev am_Q : Type := (Option Value ⊕ String) → am_Hp → Prop
abbrev am_Gx : Type := va_G × (Nat → ClassId) × Nat × am_Hp × (String → Nat → Nat) × Launch × List (String × String × String × Value)
def gx_D (G : am_Gx) : va_G := G.1
def gx_cy (G : am_Gx) : Nat → ClassId := G.2.1
def gx_b (G : am_Gx) : Nat := G.2.2.1
/-- what is only read: the cells from tag 40 on, as they stand at the start -/
def gx_M (G : am_Gx) : am_Hp := G.2.2.2.1
def gx_s (G : am_Gx) : String → Nat → Nat := G.2.2.2.2.1
def gx_l (G : am_Gx) : Launch := G.2.2.2.2.2.1
def gx_z (G : am_Gx) : List (String × String × String × Value) := G.2.2.2.2.2.2
def am_A (G : am_Gx) : Nat → Prop := fun q => gx_b G ≤ q
def am_isN : Cond → Bool
  | .methodLinkNest _ _ _ _ => true
  | .fieldLinkNest _ _ _ _ _ _ => true
  | .castable _ _ => true
  | .privateMethod _ => true
  | .declares _ => true
  | .arrayOver (.object _) => true
  | .arrayOver (.array _) => true
  | _ => false
def am_gt : List Cond := lw_tbl.filter goodWord
def am_nw : List Cond := lw_tbl.filter am_isN
theorem am_in {w : Cond} (h : w ∈ lw_tbl) (g : goodWord w = true) : w ∈ am_gt := List.mem_filter.mpr ⟨h, g⟩
theorem am_inN {w : Cond} (h : w ∈ lw_tbl) (g : am_isN w = true) : w ∈ am_nw := List.mem_filter.mpr ⟨h, g⟩
theorem am_good {w : Cond} (h : w ∈ am_gt) : (w.onTables && w.keeps) = true ∨ ∃ ty, w = .arrayClass ty := good_of_word (List.mem_filter.mp h).2
/-- the String constants that throws name: owner, pool entry, text -/
def am_st : List (String × Nat × String) := lw_tbl.filterMap (fun w => match w with | .stringRef o k t => some (o, k, t) | _ => none)
/-- classes of exceptions, and handlers that don't take them -/
def am_nc : List (String × String) := [("java/lang/UnsupportedOperationException", "java/lang/IllegalStateException"), ("java/lang/IllegalArgumentException", "java/lang/IllegalStateException"), ("java/lang/IllegalArgumentException", "java/lang/UnsupportedOperationException"), ("java/lang/IndexOutOfBoundsException", "java/lang/IllegalStateException"), ("java/lang/IndexOutOfBoundsException", "java/lang/UnsupportedOperationException"), ("java/lang/IndexOutOfBoundsException", "java/lang/IllegalArgumentException"), ("java/lang/IllegalStateException", "java/lang/IllegalArgumentException")]
def am_code (r : am_Rec) : Cond := if r.2.2.2.2 = [] then .code r.1 r.2.1 r.2.2.1 r.2.2.2.1 else .codeWith r.1 r.2.1 r.2.2.1 r.2.2.2.1 r.2.2.2.2
def am_ws (r : am_Rec) : List Cond := am_code r :: am_gt
/-- the cells that are only read are as at the start -/
def am_same (G : am_Gx) (M : am_Hp) : Prop := ∀ a, 40 ≤ hp_T M a → hp_T (gx_M G) a = hp_T M a ∧ am_rl (gx_cy G) M a = am_rl (gx_cy G) (gx_M G) a
/-- .. and so the machine has them -/
def am_O (G : am_Gx) (U : State) : Prop := ∀ a, (hp_T (gx_M G) a = 41 → va_T .byte a (hp_N (gx_M G) a) (fun j => .int (hp_E (gx_M G) a j)) (am_A G) U U.heap) ∧ (hp_T (gx_M G) a = 42 → va_T .int a (hp_N (gx_M G) a) (fun j => .int (hp_E (gx_M G) a j)) (am_A G) U U.heap) ∧ (hp_T (gx_M G) a = 40 → va_O RJ0 a (am_A G) U U.heap ∧ va_OF (TJ0 0).1 (TJ0 0).2.1 (TJ0 0).2.2.1 (.ref (hp_R (gx_M G) 180 a)) a (am_A G) U U.heap ∧ va_OF (TJ0 1).1 (TJ0 1).2.1 (TJ0 1).2.2.1 (.int (hp_I (gx_M G) 181 a)) a (am_A G) U U.heap) ∧ (hp_T (gx_M G) a = 43 → va_T (.object "java/lang/Object") a (hp_N (gx_M G) a) (fun _ => .null) (am_A G) U U.heap) ∧ va_Mi "[Ljava/lang/Object;" (gx_s G "" 0) U ∧ va_Fw "java/util/ArrayList$Itr" ⟨"java/util/Iterator", "hasNext", "()Z"⟩ ⟨"java/util/ArrayList$Itr", "hasNext", "()Z"⟩ U ∧ va_Fw "java/util/ArrayList$Itr" ⟨"java/util/Iterator", "next", "()Ljava/lang/Object;"⟩ ⟨"java/util/ArrayList$Itr", "next", "()Ljava/lang/Object;"⟩ U
/-- the abstract heap holds -/
def am_H (G : am_Gx) (M : am_Hp) (H : Heap) : Prop := ∃ L : List Nat, va_P (gx_D G) am_cl (va_pl L (am_rl (gx_cy G) M)) H ∧ va_D (am_A G) (va_pl L (am_rl (gx_cy G) M)) ∧ am_same G M ∧ (∀ a, 0 < hp_T M a → hp_T M a < 40 → a ∈ L) ∧ (∀ a, 40 ≤ hp_T M a → a < gx_b G) ∧ True ∧ (∀ a ∈ L, 0 < hp_T M a ∧ hp_T M a < 40) ∧ 0 < gx_b G
/-- what the launch, its tables and the cells below gx_b say -/
def am_U (G : am_Gx) (U : State) : Prop := va_K (gx_D G) am_cl (am_tys (gx_cy G)) U ∧ gx_b G ≤ U.heap.size ∧ (∀ w ∈ am_nw, va_Nw w U) ∧ (∀ q ∈ am_st, vk_R q.1 q.2.1 q.2.2 (gx_s G q.1 q.2.1) U) ∧ (∀ z ∈ gx_z G, va_Z z.1 z.2.1 z.2.2.1 z.2.2.2 (am_A G) U U.heap) ∧ vx_Zq Bundle.tN "UNASSIGNED_STACK" Bundle.steD (am_A G) U U.heap ∧ vx_Zq Bundle.tN "SUPPRESSED_SENTINEL" Bundle.listD (am_A G) U U.heap ∧ (∀ q ∈ am_nc, va_Nc q.1 q.2 U) ∧ am_O G U
def am_Qc (G : am_Gx) (Q : am_Q) : Array Value → State → Outcome → State → Prop := fun _ st o t => ∃ (v : Option Value) (M' : am_Hp), o = .returned v ∧ Q (.inl v) M' ∧ am_H G M' t.heap ∧ va_F (am_A G) st t
def am_XC (G : am_Gx) (Q : am_Q) : String → State → State → Prop := fun E st t => ∃ M' : am_Hp, Q (.inr E) M' ∧ am_H G M' t.heap ∧ va_F (am_A G) st t
def am_room (d mc ms : Nat) : Room := { frames := d + 10, cells := mc, slots := ms, locals := 40 * d + 200 }
def am_Pc (G : am_Gx) (as : List Value) (M : am_Hp) : Array Value → State → Prop := fun v U => v = as.toArray ∧ am_H G M U.heap ∧ am_U G U
/-- the contract of the method r, called with as over M, in depth d, with mc cells and ms slots to make: it ends with Q -/
def am_CT (G : am_Gx) (d : Nat) (r : am_Rec) (as : List Value) (M : am_Hp) (mc ms : Nat) (Q : am_Q) : Prop :=
  (gx_l G).stackTraces = false → vx_Met (gx_l G) r.1 (am_ws r) (am_room d mc ms) (am_Pc G as M) (am_Qc G Q) (am_XC G Q) mc ms (am_A G)
abbrev am_Cx : Type := Program × Env × Room × State × MethodId × Array Value × List Frame × Method × Code × (State → Prop) × Nat × am_Gx × Nat × Nat × Nat
def am_J : am_Cx → Nat → List (Nat × Value) → List Value → am_Hp → Nat → Nat → Prop
  | (p, e, R, s, m, args, below, meth, c, Qf, nL, G, mc, ms, _), pc, lv, st, M, bc, bs => ∀ (H : Heap) (locs : List Loc) (cells slots : Nat) (ls : Array Slot), am_H G M H → va_S (am_A G) s.heap H locs → cells + bc ≤ mc → slots + bs ≤ ms → lv_has ls nL lv → W p (gx_l G) e R s m args below meth c H locs cells slots Qf (F0 m pc ls st)
/-- an exception of class E stands thrown at pc -/
def am_Th : am_Cx → Nat → List (Nat × Value) → String → am_Hp → Nat → Nat → Prop
  | (p, e, R, s, m, args, below, meth, c, Qf, nL, G, mc, ms, _), pc, lv, E, M, bc, bs => ∀ (H : Heap) (locs : List Loc) (cells slots : Nat) (ls : Array Slot) (rest : List Value) (q : Nat) (ce : Cell), am_H G M H → va_S (am_A G) s.heap H locs → cells + bc ≤ mc → slots + bs ≤ ms → lv_has ls nL lv → H[q]? = some ce → ce.vm = .none → s.vm.findClass E = some ce.cls → vx_W p (gx_l G) e R s m args below meth c H locs cells slots Qf (F0 m pc ls rest) q
/-- the context: the body of r, at depth d -/
def am_ok : am_Cx → am_Rec → am_Gx → Nat → Prop
  | (p, e, R, s, m, args, below, meth, c, Qf, nL, G', mc, ms, d'), r, G, d => p.tables.exec = Jvm.exec ∧ c.code = r.2.1 ∧ c.maxLocals = nL ∧ s.vm.findClass r.1.cls = some m.cls ∧ (∀ w ∈ am_gt, w.before args s = true) ∧ am_U G s ∧ meth.locks = false ∧ c.exceptionTable.toList = tableOf r.2.2.2.2 ∧ mc ≤ R.cells ∧ ms ≤ R.slots ∧ d + 10 ≤ R.frames ∧ 40 * d + 200 ≤ R.locals ∧ (gx_l G).stackTraces = false ∧ nL = r.2.2.1 ∧ G' = G ∧ d' = d
/-- .. which ends with Q -/
def am_me : am_Cx → am_Rec → am_Q → Prop
  | (p, e, R, s, m, args, below, meth, c, Qf, nL, G, mc, ms, _), r, Q => Qf = vx_MQ below (am_Qc G Q) (am_XC G Q) args s mc ms (am_A G) ∧ meth.sig.returnType = r.2.2.2.1 ∧ meth.name = r.1.name
/-! the abstract heap, read and changed -/
theorem am_AOm {ty : FieldType} {s U : State} (hg : am_isN (.arrayOver ty) = true) (hW : s.WarmedH U.vm) (h : va_Nw (.arrayOver ty) s) : va_Nw (.arrayOver ty) U := by
  cases ty with
  | object C => exact va_AO.moved (C := C) hW.alike h
  | array t => exact Jvm.Stand.arrayOver_alikeB hW.alike h
  | _ => cases hg
theorem am_U.moved {G : am_Gx} {s U : State} (hW : s.WarmedH U.vm) (hz : s.heap.size ≤ U.heap.size) (hk : ∀ q : Nat, q < s.heap.size → ¬ am_A G q → U.heap[q]? = s.heap[q]?) (h : am_U G s) : am_U G U := by
  obtain ⟨h1, h2, h3, h4, h5, h6, h7, h8, h10⟩ := h
  refine ⟨va_K.moved hW.alike h1, Nat.le_trans h2 hz, fun w hw => ?_, fun q hq => vk_R.warm hW (h4 q hq), fun z hz => va_Z.kept (va_Z.moved hW.alike (h5 z hz)) hk, vx_Zq.kept (vx_Zq.moved hW.alike h6) hk, vx_Zq.kept (vx_Zq.moved hW.alike h7) hk, fun q hq => va_Nc.moved hW.alike (h8 q hq), fun a => ⟨fun t => va_T.kept (va_T.moved hW.alike ((h10 a).1 t)) hk, fun t => va_T.kept (va_T.moved hW.alike ((h10 a).2.1 t)) hk, fun t => ⟨va_O.kept (va_O.moved hW.alike ((h10 a).2.2.1 t).1) hk, va_OF.kept (va_OF.moved hW.alike ((h10 a).2.2.1 t).2.1) hk, va_OF.kept (va_OF.moved hW.alike ((h10 a).2.2.1 t).2.2) hk⟩, fun t => va_T.kept (va_T.moved hW.alike ((h10 a).2.2.2.1 t)) hk, va_Mi.moved hW.alike (h10 a).2.2.2.2.1, va_Fw.moved ⟨by decide, by decide⟩ hW.alike (h10 a).2.2.2.2.2.1, va_Fw.moved ⟨by decide, by decide⟩ hW.alike (h10 a).2.2.2.2.2.2⟩⟩
  have hg := (List.mem_filter.mp hw).2
  have h9 := h3 w hw
  cases w <;> first | exact va_Nw.warmM hW h9 | exact va_Nw.warmF hW h9 | exact va_Nw.warmC hW h9 | exact am_AOm hg hW h9 | exact va_Nw.warmD hW h9 | exact Cond.privateMethod_warm hW h9 | (cases hg)
theorem am_H.one {G : am_Gx} {M : am_Hp} {H : Heap} {a : Nat} (h : am_H G M H) (ha : 0 < hp_T M a) (h40 : hp_T M a < 40 := by omega) : va_P (gx_D G) am_cl [(a, am_rl (gx_cy G) M a)] H := by
  obtain ⟨L, hP, hD, hPX, hT, hTX, -⟩ := h
  intro k q hk
  have hk0 : k = 0 := by
    have := (List.getElem?_eq_some_iff.mp hk).1
    simp at this
    exact this
  subst hk0
  cases hk
  obtain ⟨i, hi⟩ := va_pl_get (X := []) (f := am_rl (gx_cy G) M) (hT a ha h40)
  exact hP i _ hi
/-- the pool's place of an address that may be written -/
theorem am_H.put {G : am_Gx} {M M' : am_Hp} {s : State} {H H1 : Heap} {locs locs1 : List Loc} {a k : Nat} {e : va_E} {L : List Nat} (hb : gx_b G ≤ s.heap.size) (hD : va_D (am_A G) (va_pl L (am_rl (gx_cy G) M))) (hPX : am_same G M) (hT : ∀ a, 0 < hp_T M a → hp_T M a < 40 → a ∈ L) (hTX : ∀ a, 40 ≤ hp_T M a → a < gx_b G) (hX : True) (hL : ∀ a ∈ L, 0 < hp_T M a ∧ hp_T M a < 40) (h0 : 0 < gx_b G) (ha : a ∈ L) (hk : (va_pl L (am_rl (gx_cy G) M))[k]? = some (a, am_rl (gx_cy G) M a)) (he : ∀ b, am_rl (gx_cy G) M' b = va_up (am_rl (gx_cy G) M) a e b) (hTT : ∀ b, hp_T M' b = hp_T M b) (hS : va_S (am_A G) s.heap H locs) (hS1 : va_S (am_A G) s.heap H1 locs1)
    (hP1 : va_P (gx_D G) am_cl ((va_pl L (am_rl (gx_cy G) M)).set k (a, e)) H1) (hD1 : va_D (am_A G) ((va_pl L (am_rl (gx_cy G) M)).set k (a, e))) : am_H G M' H1 := by
  have e1 : (va_pl L (am_rl (gx_cy G) M)).set k (a, e) = va_pl L (am_rl (gx_cy G) M') := by
    have h := va_pl_set (X := []) (f := am_rl (gx_cy G) M) (e := e) hD ha hk
    refine h.trans ?_
    exact va_pl_congr (fun b => (he b).symm)
  rw [e1] at hP1 hD1
  refine ⟨L, hP1, hD1, fun b hb' => ?_, fun b => by rw [hTT]; exact hT b, fun b => by rw [hTT]; exact hTX b, trivial, fun b hb' => by rw [hTT]; exact hL b hb', h0⟩
  rw [hTT] at hb' ⊢
  have hba : b ≠ a := fun z => by
    have h2 := (hL a ha).2
    rw [z] at hb'
    omega
  rw [he, va_up, if_neg hba]
  exact hPX b hb'
theorem am_H.add {G : am_Gx} {M M' : am_Hp} {s : State} {H H1 : Heap} {locs locs1 : List Loc} {q t : Nat} {e : va_E} {L : List Nat} (hb : gx_b G ≤ s.heap.size) (hPX : am_same G M) (hT : ∀ a, 0 < hp_T M a → hp_T M a < 40 → a ∈ L) (hTX : ∀ a, 40 ≤ hp_T M a → a < gx_b G) (hX : True) (hL : ∀ a ∈ L, 0 < hp_T M a ∧ hp_T M a < 40) (h0 : 0 < gx_b G) (ht : 0 < t ∧ t < 40) (hS : va_S (am_A G) s.heap H locs) (hS1 : va_S (am_A G) s.heap H1 locs1)
    (hP1 : va_P (gx_D G) am_cl (va_pl L (am_rl (gx_cy G) M) ++ [(q, e)]) H1) (hD1 : va_D (am_A G) (va_pl L (am_rl (gx_cy G) M) ++ [(q, e)])) (he : hp_T M q = 0 → q ≠ 0 → (∀ b, am_rl (gx_cy G) M' b = va_up (am_rl (gx_cy G) M) q e b) ∧ ∀ b, hp_T M' b = va_up (hp_T M) q t b) : hp_T M q = 0 ∧ q ≠ 0 ∧ am_H G M' H1 := by
  have hA : am_A G q := hD1.2 _ (q, e) (List.getElem?_concat_length ..)
  have hqL : q ∉ L := by
    have := va_pl_fresh2 (X := []) (f := am_rl (gx_cy G) M) hD1
    exact this
  have hq0 : hp_T M q = 0 := by
    rcases Nat.eq_zero_or_pos (hp_T M q) with h | h
    · exact h
    · by_cases h4 : hp_T M q < 40
      · exact absurd (hT q h h4) hqL
      · exact absurd (hTX q (by omega)) (Nat.not_lt.mpr hA)
  have hqn : q ≠ 0 := fun h => by
    rw [h] at hA
    exact Nat.not_le.mpr h0 hA
  obtain ⟨he1, hTT⟩ := he hq0 hqn
  refine ⟨hq0, hqn, L ++ [q], ?_, ?_, ?_, ?_, ?_, ?_, ?_, h0⟩
  · rw [← va_pl_congr (fun b => (he1 b).symm), ← va_pl_push hqL]
    exact hP1
  · rw [← va_pl_congr (fun b => (he1 b).symm), ← va_pl_push hqL]
    exact hD1
  · intro b hb'
    rw [hTT, va_up] at hb' ⊢
    have hbq : b ≠ q := fun z => by
      rw [if_pos z] at hb'
      omega
    rw [if_neg hbq] at hb' ⊢
    rw [he1, va_up, if_neg hbq]
    exact hPX b hb'
  · intro b h1 h2
    rw [hTT, va_up] at h1 h2
    by_cases hbq : b = q
    · rw [hbq]
      exact List.mem_append_right _ List.mem_cons_self
    · rw [if_neg hbq] at h1 h2
      exact List.mem_append_left _ (hT b h1 h2)
  · intro b h1
    rw [hTT, va_up] at h1
    by_cases hbq : b = q
    · rw [if_pos hbq] at h1
      omega
    · rw [if_neg hbq] at h1
      exact hTX b h1
  · trivial
  · intro b hbL
    rw [hTT, va_up]
    by_cases hbq : b = q
    · rw [if_pos hbq]
      exact ht
    · rw [if_neg hbq]
      rcases List.mem_append.mp hbL with h | h
      · exact hL b h
      · exact absurd (List.mem_singleton.mp h) hbq
