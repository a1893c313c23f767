/-! THE START: what the law's entry finds, as the abstract heap has it -/
def st_T : Jvm.Cond := Jvm.Cond.and given_1 narrow_1
theorem st_in {L : List Jvm.Cond} {i : Nat} (h : ((flatC st_T).drop i).take L.length = L) : ∀ c ∈ L, c ∈ flatC st_T := fun c hc => by
  rw [← h] at hc
  exact List.mem_of_mem_drop (List.mem_of_mem_take hc)
theorem st_all {args : Array Value} {s : State} (h : st_T.before args s = true) {L : List Jvm.Cond} (hL : ∀ c ∈ L, c ∈ flatC st_T) : ∀ c ∈ L, c.before args s = true := fun c hc => flat_of_before _ h c (hL c hc)
theorem st_inst {s : State} {b : Nat} (hts : ∀ w ∈ am_gt, w.before #[Value.ref b] s = true) : ∀ (k : Nat) (q : vw_C), am_cl[k]? = some q → (Cond.instantiable q.1 q.2.2).before #[Value.ref b] s = true
  | 0, q, h => by cases h; exact hts _ tw_41
  | 1, q, h => by cases h; exact hts _ tw_79
  | 2, q, h => by cases h; exact hts _ tw_206
  | 3, q, h => by cases h; exact hts _ tw_125
  | 4, q, h => by cases h; exact hts _ tw_226
  | 5, q, h => by cases h; exact hts _ tw_51
  | 6, q, h => by cases h; exact hts _ tw_33
  | 7, q, h => by cases h; exact hts _ tw_1514
  | 8, q, h => by cases h; exact hts _ tw_232
  | 9, q, h => by cases h; exact hts _ (am_in (List.mem_append_right _ (List.mem_of_getElem? (l := tables_1) (i := 570) (by decide +kernel))) (by decide +kernel))
  | k + 10, q, h => by simp [am_cl] at h
theorem st_K {s : State} {b : Nat} (hts : ∀ w ∈ am_gt, w.before #[Value.ref b] s = true) (hnw : ∀ w ∈ am_nw, va_Nw w s) : ∃ (D : va_G) (cy : Nat → ClassId), va_K D am_cl (am_tys cy) s := by
  have h1 : ∀ k : Nat, ∃ (c : ClassId) (iS : Nat → Nat), ∀ q : vw_C, am_cl[k]? = some q → u_Kn s q.1 q.2.1 q.2.2 c iS := fun k => by
    cases hq : am_cl[k]? with
    | none => exact ⟨0, fun _ => 0, fun q h => by cases h⟩
    | some q =>
      obtain ⟨c, iS, h⟩ := u_known (n := q.2.2) hts (am_cls_in hq) (st_inst hts k q hq)
      exact ⟨c, iS, fun q' h' => by cases h'; exact h⟩
  have pr : ∀ ty, (Cond.arrayClass ty).before #[Value.ref b] s = true → ∃ c, ArrOfT s c ty ∧ s.vm.findClass ("[" ++ ty.toString) = some c := fun ty h => by
    obtain ⟨c, k, comp, f1, f2, f3⟩ := Cond.arrayClass_spec h
    exact ⟨c, fun N z => ⟨fun k h => (by cases h), k, f2, comp, f3⟩, f1⟩
  have ob : ∀ C, va_Nw (.arrayOver (.object C)) s → ∃ c, ArrOfT s c (.object C) ∧ va_RA s c (.object C) := fun C h => by
    obtain ⟨comp, c, k, f1, -, f3, f4, f5⟩ := Cond.arrayOver_spec h
    exact ⟨c, fun N z => ⟨fun k h => (by cases h), k, f3, comp, f4⟩, k, comp, f3, f4, f1, f5⟩
  obtain ⟨cB, aB, fB⟩ := pr .byte (hts _ tw_263)
  obtain ⟨cC, aC, fC⟩ := pr .char (hts _ tw_1571)
  obtain ⟨cI, aI, fI⟩ := pr .int (hts _ tw_78)
  obtain ⟨cJ, aJ, fJ⟩ := pr .long (hts _ tw_2029)
  obtain ⟨cD, aD, fD⟩ := pr .double (hts _ tw_2030)
  obtain ⟨c0, a0, f0⟩ := ob RX0 (hnw _ tn_212)
  obtain ⟨c1, a1, f1⟩ := ob RX1 (hnw _ tn_47)
  obtain ⟨c3, a3, f3⟩ := ob RX3 (hnw _ tn_49)
  obtain ⟨cA, aA, fA⟩ : ∃ c, ArrOfT s c (.array .int) ∧ s.vm.findClass ("[" ++ (Jvm.ClassFile.FieldType.array .int).toString) = some c := by
    obtain ⟨comp, c, k, f1, f3, f4, f5⟩ := Cond.arrayOver_specA (hnw _ (am_inN (List.mem_append_right _ (List.mem_of_getElem? (l := tables_1) (i := 265) (by decide +kernel))) (by decide +kernel)) : (Cond.arrayOver (.array .int)).before #[] s = true)
    exact ⟨c, fun N z => ⟨fun k h => (by cases h), k, f3, comp, f4⟩, f5⟩
  refine ⟨(fun k => Classical.choose (h1 k), fun k => Classical.choose (Classical.choose_spec (h1 k))), fun t => if t = 20 then cB else if t = 21 then cC else if t = 22 then cI else if t = 23 then cJ else if t = 24 then cD else if t = 25 then c0 else if t = 26 then c1 else if t = 27 then c3 else if t = 28 then cA else if t = 41 then cB else cI, ⟨fun k q hq => Classical.choose_spec (Classical.choose_spec (h1 k)) q hq, ?_⟩⟩
  intro k q hk
  match k, hk with
  | 0, hk => cases hk; exact ⟨aB, fB⟩
  | 1, hk => cases hk; exact ⟨aC, fC⟩
  | 2, hk => cases hk; exact ⟨aI, fI⟩
  | 3, hk => cases hk; exact ⟨aJ, fJ⟩
  | 4, hk => cases hk; exact ⟨aD, fD⟩
  | 5, hk => cases hk; exact ⟨a0, f0⟩
  | 6, hk => cases hk; exact ⟨a1, f1⟩
  | 7, hk => cases hk; exact ⟨a3, f3⟩
  | 8, hk => cases hk; exact ⟨aA, fA⟩
  | 9, hk => cases hk; exact ⟨aB, fB⟩
  | 10, hk => cases hk; exact ⟨aI, fI⟩
  | k + 11, hk => simp [am_tys] at hk
/-! the premises about constants -/
def stF : Nat → List Nat
  | 0 => [99, 97, 108, 108, 32, 48, 32, 48, 32, 78]
  | 1 => [108, 101, 97, 118, 101, 32, 78]
  | 2 => [104, 111, 108, 100, 32, 48, 32, 48]
  | 3 => [115, 116, 111, 112, 32, 48]
  | 4 => [115, 116, 97, 114, 116, 32, 48]
  | 5 => [108, 105, 109, 105, 116, 32, 48, 32, 78]
  | 6 => [115, 116, 101, 112, 32, 78]
  | 7 => [115, 116, 101, 112]
  | _ => [200]
def stS (k : Nat) : Jvm.Term := .string "LiftGroup$Script" (34 + 2 * k)
def stV (k : Nat) : Jvm.Term := .field (stS k) "java/lang/String" "value" "[B"
def stD (nm : String) : Jvm.Term := .static "java/lang/Integer" nm "[B"
def st_arrL (tm : Jvm.Term) (n : Nat) (f : Nat → Nat) : List Jvm.Cond := .arrayOf tm .byte :: .eq (.length tm) (.int (Int32.ofNat n)) :: (List.range n).map (fun j => .eq (.elem tm (.int (Int32.ofNat j))) (.int (Int32.ofNat (f j))))
def st_strL (k : Nat) : List Jvm.Cond := .exactly (stS k) "java/lang/String" :: .eq (.field (stS k) "java/lang/String" "coder" "B") (.int 0) :: st_arrL (stV k) (stF k).length (fun j => (stF k).getD j 0)
def st_ncL : List Jvm.Cond := am_nc.map (fun q => .not (.castable q.1 q.2))
def st_oL : List Jvm.Cond := [.eq (.static "java/lang/String" "COMPACT_STRINGS" "Z") (.int 1), .isRef (.static "jdk/internal/util/Preconditions" "SIOOBE_FORMATTER" "Ljava/util/function/BiFunction;"), .isRef (.static Bundle.tN "UNASSIGNED_STACK" Bundle.steD), .isRef (.static Bundle.tN "SUPPRESSED_SENTINEL" Bundle.listD)]
set_option maxRecDepth 16384 in
theorem st_ok1 : ∀ c ∈ st_arrL (stD "DigitOnes") 100 (fun j => 48 + j % 10), c ∈ flatC st_T := st_in (i := 10) (by decide +kernel)
set_option maxRecDepth 16384 in
theorem st_ok2 : ∀ c ∈ st_arrL (stD "DigitTens") 100 (fun j => 48 + j / 10), c ∈ flatC st_T := st_in (i := 113) (by decide +kernel)
set_option maxRecDepth 16384 in
theorem st_ok3 : ∀ c ∈ ((List.range 8).map st_strL).flatten, c ∈ flatC st_T := st_in (i := 1164) (by decide +kernel)
set_option maxRecDepth 16384 in
theorem st_ok4 : ∀ c ∈ st_oL ++ st_ncL, c ∈ flatC st_T := by decide +kernel
theorem st_arr {args : Array Value} {s : State} {A : Nat → Prop} {tm : Jvm.Term} {n : Nat} {f : Nat → Nat} (hn : n < 2 ^ 31) (h : ∀ c ∈ st_arrL tm n f, c.before args s = true) (hA : ∀ a : Nat, a < s.heap.size → ¬ A a) : ∃ t : Nat, tm.eval args s none [] s = some (.ref t) ∧ va_T .byte t n (fun j => .int (Int32.ofNat (f j))) A s s.heap :=
  va_Tof (f := fun j => .int (Int32.ofNat (f j))) hn (h _ List.mem_cons_self) (va_eqt (h _ (List.mem_cons_of_mem _ List.mem_cons_self))) (fun j hj => va_eqt (h _ (List.mem_cons_of_mem _ (List.mem_cons_of_mem _ (List.mem_map.mpr ⟨j, List.mem_range.mpr hj, rfl⟩))))) hA
/-! the cells' pictures -/
def st_N (s : State) (x : Nat) : Nat := match s.heap[x]? with
  | some c => c.slots.size.toInt32.toNatClampNeg
  | none => 0
def st_E (s : State) (x j : Nat) : Int32 := match s.heap[x]? with
  | some c => (match c.slots[j]? with
    | some (.int v) => v
    | _ => 0)
  | none => 0
theorem st_nat {k : Nat} (h : k < 2147483648) : (Int32.ofNat k).toNatClampNeg = k := by
  unfold Int32.toNatClampNeg
  rw [Int32.toInt_ofNat_of_lt (by omega)]
  exact Int.toNat_natCast k
theorem st_T0 {s : State} {A : Nat → Prop} {ty : Jvm.ClassFile.FieldType} {x n : Nat} {f : Nat → Int32} (hn : n < 2147483648) (h : va_T ty x n (fun j => .int (f j)) A s s.heap) : st_N s x = n ∧ (∀ j, j < n → st_E s x j = f j) ∧ va_T ty x (st_N s x) (fun j => .int (st_E s x j)) A s s.heap := by
  obtain ⟨cell, h1, h2, h3, h4, h5, h6, h7⟩ := h
  have e : st_N s x = n := by
    unfold st_N
    rw [h1]
    show cell.slots.size.toInt32.toNatClampNeg = n
    rw [h5]
    exact st_nat hn
  have g : ∀ j, j < n → st_E s x j = f j := fun j hj => by
    unfold st_E
    rw [h1]
    show (match cell.slots[j]? with | some (.int v) => v | _ => 0) = f j
    rw [h6 j hj]
  refine ⟨e, g, cell, h1, h2, h3, by rw [e]; exact h4, by rw [e]; exact h5, fun j hj => ?_, h7⟩
  rw [e] at hj
  show cell.slots[j]? = some (Value.int (st_E s x j))
  rw [g j hj]
  exact h6 j hj
theorem st_OFu {o n d : String} {v v' : Value} {t : Nat} {A : Nat → Prop} {s : State} {H : Heap} (h1 : va_OF o n d v t A s H) (h2 : va_OF o n d v' t A s H) : v = v' := by
  obtain ⟨cf, k, i, f, cell, a1, a2, a3, a4, a5, a6⟩ := h1
  obtain ⟨cf', k', i', f', cell', b1, b2, b3, b4, b5, b6⟩ := h2
  cases Option.some.inj (a1.symm.trans b1)
  cases Option.some.inj (a3.symm.trans b3)
  exact Option.some.inj (a5.symm.trans b5)
theorem st_ne1 {s : State} {A : Nat → Prop} {x y n m : Nat} {f g : Nat → Value} {H : Heap} (h1 : va_T .byte x n f A s H) (h2 : va_T .int y m g A s H) : x ≠ y := by
  rintro rfl
  obtain ⟨cell, a1, ⟨-, k, a2, comp, a3⟩, -⟩ := h1
  obtain ⟨cell', b1, ⟨-, k', b2, comp', b3⟩, -⟩ := h2
  cases Option.some.inj (a1.symm.trans b1)
  cases Option.some.inj (a2.symm.trans b2)
  rw [a3] at b3
  cases b3
theorem st_ne2 {s : State} {A : Nat → Prop} {C : String} {x y m i : Nat} {ty : Jvm.ClassFile.FieldType} {g : Nat → Value} {H : Heap} {args : Array Value} (hi : (Cond.instantiable C i).before args s = true) (h1 : va_O C x A s H) (h2 : va_T ty y m g A s H) : x ≠ y := by
  rintro rfl
  obtain ⟨c, k, f1, f2, f3, -⟩ := Cond.instantiable_spec hi
  obtain ⟨cell, a1, -, a2, -⟩ := h1
  obtain ⟨cell', b1, ⟨-, k', b2, comp', b3⟩, -⟩ := h2
  cases Option.some.inj (a1.symm.trans b1)
  cases Option.some.inj (f1.symm.trans a2)
  cases Option.some.inj (f2.symm.trans b2)
  rw [f3] at b3
  cases b3
def st_s (s : State) (o : String) (k : Nat) : Nat := match (Jvm.Term.string o k).eval #[] s none [] s with
  | some (.ref a) => a
  | _ => 0
theorem st_R {s : State} {b : Nat} (hts : ∀ w ∈ lw_tbl, w.before #[Value.ref b] s = true) : ∀ q ∈ am_st, vk_R q.1 q.2.1 q.2.2 (st_s s q.1 q.2.1) s := by
  intro q hq
  obtain ⟨w, hw, e⟩ := List.mem_filterMap.mp hq
  have h9 := hts w hw
  cases w with
  | stringRef o k t =>
    cases e
    have h9' : (Cond.stringRef o k t).before #[] s = true := h9
    have hcur : ∃ cur, s.vm.findClass o = some cur := by
      have h1 := h9'
      simp only [Cond.before, Cond.holds, Cond.value] at h1
      cases hc : s.vm.findClass o with
      | none => simp [hc] at h1
      | some cur => exact ⟨cur, rfl⟩
    obtain ⟨cur, hcur⟩ := hcur
    obtain ⟨_, _, _, a, _, _, _, _, _, ev⟩ := Cond.stringRef_spec hcur h9'
    refine vk_R.of h9' (a := st_s s o k) ?_
    have ea : st_s s o k = a := by
      unfold st_s
      rw [show (Jvm.Term.string o k).eval #[] s none [] s = some (.ref a) from ev]
    rw [ea]
    exact ev
  | _ => cases e
/-- which cells are only read, and what they hold -/
noncomputable def st_M (s : State) (b : Nat) (sa va : Nat → Nat) (p q : Nat) : am_Hp := by
  classical
  exact (fun x => if x = b then 42 else if ∃ k, k < 8 ∧ x = sa k then 40 else if (∃ k, k < 8 ∧ x = va k) ∨ x = p ∨ x = q then 41 else 0, st_N s, fun _ _ => 0, fun _ x => if h : ∃ k, k < 8 ∧ x = sa k then va (Classical.choose h) else 0, st_E s, fun _ _ => 0, fun _ _ => 0, fun _ _ => 0)
theorem st_start {s : State} {b L : Nat} {xs : Nat → Int32} (l : Launch) (hts : ∀ w ∈ lw_tbl, w.before #[Value.ref b] s = true) (hgv : st_T.before #[Value.ref b] s = true) (hX : va_X b L xs s s.heap) (hbl : b < s.heap.size) (hL : L ≤ 2048) : ∃ G : am_Gx, gx_l G = l ∧ gx_b G = s.heap.size ∧ am_U G s ∧ am_H G (gx_M G) s.heap ∧ ("java/lang/String", "COMPACT_STRINGS", "Z", Value.int 1) ∈ gx_z G ∧ ((∃ p2 : Nat, ("jdk/internal/util/Preconditions", "SIOOBE_FORMATTER", "Ljava/util/function/BiFunction;", Value.ref p2) ∈ gx_z G) ∨ ("jdk/internal/util/Preconditions", "SIOOBE_FORMATTER", "Ljava/util/function/BiFunction;", Value.null) ∈ gx_z G) ∧ (∃ p q, ("java/lang/Integer", "DigitOnes", "[B", Value.ref p) ∈ gx_z G ∧ ("java/lang/Integer", "DigitTens", "[B", Value.ref q) ∈ gx_z G ∧ hp_T (gx_M G) p = 41 ∧ hp_T (gx_M G) q = 41 ∧ hp_N (gx_M G) p = 100 ∧ hp_N (gx_M G) q = 100 ∧ (∀ k, k < 100 → hp_E (gx_M G) p k = Int32.ofNat (48 + k % 10)) ∧ ∀ k, k < 100 → hp_E (gx_M G) q k = Int32.ofNat (48 + k / 10)) ∧ (∀ k, k < 8 → hp_T (gx_M G) (gx_s G "LiftGroup$Script" (34 + 2 * k)) = 40 ∧ hp_T (gx_M G) (hp_R (gx_M G) 180 (gx_s G "LiftGroup$Script" (34 + 2 * k))) = 41 ∧ hp_N (gx_M G) (hp_R (gx_M G) 180 (gx_s G "LiftGroup$Script" (34 + 2 * k))) = (stF k).length ∧ hp_I (gx_M G) 181 (gx_s G "LiftGroup$Script" (34 + 2 * k)) = 0 ∧ ∀ i, i < (stF k).length → hp_E (gx_M G) (hp_R (gx_M G) 180 (gx_s G "LiftGroup$Script" (34 + 2 * k))) i = Int32.ofNat ((stF k).getD i 0)) ∧ hp_T (gx_M G) b = 42 ∧ hp_N (gx_M G) b = L := by
  classical
  have htg : ∀ w ∈ am_gt, w.before #[Value.ref b] s = true := fun w hw => hts w (List.mem_filter.mp hw).1
  have hnw : ∀ w ∈ am_nw, va_Nw w s := fun w hw => by
    have hg := (List.mem_filter.mp hw).2
    have h9 := hts w (List.mem_filter.mp hw).1
    cases w <;> first | exact va_Nw.of rfl h9 | exact h9 | (cases hg)
  obtain ⟨D, cy, hK⟩ := st_K htg hnw
  let A : Nat → Prop := fun q => s.heap.size ≤ q
  have hA : ∀ a : Nat, a < s.heap.size → ¬ A a := fun a h => Nat.not_le.mpr h
  obtain ⟨p, ep, Tp⟩ := st_arr (A := A) (by decide) (st_all hgv st_ok1) hA
  obtain ⟨q, eq, Tq⟩ := st_arr (A := A) (by decide) (st_all hgv st_ok2) hA
  have h3 := st_all hgv st_ok3
  have hS : ∀ k, k < 8 → ∀ c ∈ st_strL k, c.before #[Value.ref b] s = true := fun k hk c hc => h3 c (List.mem_flatten.mpr ⟨_, List.mem_map.mpr ⟨k, List.mem_range.mpr hk, rfl⟩, hc⟩)
  have h4 := st_all hgv st_ok4
  have hst : ∀ k, ∃ t : Nat, k < 8 → (stV k).eval #[Value.ref b] s none [] s = some (.ref t) ∧ va_T .byte t (stF k).length (fun j => .int (Int32.ofNat ((stF k).getD j 0))) A s s.heap := fun k => by
    by_cases hk : k < 8
    · obtain ⟨t, e1, e2⟩ := st_arr (A := A) (tm := stV k) (n := (stF k).length) (f := fun j => (stF k).getD j 0) (by match k, hk with | 0, _ | 1, _ | 2, _ | 3, _ | 4, _ | 5, _ | 6, _ | 7, _ => decide) (fun c hc => hS k hk c (List.mem_cons_of_mem _ (List.mem_cons_of_mem _ hc))) hA
      exact ⟨t, fun _ => ⟨e1, e2⟩⟩
    · exact ⟨0, fun h => absurd h hk⟩
  let va : Nat → Nat := fun k => Classical.choose (hst k)
  have hva : ∀ k, k < 8 → (stV k).eval #[Value.ref b] s none [] s = some (.ref (va k)) ∧ va_T .byte (va k) (stF k).length (fun j => .int (Int32.ofNat ((stF k).getD j 0))) A s s.heap := fun k hk => Classical.choose_spec (hst k) hk
  let sa : Nat → Nat := fun k => st_s s "LiftGroup$Script" (34 + 2 * k)
  have hsa : ∀ k, k < 8 → va_O "java/lang/String" (sa k) A s s.heap ∧ va_OF "java/lang/String" "value" "[B" (.ref (va k)) (sa k) A s s.heap ∧ va_OF "java/lang/String" "coder" "B" (.int 0) (sa k) A s s.heap := fun k hk => by
    have hex := hS k hk _ List.mem_cons_self
    obtain ⟨a, c, cell, kk, ev, -⟩ := Cond.exactly_spec hex
    have ea : sa k = a := by
      show st_s s "LiftGroup$Script" (34 + 2 * k) = a
      unfold st_s
      rw [show (Jvm.Term.string "LiftGroup$Script" (34 + 2 * k)).eval #[] s none [] s = some (.ref a) from ev]
    rw [ea]
    exact ⟨va_Oof hex ev hA, vk_OFof ev (hva k hk).1 hA, vk_OFof ev (va_eqt (hS k hk _ (List.mem_cons_of_mem _ List.mem_cons_self))) hA⟩
  have Tb : va_T .int b L (fun j => .int (xs j)) A s s.heap := by
    obtain ⟨scr, x1, x2, x3, x4, x5⟩ := hX
    exact ⟨scr, x1, x2, x3, Nat.le_of_eq x4.symm, by rw [x4], x5, hA b hbl⟩
  have hz1 := va_eqt (h4 (.eq (.static "java/lang/String" "COMPACT_STRINGS" "Z") (.int 1)) (by decide +kernel))
  obtain ⟨fv, ev, hfv⟩ := Cond.isRef_spec (h4 (.isRef (.static "jdk/internal/util/Preconditions" "SIOOBE_FORMATTER" "Ljava/util/function/BiFunction;")) (by decide +kernel))
  have W : ∀ (i : Nat) (w : Jvm.Cond), tables_1[i]? = some w → w.before #[Value.ref b] s = true := fun i w h => hts w (List.mem_append_right _ (List.mem_of_getElem? h))
  let zs : List (String × String × String × Value) := [("java/lang/String", "COMPACT_STRINGS", "Z", Value.int 1), ("jdk/internal/util/Preconditions", "SIOOBE_FORMATTER", "Ljava/util/function/BiFunction;", fv), ("java/lang/Integer", "DigitOnes", "[B", Value.ref p), ("java/lang/Integer", "DigitTens", "[B", Value.ref q)]
  have hzs : ∀ z ∈ zs, va_Z z.1 z.2.1 z.2.2.1 z.2.2.2 A s s.heap := fun z hz => by
    simp only [zs, List.mem_cons, List.not_mem_nil, or_false] at hz
    rcases hz with rfl | rfl | rfl | rfl
    · exact va_Zof (W 241 _ (by decide +kernel)) (W 10 _ (by decide +kernel)) hz1 hA
    · exact va_Zof (W 484 (.laysStatic "jdk/internal/util/Preconditions" "SIOOBE_FORMATTER" "Ljava/util/function/BiFunction;") (by decide +kernel)) (W 30 (.initialized "jdk/internal/util/Preconditions") (by decide +kernel)) ev hA
    · exact va_Zof (W 554 (.laysStatic "java/lang/Integer" "DigitOnes" "[B") (by decide +kernel)) (W 24 (.initialized "java/lang/Integer") (by decide +kernel)) ep hA
    · exact va_Zof (W 556 (.laysStatic "java/lang/Integer" "DigitTens" "[B") (by decide +kernel)) (W 24 (.initialized "java/lang/Integer") (by decide +kernel)) eq hA
  have hi : (Cond.instantiable "java/lang/String" 4).before #[Value.ref b] s = true := W 570 _ (by decide +kernel)
  obtain ⟨p1, p2, p3⟩ := st_T0 (f := fun j => Int32.ofNat (48 + j % 10)) (by decide) Tp
  obtain ⟨q1, q2, q3⟩ := st_T0 (f := fun j => Int32.ofNat (48 + j / 10)) (by decide) Tq
  obtain ⟨b1, b2, b3⟩ := st_T0 (f := xs) (by omega) Tb
  have hv : ∀ k, k < 8 → st_N s (va k) = (stF k).length ∧ (∀ j, j < (stF k).length → st_E s (va k) j = Int32.ofNat ((stF k).getD j 0)) ∧ va_T .byte (va k) (st_N s (va k)) (fun j => .int (st_E s (va k) j)) A s s.heap := fun k hk => st_T0 (f := fun j => Int32.ofNat ((stF k).getD j 0)) (by match k, hk with | 0, _ | 1, _ | 2, _ | 3, _ | 4, _ | 5, _ | 6, _ | 7, _ => decide) (hva k hk).2
  -- the tags
  have Tb' : hp_T (st_M s b sa va p q) b = 42 := if_pos rfl
  have nsb : ∀ k, k < 8 → sa k ≠ b := fun k hk => st_ne2 hi (hsa k hk).1 Tb
  have Ts' : ∀ k, k < 8 → hp_T (st_M s b sa va p q) (sa k) = 40 := fun k hk => by
    show (if sa k = b then 42 else if ∃ k', k' < 8 ∧ sa k = sa k' then 40 else _) = 40
    rw [if_neg (nsb k hk), if_pos ⟨k, hk, rfl⟩]
  have T41 : ∀ x n (f : Nat → Value), va_T .byte x n f A s s.heap → ((∃ k, k < 8 ∧ x = va k) ∨ x = p ∨ x = q) → hp_T (st_M s b sa va p q) x = 41 := fun x n f hx h => by
    show (if x = b then 42 else if ∃ k', k' < 8 ∧ x = sa k' then 40 else if (∃ k, k < 8 ∧ x = va k) ∨ x = p ∨ x = q then 41 else 0) = 41
    rw [if_neg (st_ne1 hx Tb), if_neg (fun ⟨k', h1, h2⟩ => st_ne2 hi (hsa k' h1).1 hx h2.symm), if_pos h]
  have R' : ∀ k, k < 8 → hp_R (st_M s b sa va p q) 180 (sa k) = va k := fun k hk => by
    have h : ∃ k', k' < 8 ∧ sa k = sa k' := ⟨k, hk, rfl⟩
    show (if h : ∃ k', k' < 8 ∧ sa k = sa k' then va (Classical.choose h) else 0) = va k
    rw [dif_pos h]
    have hc := Classical.choose_spec h
    have h5 := (hsa _ hc.1).2.1
    rw [← hc.2] at h5
    exact Value.ref.inj (st_OFu h5 (hsa k hk).2.1)
  have inv : ∀ x, hp_T (st_M s b sa va p q) x = 42 ∧ x = b ∨ hp_T (st_M s b sa va p q) x = 40 ∧ (∃ k, k < 8 ∧ x = sa k) ∨ hp_T (st_M s b sa va p q) x = 41 ∧ ((∃ k, k < 8 ∧ x = va k) ∨ x = p ∨ x = q) ∨ hp_T (st_M s b sa va p q) x = 0 := fun x => by
    show (if x = b then 42 else if ∃ k', k' < 8 ∧ x = sa k' then 40 else if (∃ k, k < 8 ∧ x = va k) ∨ x = p ∨ x = q then 41 else 0) = 42 ∧ x = b ∨ (if x = b then 42 else if ∃ k', k' < 8 ∧ x = sa k' then 40 else if (∃ k, k < 8 ∧ x = va k) ∨ x = p ∨ x = q then 41 else 0) = 40 ∧ (∃ k, k < 8 ∧ x = sa k) ∨ (if x = b then 42 else if ∃ k', k' < 8 ∧ x = sa k' then 40 else if (∃ k, k < 8 ∧ x = va k) ∨ x = p ∨ x = q then 41 else 0) = 41 ∧ ((∃ k, k < 8 ∧ x = va k) ∨ x = p ∨ x = q) ∨ (if x = b then 42 else if ∃ k', k' < 8 ∧ x = sa k' then 40 else if (∃ k, k < 8 ∧ x = va k) ∨ x = p ∨ x = q then 41 else 0) = 0
    by_cases c1 : x = b
    · rw [if_pos c1]; exact .inl ⟨rfl, c1⟩
    · rw [if_neg c1]
      by_cases c2 : ∃ k', k' < 8 ∧ x = sa k'
      · rw [if_pos c2]; exact .inr (.inl ⟨rfl, c2⟩)
      · rw [if_neg c2]
        by_cases c3 : (∃ k, k < 8 ∧ x = va k) ∨ x = p ∨ x = q
        · rw [if_pos c3]; exact .inr (.inr (.inl ⟨rfl, c3⟩))
        · rw [if_neg c3]; exact .inr (.inr (.inr rfl))
  have f41 : ∀ x, ((∃ k, k < 8 ∧ x = va k) ∨ x = p ∨ x = q) → va_T .byte x (st_N s x) (fun j => .int (st_E s x j)) A s s.heap := fun x h => by
    rcases h with ⟨k, hk, rfl⟩ | rfl | rfl
    · exact (hv k hk).2.2
    · exact p3
    · exact q3
  have lt : ∀ x ty n (f : Nat → Value), va_T ty x n f A s s.heap → x < s.heap.size := fun x ty n f h => by
    obtain ⟨cell, h1, -⟩ := h
    exact (Array.getElem?_eq_some_iff.mp h1).1
  refine ⟨(D, cy, s.heap.size, st_M s b sa va p q, st_s s, l, zs), rfl, rfl, ⟨hK, Nat.le_refl _, hnw, st_R hts, hzs, vx_Zqof (W 628 _ (by decide +kernel)) (W 13 _ (by decide +kernel)) (h4 _ (by decide +kernel)) hA, vx_Zqof (W 630 _ (by decide +kernel)) (W 13 _ (by decide +kernel)) (h4 _ (by decide +kernel)) hA, fun q hq => va_Nc.of (h4 _ (List.mem_append_right _ (List.mem_map.mpr ⟨q, hq, rfl⟩))), fun x => ?_⟩, ⟨[], fun k q h => by simp [va_pl] at h, ⟨fun i j p q h => by simp [va_pl] at h, fun k q h => by simp [va_pl] at h⟩, fun a _ => ⟨rfl, rfl⟩, fun a h1 h2 => ?_, fun a h1 => ?_, trivial, fun a h => by simp at h, Nat.lt_of_le_of_lt (Nat.zero_le _) hbl⟩, List.mem_cons_self, ?_, ⟨p, q, List.mem_cons_of_mem _ (List.mem_cons_of_mem _ List.mem_cons_self), List.mem_cons_of_mem _ (List.mem_cons_of_mem _ (List.mem_cons_of_mem _ List.mem_cons_self)), T41 p _ _ Tp (.inr (.inl rfl)), T41 q _ _ Tq (.inr (.inr rfl)), p1, q1, p2, q2⟩, fun k hk => ⟨Ts' k hk, ?_, ?_, rfl, ?_⟩, Tb', b1⟩
  · show (hp_T (st_M s b sa va p q) x = 41 → va_T .byte x (st_N s x) (fun j => .int (st_E s x j)) A s s.heap) ∧ (hp_T (st_M s b sa va p q) x = 42 → va_T .int x (st_N s x) (fun j => .int (st_E s x j)) A s s.heap) ∧ (hp_T (st_M s b sa va p q) x = 40 → va_O RJ0 x A s s.heap ∧ va_OF "java/lang/String" "value" "[B" (.ref (hp_R (st_M s b sa va p q) 180 x)) x A s s.heap ∧ va_OF "java/lang/String" "coder" "B" (.int 0) x A s s.heap)
    rcases inv x with ⟨t, h⟩ | ⟨t, h⟩ | ⟨t, h⟩ | t
    · refine ⟨fun z => by omega, fun _ => by rw [h]; exact b3, fun z => by omega⟩
    · obtain ⟨k, hk, rfl⟩ := h
      exact ⟨fun z => by omega, fun z => by omega, fun _ => ⟨(hsa k hk).1, by rw [R' k hk]; exact (hsa k hk).2.1, (hsa k hk).2.2⟩⟩
    · exact ⟨fun _ => f41 x h, fun z => by omega, fun z => by omega⟩
    · exact ⟨fun z => by omega, fun z => by omega, fun z => by omega⟩
  · have h1' : 0 < hp_T (st_M s b sa va p q) a := h1
    have h2' : hp_T (st_M s b sa va p q) a < 40 := h2
    rcases inv a with ⟨t, -⟩ | ⟨t, -⟩ | ⟨t, -⟩ | t <;> omega
  · have h1' : 40 ≤ hp_T (st_M s b sa va p q) a := h1
    show a < s.heap.size
    rcases inv a with ⟨t, h⟩ | ⟨t, h⟩ | ⟨t, h⟩ | t
    · rw [h]; exact hbl
    · obtain ⟨k, hk, rfl⟩ := h
      obtain ⟨cell, g1, -⟩ := (hsa k hk).1
      exact (Array.getElem?_eq_some_iff.mp g1).1
    · exact lt a _ _ _ (f41 a h)
    · omega
  · cases fv with
    | ref p2 => exact .inl ⟨p2, List.mem_cons_of_mem _ List.mem_cons_self⟩
    | null => exact .inr (List.mem_cons_of_mem _ List.mem_cons_self)
    | _ => cases hfv
  · show hp_T (st_M s b sa va p q) (hp_R (st_M s b sa va p q) 180 (sa k)) = 41
    rw [R' k hk]
    exact T41 _ _ _ (hva k hk).2 (.inl ⟨k, hk, rfl⟩)
  · show st_N s (hp_R (st_M s b sa va p q) 180 (sa k)) = _
    rw [R' k hk]
    exact (hv k hk).1
  · show ∀ i, i < (stF k).length → st_E s (hp_R (st_M s b sa va p q) 180 (sa k)) i = _
    rw [R' k hk]
    exact (hv k hk).2.1
