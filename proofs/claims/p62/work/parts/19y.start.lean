/-! THE START: what the law's entry finds, as the abstract heap has it -/
def st_T : Jvm.Cond := Jvm.Cond.and given_1 narrow_1
theorem st_in {L : List Jvm.Cond} {i : Nat} (h : ((flatC st_T).drop i).take L.length = L) : ∀ c ∈ L, c ∈ flatC st_T := fun c hc => by
  rw [← h] at hc
  exact List.mem_of_mem_drop (List.mem_of_mem_take hc)
theorem st_all {args : Array Value} {s : State} (h : st_T.before args s = true) {L : List Jvm.Cond} (hL : ∀ c ∈ L, c ∈ flatC st_T) : ∀ c ∈ L, c.before args s = true := fun c hc => flat_of_before _ h c (hL c hc)
theorem st_inst {s : State} {b : Nat} (hts : ∀ w ∈ am_gt, w.before #[Value.ref b] s = true) : ∀ (k : Nat) (q : vw_C), am_cl[k]? = some q → (Cond.instantiable q.1 q.2.2).before #[Value.ref b] s = true
  | 0, q, h => by cases h; exact hts _ (am_in (List.mem_append_right _ (List.mem_of_getElem? (l := tables_1) (i := 44) (by decide +kernel))) (by decide +kernel))
  | 1, q, h => by cases h; exact hts _ (am_in (List.mem_append_right _ (List.mem_of_getElem? (l := tables_1) (i := 82) (by decide +kernel))) (by decide +kernel))
  | 2, q, h => by cases h; exact hts _ (am_in (List.mem_append_right _ (List.mem_of_getElem? (l := tables_1) (i := 209) (by decide +kernel))) (by decide +kernel))
  | 3, q, h => by cases h; exact hts _ (am_in (List.mem_append_right _ (List.mem_of_getElem? (l := tables_1) (i := 128) (by decide +kernel))) (by decide +kernel))
  | 4, q, h => by cases h; exact hts _ (am_in (List.mem_append_right _ (List.mem_of_getElem? (l := tables_1) (i := 229) (by decide +kernel))) (by decide +kernel))
  | 5, q, h => by cases h; exact hts _ (am_in (List.mem_append_right _ (List.mem_of_getElem? (l := tables_1) (i := 54) (by decide +kernel))) (by decide +kernel))
  | 6, q, h => by cases h; exact hts _ (am_in (List.mem_append_right _ (List.mem_of_getElem? (l := tables_1) (i := 36) (by decide +kernel))) (by decide +kernel))
  | 7, q, h => by cases h; exact hts _ (am_in (List.mem_append_right _ (List.mem_of_getElem? (l := tables_1) (i := 1320) (by decide +kernel))) (by decide +kernel))
  | 8, q, h => by cases h; exact hts _ (am_in (List.mem_append_right _ (List.mem_of_getElem? (l := tables_1) (i := 235) (by decide +kernel))) (by decide +kernel))
  | 9, q, h => by cases h; exact hts _ (am_in (List.mem_append_right _ (List.mem_of_getElem? (l := tables_1) (i := 1092) (by decide +kernel))) (by decide +kernel))
  | 10, q, h => by cases h; exact hts _ (am_in (List.mem_append_right _ (List.mem_of_getElem? (l := tables_1) (i := 1420) (by decide +kernel))) (by decide +kernel))
  | k + 11, q, h => by simp [am_cl] at h
theorem st_K {s : State} {b : Nat} (hts : ∀ w ∈ am_gt, w.before #[Value.ref b] s = true) (hnw : ∀ w ∈ am_nw, va_Nw w s) : ∃ (D : va_G) (cy : Nat → ClassId), va_K D am_cl (am_tys cy) s := by
  have h1 : ∀ k : Nat, ∃ (c : ClassId) (iS : Nat → Nat), ∀ q : vw_C, am_cl[k]? = some q → u_Kn s q.1 q.2.1 q.2.2 c iS := fun k => by
    cases hq : am_cl[k]? with
    | none => exact ⟨0, fun _ => 0, fun q h => by cases h⟩
    | some q =>
      obtain ⟨c, iS, h⟩ := u_known (n := q.2.2) hts (am_cls_in hq) (st_inst hts k q hq)
      exact ⟨c, iS, fun q' h' => by cases h'; exact h⟩
  have pr : ∀ ty, (Cond.arrayClass ty).before #[Value.ref b] s = true → ∃ c, ArrOfT s c ty ∧ s.vm.findClass ("[" ++ ty.toString) = some c := fun ty h => by
    obtain ⟨c, k, comp, f1, f2, f3⟩ := Cond.arrayClass_spec h
    exact ⟨c, fun N z => ⟨fun k h => (by cases h), k, f2, comp, f3⟩, f1⟩
  have ob : ∀ C, va_Nw (.arrayOver (.object C)) s → ∃ c, ArrOfT s c (.object C) ∧ va_RA s c (.object C) := fun C h => by
    obtain ⟨comp, c, k, f1, -, f3, f4, f5⟩ := Cond.arrayOver_spec h
    exact ⟨c, fun N z => ⟨fun k h => (by cases h), k, f3, comp, f4⟩, k, comp, f3, f4, f1, f5⟩
  obtain ⟨cB, aB, fB⟩ := pr .byte (hts _ (am_in (List.mem_append_right _ (List.mem_of_getElem? (l := tables_1) (i := 266) (by decide +kernel))) (by decide +kernel)))
  obtain ⟨cI, aI, fI⟩ := pr .int (hts _ (am_in (List.mem_append_right _ (List.mem_of_getElem? (l := tables_1) (i := 81) (by decide +kernel))) (by decide +kernel)))
  obtain ⟨c0, a0, f0⟩ := ob RX0 (hnw _ (am_inN (List.mem_append_right _ (List.mem_of_getElem? (l := tables_1) (i := 215) (by decide +kernel))) (by decide +kernel)))
  obtain ⟨c1, a1, f1⟩ := ob RX1 (hnw _ (am_inN (List.mem_append_right _ (List.mem_of_getElem? (l := tables_1) (i := 50) (by decide +kernel))) (by decide +kernel)))
  obtain ⟨c3, a3, f3⟩ := ob RX3 (hnw _ (am_inN (List.mem_append_right _ (List.mem_of_getElem? (l := tables_1) (i := 52) (by decide +kernel))) (by decide +kernel)))
  obtain ⟨cO, aO, fO⟩ := ob "java/lang/Object" (hnw _ (am_inN (List.mem_append_right _ (List.mem_of_getElem? (l := tables_1) (i := 1411) (by decide +kernel))) (by decide +kernel)))
  obtain ⟨cA, aA, fA⟩ : ∃ c, ArrOfT s c (.array .int) ∧ s.vm.findClass ("[" ++ (Jvm.ClassFile.FieldType.array .int).toString) = some c := by
    obtain ⟨comp, c, k, f1, f3, f4, f5⟩ := Cond.arrayOver_specA (hnw _ (am_inN (List.mem_append_right _ (List.mem_of_getElem? (l := tables_1) (i := 268) (by decide +kernel))) (by decide +kernel)) : (Cond.arrayOver (.array .int)).before #[] s = true)
    exact ⟨c, fun N z => ⟨fun k h => (by cases h), k, f3, comp, f4⟩, f5⟩
  refine ⟨(fun k => Classical.choose (h1 k), fun k => Classical.choose (Classical.choose_spec (h1 k))), fun t => if t = 20 then cB else if t = 22 then cI else if t = 25 then c0 else if t = 26 then c1 else if t = 27 then c3 else if t = 28 then cA else if t = 29 then cO else if t = 41 then cB else cI, ⟨fun k q hq => Classical.choose_spec (Classical.choose_spec (h1 k)) q hq, ?_⟩⟩
  intro k q hk
  match k, hk with
  | 0, hk => cases hk; exact ⟨aB, fB⟩
  | 1, hk => cases hk; exact ⟨aI, fI⟩
  | 2, hk => cases hk; exact ⟨aI, fI⟩
  | 3, hk => cases hk; exact ⟨aI, fI⟩
  | 4, hk => cases hk; exact ⟨aI, fI⟩
  | 5, hk => cases hk; exact ⟨a0, f0⟩
  | 6, hk => cases hk; exact ⟨a1, f1⟩
  | 7, hk => cases hk; exact ⟨a3, f3⟩
  | 8, hk => cases hk; exact ⟨aA, fA⟩
  | 9, hk => cases hk; exact ⟨aB, fB⟩
  | 10, hk => cases hk; exact ⟨aI, fI⟩
  | 11, hk => cases hk; exact ⟨aO, fO⟩
  | k + 12, hk => simp [am_tys] at hk
/-! the premises about constants -/
def stF : Nat → List Nat
  | 0 => [99, 97, 108, 108, 32, 48, 32, 48, 32, 78]
  | 1 => [108, 101, 97, 118, 101, 32, 78]
  | 2 => [104, 111, 108, 100, 32, 48, 32, 48]
  | 3 => [115, 116, 111, 112, 32, 48]
  | 4 => [115, 116, 97, 114, 116, 32, 48]
  | 5 => [108, 105, 109, 105, 116, 32, 48, 32, 78]
  | 6 => [115, 116, 101, 112, 32, 78]
  | 7 => [115, 116, 101, 112]
  | 8 => [115, 116, 101, 112, 32, 51, 59, 108, 105, 109, 105, 116, 32, 49, 32, 57, 48, 48, 59, 115, 116, 101, 112]
  | 9 => [115, 116, 101, 112, 59, 99, 97, 108, 108, 32, 51, 32, 51, 32, 53, 48]
  | 10 => [115, 116, 101, 112, 32, 51, 49]
  | 11 => [115, 116]
  | 12 => [99, 97, 108, 108, 32, 48, 32, 57]
  | 13 => [115, 116, 101, 112, 32]
  | 14 => [104, 111, 108, 100, 32, 48]
  | 15 => [108, 105, 109, 105, 116, 32, 48, 32, 49, 50, 51, 52]
  | 16 => []
  | 17 => [115, 116, 111, 112, 32, 48, 59]
  | 18 => [108]
  | 19 => [99, 97, 108, 108, 32, 48, 32, 49, 50]
  | 20 => [115, 116, 97, 114, 116, 32, 120]
  | 21 => [122]
  | _ => [200]
def oS (k : Nat) : String := if k < 8 then "LiftGroup$Script" else "LiftGroupLaw"
def oK (k : Nat) : Nat := if k < 8 then 34 + 2 * k else [186, 198, 206, 208, 214, 216, 218, 220, 222, 224, 226, 228, 230, 232].getD (k - 8) 0
def stS (k : Nat) : Jvm.Term := .string (oS k) (oK k)
def stV (k : Nat) : Jvm.Term := .field (stS k) "java/lang/String" "value" "[B"
def stD (nm : String) : Jvm.Term := .static "java/lang/Integer" nm "[B"
def st_arrL (tm : Jvm.Term) (n : Nat) (f : Nat → Nat) : List Jvm.Cond := .arrayOf tm .byte :: .eq (.length tm) (.int (Int32.ofNat n)) :: (List.range n).map (fun j => .eq (.elem tm (.int (Int32.ofNat j))) (.int (Int32.ofNat (f j))))
def st_strL (k : Nat) : List Jvm.Cond := .exactly (stS k) "java/lang/String" :: .eq (.field (stS k) "java/lang/String" "coder" "B") (.int 0) :: st_arrL (stV k) (stF k).length (fun j => (stF k).getD j 0)
def st_ncL : List Jvm.Cond := am_nc.map (fun q => .not (.castable q.1 q.2))
def st_oL : List Jvm.Cond := [.eq (.static "java/lang/String" "COMPACT_STRINGS" "Z") (.int 1), .isRef (.static "jdk/internal/util/Preconditions" "SIOOBE_FORMATTER" "Ljava/util/function/BiFunction;"), .isRef (.static Bundle.tN "UNASSIGNED_STACK" Bundle.steD), .isRef (.static Bundle.tN "SUPPRESSED_SENTINEL" Bundle.listD), .isRef (.mirror "[Ljava/lang/Object;"), .arrayOf (.static "java/util/ArrayList" "DEFAULTCAPACITY_EMPTY_ELEMENTDATA" "[Ljava/lang/Object;") (.object "java/lang/Object"), .eq (.length (.static "java/util/ArrayList" "DEFAULTCAPACITY_EMPTY_ELEMENTDATA" "[Ljava/lang/Object;")) (.int 0)]
set_option maxRecDepth 16384 in
theorem st_ok3 : ∀ c ∈ ((List.range 8).map st_strL).flatten, c ∈ flatC st_T := st_in (i := 950) (by decide +kernel)
set_option maxRecDepth 16384 in
theorem st_ok3b : ∀ c ∈ ((List.range 14).map (fun k => st_strL (8 + k))).flatten, c ∈ flatC st_T := st_in (i := 1410) (by decide +kernel)
set_option maxRecDepth 16384 in
theorem st_ok4 : ∀ c ∈ st_oL ++ st_ncL, c ∈ flatC st_T := by decide +kernel
theorem st_22 (P : Nat → Prop) (h : ∀ k, k < 22 → P k) : ∀ k, k < 22 → P k := h
theorem stF_len : ∀ k, k < 22 → (stF k).length < 1000 := by decide +kernel
theorem oS_ne : ∀ k, k < 22 → oS k ≠ "" := by decide +kernel
theorem am_st_ne : am_st.all (fun q => decide (q.1 ≠ "")) = true := by decide +kernel
theorem st_arr {args : Array Value} {s : State} {A : Nat → Prop} {tm : Jvm.Term} {n : Nat} {f : Nat → Nat} (hn : n < 2 ^ 31) (h : ∀ c ∈ st_arrL tm n f, c.before args s = true) (hA : ∀ a : Nat, a < s.heap.size → ¬ A a) : ∃ t : Nat, tm.eval args s none [] s = some (.ref t) ∧ va_T .byte t n (fun j => .int (Int32.ofNat (f j))) A s s.heap :=
  va_Tof (f := fun j => .int (Int32.ofNat (f j))) hn (h _ List.mem_cons_self) (va_eqt (h _ (List.mem_cons_of_mem _ List.mem_cons_self))) (fun j hj => va_eqt (h _ (List.mem_cons_of_mem _ (List.mem_cons_of_mem _ (List.mem_map.mpr ⟨j, List.mem_range.mpr hj, rfl⟩))))) hA
/-! the cells' pictures -/
def st_N (s : State) (x : Nat) : Nat := match s.heap[x]? with
  | some c => c.slots.size.toInt32.toNatClampNeg
  | none => 0
def st_E (s : State) (x j : Nat) : Int32 := match s.heap[x]? with
  | some c => (match c.slots[j]? with
    | some (.int v) => v
    | _ => 0)
  | none => 0
theorem st_nat {k : Nat} (h : k < 2147483648) : (Int32.ofNat k).toNatClampNeg = k := by
  unfold Int32.toNatClampNeg
  rw [Int32.toInt_ofNat_of_lt (by omega)]
  exact Int.toNat_natCast k
theorem st_T0 {s : State} {A : Nat → Prop} {ty : Jvm.ClassFile.FieldType} {x n : Nat} {f : Nat → Int32} (hn : n < 2147483648) (h : va_T ty x n (fun j => .int (f j)) A s s.heap) : st_N s x = n ∧ (∀ j, j < n → st_E s x j = f j) ∧ va_T ty x (st_N s x) (fun j => .int (st_E s x j)) A s s.heap := by
  obtain ⟨cell, h1, h2, h3, h4, h5, h6, h7⟩ := h
  have e : st_N s x = n := by
    unfold st_N
    rw [h1]
    show cell.slots.size.toInt32.toNatClampNeg = n
    rw [h5]
    exact st_nat hn
  have g : ∀ j, j < n → st_E s x j = f j := fun j hj => by
    unfold st_E
    rw [h1]
    show (match cell.slots[j]? with | some (.int v) => v | _ => 0) = f j
    rw [h6 j hj]
  refine ⟨e, g, cell, h1, h2, h3, by rw [e]; exact h4, by rw [e]; exact h5, fun j hj => ?_, h7⟩
  rw [e] at hj
  show cell.slots[j]? = some (Value.int (st_E s x j))
  rw [g j hj]
  exact h6 j hj
theorem st_OFu {o n d : String} {v v' : Value} {t : Nat} {A : Nat → Prop} {s : State} {H : Heap} (h1 : va_OF o n d v t A s H) (h2 : va_OF o n d v' t A s H) : v = v' := by
  obtain ⟨cf, k, i, f, cell, a1, a2, a3, a4, a5, a6⟩ := h1
  obtain ⟨cf', k', i', f', cell', b1, b2, b3, b4, b5, b6⟩ := h2
  cases Option.some.inj (a1.symm.trans b1)
  cases Option.some.inj (a3.symm.trans b3)
  exact Option.some.inj (a5.symm.trans b5)
theorem st_ne1 {s : State} {A : Nat → Prop} {x y n m : Nat} {f g : Nat → Value} {H : Heap} (h1 : va_T .byte x n f A s H) (h2 : va_T .int y m g A s H) : x ≠ y := by
  rintro rfl
  obtain ⟨cell, a1, ⟨-, k, a2, comp, a3⟩, -⟩ := h1
  obtain ⟨cell', b1, ⟨-, k', b2, comp', b3⟩, -⟩ := h2
  cases Option.some.inj (a1.symm.trans b1)
  cases Option.some.inj (a2.symm.trans b2)
  rw [a3] at b3
  cases b3
theorem st_neT {s : State} {A : Nat → Prop} {t1 t2 : Jvm.ClassFile.FieldType} {x y n m : Nat} {f g : Nat → Value} {H : Heap} (ht : t1 ≠ t2) (h1 : va_T t1 x n f A s H) (h2 : va_T t2 y m g A s H) : x ≠ y := by
  rintro rfl
  obtain ⟨cell, a1, ⟨-, k, a2, comp, a3⟩, -⟩ := h1
  obtain ⟨cell', b1, ⟨-, k', b2, comp', b3⟩, -⟩ := h2
  cases Option.some.inj (a1.symm.trans b1)
  cases Option.some.inj (a2.symm.trans b2)
  rw [a3] at b3
  cases b3
  exact ht rfl
theorem st_ne2 {s : State} {A : Nat → Prop} {C : String} {x y m i : Nat} {ty : Jvm.ClassFile.FieldType} {g : Nat → Value} {H : Heap} {args : Array Value} (hi : (Cond.instantiable C i).before args s = true) (h1 : va_O C x A s H) (h2 : va_T ty y m g A s H) : x ≠ y := by
  rintro rfl
  obtain ⟨c, k, f1, f2, f3, -⟩ := Cond.instantiable_spec hi
  obtain ⟨cell, a1, -, a2, -⟩ := h1
  obtain ⟨cell', b1, ⟨-, k', b2, comp', b3⟩, -⟩ := h2
  cases Option.some.inj (a1.symm.trans b1)
  cases Option.some.inj (f1.symm.trans a2)
  cases Option.some.inj (f2.symm.trans b2)
  rw [f3] at b3
  cases b3
def st_s (s : State) (o : String) (k : Nat) : Nat := match (Jvm.Term.string o k).eval #[] s none [] s with
  | some (.ref a) => a
  | _ => 0
theorem st_R {s : State} {b : Nat} (hts : ∀ w ∈ lw_tbl, w.before #[Value.ref b] s = true) : ∀ q ∈ am_st, vk_R q.1 q.2.1 q.2.2 (st_s s q.1 q.2.1) s := by
  intro q hq
  obtain ⟨w, hw, e⟩ := List.mem_filterMap.mp hq
  have h9 := hts w hw
  cases w with
  | stringRef o k t =>
    cases e
    have h9' : (Cond.stringRef o k t).before #[] s = true := h9
    have hcur : ∃ cur, s.vm.findClass o = some cur := by
      have h1 := h9'
      simp only [Cond.before, Cond.holds, Cond.value] at h1
      cases hc : s.vm.findClass o with
      | none => simp [hc] at h1
      | some cur => exact ⟨cur, rfl⟩
    obtain ⟨cur, hcur⟩ := hcur
    obtain ⟨_, _, _, a, _, _, _, _, _, ev⟩ := Cond.stringRef_spec hcur h9'
    refine vk_R.of h9' (a := st_s s o k) ?_
    have ea : st_s s o k = a := by
      unfold st_s
      rw [show (Jvm.Term.string o k).eval #[] s none [] s = some (.ref a) from ev]
    rw [ea]
    exact ev
  | _ => cases e
/-- which cells are only read, and what they hold -/
noncomputable def st_M (s : State) (b : Nat) (sa va : Nat → Nat) (e : Nat) : am_Hp := by
  classical
  exact (fun x => if x = b then 42 else if ∃ k, k < 22 ∧ x = sa k then 40 else if ∃ k, k < 22 ∧ x = va k then 41 else if x = e then 43 else 0, st_N s, fun _ _ => 0, fun _ x => if h : ∃ k, k < 22 ∧ x = sa k then va (Classical.choose h) else 0, st_E s, fun _ _ => 0, fun _ _ => 0, fun _ _ => 0)
theorem st_start {s : State} {b L : Nat} {xs : Nat → Int32} (l : Launch) (hts : ∀ w ∈ lw_tbl, w.before #[Value.ref b] s = true) (hgv : st_T.before #[Value.ref b] s = true) (hX : va_X b L xs s s.heap) (hbl : b < s.heap.size) (hL : L ≤ 260) : ∃ G : am_Gx, gx_l G = l ∧ gx_b G = s.heap.size ∧ am_U G s ∧ am_H G (gx_M G) s.heap ∧ ("java/lang/String", "COMPACT_STRINGS", "Z", Value.int 1) ∈ gx_z G ∧ ((∃ p2 : Nat, ("jdk/internal/util/Preconditions", "SIOOBE_FORMATTER", "Ljava/util/function/BiFunction;", Value.ref p2) ∈ gx_z G) ∨ ("jdk/internal/util/Preconditions", "SIOOBE_FORMATTER", "Ljava/util/function/BiFunction;", Value.null) ∈ gx_z G) ∧ (∃ e, ("java/util/ArrayList", "DEFAULTCAPACITY_EMPTY_ELEMENTDATA", "[Ljava/lang/Object;", Value.ref e) ∈ gx_z G ∧ hp_T (gx_M G) e = 43 ∧ hp_N (gx_M G) e = 0) ∧ (∀ k, k < 22 → hp_T (gx_M G) (gx_s G (oS k) (oK k)) = 40 ∧ hp_T (gx_M G) (hp_R (gx_M G) 180 (gx_s G (oS k) (oK k))) = 41 ∧ hp_N (gx_M G) (hp_R (gx_M G) 180 (gx_s G (oS k) (oK k))) = (stF k).length ∧ hp_I (gx_M G) 181 (gx_s G (oS k) (oK k)) = 0 ∧ ∀ i, i < (stF k).length → hp_E (gx_M G) (hp_R (gx_M G) 180 (gx_s G (oS k) (oK k))) i = Int32.ofNat ((stF k).getD i 0)) ∧ hp_T (gx_M G) b = 42 ∧ hp_N (gx_M G) b = L := by
  classical
  have htg : ∀ w ∈ am_gt, w.before #[Value.ref b] s = true := fun w hw => hts w (List.mem_filter.mp hw).1
  have hnw : ∀ w ∈ am_nw, va_Nw w s := fun w hw => by
    have hg := (List.mem_filter.mp hw).2
    have h9 := hts w (List.mem_filter.mp hw).1
    cases w <;> first | exact va_Nw.of rfl h9 | exact h9 | (cases hg)
  obtain ⟨D, cy, hK⟩ := st_K htg hnw
  let A : Nat → Prop := fun q => s.heap.size ≤ q
  have hA : ∀ a : Nat, a < s.heap.size → ¬ A a := fun a h => Nat.not_le.mpr h
  have h3 := st_all hgv st_ok3
  have h3b := st_all hgv st_ok3b
  have hS : ∀ k, k < 22 → ∀ c ∈ st_strL k, c.before #[Value.ref b] s = true := fun k hk c hc => by
    by_cases k8 : k < 8
    · exact h3 c (List.mem_flatten.mpr ⟨_, List.mem_map.mpr ⟨k, List.mem_range.mpr k8, rfl⟩, hc⟩)
    · refine h3b c (List.mem_flatten.mpr ⟨_, List.mem_map.mpr ⟨k - 8, List.mem_range.mpr (by omega), rfl⟩, ?_⟩)
      rw [show 8 + (k - 8) = k by omega]
      exact hc
  have h4 := st_all hgv st_ok4
  obtain ⟨e, ee, Te⟩ := va_Tof (f := fun _ => .null) (N := 0) (A := A) (by decide) (h4 (.arrayOf (.static "java/util/ArrayList" "DEFAULTCAPACITY_EMPTY_ELEMENTDATA" "[Ljava/lang/Object;") (.object "java/lang/Object")) (by decide +kernel)) (va_eqt (h4 (.eq (.length (.static "java/util/ArrayList" "DEFAULTCAPACITY_EMPTY_ELEMENTDATA" "[Ljava/lang/Object;")) (.int 0)) (by decide +kernel))) (fun j hj => absurd hj (Nat.not_lt_zero _)) hA
  obtain ⟨mi, hmi⟩ := va_Mi.of (h4 (.isRef (.mirror "[Ljava/lang/Object;")) (by decide +kernel))
  have hst : ∀ k, ∃ t : Nat, k < 22 → (stV k).eval #[Value.ref b] s none [] s = some (.ref t) ∧ va_T .byte t (stF k).length (fun j => .int (Int32.ofNat ((stF k).getD j 0))) A s s.heap := fun k => by
    by_cases hk : k < 22
    · obtain ⟨t, e1, e2⟩ := st_arr (A := A) (tm := stV k) (n := (stF k).length) (f := fun j => (stF k).getD j 0) (by have := stF_len k hk; omega) (fun c hc => hS k hk c (List.mem_cons_of_mem _ (List.mem_cons_of_mem _ hc))) hA
      exact ⟨t, fun _ => ⟨e1, e2⟩⟩
    · exact ⟨0, fun h => absurd h hk⟩
  let va : Nat → Nat := fun k => Classical.choose (hst k)
  have hva : ∀ k, k < 22 → (stV k).eval #[Value.ref b] s none [] s = some (.ref (va k)) ∧ va_T .byte (va k) (stF k).length (fun j => .int (Int32.ofNat ((stF k).getD j 0))) A s s.heap := fun k hk => Classical.choose_spec (hst k) hk
  let sa : Nat → Nat := fun k => st_s s (oS k) (oK k)
  let ss : String → Nat → Nat := fun o k => if o = "" then mi else st_s s o k
  have hss : ∀ k, k < 22 → ss (oS k) (oK k) = sa k := fun k hk => if_neg (oS_ne k hk)
  have hsa : ∀ k, k < 22 → va_O "java/lang/String" (sa k) A s s.heap ∧ va_OF "java/lang/String" "value" "[B" (.ref (va k)) (sa k) A s s.heap ∧ va_OF "java/lang/String" "coder" "B" (.int 0) (sa k) A s s.heap := fun k hk => by
    have hex := hS k hk _ List.mem_cons_self
    obtain ⟨a, c, cell, kk, ev, -⟩ := Cond.exactly_spec hex
    have ea : sa k = a := by
      show st_s s (oS k) (oK k) = a
      unfold st_s
      rw [show (Jvm.Term.string (oS k) (oK k)).eval #[] s none [] s = some (.ref a) from ev]
    rw [ea]
    exact ⟨va_Oof hex ev hA, vk_OFof ev (hva k hk).1 hA, vk_OFof ev (va_eqt (hS k hk _ (List.mem_cons_of_mem _ List.mem_cons_self))) hA⟩
  have Tb : va_T .int b L (fun j => .int (xs j)) A s s.heap := by
    obtain ⟨scr, x1, x2, x3, x4, x5⟩ := hX
    exact ⟨scr, x1, x2, x3, Nat.le_of_eq x4.symm, by rw [x4], x5, hA b hbl⟩
  have hz1 := va_eqt (h4 (.eq (.static "java/lang/String" "COMPACT_STRINGS" "Z") (.int 1)) (by decide +kernel))
  obtain ⟨fv, ev, hfv⟩ := Cond.isRef_spec (h4 (.isRef (.static "jdk/internal/util/Preconditions" "SIOOBE_FORMATTER" "Ljava/util/function/BiFunction;")) (by decide +kernel))
  have W : ∀ (i : Nat) (w : Jvm.Cond), tables_1[i]? = some w → w.before #[Value.ref b] s = true := fun i w h => hts w (List.mem_append_right _ (List.mem_of_getElem? h))
  let zs : List (String × String × String × Value) := [("java/lang/String", "COMPACT_STRINGS", "Z", Value.int 1), ("jdk/internal/util/Preconditions", "SIOOBE_FORMATTER", "Ljava/util/function/BiFunction;", fv), ("java/util/ArrayList", "DEFAULTCAPACITY_EMPTY_ELEMENTDATA", "[Ljava/lang/Object;", Value.ref e)]
  have hzs : ∀ z ∈ zs, va_Z z.1 z.2.1 z.2.2.1 z.2.2.2 A s s.heap := fun z hz => by
    simp only [zs, List.mem_cons, List.not_mem_nil, or_false] at hz
    rcases hz with rfl | rfl | rfl
    · exact va_Zof (W 244 _ (by decide +kernel)) (W 10 _ (by decide +kernel)) hz1 hA
    · exact va_Zof (W 897 (.laysStatic "jdk/internal/util/Preconditions" "SIOOBE_FORMATTER" "Ljava/util/function/BiFunction;") (by decide +kernel)) (W 30 (.initialized "jdk/internal/util/Preconditions") (by decide +kernel)) ev hA
    · exact va_Zof (W 1332 (.laysStatic "java/util/ArrayList" "DEFAULTCAPACITY_EMPTY_ELEMENTDATA" "[Ljava/lang/Object;") (by decide +kernel)) (W 24 (.initialized "java/util/ArrayList") (by decide +kernel)) ee hA
  have hi : (Cond.instantiable "java/lang/String" 4).before #[Value.ref b] s = true := W 1092 _ (by decide +kernel)
  obtain ⟨b1, b2, b3⟩ := st_T0 (f := xs) (by omega) Tb
  have e1 : st_N s e = 0 := by
    obtain ⟨cell, h1, h2, h3, h4, h5, h6, h7⟩ := Te
    unfold st_N
    rw [h1]
    show cell.slots.size.toInt32.toNatClampNeg = 0
    rw [h5]
    exact st_nat (by omega)
  have hv : ∀ k, k < 22 → st_N s (va k) = (stF k).length ∧ (∀ j, j < (stF k).length → st_E s (va k) j = Int32.ofNat ((stF k).getD j 0)) ∧ va_T .byte (va k) (st_N s (va k)) (fun j => .int (st_E s (va k) j)) A s s.heap := fun k hk => st_T0 (f := fun j => Int32.ofNat ((stF k).getD j 0)) (by have := stF_len k hk; omega) (hva k hk).2
  -- the tags
  have Tb' : hp_T (st_M s b sa va e) b = 42 := if_pos rfl
  have nsb : ∀ k, k < 22 → sa k ≠ b := fun k hk => st_ne2 hi (hsa k hk).1 Tb
  have Ts' : ∀ k, k < 22 → hp_T (st_M s b sa va e) (sa k) = 40 := fun k hk => by
    show (if sa k = b then 42 else if ∃ k', k' < 22 ∧ sa k = sa k' then 40 else _) = 40
    rw [if_neg (nsb k hk), if_pos ⟨k, hk, rfl⟩]
  have T41 : ∀ k, k < 22 → hp_T (st_M s b sa va e) (va k) = 41 := fun k hk => by
    show (if va k = b then 42 else if ∃ k', k' < 22 ∧ va k = sa k' then 40 else if ∃ k', k' < 22 ∧ va k = va k' then 41 else if va k = e then 43 else 0) = 41
    rw [if_neg (st_ne1 (hva k hk).2 Tb), if_neg (fun ⟨k', h1, h2⟩ => st_ne2 hi (hsa k' h1).1 (hva k hk).2 h2.symm), if_pos ⟨k, hk, rfl⟩]
  have T43 : hp_T (st_M s b sa va e) e = 43 := by
    show (if e = b then 42 else if ∃ k', k' < 22 ∧ e = sa k' then 40 else if ∃ k', k' < 22 ∧ e = va k' then 41 else if e = e then 43 else 0) = 43
    rw [if_neg (st_neT (by decide) Te Tb), if_neg (fun ⟨k', h1, h2⟩ => st_ne2 hi (hsa k' h1).1 Te h2.symm), if_neg (fun ⟨k', h1, h2⟩ => st_neT (by decide) Te (hva k' h1).2 h2), if_pos rfl]
  have R' : ∀ k, k < 22 → hp_R (st_M s b sa va e) 180 (sa k) = va k := fun k hk => by
    have h : ∃ k', k' < 22 ∧ sa k = sa k' := ⟨k, hk, rfl⟩
    show (if h : ∃ k', k' < 22 ∧ sa k = sa k' then va (Classical.choose h) else 0) = va k
    rw [dif_pos h]
    have hc := Classical.choose_spec h
    have h5 := (hsa _ hc.1).2.1
    rw [← hc.2] at h5
    exact Value.ref.inj (st_OFu h5 (hsa k hk).2.1)
  have inv : ∀ x, hp_T (st_M s b sa va e) x = 42 ∧ x = b ∨ hp_T (st_M s b sa va e) x = 40 ∧ (∃ k, k < 22 ∧ x = sa k) ∨ hp_T (st_M s b sa va e) x = 41 ∧ (∃ k, k < 22 ∧ x = va k) ∨ hp_T (st_M s b sa va e) x = 43 ∧ x = e ∨ hp_T (st_M s b sa va e) x = 0 := fun x => by
    have ex : hp_T (st_M s b sa va e) x = (if x = b then 42 else if ∃ k', k' < 22 ∧ x = sa k' then 40 else if ∃ k, k < 22 ∧ x = va k then 41 else if x = e then 43 else 0) := rfl
    rw [ex]
    by_cases c1 : x = b
    · rw [if_pos c1]; exact .inl ⟨rfl, c1⟩
    · rw [if_neg c1]
      by_cases c2 : ∃ k', k' < 22 ∧ x = sa k'
      · rw [if_pos c2]; exact .inr (.inl ⟨rfl, c2⟩)
      · rw [if_neg c2]
        by_cases c3 : ∃ k, k < 22 ∧ x = va k
        · rw [if_pos c3]; exact .inr (.inr (.inl ⟨rfl, c3⟩))
        · rw [if_neg c3]
          by_cases c4 : x = e
          · rw [if_pos c4]; exact .inr (.inr (.inr (.inl ⟨rfl, c4⟩)))
          · rw [if_neg c4]; exact .inr (.inr (.inr (.inr rfl)))
  have lt : ∀ x ty n (f : Nat → Value), va_T ty x n f A s s.heap → x < s.heap.size := fun x ty n f h => by
    obtain ⟨cell, h1, -⟩ := h
    exact (Array.getElem?_eq_some_iff.mp h1).1
  have hFw1 : va_Fw "java/util/ArrayList$Itr" ⟨"java/util/Iterator", "hasNext", "()Z"⟩ ⟨"java/util/ArrayList$Itr", "hasNext", "()Z"⟩ s := va_Fw.of (W 1441 _ (by decide +kernel)) (W 1440 (.interfaceMethod "java/util/Iterator" "java/util/Iterator" "hasNext" "()Z") (by decide +kernel)) (W 1446 _ (by decide +kernel)) (W 1444 (.unhidden "java/util/ArrayList$Itr" "hasNext" "()Z") (by decide +kernel)) (W 1442 (.castable "java/util/ArrayList$Itr" "java/util/Iterator") (by decide +kernel))
  have hFw2 : va_Fw "java/util/ArrayList$Itr" ⟨"java/util/Iterator", "next", "()Ljava/lang/Object;"⟩ ⟨"java/util/ArrayList$Itr", "next", "()Ljava/lang/Object;"⟩ s := va_Fw.of (W 1451 _ (by decide +kernel)) (W 1450 (.interfaceMethod "java/util/Iterator" "java/util/Iterator" "next" "()Ljava/lang/Object;") (by decide +kernel)) (W 1455 _ (by decide +kernel)) (W 1453 (.unhidden "java/util/ArrayList$Itr" "next" "()Ljava/lang/Object;") (by decide +kernel)) (W 1442 (.castable "java/util/ArrayList$Itr" "java/util/Iterator") (by decide +kernel))
  refine ⟨(D, cy, s.heap.size, st_M s b sa va e, ss, l, zs), rfl, rfl, ⟨hK, Nat.le_refl _, hnw, fun q hq => ?_, hzs, vx_Zqof (W 363 _ (by decide +kernel)) (W 12 _ (by decide +kernel)) (h4 _ (by decide +kernel)) hA, vx_Zqof (W 365 _ (by decide +kernel)) (W 12 _ (by decide +kernel)) (h4 _ (by decide +kernel)) hA, fun q hq => va_Nc.of (h4 _ (List.mem_append_right _ (List.mem_map.mpr ⟨q, hq, rfl⟩))), fun x => ?_⟩, ⟨[], fun k q h => by simp [va_pl] at h, ⟨fun i j p q h => by simp [va_pl] at h, fun k q h => by simp [va_pl] at h⟩, fun a _ => ⟨rfl, rfl⟩, fun a h1 h2 => ?_, fun a h1 => ?_, trivial, fun a h => by simp at h, Nat.lt_of_le_of_lt (Nat.zero_le _) hbl⟩, List.mem_cons_self, ?_, ⟨e, List.mem_cons_of_mem _ (List.mem_cons_of_mem _ List.mem_cons_self), T43, e1⟩, fun k hk => ?_, Tb', b1⟩
  · have h9 := st_R hts q hq
    have hne : ss q.1 q.2.1 = st_s s q.1 q.2.1 := if_neg (of_decide_eq_true (List.all_eq_true.mp am_st_ne q hq))
    show vk_R q.1 q.2.1 q.2.2 (ss q.1 q.2.1) s
    rw [hne]
    exact h9
  · show (hp_T (st_M s b sa va e) x = 41 → va_T .byte x (st_N s x) (fun j => .int (st_E s x j)) A s s.heap) ∧ (hp_T (st_M s b sa va e) x = 42 → va_T .int x (st_N s x) (fun j => .int (st_E s x j)) A s s.heap) ∧ (hp_T (st_M s b sa va e) x = 40 → va_O RJ0 x A s s.heap ∧ va_OF "java/lang/String" "value" "[B" (.ref (hp_R (st_M s b sa va e) 180 x)) x A s s.heap ∧ va_OF "java/lang/String" "coder" "B" (.int 0) x A s s.heap) ∧ (hp_T (st_M s b sa va e) x = 43 → va_T (.object "java/lang/Object") x (st_N s x) (fun _ => .null) A s s.heap) ∧ va_Mi "[Ljava/lang/Object;" (ss "" 0) s ∧ va_Fw "java/util/ArrayList$Itr" ⟨"java/util/Iterator", "hasNext", "()Z"⟩ ⟨"java/util/ArrayList$Itr", "hasNext", "()Z"⟩ s ∧ va_Fw "java/util/ArrayList$Itr" ⟨"java/util/Iterator", "next", "()Ljava/lang/Object;"⟩ ⟨"java/util/ArrayList$Itr", "next", "()Ljava/lang/Object;"⟩ s
    refine ⟨fun z => ?_, fun z => ?_, fun z => ?_, fun z => ?_, hmi, hFw1, hFw2⟩
    · rcases inv x with ⟨t, h⟩ | ⟨t, h⟩ | ⟨t, h⟩ | ⟨t, h⟩ | t <;> first | omega | skip
      obtain ⟨k, hk, rfl⟩ := h
      exact (hv k hk).2.2
    · rcases inv x with ⟨t, h⟩ | ⟨t, h⟩ | ⟨t, h⟩ | ⟨t, h⟩ | t <;> first | omega | skip
      rw [h]
      exact b3
    · rcases inv x with ⟨t, h⟩ | ⟨t, h⟩ | ⟨t, h⟩ | ⟨t, h⟩ | t <;> first | omega | skip
      obtain ⟨k, hk, rfl⟩ := h
      exact ⟨(hsa k hk).1, by rw [R' k hk]; exact (hsa k hk).2.1, (hsa k hk).2.2⟩
    · rcases inv x with ⟨t, h⟩ | ⟨t, h⟩ | ⟨t, h⟩ | ⟨t, h⟩ | t <;> first | omega | skip
      rw [h, e1]
      exact Te
  · have h1' : 0 < hp_T (st_M s b sa va e) a := h1
    have h2' : hp_T (st_M s b sa va e) a < 40 := h2
    rcases inv a with ⟨t, -⟩ | ⟨t, -⟩ | ⟨t, -⟩ | ⟨t, -⟩ | t <;> omega
  · have h1' : 40 ≤ hp_T (st_M s b sa va e) a := h1
    show a < s.heap.size
    rcases inv a with ⟨t, h⟩ | ⟨t, h⟩ | ⟨t, h⟩ | ⟨t, h⟩ | t
    · rw [h]; exact hbl
    · obtain ⟨k, hk, rfl⟩ := h
      obtain ⟨cell, g1, -⟩ := (hsa k hk).1
      exact (Array.getElem?_eq_some_iff.mp g1).1
    · obtain ⟨k, hk, rfl⟩ := h
      exact lt _ _ _ _ (hva k hk).2
    · rw [h]; exact lt _ _ _ _ Te
    · omega
  · cases fv with
    | ref p2 => exact .inl ⟨p2, List.mem_cons_of_mem _ List.mem_cons_self⟩
    | null => exact .inr (List.mem_cons_of_mem _ List.mem_cons_self)
    | _ => cases hfv
  · show hp_T (st_M s b sa va e) (ss (oS k) (oK k)) = 40 ∧ hp_T (st_M s b sa va e) (hp_R (st_M s b sa va e) 180 (ss (oS k) (oK k))) = 41 ∧ st_N s (hp_R (st_M s b sa va e) 180 (ss (oS k) (oK k))) = (stF k).length ∧ (0 : Int32) = 0 ∧ ∀ i, i < (stF k).length → st_E s (hp_R (st_M s b sa va e) 180 (ss (oS k) (oK k))) i = Int32.ofNat ((stF k).getD i 0)
    rw [hss k hk, R' k hk]
    exact ⟨Ts' k hk, T41 k hk, (hv k hk).1, rfl, (hv k hk).2.1⟩
