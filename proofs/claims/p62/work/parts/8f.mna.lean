/-! .. arrays of arrays, and the constructor of Script -/
theorem va_Dapp {A : Nat → Prop} {ws : va_W} {a : Nat} {e : va_E} (hD : va_D A ws) (hn : ∀ x, x ∈ ws → x.1 ≠ a) (hA : A a) : va_D A (ws ++ [(a, e)]) := by
  have hl : ∀ i (x : Nat × va_E), (ws ++ [(a, e)])[i]? = some x → (i < ws.length ∧ ws[i]? = some x) ∨ (i = ws.length ∧ x = (a, e)) := fun i x hi => by
    by_cases h : i < ws.length
    · rw [List.getElem?_append_left h] at hi
      exact .inl ⟨h, hi⟩
    · rw [List.getElem?_append_right (by omega)] at hi
      have h1 : i - ws.length < 1 := (List.getElem?_eq_some_iff.mp hi).1
      rw [show i - ws.length = 0 by omega] at hi
      cases hi
      exact .inr ⟨by omega, rfl⟩
  refine ⟨fun i j p q hi hj e' => ?_, fun k q hk => ?_⟩
  · rcases hl i p hi with ⟨h1, h2⟩ | ⟨h1, h2⟩ <;> rcases hl j q hj with ⟨g1, g2⟩ | ⟨g1, g2⟩
    · exact hD.1 i j p q h2 g2 e'
    · rw [g2] at e'
      exact absurd e' (hn p (List.mem_of_getElem? h2))
    · rw [h2] at e'
      exact absurd e'.symm (hn q (List.mem_of_getElem? g2))
    · omega
  · rcases hl k q hk with ⟨h1, h2⟩ | ⟨h1, h2⟩
    · exact hD.2 k q h2
    · rw [h2]; exact hA
theorem am_addc {G : am_Gx} {M M' : am_Hp} {s : State} {H1 : Heap} {locs : List Loc} {q t : Nat} {e : va_E} (hb : gx_b G ≤ s.heap.size) (h : am_H G M H1) (hq : hp_T M q = 0) (hA : am_A G q) (ht : 0 < t ∧ t < 40) (hS : va_S (am_A G) s.heap H1 locs) (he : va_at (gx_D G) am_cl (q, e) H1) (h1 : ∀ b, am_rl (gx_cy G) M' b = va_up (am_rl (gx_cy G) M) q e b) (h2 : ∀ b, hp_T M' b = va_up (hp_T M) q t b) : am_H G M' H1 := by
  obtain ⟨L, hP, hD, hPX, hT0, hTX, hXX, hLL, h0⟩ := h
  refine (am_H.add (q := q) (t := t) (e := e) hb hPX hT0 hTX hXX hLL h0 ht hS hS (hP.app (fun k x hk => ?_)) (va_Dapp hD (fun x hx => ?_) hA) (fun _ _ => ⟨h1, h2⟩)).2.2
  · have hz : k < 1 := (List.getElem?_eq_some_iff.mp hk).1
    rw [show k = 0 by omega] at hk
    cases hk
    exact he
  · obtain ⟨b, hb', rfl⟩ := List.mem_map.mp hx
    intro z
    have := (hLL b hb').1
    rw [show b = q from z, hq] at this
    exact absurd this (by decide)
/-- an array of 13 references to the arrays behind it -/
def hp_aq (M : am_Hp) (a n : Nat) (f : Nat → Nat) : am_Hp := (va_up (hp_T M) a 28, va_up (hp_N M) a n, hp_I M, hp_R M, fun x k => if x = a then 0 else hp_E M x k, fun x k => if x = a then f k else hp_Q M x k, fun x k => if x = a then 0 else hp_L M x k, fun x k => if x = a then 0 else hp_D M x k)
def hp_ai (M : am_Hp) (q k : Nat) : Nat → am_Hp
  | 0 => M
  | j + 1 => hp_a (hp_ai M q k j) (q + 1 + j) 22 k
theorem sm_ai {M : am_Hp} {q k x : Nat} : ∀ j, (x ≤ q ∨ q + 1 + j ≤ x) → sm M (hp_ai M q k j) x
  | 0, _ => sm.rf M x
  | j + 1, h => (sm_ai j (by omega)).tr (sm_a (by omega))
theorem ai_in {M : am_Hp} {q k i : Nat} : ∀ j, i < j → hp_T (hp_ai M q k j) (q + 1 + i) = 22 ∧ hp_N (hp_ai M q k j) (q + 1 + i) = k
  | 0, h => absurd h (Nat.not_lt_zero _)
  | j + 1, h => by
    by_cases e : i = j
    · subst e
      exact ⟨by simp [hp_ai, hp_a, hp_T, va_up], by simp [hp_ai, hp_a, hp_N, va_up]⟩
    · have h1 := ai_in (M := M) (q := q) (k := k) j (by omega : i < j)
      have h2 := sm_a (M := hp_ai M q k j) (a := q + 1 + j) (x := q + 1 + i) (t := 22) (n := k) (by omega)
      exact ⟨h2.1.trans h1.1, h2.2.1.trans h1.2⟩
theorem sm_aq {M : am_Hp} {a n x : Nat} {f : Nat → Nat} (h : x ≠ a) : sm M (hp_aq M a n f) x := ⟨by simp [hp_aq, hp_T, va_up, h], by simp [hp_aq, hp_N, va_up, h], fun _ => rfl, fun _ => rfl, by funext k; simp [hp_aq, hp_E, h], by funext k; simp [hp_aq, hp_Q, h], by funext k; simp [hp_aq, hp_L, h], by funext k; simp [hp_aq, hp_D, h]⟩
theorem rl_a22 (cy : Nat → ClassId) (M : am_Hp) (a n : Nat) : ∀ b, am_rl cy (hp_a M a 22 n) b = va_up (am_rl cy M) a (.inl (cy 22, n, .inl (fun _ => 0))) b := by
  intro b
  by_cases hb : b = a
  · subst hb
    rw [va_up, if_pos rfl, am_rl_arr (t := 22) (by simp [hp_a, hp_T, va_up]) (by omega) (by omega)]
    simp [hp_a, hp_N, va_up, am_ct, hp_E]
  · rw [va_up, if_neg hb]
    have s := sm_a (M := M) (a := a) (x := b) (t := 22) (n := n) hb
    exact am_rl_eq s.1 s.2.1 s.2.2.1 s.2.2.2.1 s.2.2.2.2.1 s.2.2.2.2.2.1 s.2.2.2.2.2.2.1 s.2.2.2.2.2.2.2
theorem rl_aq (cy : Nat → ClassId) (M : am_Hp) (a n : Nat) (f : Nat → Nat) : ∀ b, am_rl cy (hp_aq M a n f) b = va_up (am_rl cy M) a (.inl (cy 28, n, .inr (.inr (.inr (.inr (fun k => am_o (f k))))))) b := by
  intro b
  by_cases hb : b = a
  · subst hb
    rw [va_up, if_pos rfl, am_rl_arr (t := 28) (by simp [hp_aq, hp_T, va_up]) (by omega) (by omega)]
    simp [hp_aq, hp_N, va_up, am_ct, hp_Q]
  · rw [va_up, if_neg hb]
    have s := sm_aq (M := M) (a := a) (x := b) (n := n) (f := f) hb
    exact am_rl_eq s.1 s.2.1 s.2.2.1 s.2.2.2.1 s.2.2.2.2.1 s.2.2.2.2.2.1 s.2.2.2.2.2.2.1 s.2.2.2.2.2.2.2
theorem cell_in (c : ClassId) : Jvm.Free.Multi.innerC c 3 (.int 0) = arrV c 3 (fun _ => .int 0) := by
  unfold Jvm.Free.Multi.innerC arrV
  congr 1
theorem cell_out (c : ClassId) (h0 : Nat) : Jvm.Free.Multi.outerC c 13 h0 13 = arrV c 13 (fun k => va_rf (am_o (if k < 13 then h0 + 1 + k else 0))) := by
  obtain ⟨o1, o2, o3⟩ := Jvm.Free.Multi.outerC_facts c 13 h0 13
  obtain ⟨p1, p2⟩ := Jvm.Free.Multi.outerC_plain c 13 h0 13
  have e : (Jvm.Free.Multi.outerC c 13 h0 13).slots = (arrV c 13 (fun k => va_rf (am_o (if k < 13 then h0 + 1 + k else 0)))).slots := by
    apply Array.ext_getElem?
    intro i
    by_cases hi : i < 13
    · rw [Jvm.Free.Multi.outerC_slot c 13 h0 13 i hi, if_pos hi]
      simp [arrV, hi, va_rf, am_o]
    · rw [Array.getElem?_eq_none (by rw [o3]; omega), Array.getElem?_eq_none (by simp [arrV]; omega)]
  cases hc : Jvm.Free.Multi.outerC c 13 h0 13 with
  | mk a1 a2 a3 a4 a5 =>
    rw [hc] at o1 o2 p1 p2 e
    dsimp only at o1 o2 p1 p2 e
    subst o1 o2 p1 p2
    rw [e]
    rfl
theorem tw_264x : (Jvm.Cond.classLink "LiftGroup$Script" (22 : Nat) "[[I") ∈ am_gt := am_in (List.mem_append_right _ (List.mem_of_getElem? (l := tables_1) (i := 267) (by decide +kernel))) (by decide +kernel)
theorem tn_265x : (Jvm.Cond.arrayOver (Jvm.ClassFile.FieldType.array Jvm.ClassFile.FieldType.int)) ∈ am_nw := am_inN (List.mem_append_right _ (List.mem_of_getElem? (l := tables_1) (i := 268) (by decide +kernel))) (by decide +kernel)
theorem j_mna {X : am_Cx} {r : am_Rec} {G : am_Gx} {d : Nat} (hX : am_ok X r G d) {pc bc bs : Nat} {lv : List (Nat × Value)} {rest : List Value} {M : am_Hp} {idx : Nat} (hdg : decode r.2.1 pc = .ok (.multianewarray idx 2, 4)) (hcl : Cond.classLink r.1.cls idx "[[I" ∈ am_gt) (hbc : 14 ≤ bc) (hbs : 52 ≤ bs) (kk : ∀ q M', (∀ j, j ≤ 13 → hp_T M (q + j) = 0) → q ≠ 0 → hp_T M' q = 28 → hp_N M' q = 13 → (∀ j, j < 13 → hp_Q M' q j = q + 1 + j ∧ hp_T M' (q + 1 + j) = 22 ∧ hp_N M' (q + 1 + j) = 3) → fr (fun _ => False) M M' → am_J X (pc + 4) lv (.ref q :: rest) M' (bc - 14) (bs - 52)) : am_J X pc lv (.int (3 : Int32) :: .int (13 : Int32) :: rest) M bc bs := by
  obtain ⟨p, e, R, s, m, args, below, meth, c, Qf, nL, G', mc, ms, d'⟩ := X
  obtain ⟨hx, hb, hml, hown, hts, hU, hlk, htb, hmc, hms, hfr, hlo, hst, hnL, rfl, rfl⟩ := hX
  intro H locs cells slots ls h1 h2 h3 h4 h5 T hT Xs
  subst hT
  have hov : (Cond.arrayOver (.array .int)).before args s = true := hU.2.2.1 _ tn_265x
  have hcl' : (Cond.classLink r.1.cls idx ("[" ++ (FieldType.array .int).toString)).before args s = true := hts _ hcl
  obtain ⟨vm₁, cA, comp, hW, hfA, hfC, hO, hI, X1, st⟩ := Xs.multianewarray2F (ty := .int) (n := 13) (k := 3) (rest := rest) (g := F0 m pc ls (.int (3 : Int32) :: .int (13 : Int32) :: rest)) hx hown hcl' hov (hts _ tw_81) rfl (by rw [hb]; exact hdg) rfl (by decide) (by decide) (by decide) (by decide) (by decide) (by decide) (by decide) (show cells + (1 + 13) ≤ R.cells by omega) (show slots + (13 + 13 * 3) ≤ R.slots by omega)
  have hcA : cA = gx_cy G' 28 := Option.some.inj (hfA.symm.trans (hU.1.2 8 _ rfl).2)
  have hcC : comp = gx_cy G' 22 := Option.some.inj (hfC.symm.trans (hU.1.2 2 _ rfl).2)
  subst hcA hcC
  have f1 := (Jvm.Free.Multi.fill_facts (T.setVm vm₁) (gx_cy G' 28) (gx_cy G' 22) 13 3 (defaultValue .int) 13)
  have fo := fun (a : Addr) (ha : a < T.heap.size) => Jvm.Free.Multi.fill_old (T.setVm vm₁) (gx_cy G' 28) (gx_cy G' 22) 13 3 (defaultValue .int) (a := a) ha 13
  have fi := fun (j : Nat) (hj : j < 13) => Jvm.Free.Multi.fill_inner (T.setVm vm₁) (gx_cy G' 28) (gx_cy G' 22) 13 3 (defaultValue .int) 13 j hj
  obtain ⟨fs, fq, -, -⟩ := f1
  generalize hF : Jvm.Free.Multi.fill (T.setVm vm₁) (gx_cy G' 28) (gx_cy G' 22) 13 3 (defaultValue .int) 13 = F at fs fq fo fi
  have hsz : (T.setVm vm₁).heap.size = T.heap.size := rfl
  rw [hsz] at fs fq fi
  replace fo : ∀ a : Nat, a < T.heap.size → F.heap[a]? = T.heap[a]? := fo
  have hS1 : va_S (am_A G') s.heap F.heap locs := ⟨Nat.le_trans h2.1 (by rw [fs]; omega), fun x x1 x2 => (fo x (Nat.lt_of_lt_of_le x1 h2.1)).trans (h2.2.1 x x1 x2), h2.2.2⟩
  -- the old cells stand in the new heap
  have hold : ∀ (q : Nat × va_E), va_at (gx_D G') am_cl q T.heap → va_at (gx_D G') am_cl q F.heap := fun q hq => by
    refine va_at.kept hq (fo q.1 ?_)
    have : ∃ cl : Cell, T.heap[q.1]? = some cl := by
      unfold va_at at hq
      split at hq
      · exact ⟨_, hq⟩
      · obtain ⟨r0, -, cl, g1, -⟩ := hq
        exact ⟨cl, g1⟩
    obtain ⟨cl, hcl9⟩ := this
    exact (Array.getElem?_eq_some_iff.mp hcl9).1
  have hT9 : ∀ x, T.heap.size ≤ x → hp_T M x = 0 := fun x hx => by
    rcases Nat.eq_zero_or_pos (hp_T M x) with h | h
    · exact h
    · exfalso
      have h40 : hp_T M x < 40 := by
        rcases Nat.lt_or_ge (hp_T M x) 40 with y | y
        · exact y
        · have y1 := h1.choose_spec.2.2.2.2.1 x y
          have y2 := Nat.le_trans hU.2.1 h2.1
          omega
      have := (am_H.one h1 h h40) 0 _ rfl
      have h3 : ∃ cl : Cell, T.heap[x]? = some cl := by
        unfold va_at at this
        split at this
        · exact ⟨_, this⟩
        · obtain ⟨r0, -, cl, g1, -⟩ := this
          exact ⟨cl, g1⟩
      obtain ⟨cl, hcl9⟩ := h3
      have := (Array.getElem?_eq_some_iff.mp hcl9).1
      omega
  have hA9 : ∀ x, T.heap.size ≤ x → am_A G' x := fun x hx => Nat.le_trans hU.2.1 (Nat.le_trans h2.1 hx)
  have hq0 : T.heap.size ≠ 0 := by
    have := h1.choose_spec.2.2.2.2.2.2.2
    have h9 : gx_b G' ≤ T.heap.size := Nat.le_trans hU.2.1 h2.1
    omega
  have hH0 : am_H G' M F.heap := by
    obtain ⟨L, hP, hD, hPX, hr⟩ := h1
    exact ⟨L, fun k q hk => hold q (hP k q hk), hD, hPX, hr⟩
  have hHi : ∀ j, j ≤ 13 → am_H G' (hp_ai M T.heap.size 3 j) F.heap := by
    intro j
    induction j with
    | zero => exact fun _ => hH0
    | succ j ih =>
      intro hj
      have hcell : va_at (gx_D G') am_cl (T.heap.size + 1 + j, .inl (gx_cy G' 22, 3, .inl (fun _ => 0))) F.heap := by
        show F.heap[T.heap.size + 1 + j]? = some (arrV (gx_cy G' 22) 3 (fun _ => .int 0))
        rw [← cell_in]
        exact fi j (by omega)
      exact am_addc (t := 22) hU.2.1 (ih (by omega)) ((sm_ai j (by omega)).1.trans (hT9 _ (by omega))) (hA9 _ (by omega)) (by omega) hS1 hcell (rl_a22 _ _ _ _) (fun b => rfl)
  have hcell : va_at (gx_D G') am_cl (T.heap.size, .inl (gx_cy G' 28, 13, .inr (.inr (.inr (.inr (fun k => am_o (if k < 13 then T.heap.size + 1 + k else 0))))))) F.heap := by
    show F.heap[T.heap.size]? = some (arrV (gx_cy G' 28) 13 (fun k => va_rf (am_o (if k < 13 then T.heap.size + 1 + k else 0))))
    rw [← cell_out]
    exact fq
  have hHf : am_H G' (hp_aq (hp_ai M T.heap.size 3 13) T.heap.size 13 (fun k => if k < 13 then T.heap.size + 1 + k else 0)) F.heap :=
    am_addc (t := 28) hU.2.1 (hHi 13 (by omega)) ((sm_ai 13 (by omega)).1.trans (hT9 _ (Nat.le_refl _))) (hA9 _ (Nat.le_refl _)) (by omega) hS1 hcell (rl_aq _ _ _ _ _) (fun b => rfl)
  have hfr9 : fr (fun _ => False) M (hp_aq (hp_ai M T.heap.size 3 13) T.heap.size 13 (fun k => if k < 13 then T.heap.size + 1 + k else 0)) := fun x x1 _ => by
    have hx : x < T.heap.size := Nat.lt_of_not_le (fun z => x1 (hT9 x z))
    exact (sm_ai 13 (by omega)).tr (sm_aq (by omega))
  have K := kk T.heap.size _ (fun j hj => hT9 _ (by omega)) hq0 (by simp [hp_aq, hp_T, va_up]) (by simp [hp_aq, hp_N, va_up]) (fun j hj => ⟨by simp [hp_aq, hp_Q, hj], (sm_aq (by omega)).1.trans (ai_in 13 hj).1, (sm_aq (by omega)).2.1.trans (ai_in 13 hj).2⟩) hfr9
  obtain ⟨t, a, b⟩ := K F.heap locs (cells + 14) (slots + 52) ls hHf hS1 (by omega) (by omega) h5 F rfl (by rw [← hF]; exact X1.more (by show cells + 1 + 13 ≤ cells + 14; omega) (by show slots + 13 + 13 * 3 ≤ slots + 52; omega))
  refine ⟨t, st t ?_, b⟩
  rw [← hF] at a
  exact a
