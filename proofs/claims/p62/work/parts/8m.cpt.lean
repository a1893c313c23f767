/-! .. the class's parser: commands and the whole text -/
theorem fR_le (l : List Nat) : ∀ ps a args, (∀ w, w ∈ ps → w < 1000) → a ≤ l.length → (fR l ps a args).2.1 ≤ l.length
  | [], _, _, _, h => h
  | w :: ps, a, args, hw, h => by
    rw [fR]
    by_cases c1 : w = 48 ∨ w = 78
    · rw [if_pos c1]
      by_cases c2 : dE l (if w = 48 then 1 else 3) a = a
      · rw [if_pos c2]; exact h
      · rw [if_neg c2]; exact fR_le l ps _ _ (fun x hx => hw x (List.mem_cons_of_mem _ hx)) (dE_le l _ a h)
    · rw [if_neg c1]
      split
      · rename_i c
        by_cases z : a < l.length
        · exact fR_le l ps _ _ (fun x hx => hw x (List.mem_cons_of_mem _ hx)) z
        · exfalso
          rw [tk_out (by omega)] at c
          have := hw w List.mem_cons_self
          omega
      · exact h
theorem fmt_1000 {k : Nat} : ∀ w, w ∈ fmt k → w < 1000 := by
  intro w hw
  by_cases hk : k < 8
  · obtain ⟨i, hi, e⟩ := List.getElem_of_mem hw
    have := (fmt_c hk).2 i hi
    rw [List.getD_eq_getElem?_getD, List.getElem?_eq_getElem hi, e] at this
    simp at this
    omega
  · have e : fmt k = [200] := by
      unfold fmt
      split <;> first | omega | rfl
    rw [e, List.mem_singleton] at hw
    omega
theorem fE_le {l : List Nat} {k p : Nat} (h : p ≤ l.length) : (fE l k p).2.1 ≤ l.length := by
  rw [fE_2]
  exact fR_le l _ p [] fmt_1000 h
theorem mx_le {a b n : Nat} (h1 : a ≤ n) (h2 : b ≤ n) : mx a b ≤ n := by
  unfold mx
  split <;> omega
/-- the script's state is kept by what changes rows, kinds and its numbers -/
theorem sc_row {M : am_Hp} {sc st ks rs : Nat} {f : md_R} {cc : Nat} (hS : scR M sc st ks rs) : scR (hp_sA M (rs + 1 + cc) f) sc st ks rs := hS
theorem st_row {M : am_Hp} {sc st ks rs b m cc : Nat} {l : List Nat} {f : md_R} (hcc : cc < 13) (hS : scR M sc st ks rs) (hT : sT M st b m l) : sT (hp_sA M (rs + 1 + cc) f) st b m l := by
  have h12 := (hS.2.2.2.2.2.2.2.2.2.2.2 cc hcc).2.1
  exact sT_sm (sm_sA (fun z => by have := hT.1.1; rw [z, h12] at this; exact absurd this (by decide))) (sm_sA (fun z => by have := hT.1.2.2.2.1; rw [z, h12] at this; exact absurd this (by decide))) hT
theorem st_sc {M : am_Hp} {sc st ks rs b m u : Nat} {l : List Nat} {v : Int32} (hS : scR M sc st ks rs) (hT : sT M st b m l) : sT (hp_sI M u sc v) st b m l := by
  have h := hS.1
  exact sT_sm (sm_sI (fun z => by have := hT.1.1; rw [z, h] at this; exact absurd this (by decide))) (sm_sI (fun z => by have := hT.1.2.2.2.1; rw [z, h] at this; exact absurd this (by decide))) hT
theorem st_ks {M : am_Hp} {sc st ks rs b m : Nat} {l : List Nat} {f : md_R} (hS : scR M sc st ks rs) (hT : sT M st b m l) : sT (hp_sA M ks f) st b m l := by
  have h := hS.2.2.2.2.2.2.2.1
  exact sT_sm (sm_sA (fun z => by have := hT.1.1; rw [z, h] at this; exact absurd this (by decide))) (sm_sA (fun z => by have := hT.1.2.2.2.1; rw [z, h] at this; exact absurd this (by decide))) hT
theorem stK_ty {G : am_Gx} {M M' : am_Hp} (h : stK G M) (hs : ∀ x, hp_T M x = 40 ∨ hp_T M x = 41 → sm M M' x) : stK G M' := fun k hk => stO_sm (hs _ (.inl (h k hk).1)) (hs _ (.inr (h k hk).2.2.1)) (h k hk)
theorem sk_row {G : am_Gx} {M : am_Hp} {x : Nat} {f : md_R} (ht : hp_T M x = 22) (h : stK G M) : stK G (hp_sA M x f) := stK_ty h (fun y hy => sm_sA (fun z => by rw [z, ht] at hy; omega))
theorem sk_sc {G : am_Gx} {M : am_Hp} {x u : Nat} {v : Int32} (ht : hp_T M x = 5) (h : stK G M) : stK G (hp_sI M u x v) := stK_ty h (fun y hy => sm_sI (fun z => by rw [z, ht] at hy; omega))
theorem ec_loop {X : am_Cx} {G : am_Gx} {d sc st b m ks rs cc p : Nat} {l : List Nat} {M0 : am_Hp} {Q : am_Q} (hX : am_ok X rX4_endOfCommand G (d + 7)) (hM : am_me X rX4_endOfCommand Q) (hz : cz G) (hp : sioo G) (hS : scR M0 sc st ks rs) (hT : sT M0 st b m l) (hl : l.length ≤ 60) (hcc : cc < 13) (h83 : hp_I M0 83 sc = i3 cc) (hs : stK G M0) (hpl : p ≤ l.length)
    (hQ1 : ∀ (f : md_R) e, (cE l p 8 0 p).1 = true → (∀ j, j < (cE l p 8 0 p).2.2.2.length → f j = i3 ((cE l p 8 0 p).2.2.2.getD j 0)) → Q (.inl (some (.int (i3 (cE l p 8 0 p).2.1)))) (hp_sE (hp_sA (hp_sI M0 84 sc e) (rs + 1 + cc) f) ks cc (i3 (cE l p 8 0 p).2.2.1)))
    (hQ2 : ∀ f : md_R, (cE l p 8 0 p).1 = false → Q (.inl (some (.int (-1)))) (hp_sA (hp_sI M0 84 sc (i3 (cE l p 8 0 p).2.1)) (rs + 1 + cc) f)) : ∀ j k err f, k + j = 8 → err ≤ l.length → cE l p j k err = cE l p 8 0 p → am_J X 7 [(0, .ref sc), (1, .int (i3 p)), (2, .int (i3 k))] [] (hp_sA (hp_sI M0 84 sc (i3 err)) (rs + 1 + cc) f) 0 0 := by
  obtain ⟨s1, s2, s3, s4, s5, s6, s7, s8, s9, s10, s11, s12⟩ := hS
  have hS : scR M0 sc st ks rs := ⟨s1, s2, s3, s4, s5, s6, s7, s8, s9, s10, s11, s12⟩
  have t22 := (s12 cc hcc).2.1
  intro j
  induction j with
  | zero =>
    intro k err f hk he hE
    obtain rfl : k = 8 := by omega
    refine vX4_endOfCommand_7 hX hM (fun x0 x1 x2 M => am_J X 7 [(0, .ref x0), (1, .int x1), (2, .int x2)] [] M 0 0) (fun _ _ _ _ h => h) ⟨fun _ => ?_, fun z => absurd (by decide) z⟩
    have e := hE.symm
    rw [cE] at e
    have := hQ2 f (by rw [e])
    rw [e] at this
    exact this
  | succ j ih =>
    intro k err f hk he hE
    have hS1 : scR (hp_sA (hp_sI M0 84 sc (i3 err)) (rs + 1 + cc) f) sc st ks rs := hS
    have hT1 : sT (hp_sA (hp_sI M0 84 sc (i3 err)) (rs + 1 + cc) f) st b m l := st_row (M := hp_sI M0 84 sc (i3 err)) hcc hS (st_sc hS hT)
    have hs1 : stK G (hp_sA (hp_sI M0 84 sc (i3 err)) (rs + 1 + cc) f) := sk_row (M := hp_sI M0 84 sc (i3 err)) t22 (sk_sc s1 hs)
    have h83' : hp_I (hp_sA (hp_sI M0 84 sc (i3 err)) (rs + 1 + cc) f) 83 sc = i3 cc := by rw [hp_I_sA, hp_I_sIu _ _ _ _ (by decide)]; exact h83
    have h84' : hp_I (hp_sA (hp_sI M0 84 sc (i3 err)) (rs + 1 + cc) f) 84 sc = i3 err := by rw [hp_I_sA, hp_I_sI]
    have ql := fE_le (l := l) (k := k) hpl
    rw [cE] at hE
    refine vX4_endOfCommand_7 hX hM (fun x0 x1 x2 M => am_J X 7 [(0, .ref x0), (1, .int x1), (2, .int x2)] [] M 0 0) (fun _ _ _ _ h => h) ⟨fun z => absurd ((i3_le (a := 8) (by omega) (by omega)).mp z) (by omega), fun _ => ⟨s1, am_CT.mono ?_ (k_endOfForm (d := d) hz hp hS1 hT1 hl hcc h83' h84' (by omega) (by omega) hs1 hpl)⟩⟩
    rintro o M2 (⟨f1, rfl, F, rfl, f2⟩ | ⟨f1, rfl, F, rfl⟩)
    · refine ⟨_, rfl, fun z => ?_, fun _ => ?_⟩
      · exact absurd z (i3_nm1 (by omega))
      · rw [if_pos f1] at hE
        simp only [forall_eq]
        rw [hp_sA_sA]
        rw [hp_R_sA, hp_R_sI, s3, hp_I_sA, hp_I_sIu _ _ _ _ (by decide), h83, i3_toNat (by omega), hp_N_sA, hp_N_sI, s9]
        have := hQ1 F (i3 err) (by rw [← hE]) (by rw [← hE]; exact f2)
        rw [← hE] at this
        exact ⟨s1, s6, s8, vp_in_i3 hcc (by omega), this⟩
    · refine ⟨_, rfl, fun _ v e => ?_, fun z => absurd rfl z⟩
      rw [if_neg (by rw [f1]; decide)] at hE
      rw [e, i3_one, hp_sA_sA]
      have := ih (k + 1) (mx err (fE l k p).2.1) F (by omega) (mx_le he ql) hE
      rw [hp_sA_sI] at this
      rw [hp_sA_sI, hp_sI_sI]
      exact this
theorem k_endOfCommand {G : am_Gx} {d sc st b m ks rs cc p : Nat} {l : List Nat} {M : am_Hp} (hz : cz G) (hp : sioo G) (hS : scR M sc st ks rs) (hT : sT M st b m l) (hl : l.length ≤ 60) (hcc : cc < 13) (h83 : hp_I M 83 sc = i3 cc) (hs : stK G M) (hpl : p ≤ l.length) : am_CT G (d + 7) rX4_endOfCommand [.ref sc, .int (i3 p)] M 0 0 (fun o M' => ((cE l p 8 0 p).1 = true ∧ o = .inl (some (.int (i3 (cE l p 8 0 p).2.1))) ∧ ∃ (f : md_R) (e : Int32), M' = hp_sE (hp_sA (hp_sI M 84 sc e) (rs + 1 + cc) f) ks cc (i3 (cE l p 8 0 p).2.2.1) ∧ ∀ j, j < (cE l p 8 0 p).2.2.2.length → f j = i3 ((cE l p 8 0 p).2.2.2.getD j 0)) ∨ ((cE l p 8 0 p).1 = false ∧ o = .inl (some (.int (-1))) ∧ ∃ f : md_R, M' = hp_sA (hp_sI M 84 sc (i3 (cE l p 8 0 p).2.1)) (rs + 1 + cc) f)) := by
  refine am_intro mkX4_endOfCommand rfl (Nat.le_of_ble_eq_true rfl) rfl (fun X hX hM => ?_)
  refine vX4_endOfCommand_0 hX hM (fun x0 x1 x2 M => am_J X 7 [(0, .ref x0), (1, .int x1), (2, .int x2)] [] M 0 0) (fun _ _ _ _ h => h) ⟨hS.1, fun M2 e2 => ?_⟩
  have := ec_loop (Q := _) hX hM hz hp hS hT hl hcc h83 hs hpl (fun f e f1 f2 => .inl ⟨f1, rfl, f, e, rfl, f2⟩) (fun f f1 => .inr ⟨f1, rfl, f, rfl⟩) 8 0 p (hp_E M2 (rs + 1 + cc)) rfl hpl rfl
  rw [← e2, hp_sA_id] at this
  exact this
/-- the whole text -/
def rS (l : List Nat) : Nat → Nat → List (Nat × List Nat) → Bool × Nat × List (Nat × List Nat)
  | 0, p, acc => (false, p, acc)
  | n + 1, p, acc => if (cE l p 8 0 p).1 = true then (if l.length ≤ (cE l p 8 0 p).2.1 then (true, 0, acc ++ [(cE l p 8 0 p).2.2]) else rS l n ((cE l p 8 0 p).2.1 + 1) (acc ++ [(cE l p 8 0 p).2.2])) else (false, (cE l p 8 0 p).2.1, acc)
theorem cE_le {l : List Nat} {p : Nat} (h : p ≤ l.length) : ∀ j k err, err ≤ l.length → (cE l p j k err).2.1 ≤ l.length
  | 0, _, _, h2 => h2
  | j + 1, k, err, h2 => by
    rw [cE]
    split
    · exact fE_le h
    · exact cE_le h j (k + 1) _ (mx_le h2 (fE_le h))
/-- the commands that were read stand in the kinds and the rows -/
def cmR (M : am_Hp) (ks rs : Nat) (acc : List (Nat × List Nat)) : Prop := ∀ i, i < acc.length → hp_E M ks i = i3 (acc.getD i (0, [])).1 ∧ ∀ j, j < (acc.getD i (0, [])).2.length → hp_E M (rs + 1 + i) j = i3 ((acc.getD i (0, [])).2.getD j 0)
/-- what reading may touch -/
def rF (sc ks rs : Nat) (M M' : am_Hp) : Prop := sk M M' ∧ ∀ x, x ≠ sc → x ≠ ks → (∀ j, j < 13 → x ≠ rs + 1 + j) → ag M M' x
theorem rF.rf (sc ks rs : Nat) (M : am_Hp) : rF sc ks rs M M := ⟨sk.rf M, fun _ _ _ _ => ⟨fun _ => rfl, rfl, rfl⟩⟩
theorem rF.tr {sc ks rs : Nat} {M M1 M2 : am_Hp} (h : rF sc ks rs M M1) (k : rF sc ks rs M1 M2) : rF sc ks rs M M2 := ⟨h.1.trans k.1, fun x a b c => ag.tr (h.2 x a b c) (k.2 x a b c)⟩
theorem rF_sI {sc ks rs u : Nat} {M : am_Hp} {v : Int32} : rF sc ks rs M (hp_sI M u sc v) := ⟨⟨rfl, rfl, rfl, rfl, rfl⟩, fun x a _ _ => ⟨fun w => hp_I_sIa M u w v a, rfl, rfl⟩⟩
theorem rF_row {sc ks rs cc : Nat} {M : am_Hp} {f : md_R} (hcc : cc < 13) : rF sc ks rs M (hp_sA M (rs + 1 + cc) f) := ⟨⟨rfl, rfl, rfl, rfl, rfl⟩, fun x _ _ c => ⟨fun _ => rfl, hp_E_sA' M f (c cc hcc), rfl⟩⟩
theorem rF_ks {sc ks rs : Nat} {M : am_Hp} {f : md_R} : rF sc ks rs M (hp_sA M ks f) := ⟨⟨rfl, rfl, rfl, rfl, rfl⟩, fun x _ b _ => ⟨fun _ => rfl, hp_E_sA' M f b, rfl⟩⟩
theorem getD_app {α : Type} {l : List α} {x d : α} {i : Nat} (h : i < l.length) : (l ++ [x]).getD i d = l.getD i d := by
  simp [List.getD_eq_getElem?_getD, List.getElem?_append_left h]
theorem getD_end {α : Type} {l : List α} {x d : α} : (l ++ [x]).getD l.length d = x := by
  simp [List.getD_eq_getElem?_getD]
theorem rd_loop {X : am_Cx} {G : am_Gx} {d sc st b m ks rs : Nat} {l : List Nat} {M : am_Hp} {Q : am_Q} (hX : am_ok X rX4_read G (d + 8)) (hM : am_me X rX4_read Q) (hz : cz G) (hp : sioo G) (hl : l.length ≤ 60) (hkr : ∀ j, j < 13 → ks ≠ rs + 1 + j)
    (hQ1 : ∀ M1, (rS l 13 0 []).1 = true → rF sc ks rs M M1 → scR M1 sc st ks rs → cmR M1 ks rs (rS l 13 0 []).2.2 → hp_I M1 83 sc = i3 (rS l 13 0 []).2.2.length → (rS l 13 0 []).2.2.length ≤ 13 → Q (.inl (some (.int (-1)))) M1)
    (hQ2 : ∀ M1, (rS l 13 0 []).1 = false → rF sc ks rs M M1 → scR M1 sc st ks rs → (rS l 13 0 []).2.1 ≤ 60 → Q (.inl (some (.int (i3 (rS l 13 0 []).2.1)))) M1) : ∀ n p acc M1, acc.length + n = 13 → p ≤ l.length → rS l n p acc = rS l 13 0 [] → rF sc ks rs M M1 → scR M1 sc st ks rs → sT M1 st b m l → stK G M1 → hp_I M1 83 sc = i3 acc.length → cmR M1 ks rs acc → am_J X 9 [(0, .ref sc), (1, .int (i3 p)), (2, .int (i3 acc.length))] [] M1 0 0 := by
  intro n
  induction n with
  | zero =>
    intro p acc M1 hn hpl hR hF hS hT hs h83 hc
    refine vX4_read_9 hX hM (fun x0 x1 x2 M => am_J X 9 [(0, .ref x0), (1, .int x1), (2, .int x2)] [] M 0 0) (fun _ _ _ _ h => h) ⟨fun _ => ?_, fun z => absurd ((i3_le (a := 13) (by omega) (by omega)).mpr (by omega)) z⟩
    have e := hR.symm
    rw [rS] at e
    have := hQ2 M1 (by rw [e]) hF hS (by rw [e]; show p ≤ 60; omega)
    rw [e] at this
    exact this
  | succ n ih =>
    intro p acc M1 hn hpl hR hF hS hT hs h83 hc
    have hS0 := hS
    obtain ⟨s1, s2, s3, s4, s5, s6, s7, s8, s9, s10, s11, s12⟩ := hS
    have hcc : acc.length < 13 := by omega
    have t22 := (s12 acc.length hcc).2.1
    have hle := cE_le (l := l) hpl 8 0 p hpl
    rw [rS] at hR
    refine vX4_read_9 hX hM (fun x0 x1 x2 M => am_J X 9 [(0, .ref x0), (1, .int x1), (2, .int x2)] [] M 0 0) (fun _ _ _ _ h => h) ⟨fun z => absurd ((i3_le (a := 13) (by omega) (by omega)).mp z) (by omega), fun _ => ⟨s1, am_CT.mono ?_ (k_endOfCommand (d := d) hz hp hS0 hT hl hcc h83 hs hpl)⟩⟩
    rintro o M2 (⟨f1, rfl, F, e, rfl, f2⟩ | ⟨f1, rfl, F, rfl⟩)
    · refine ⟨_, rfl, fun z => absurd z (i3_nm1 (by omega)), fun _ => ?_⟩
      rw [if_pos f1] at hR
      have sqk : ks ≠ rs + 1 + acc.length := hkr _ hcc
      -- the state after the command
      have tsE : ∀ (g : md_R) (v : Int32), hp_sI (hp_sA (hp_sA (hp_sI M1 84 sc e) (rs + 1 + acc.length) F) ks g) 83 sc v = hp_sI (hp_sA (hp_sA (hp_sI M1 84 sc e) (rs + 1 + acc.length) F) ks g) 83 sc v := fun _ _ => rfl
      rw [hp_sE_sA]
      generalize hg : va_up (hp_E (hp_sA (hp_sI M1 84 sc e) (rs + 1 + acc.length) F) ks) acc.length (i3 (cE l p 8 0 p).2.2.1) = g
      simp only [forall_eq]
      have i83 : hp_I (hp_sA (hp_sA (hp_sI M1 84 sc e) (rs + 1 + acc.length) F) ks g) 83 sc = i3 acc.length := by
        rw [hp_I_sA, hp_I_sA, hp_I_sIu _ _ _ _ (by decide)]; exact h83
      rw [i83, i3_one]
      generalize hM3 : hp_sI (hp_sA (hp_sA (hp_sI M1 84 sc e) (rs + 1 + acc.length) F) ks g) 83 sc (i3 (acc.length + 1)) = M3
      have F3 : rF sc ks rs M1 M3 := by
        rw [← hM3]
        exact ((rF_sI.tr (rF_row hcc)).tr rF_ks).tr rF_sI
      have S3 : scR M3 sc st ks rs := by rw [← hM3]; exact hS0
      have T3 : sT M3 st b m l := by
        rw [← hM3]
        exact st_sc (M := hp_sA (hp_sA (hp_sI M1 84 sc e) (rs + 1 + acc.length) F) ks g) hS0 (st_ks (M := hp_sA (hp_sI M1 84 sc e) (rs + 1 + acc.length) F) hS0 (st_row (M := hp_sI M1 84 sc e) hcc hS0 (st_sc hS0 hT)))
      have K3 : stK G M3 := by
        rw [← hM3]
        exact sk_sc (M := hp_sA (hp_sA (hp_sI M1 84 sc e) (rs + 1 + acc.length) F) ks g) s1 (sk_row (M := hp_sA (hp_sI M1 84 sc e) (rs + 1 + acc.length) F) s8 (sk_row (M := hp_sI M1 84 sc e) t22 (sk_sc s1 hs)))
      have I3 : hp_I M3 83 sc = i3 (acc ++ [(cE l p 8 0 p).2.2]).length := by rw [← hM3, hp_I_sI, List.length_append]; rfl
      have C3 : cmR M3 ks rs (acc ++ [(cE l p 8 0 p).2.2]) := by
        intro i hi
        rw [List.length_append, List.length_singleton] at hi
        have eK : hp_E M3 ks = g := by rw [← hM3, hp_E_sI, hp_E_sA]
        have eR : ∀ i, i < 13 → i ≠ acc.length → hp_E M3 (rs + 1 + i) = hp_E M1 (rs + 1 + i) := fun i hi hne => by
          rw [← hM3, hp_E_sI, hp_E_sA' _ _ (hkr i hi).symm, hp_E_sA' _ _ (by omega), hp_E_sI]
        have eN : hp_E M3 (rs + 1 + acc.length) = F := by
          rw [← hM3, hp_E_sI, hp_E_sA' _ _ (hkr _ hcc).symm, hp_E_sA]
        by_cases c : i < acc.length
        · rw [getD_app c, eK, eR i (by omega) (by omega), ← hg, up_n _ _ (by omega), hp_E_sA' _ _ sqk, hp_E_sI]
          exact hc i c
        · obtain rfl : i = acc.length := by omega
          rw [getD_end, eK, eN, ← hg, up_e]
          exact ⟨rfl, f2⟩
      have l3 : (acc ++ [(cE l p 8 0 p).2.2]).length = acc.length + 1 := by rw [List.length_append]; rfl
      refine ⟨s1, ?_⟩
      rw [S3.2.1]
      refine ⟨s5, T3.1.1, ct_i (k_len T3.1) ⟨fun z => ?_, fun z => ?_⟩⟩
      · have z1 := (i3_lt (by omega) (by omega)).mp z
        rw [if_neg (by omega)] at hR
        rw [i3_one]
        have := ih ((cE l p 8 0 p).2.1 + 1) (acc ++ [(cE l p 8 0 p).2.2]) M3 (by rw [l3]; omega) z1 hR (hF.tr F3) S3 T3 K3 I3 C3
        rw [l3] at this
        exact this
      · have z1 : l.length ≤ (cE l p 8 0 p).2.1 := Nat.le_of_not_lt (fun y => z ((i3_lt (by omega) (by omega)).mpr y))
        rw [if_pos z1] at hR
        refine hQ1 M3 (by rw [← hR]) (hF.tr F3) S3 (by rw [← hR]; exact C3) (by rw [← hR]; exact I3) (by rw [← hR]; show (acc ++ _).length ≤ 13; rw [l3]; omega)
    · refine ⟨_, rfl, fun _ => ⟨s1, ?_⟩, fun z => absurd rfl z⟩
      rw [if_neg (by rw [f1]; decide)] at hR
      rw [hp_I_sA, hp_I_sI]
      have := hQ2 (hp_sA (hp_sI M1 84 sc (i3 (cE l p 8 0 p).2.1)) (rs + 1 + acc.length) F) (by rw [← hR]) (hF.tr (rF_sI.tr (rF_row hcc))) hS0 (by rw [← hR]; show (cE l p 8 0 p).2.1 ≤ 60; omega)
      rw [← hR] at this
      exact this
theorem k_read {G : am_Gx} {d sc st b m ks rs : Nat} {l : List Nat} {M : am_Hp} (hz : cz G) (hp : sioo G) (hS : scR M sc st ks rs) (hT : sT M st b m l) (hl : l.length ≤ 60) (hs : stK G M) (hkr : ∀ j, j < 13 → ks ≠ rs + 1 + j) : am_CT G (d + 8) rX4_read [.ref sc] M 0 0 (fun o M' => rF sc ks rs M M' ∧ scR M' sc st ks rs ∧ (((rS l 13 0 []).1 = true ∧ o = .inl (some (.int (-1))) ∧ cmR M' ks rs (rS l 13 0 []).2.2 ∧ hp_I M' 83 sc = i3 (rS l 13 0 []).2.2.length ∧ (rS l 13 0 []).2.2.length ≤ 13) ∨ ((rS l 13 0 []).1 = false ∧ o = .inl (some (.int (i3 (rS l 13 0 []).2.1))) ∧ (rS l 13 0 []).2.1 ≤ 60))) := by
  refine am_intro mkX4_read rfl (Nat.le_of_ble_eq_true rfl) rfl (fun X hX hM => ?_)
  refine vX4_read_0 hX hM (fun x0 x1 x2 M => am_J X 9 [(0, .ref x0), (1, .int x1), (2, .int x2)] [] M 0 0) (fun _ _ _ _ h => h) ⟨hS.1, fun M2 e2 => ?_⟩
  subst e2
  exact rd_loop (Q := _) hX hM hz hp hl hkr (fun M1 q1 q2 q3 q4 q5 q6 => ⟨q2, q3, .inl ⟨q1, rfl, q4, q5, q6⟩⟩) (fun M1 q1 q2 q3 q4 => ⟨q2, q3, .inr ⟨q1, rfl, q4⟩⟩) 13 0 [] _ rfl (Nat.zero_le _) rfl rF_sI hS (st_sc hS hT) (sk_sc hS.1 hs) (hp_I_sI _ _ _ _) (fun i hi => absurd hi (Nat.not_lt_zero _))
