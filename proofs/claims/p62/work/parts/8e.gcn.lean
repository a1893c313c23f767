/-! .. what the class writes: type, renderCar, renderFloors -/
theorem sN_x {M M1 : am_Hp} {s b m x : Nat} {l l0 : List Nat} (h : sN M M1 s b l) (hs : sT M s b m l0) (hx : hp_T M x ≠ 0) (h9 : hp_T M x ≠ 9) (h20 : hp_T M x ≠ 20) : sm M M1 x := by
  obtain ⟨b', m', -, -, f⟩ := h
  refine f x hx (fun z => ?_)
  rcases z with z | z
  · rw [z, hs.1.1] at h9; exact h9 rfl
  · rw [z, hs.1.2.2.2.1] at h20; exact h20 rfl
theorem sN_nil {M M1 : am_Hp} {s b m : Nat} (h : sT M1 s b m []) (f : fr (fun x => x = s) M M1) : sN M M1 s b [] := ⟨b, m, h, .inl rfl, f.wk (fun _ => .inl)⟩
theorem n_app_c {G : am_Gx} {d s b c : Nat} {l : List Nat} {M M1 : am_Hp} (hz : cz G) (h : sN M M1 s b l) (hc : c < 128) (hl : l.length < 70) : am_CT G (d + 5) rJ4_append_cf468 [.ref s, .int (i3 c)] M1 1 100 (fun o M' => o = .inl (some (.ref s)) ∧ sN M M' s b (l ++ [c])) := by
  obtain ⟨b', m', h1, hb, f⟩ := h
  refine am_CT.mono ?_ (k_app4c hz h1 hc hl)
  rintro o M' ⟨e, k⟩
  exact ⟨e, sN_tr hb f k⟩
theorem ct_ap {G : am_Gx} {d s b : Nat} {r : am_Rec} {as : List Value} {M M1 : am_Hp} {mc ms : Nat} {l : List Nat} {P : Nat → am_Hp → Prop} (h : am_CT G d r as M1 mc ms (fun o M' => o = .inl (some (.ref s)) ∧ sN M M' s b l)) (k : ∀ M2, sN M M2 s b l → P s M2) : am_CT G d r as M1 mc ms (fun o M2 => ∃ p : Nat, o = .inl (some (.ref p)) ∧ P p M2) :=
  am_CT.mono (fun _ M' h => ⟨s, h.1, k M' h.2⟩) h
theorem n_len {G : am_Gx} {d s b : Nat} {l : List Nat} {M M1 : am_Hp} (h : sN M M1 s b l) : am_CT G (d + 2) rJ4_length_8abf5 [.ref s] M1 0 0 (qi (i3 l.length) M1) := by
  obtain ⟨b', m', h1, -, -⟩ := h
  exact k_len h1.1
theorem dg_le3 (k : Nat) : (dg k).length ≤ 3 := by
  rw [dg_len]
  split
  · omega
  · split <;> omega
theorem g_type {G : am_Gx} {d a sc st b m : Nat} {l : List Nat} {M : am_Hp} {v : Int32} (hz : cz G) (ta : hp_T M a = 7) (r4 : hp_R M 124 a = sc) (zs : sc ≠ 0) (t5 : hp_T M sc = 5) (r8 : hp_R M 80 sc = st) (zt : st ≠ 0) (h : sT M st b m l) (hl : l.length ≤ 60) : am_CT G (d + 6) rX6_type [.ref a, .int v] M 1 100 (fun o M' => ((v < i3 32 ∨ i3 126 < v) ∧ o = .inr "java/lang/IllegalArgumentException" ∧ M' = M) ∨ (∃ c, 32 ≤ c ∧ c ≤ 126 ∧ v = i3 c ∧ ((l.length = 60 ∧ o = .inr "java/lang/IllegalStateException" ∧ M' = M) ∨ (l.length < 60 ∧ o = .inl (some (.int (i3 (l.length + 1)))) ∧ sN M M' st b (l ++ [c]))))) := by
  have t9 := h.1.1
  refine am_intro mkX6_type rfl (Nat.le_of_ble_eq_true rfl) rfl (fun X hX hM => ?_)
  refine vX6_type_0 hX hM ⟨fun a1 => ⟨by omega, by omega, .inl ⟨.inl a1, rfl, rfl⟩⟩, fun a1 => ⟨fun a2 => ?_, fun a2 => ⟨by omega, by omega, .inl ⟨.inr (Int32.not_le.mp a2), rfl, rfl⟩⟩⟩⟩
  obtain ⟨c, hc, rfl⟩ := i3_of (v := v) (n := 127) (Int32.le_trans (by decide : (0 : Int32) ≤ 32) (Int32.not_lt.mp a1)) (Int32.lt_of_le_of_lt a2 (by decide)) (by omega)
  have c1 : 32 ≤ c := (i3_le (a := 32) (by omega) (by omega)).mp (Int32.not_lt.mp a1)
  simp only [forall_eq]
  rw [r4]
  refine ⟨ta, zs, t5, ?_⟩
  rw [r8]
  refine ⟨zt, t9, ct_i (k_len h.1) ⟨fun z => ?_, fun z => ⟨by omega, by omega, .inr ⟨c, c1, by omega, rfl, .inl ⟨?_, by trivial, by trivial⟩⟩⟩⟩⟩
  · have z1 : l.length < 60 := (i3_lt (b := 60) (by omega) (by omega)).mp z
    rw [r4]
    refine ⟨ta, zs, t5, ?_⟩
    rw [r8]
    refine ⟨zt, t9, by omega, by omega, ct_ap (k_app4c hz h (by omega) (by omega)) (fun M2 h2 => ?_)⟩
    have sa := sN_x h2 h (x := a) (by rw [ta]; decide) (by rw [ta]; decide) (by rw [ta]; decide)
    have ss := sN_x h2 h (x := sc) (by rw [t5]; decide) (by rw [t5]; decide) (by rw [t5]; decide)
    have t2 : hp_T M2 st = 9 := by
      obtain ⟨b', m', h', -, -⟩ := h2
      exact h'.1.1
    rw [sa.1, sa.2.2.2.1, r4, ss.1, ss.2.2.2.1, r8]
    refine ⟨ta, zs, t5, zt, t2, ct_i (n_len h2) (.inr ⟨c, c1, by omega, rfl, .inr ⟨z1, ?_, h2⟩⟩)⟩
    rw [List.length_append]
    rfl
  · have z1 : ¬ l.length < 60 := fun y => z ((i3_lt (b := 60) (by omega) (by omega)).mpr y)
    omega
/-- a car's text -/
def tx_car (g : md_R) (c : Nat) : List Nat :=
  let t := [] ++ dg c ++ [64] ++ dg (g (9 + c)).toNatClampNeg ++ [if g (12 + c) = 1 then 94 else if g (12 + c) = -1 then 118 else 45] ++ dg (md_cN g c) ++ [47] ++ dg (md_lN g c) ++ [if g (18 + c) ≤ 0 then 124 else 111]
  if g (21 + c) = 0 then t else t ++ [120]
theorem rc_st {M M1 : am_Hp} {s b m a k : Nat} {l l0 : List Nat} (h : sN M M1 s b l) (hs : sT M s b m l0) (ta : hp_T M a = 7) (r5 : hp_R M 125 a = s) (tc : hp_T M k = 2) : hp_T M1 a = 7 ∧ hp_R M1 125 a = s ∧ hp_T M1 k = 2 ∧ (∀ u, hp_I M1 u k = hp_I M u k) ∧ hp_T M1 s = 9 := by
  have sa := sN_x h hs (x := a) (by rw [ta]; decide) (by rw [ta]; decide) (by rw [ta]; decide)
  have sk := sN_x h hs (x := k) (by rw [tc]; decide) (by rw [tc]; decide) (by rw [tc]; decide)
  obtain ⟨b', m', h', -, -⟩ := h
  exact ⟨sa.1.trans ta, (sa.2.2.2.1 _).trans r5, sk.1.trans tc, sk.2.2.1, h'.1.1⟩
/-! the floors -/
def md_wN (g : md_R) (k : Nat) : Nat := md_sN (fun p => if g (99 + p) = i3 0 ∧ g (39 + p) = i3 k then 1 else 0) (md_n g)
theorem md_wt_N (g : md_R) (k : Nat) : md_wt g (i3 k) = i3 (md_wN g k) := by
  unfold md_wt md_wN
  refine md_sum_N _ (fun p _ => ?_)
  by_cases c : g (99 + p) = i3 0 ∧ g (39 + p) = i3 k
  · rw [if_pos c, if_pos c]; rfl
  · rw [if_neg c, if_neg c]; rfl
theorem md_wN_le (g : md_R) (k : Nat) : md_wN g k ≤ md_n g := by
  have := md_sN_le (f := fun p => if g (99 + p) = i3 0 ∧ g (39 + p) = i3 k then 1 else 0) (b := 1) (md_n g) (fun i _ => by
    show (if _ then _ else _) ≤ 1
    split <;> omega)
  unfold md_wN
  omega
/-- the text of the first k floors -/
def tx_flo (g : md_R) : Nat → List Nat
  | 0 => []
  | k + 1 => (if k = 0 then tx_flo g k else tx_flo g k ++ [44]) ++ dg (md_wN g k)
theorem tx_flo_len {g : md_R} (ok : md_ok g) : ∀ k, (tx_flo g k).length ≤ 3 * k
  | 0 => Nat.le_refl _
  | k + 1 => by
    have h := tx_flo_len ok k
    have h12 := ok.2
    have hw := md_wN_le g k
    have hd : (dg (md_wN g k)).length ≤ 2 := by
      rw [dg_len]
      split
      · omega
      · split <;> omega
    rw [tx_flo]
    split
    · rw [List.length_append]; omega
    · rw [List.length_append, List.length_append]
      simp only [List.length_singleton]
      omega
