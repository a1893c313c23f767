/-! .. the law's blocks: the queries (made by gen/mk/mk8s.py) -/
theorem md_ff_le (P : Nat → Bool) : ∀ k j, (md_ff P k j).1 ≤ 1
  | 0, _ => Nat.le_refl _
  | k + 1, j => by
    rw [md_ff]
    split
    · exact Nat.zero_le _
    · exact md_ff_le P k (j + 1)
theorem bI01 (b : Bool) : bI b = 0 ∨ bI b = 1 := by cases b <;> first | exact .inl rfl | exact .inr rfl
theorem B_749 {X : am_Cx} {G : am_Gx} {d : Nat} {a h E : Nat} {L : Nat → Nat → Nat} {sc st ks rs so : Nat} {A : Nat → Nat} {sb N0 o1 o2 p q : Nat} {T K j bc bs : Nat} {M : am_Hp} (hX : am_ok X rL_law G (d + 13)) (hM : ∀ {pc : Nat} {lv : List (Nat × Value)} {M : am_Hp} {bc bs : Nat}, decode rL_law.2.1 pc = .ok (.ireturn, 1) → am_J X pc lv [.int (1 : Int32)] M bc bs) (hz : cz G) (hp : sioo G) (hJ : JJ G a h E L sc st ks rs so A sb N0 o1 o2 p q T K M) (hT : T < 13000000) (hK : K < 100000000) (hi : 4 * j + 3 < N0) (hN0 : N0 ≤ 2048) (hbc : 20 ≤ bc) (hbs : 2000 ≤ bs) (hN : ∀ M' T' K' bc' bs', JJ G a h E L sc st ks rs so A sb N0 o1 o2 p q T' K' M' → T' ≤ T + 23790 → K' ≤ K + 13 → bc ≤ bc' + 20 → bs ≤ bs' + 2000 → am_J X 3219 [(0, .ref sb), (1, .ref a), (2, .ref (A 0)), (3, .ref o1), (4, .ref o2), (5, .int (i3 (4 * j)))] [] M' bc' bs') : am_J X 749 [(0, .ref sb), (1, .ref a), (2, .ref (A 0)), (3, .ref o1), (4, .ref o2), (5, .int (i3 (4 * j)))] [] M bc bs := by
  obtain ⟨g, gn, hw, hm, hg, tsb, nsb, to1, no1, to2, no2, f127, f128⟩ := JJ_q hJ
  have ok := md_wf_ok hw
  have ix1 : i3 (4 * j) + (1 : Int32) = i3 (4 * j + 1) := i3_add _ 1
  refine vL_law_749 hX hM (fun x0 x1 x2 x3 x4 x5 M bc bs => am_J X 3219 [(0, .ref x0), (1, .ref x1), (2, .ref x2), (3, .ref x3), (4, .ref x4), (5, .int x5)] [] M bc bs) (fun _ _ _ _ _ _ _ _ _ h => h) ⟨tsb, by rw [ix1, nsb]; exact vp_in_i3 (by omega) (by omega), by omega, by omega, ?_⟩
  refine am_CT.mono ?_ (w_floor (d := d + 8) gn ok to1 no1)
  rintro z M5 ⟨e, eM⟩
  have hJ5 : JJ G a h E L sc st ks rs so A sb N0 o1 o2 p q T K M5 := by rw [eM]; split <;> exact hJ
  have eE : hp_E M5 = hp_E M := by rw [eM]; split <;> rfl
  have eT : hp_T M5 = hp_T M := by rw [eM]; split <;> rfl
  have eN : hp_N M5 = hp_N M := by rw [eM]; split <;> rfl
  have eI : hp_I M5 = hp_I M := by rw [eM]; split <;> rfl
  have m5 : mL M5 A := by rw [eM]; split <;> exact hm
  have hg5 : hp_E M5 (A 1) = g := by rw [eE]; exact hg
  refine ⟨_, e, by rw [eT]; exact tsb, by rw [ix1, eN, nsb]; exact vp_in_i3 (by omega) (by omega), m5.1, ?_⟩
  rw [eE]
  refine ct_i (c_floor (d := d + 8) m5 hg5) ⟨m5.1, ?_⟩
  refine ct_i (c_thrown (d := d + 11) (M := hp_sI M5 153 (A 0) _) m5) ?_
  rw [hp_I_sI]
  refine cmp_end (by unfold sq_cell; (repeat' split) <;> (dsimp only; omega)) (by rw [hp_T_sI, eT]; exact to1) (by rw [hp_N_sI, eN, no1]; exact vp_in_i3 (k := 0) (by omega) (by omega)) (fun k0 => ?_) (hN _ T K _ _ (JJ_153 hJ5) (by omega) (by omega) (by omega) (by omega))
  rw [eM, if_pos k0]
  exact hp_L_at _ _ _
theorem B_805 {X : am_Cx} {G : am_Gx} {d : Nat} {a h E : Nat} {L : Nat → Nat → Nat} {sc st ks rs so : Nat} {A : Nat → Nat} {sb N0 o1 o2 p q : Nat} {T K j bc bs : Nat} {M : am_Hp} (hX : am_ok X rL_law G (d + 13)) (hM : ∀ {pc : Nat} {lv : List (Nat × Value)} {M : am_Hp} {bc bs : Nat}, decode rL_law.2.1 pc = .ok (.ireturn, 1) → am_J X pc lv [.int (1 : Int32)] M bc bs) (hz : cz G) (hp : sioo G) (hJ : JJ G a h E L sc st ks rs so A sb N0 o1 o2 p q T K M) (hT : T < 13000000) (hK : K < 100000000) (hi : 4 * j + 3 < N0) (hN0 : N0 ≤ 2048) (hbc : 20 ≤ bc) (hbs : 2000 ≤ bs) (hN : ∀ M' T' K' bc' bs', JJ G a h E L sc st ks rs so A sb N0 o1 o2 p q T' K' M' → T' ≤ T + 23790 → K' ≤ K + 13 → bc ≤ bc' + 20 → bs ≤ bs' + 2000 → am_J X 3219 [(0, .ref sb), (1, .ref a), (2, .ref (A 0)), (3, .ref o1), (4, .ref o2), (5, .int (i3 (4 * j)))] [] M' bc' bs') : am_J X 805 [(0, .ref sb), (1, .ref a), (2, .ref (A 0)), (3, .ref o1), (4, .ref o2), (5, .int (i3 (4 * j)))] [] M bc bs := by
  obtain ⟨g, gn, hw, hm, hg, tsb, nsb, to1, no1, to2, no2, f127, f128⟩ := JJ_q hJ
  have ok := md_wf_ok hw
  have ix1 : i3 (4 * j) + (1 : Int32) = i3 (4 * j + 1) := i3_add _ 1
  refine vL_law_805 hX hM (fun x0 x1 x2 x3 x4 x5 M bc bs => am_J X 3219 [(0, .ref x0), (1, .ref x1), (2, .ref x2), (3, .ref x3), (4, .ref x4), (5, .int x5)] [] M bc bs) (fun _ _ _ _ _ _ _ _ _ h => h) ⟨tsb, by rw [ix1, nsb]; exact vp_in_i3 (by omega) (by omega), by omega, by omega, ?_⟩
  refine am_CT.mono ?_ (w_direction (d := d + 8) gn ok to1 no1)
  rintro z M5 ⟨e, eM⟩
  have hJ5 : JJ G a h E L sc st ks rs so A sb N0 o1 o2 p q T K M5 := by rw [eM]; split <;> exact hJ
  have eE : hp_E M5 = hp_E M := by rw [eM]; split <;> rfl
  have eT : hp_T M5 = hp_T M := by rw [eM]; split <;> rfl
  have eN : hp_N M5 = hp_N M := by rw [eM]; split <;> rfl
  have eI : hp_I M5 = hp_I M := by rw [eM]; split <;> rfl
  have m5 : mL M5 A := by rw [eM]; split <;> exact hm
  have hg5 : hp_E M5 (A 1) = g := by rw [eE]; exact hg
  refine ⟨_, e, by rw [eT]; exact tsb, by rw [ix1, eN, nsb]; exact vp_in_i3 (by omega) (by omega), m5.1, ?_⟩
  rw [eE]
  refine ct_i (c_direction (d := d + 8) m5 hg5) ⟨m5.1, ?_⟩
  refine ct_i (c_thrown (d := d + 11) (M := hp_sI M5 153 (A 0) _) m5) ?_
  rw [hp_I_sI]
  refine cmp_end (by unfold sq_cell; (repeat' split) <;> (dsimp only; omega)) (by rw [hp_T_sI, eT]; exact to1) (by rw [hp_N_sI, eN, no1]; exact vp_in_i3 (k := 0) (by omega) (by omega)) (fun k0 => ?_) (hN _ T K _ _ (JJ_153 hJ5) (by omega) (by omega) (by omega) (by omega))
  rw [eM, if_pos k0]
  exact hp_L_at _ _ _
theorem B_861 {X : am_Cx} {G : am_Gx} {d : Nat} {a h E : Nat} {L : Nat → Nat → Nat} {sc st ks rs so : Nat} {A : Nat → Nat} {sb N0 o1 o2 p q : Nat} {T K j bc bs : Nat} {M : am_Hp} (hX : am_ok X rL_law G (d + 13)) (hM : ∀ {pc : Nat} {lv : List (Nat × Value)} {M : am_Hp} {bc bs : Nat}, decode rL_law.2.1 pc = .ok (.ireturn, 1) → am_J X pc lv [.int (1 : Int32)] M bc bs) (hz : cz G) (hp : sioo G) (hJ : JJ G a h E L sc st ks rs so A sb N0 o1 o2 p q T K M) (hT : T < 13000000) (hK : K < 100000000) (hi : 4 * j + 3 < N0) (hN0 : N0 ≤ 2048) (hbc : 20 ≤ bc) (hbs : 2000 ≤ bs) (hN : ∀ M' T' K' bc' bs', JJ G a h E L sc st ks rs so A sb N0 o1 o2 p q T' K' M' → T' ≤ T + 23790 → K' ≤ K + 13 → bc ≤ bc' + 20 → bs ≤ bs' + 2000 → am_J X 3219 [(0, .ref sb), (1, .ref a), (2, .ref (A 0)), (3, .ref o1), (4, .ref o2), (5, .int (i3 (4 * j)))] [] M' bc' bs') : am_J X 861 [(0, .ref sb), (1, .ref a), (2, .ref (A 0)), (3, .ref o1), (4, .ref o2), (5, .int (i3 (4 * j)))] [] M bc bs := by
  obtain ⟨g, gn, hw, hm, hg, tsb, nsb, to1, no1, to2, no2, f127, f128⟩ := JJ_q hJ
  have ok := md_wf_ok hw
  have ix1 : i3 (4 * j) + (1 : Int32) = i3 (4 * j + 1) := i3_add _ 1
  refine vL_law_861 hX hM (fun x0 x1 x2 x3 x4 x5 M bc bs => am_J X 3219 [(0, .ref x0), (1, .ref x1), (2, .ref x2), (3, .ref x3), (4, .ref x4), (5, .int x5)] [] M bc bs) (fun _ _ _ _ _ _ _ _ _ h => h) ⟨tsb, by rw [ix1, nsb]; exact vp_in_i3 (by omega) (by omega), by omega, by omega, ?_⟩
  refine am_CT.mono ?_ (w_capacity (d := d + 8) gn ok to1 no1)
  rintro z M5 ⟨e, eM⟩
  have hJ5 : JJ G a h E L sc st ks rs so A sb N0 o1 o2 p q T K M5 := by rw [eM]; split <;> exact hJ
  have eE : hp_E M5 = hp_E M := by rw [eM]; split <;> rfl
  have eT : hp_T M5 = hp_T M := by rw [eM]; split <;> rfl
  have eN : hp_N M5 = hp_N M := by rw [eM]; split <;> rfl
  have eI : hp_I M5 = hp_I M := by rw [eM]; split <;> rfl
  have m5 : mL M5 A := by rw [eM]; split <;> exact hm
  have hg5 : hp_E M5 (A 1) = g := by rw [eE]; exact hg
  refine ⟨_, e, by rw [eT]; exact tsb, by rw [ix1, eN, nsb]; exact vp_in_i3 (by omega) (by omega), m5.1, ?_⟩
  rw [eE]
  refine ct_i (c_capacity (d := d + 8) m5 hg5) ⟨m5.1, ?_⟩
  refine ct_i (c_thrown (d := d + 11) (M := hp_sI M5 153 (A 0) _) m5) ?_
  rw [hp_I_sI]
  refine cmp_end (by unfold sq_cell; (repeat' split) <;> (dsimp only; omega)) (by rw [hp_T_sI, eT]; exact to1) (by rw [hp_N_sI, eN, no1]; exact vp_in_i3 (k := 0) (by omega) (by omega)) (fun k0 => ?_) (hN _ T K _ _ (JJ_153 hJ5) (by omega) (by omega) (by omega) (by omega))
  rw [eM, if_pos k0]
  exact hp_L_at _ _ _
theorem B_917 {X : am_Cx} {G : am_Gx} {d : Nat} {a h E : Nat} {L : Nat → Nat → Nat} {sc st ks rs so : Nat} {A : Nat → Nat} {sb N0 o1 o2 p q : Nat} {T K j bc bs : Nat} {M : am_Hp} (hX : am_ok X rL_law G (d + 13)) (hM : ∀ {pc : Nat} {lv : List (Nat × Value)} {M : am_Hp} {bc bs : Nat}, decode rL_law.2.1 pc = .ok (.ireturn, 1) → am_J X pc lv [.int (1 : Int32)] M bc bs) (hz : cz G) (hp : sioo G) (hJ : JJ G a h E L sc st ks rs so A sb N0 o1 o2 p q T K M) (hT : T < 13000000) (hK : K < 100000000) (hi : 4 * j + 3 < N0) (hN0 : N0 ≤ 2048) (hbc : 20 ≤ bc) (hbs : 2000 ≤ bs) (hN : ∀ M' T' K' bc' bs', JJ G a h E L sc st ks rs so A sb N0 o1 o2 p q T' K' M' → T' ≤ T + 23790 → K' ≤ K + 13 → bc ≤ bc' + 20 → bs ≤ bs' + 2000 → am_J X 3219 [(0, .ref sb), (1, .ref a), (2, .ref (A 0)), (3, .ref o1), (4, .ref o2), (5, .int (i3 (4 * j)))] [] M' bc' bs') : am_J X 917 [(0, .ref sb), (1, .ref a), (2, .ref (A 0)), (3, .ref o1), (4, .ref o2), (5, .int (i3 (4 * j)))] [] M bc bs := by
  obtain ⟨g, gn, hw, hm, hg, tsb, nsb, to1, no1, to2, no2, f127, f128⟩ := JJ_q hJ
  have ok := md_wf_ok hw
  have ix1 : i3 (4 * j) + (1 : Int32) = i3 (4 * j + 1) := i3_add _ 1
  refine vL_law_917 hX hM (fun x0 x1 x2 x3 x4 x5 M bc bs => am_J X 3219 [(0, .ref x0), (1, .ref x1), (2, .ref x2), (3, .ref x3), (4, .ref x4), (5, .int x5)] [] M bc bs) (fun _ _ _ _ _ _ _ _ _ h => h) ⟨tsb, by rw [ix1, nsb]; exact vp_in_i3 (by omega) (by omega), by omega, by omega, ?_⟩
  refine am_CT.mono ?_ (w_load (d := d + 8) gn ok to1 no1)
  rintro z M5 ⟨e, eM⟩
  have hJ5 : JJ G a h E L sc st ks rs so A sb N0 o1 o2 p q T K M5 := by rw [eM]; split <;> exact hJ
  have eE : hp_E M5 = hp_E M := by rw [eM]; split <;> rfl
  have eT : hp_T M5 = hp_T M := by rw [eM]; split <;> rfl
  have eN : hp_N M5 = hp_N M := by rw [eM]; split <;> rfl
  have eI : hp_I M5 = hp_I M := by rw [eM]; split <;> rfl
  have m5 : mL M5 A := by rw [eM]; split <;> exact hm
  have hg5 : hp_E M5 (A 1) = g := by rw [eE]; exact hg
  refine ⟨_, e, by rw [eT]; exact tsb, by rw [ix1, eN, nsb]; exact vp_in_i3 (by omega) (by omega), m5.1, ?_⟩
  rw [eE]
  refine ct_i (c_load (d := d + 7) m5 hg5 ok) ⟨m5.1, ?_⟩
  refine ct_i (c_thrown (d := d + 11) (M := hp_sI M5 153 (A 0) _) m5) ?_
  rw [hp_I_sI]
  refine cmp_end (by unfold sq_load; (repeat' split) <;> (dsimp only; omega)) (by rw [hp_T_sI, eT]; exact to1) (by rw [hp_N_sI, eN, no1]; exact vp_in_i3 (k := 0) (by omega) (by omega)) (fun k0 => ?_) (hN _ T K _ _ (JJ_153 hJ5) (by omega) (by omega) (by omega) (by omega))
  rw [eM, if_pos k0]
  exact hp_L_at _ _ _
theorem B_973 {X : am_Cx} {G : am_Gx} {d : Nat} {a h E : Nat} {L : Nat → Nat → Nat} {sc st ks rs so : Nat} {A : Nat → Nat} {sb N0 o1 o2 p q : Nat} {T K j bc bs : Nat} {M : am_Hp} (hX : am_ok X rL_law G (d + 13)) (hM : ∀ {pc : Nat} {lv : List (Nat × Value)} {M : am_Hp} {bc bs : Nat}, decode rL_law.2.1 pc = .ok (.ireturn, 1) → am_J X pc lv [.int (1 : Int32)] M bc bs) (hz : cz G) (hp : sioo G) (hJ : JJ G a h E L sc st ks rs so A sb N0 o1 o2 p q T K M) (hT : T < 13000000) (hK : K < 100000000) (hi : 4 * j + 3 < N0) (hN0 : N0 ≤ 2048) (hbc : 20 ≤ bc) (hbs : 2000 ≤ bs) (hN : ∀ M' T' K' bc' bs', JJ G a h E L sc st ks rs so A sb N0 o1 o2 p q T' K' M' → T' ≤ T + 23790 → K' ≤ K + 13 → bc ≤ bc' + 20 → bs ≤ bs' + 2000 → am_J X 3219 [(0, .ref sb), (1, .ref a), (2, .ref (A 0)), (3, .ref o1), (4, .ref o2), (5, .int (i3 (4 * j)))] [] M' bc' bs') : am_J X 973 [(0, .ref sb), (1, .ref a), (2, .ref (A 0)), (3, .ref o1), (4, .ref o2), (5, .int (i3 (4 * j)))] [] M bc bs := by
  obtain ⟨g, gn, hw, hm, hg, tsb, nsb, to1, no1, to2, no2, f127, f128⟩ := JJ_q hJ
  have ok := md_wf_ok hw
  have ix1 : i3 (4 * j) + (1 : Int32) = i3 (4 * j + 1) := i3_add _ 1
  refine vL_law_973 hX hM (fun x0 x1 x2 x3 x4 x5 M bc bs => am_J X 3219 [(0, .ref x0), (1, .ref x1), (2, .ref x2), (3, .ref x3), (4, .ref x4), (5, .int x5)] [] M bc bs) (fun _ _ _ _ _ _ _ _ _ h => h) ⟨tsb, by rw [ix1, nsb]; exact vp_in_i3 (by omega) (by omega), by omega, by omega, ?_⟩
  refine am_CT.mono ?_ (w_passengersIn (d := d + 8) gn ok to1 no1)
  rintro z M5 ⟨e, eM⟩
  have hJ5 : JJ G a h E L sc st ks rs so A sb N0 o1 o2 p q T K M5 := by rw [eM]; split <;> exact hJ
  have eE : hp_E M5 = hp_E M := by rw [eM]; split <;> rfl
  have eT : hp_T M5 = hp_T M := by rw [eM]; split <;> rfl
  have eN : hp_N M5 = hp_N M := by rw [eM]; split <;> rfl
  have eI : hp_I M5 = hp_I M := by rw [eM]; split <;> rfl
  have m5 : mL M5 A := by rw [eM]; split <;> exact hm
  have hg5 : hp_E M5 (A 1) = g := by rw [eE]; exact hg
  refine ⟨_, e, by rw [eT]; exact tsb, by rw [ix1, eN, nsb]; exact vp_in_i3 (by omega) (by omega), m5.1, ?_⟩
  rw [eE]
  refine ct_i (c_passengersIn (d := d + 7) m5 hg5 ok) ⟨m5.1, ?_⟩
  refine ct_i (c_thrown (d := d + 11) (M := hp_sI M5 153 (A 0) _) m5) ?_
  rw [hp_I_sI]
  refine cmp_end (by unfold sq_riders; (repeat' split) <;> (dsimp only; omega)) (by rw [hp_T_sI, eT]; exact to1) (by rw [hp_N_sI, eN, no1]; exact vp_in_i3 (k := 0) (by omega) (by omega)) (fun k0 => ?_) (hN _ T K _ _ (JJ_153 hJ5) (by omega) (by omega) (by omega) (by omega))
  rw [eM, if_pos k0]
  exact hp_L_at _ _ _
theorem B_1029 {X : am_Cx} {G : am_Gx} {d : Nat} {a h E : Nat} {L : Nat → Nat → Nat} {sc st ks rs so : Nat} {A : Nat → Nat} {sb N0 o1 o2 p q : Nat} {T K j bc bs : Nat} {M : am_Hp} (hX : am_ok X rL_law G (d + 13)) (hM : ∀ {pc : Nat} {lv : List (Nat × Value)} {M : am_Hp} {bc bs : Nat}, decode rL_law.2.1 pc = .ok (.ireturn, 1) → am_J X pc lv [.int (1 : Int32)] M bc bs) (hz : cz G) (hp : sioo G) (hJ : JJ G a h E L sc st ks rs so A sb N0 o1 o2 p q T K M) (hT : T < 13000000) (hK : K < 100000000) (hi : 4 * j + 3 < N0) (hN0 : N0 ≤ 2048) (hbc : 20 ≤ bc) (hbs : 2000 ≤ bs) (hN : ∀ M' T' K' bc' bs', JJ G a h E L sc st ks rs so A sb N0 o1 o2 p q T' K' M' → T' ≤ T + 23790 → K' ≤ K + 13 → bc ≤ bc' + 20 → bs ≤ bs' + 2000 → am_J X 3219 [(0, .ref sb), (1, .ref a), (2, .ref (A 0)), (3, .ref o1), (4, .ref o2), (5, .int (i3 (4 * j)))] [] M' bc' bs') : am_J X 1029 [(0, .ref sb), (1, .ref a), (2, .ref (A 0)), (3, .ref o1), (4, .ref o2), (5, .int (i3 (4 * j)))] [] M bc bs := by
  obtain ⟨g, gn, hw, hm, hg, tsb, nsb, to1, no1, to2, no2, f127, f128⟩ := JJ_q hJ
  have ok := md_wf_ok hw
  have ix1 : i3 (4 * j) + (1 : Int32) = i3 (4 * j + 1) := i3_add _ 1
  refine vL_law_1029 hX hM (fun x0 x1 x2 x3 x4 x5 M bc bs => am_J X 3219 [(0, .ref x0), (1, .ref x1), (2, .ref x2), (3, .ref x3), (4, .ref x4), (5, .int x5)] [] M bc bs) (fun _ _ _ _ _ _ _ _ _ h => h) ⟨tsb, by rw [ix1, nsb]; exact vp_in_i3 (by omega) (by omega), by omega, by omega, ?_⟩
  refine am_CT.mono ?_ (w_assignedTo (d := d + 8) gn ok to1 no1)
  rintro z M5 ⟨e, eM⟩
  have hJ5 : JJ G a h E L sc st ks rs so A sb N0 o1 o2 p q T K M5 := by rw [eM]; split <;> exact hJ
  have eE : hp_E M5 = hp_E M := by rw [eM]; split <;> rfl
  have eT : hp_T M5 = hp_T M := by rw [eM]; split <;> rfl
  have eN : hp_N M5 = hp_N M := by rw [eM]; split <;> rfl
  have eI : hp_I M5 = hp_I M := by rw [eM]; split <;> rfl
  have m5 : mL M5 A := by rw [eM]; split <;> exact hm
  have hg5 : hp_E M5 (A 1) = g := by rw [eE]; exact hg
  refine ⟨_, e, by rw [eT]; exact tsb, by rw [ix1, eN, nsb]; exact vp_in_i3 (by omega) (by omega), m5.1, ?_⟩
  rw [eE]
  refine ct_i (c_assignedTo (d := d + 7) m5 hg5 ok) ⟨m5.1, ?_⟩
  refine ct_i (c_thrown (d := d + 11) (M := hp_sI M5 153 (A 0) _) m5) ?_
  rw [hp_I_sI]
  refine cmp_end (by unfold sq_asg; (repeat' split) <;> (dsimp only; omega)) (by rw [hp_T_sI, eT]; exact to1) (by rw [hp_N_sI, eN, no1]; exact vp_in_i3 (k := 0) (by omega) (by omega)) (fun k0 => ?_) (hN _ T K _ _ (JJ_153 hJ5) (by omega) (by omega) (by omega) (by omega))
  rw [eM, if_pos k0]
  exact hp_L_at _ _ _
theorem B_1085 {X : am_Cx} {G : am_Gx} {d : Nat} {a h E : Nat} {L : Nat → Nat → Nat} {sc st ks rs so : Nat} {A : Nat → Nat} {sb N0 o1 o2 p q : Nat} {T K j bc bs : Nat} {M : am_Hp} (hX : am_ok X rL_law G (d + 13)) (hM : ∀ {pc : Nat} {lv : List (Nat × Value)} {M : am_Hp} {bc bs : Nat}, decode rL_law.2.1 pc = .ok (.ireturn, 1) → am_J X pc lv [.int (1 : Int32)] M bc bs) (hz : cz G) (hp : sioo G) (hJ : JJ G a h E L sc st ks rs so A sb N0 o1 o2 p q T K M) (hT : T < 13000000) (hK : K < 100000000) (hi : 4 * j + 3 < N0) (hN0 : N0 ≤ 2048) (hbc : 20 ≤ bc) (hbs : 2000 ≤ bs) (hN : ∀ M' T' K' bc' bs', JJ G a h E L sc st ks rs so A sb N0 o1 o2 p q T' K' M' → T' ≤ T + 23790 → K' ≤ K + 13 → bc ≤ bc' + 20 → bs ≤ bs' + 2000 → am_J X 3219 [(0, .ref sb), (1, .ref a), (2, .ref (A 0)), (3, .ref o1), (4, .ref o2), (5, .int (i3 (4 * j)))] [] M' bc' bs') : am_J X 1085 [(0, .ref sb), (1, .ref a), (2, .ref (A 0)), (3, .ref o1), (4, .ref o2), (5, .int (i3 (4 * j)))] [] M bc bs := by
  obtain ⟨g, gn, hw, hm, hg, tsb, nsb, to1, no1, to2, no2, f127, f128⟩ := JJ_q hJ
  have ok := md_wf_ok hw
  have ix1 : i3 (4 * j) + (1 : Int32) = i3 (4 * j + 1) := i3_add _ 1
  refine vL_law_1085 hX hM (fun x0 x1 x2 x3 x4 x5 M bc bs => am_J X 3219 [(0, .ref x0), (1, .ref x1), (2, .ref x2), (3, .ref x3), (4, .ref x4), (5, .int x5)] [] M bc bs) (fun _ _ _ _ _ _ _ _ _ h => h) ⟨tsb, by rw [ix1, nsb]; exact vp_in_i3 (by omega) (by omega), by omega, by omega, ?_⟩
  refine am_CT.mono ?_ (w_doorSteps (d := d + 8) gn ok to1 no1)
  rintro z M5 ⟨e, eM⟩
  have hJ5 : JJ G a h E L sc st ks rs so A sb N0 o1 o2 p q T K M5 := by rw [eM]; split <;> exact hJ
  have eE : hp_E M5 = hp_E M := by rw [eM]; split <;> rfl
  have eT : hp_T M5 = hp_T M := by rw [eM]; split <;> rfl
  have eN : hp_N M5 = hp_N M := by rw [eM]; split <;> rfl
  have eI : hp_I M5 = hp_I M := by rw [eM]; split <;> rfl
  have m5 : mL M5 A := by rw [eM]; split <;> exact hm
  have hg5 : hp_E M5 (A 1) = g := by rw [eE]; exact hg
  refine ⟨_, e, by rw [eT]; exact tsb, by rw [ix1, eN, nsb]; exact vp_in_i3 (by omega) (by omega), m5.1, ?_⟩
  rw [eE]
  refine ct_i (c_doorSteps (d := d + 8) m5 hg5) ⟨m5.1, ?_⟩
  refine ct_i (c_thrown (d := d + 11) (M := hp_sI M5 153 (A 0) _) m5) ?_
  rw [hp_I_sI]
  refine cmp_end (by unfold sq_cell; (repeat' split) <;> (dsimp only; omega)) (by rw [hp_T_sI, eT]; exact to1) (by rw [hp_N_sI, eN, no1]; exact vp_in_i3 (k := 0) (by omega) (by omega)) (fun k0 => ?_) (hN _ T K _ _ (JJ_153 hJ5) (by omega) (by omega) (by omega) (by omega))
  rw [eM, if_pos k0]
  exact hp_L_at _ _ _
theorem B_1204 {X : am_Cx} {G : am_Gx} {d : Nat} {a h E : Nat} {L : Nat → Nat → Nat} {sc st ks rs so : Nat} {A : Nat → Nat} {sb N0 o1 o2 p q : Nat} {T K j bc bs : Nat} {M : am_Hp} (hX : am_ok X rL_law G (d + 13)) (hM : ∀ {pc : Nat} {lv : List (Nat × Value)} {M : am_Hp} {bc bs : Nat}, decode rL_law.2.1 pc = .ok (.ireturn, 1) → am_J X pc lv [.int (1 : Int32)] M bc bs) (hz : cz G) (hp : sioo G) (hJ : JJ G a h E L sc st ks rs so A sb N0 o1 o2 p q T K M) (hT : T < 13000000) (hK : K < 100000000) (hi : 4 * j + 3 < N0) (hN0 : N0 ≤ 2048) (hbc : 20 ≤ bc) (hbs : 2000 ≤ bs) (hN : ∀ M' T' K' bc' bs', JJ G a h E L sc st ks rs so A sb N0 o1 o2 p q T' K' M' → T' ≤ T + 23790 → K' ≤ K + 13 → bc ≤ bc' + 20 → bs ≤ bs' + 2000 → am_J X 3219 [(0, .ref sb), (1, .ref a), (2, .ref (A 0)), (3, .ref o1), (4, .ref o2), (5, .int (i3 (4 * j)))] [] M' bc' bs') : am_J X 1204 [(0, .ref sb), (1, .ref a), (2, .ref (A 0)), (3, .ref o1), (4, .ref o2), (5, .int (i3 (4 * j)))] [] M bc bs := by
  obtain ⟨g, gn, hw, hm, hg, tsb, nsb, to1, no1, to2, no2, f127, f128⟩ := JJ_q hJ
  have ok := md_wf_ok hw
  have ix1 : i3 (4 * j) + (1 : Int32) = i3 (4 * j + 1) := i3_add _ 1
  refine vL_law_1204 hX hM (fun x0 x1 x2 x3 x4 x5 M bc bs => am_J X 3219 [(0, .ref x0), (1, .ref x1), (2, .ref x2), (3, .ref x3), (4, .ref x4), (5, .int x5)] [] M bc bs) (fun _ _ _ _ _ _ _ _ _ h => h) ⟨tsb, by rw [ix1, nsb]; exact vp_in_i3 (by omega) (by omega), by omega, by omega, ?_⟩
  refine am_CT.mono ?_ (w_energy (d := d + 8) gn ok to1 no1)
  rintro z M5 ⟨e, eM⟩
  have hJ5 : JJ G a h E L sc st ks rs so A sb N0 o1 o2 p q T K M5 := by rw [eM]; split <;> exact hJ
  have eE : hp_E M5 = hp_E M := by rw [eM]; split <;> rfl
  have eT : hp_T M5 = hp_T M := by rw [eM]; split <;> rfl
  have eN : hp_N M5 = hp_N M := by rw [eM]; split <;> rfl
  have eI : hp_I M5 = hp_I M := by rw [eM]; split <;> rfl
  have m5 : mL M5 A := by rw [eM]; split <;> exact hm
  have hg5 : hp_E M5 (A 1) = g := by rw [eE]; exact hg
  refine ⟨_, e, by rw [eT]; exact tsb, by rw [ix1, eN, nsb]; exact vp_in_i3 (by omega) (by omega), m5.1, ?_⟩
  rw [eE]
  refine ct_i (c_energy (d := d + 8) m5 hg5) ⟨m5.1, ?_⟩
  refine ct_i (c_thrown (d := d + 11) (M := hp_sI M5 153 (A 0) _) m5) ?_
  rw [hp_I_sI]
  refine cmp_end (by unfold sq_cell; (repeat' split) <;> (dsimp only; omega)) (by rw [hp_T_sI, eT]; exact to1) (by rw [hp_N_sI, eN, no1]; exact vp_in_i3 (k := 0) (by omega) (by omega)) (fun k0 => ?_) (hN _ T K _ _ (JJ_153 hJ5) (by omega) (by omega) (by omega) (by omega))
  rw [eM, if_pos k0]
  exact hp_L_at _ _ _
theorem B_1335 {X : am_Cx} {G : am_Gx} {d : Nat} {a h E : Nat} {L : Nat → Nat → Nat} {sc st ks rs so : Nat} {A : Nat → Nat} {sb N0 o1 o2 p q : Nat} {T K j bc bs : Nat} {M : am_Hp} (hX : am_ok X rL_law G (d + 13)) (hM : ∀ {pc : Nat} {lv : List (Nat × Value)} {M : am_Hp} {bc bs : Nat}, decode rL_law.2.1 pc = .ok (.ireturn, 1) → am_J X pc lv [.int (1 : Int32)] M bc bs) (hz : cz G) (hp : sioo G) (hJ : JJ G a h E L sc st ks rs so A sb N0 o1 o2 p q T K M) (hT : T < 13000000) (hK : K < 100000000) (hi : 4 * j + 3 < N0) (hN0 : N0 ≤ 2048) (hbc : 20 ≤ bc) (hbs : 2000 ≤ bs) (hN : ∀ M' T' K' bc' bs', JJ G a h E L sc st ks rs so A sb N0 o1 o2 p q T' K' M' → T' ≤ T + 23790 → K' ≤ K + 13 → bc ≤ bc' + 20 → bs ≤ bs' + 2000 → am_J X 3219 [(0, .ref sb), (1, .ref a), (2, .ref (A 0)), (3, .ref o1), (4, .ref o2), (5, .int (i3 (4 * j)))] [] M' bc' bs') : am_J X 1335 [(0, .ref sb), (1, .ref a), (2, .ref (A 0)), (3, .ref o1), (4, .ref o2), (5, .int (i3 (4 * j)))] [] M bc bs := by
  obtain ⟨g, gn, hw, hm, hg, tsb, nsb, to1, no1, to2, no2, f127, f128⟩ := JJ_q hJ
  have ok := md_wf_ok hw
  have ix1 : i3 (4 * j) + (1 : Int32) = i3 (4 * j + 1) := i3_add _ 1
  refine vL_law_1335 hX hM (fun x0 x1 x2 x3 x4 x5 M bc bs => am_J X 3219 [(0, .ref x0), (1, .ref x1), (2, .ref x2), (3, .ref x3), (4, .ref x4), (5, .int x5)] [] M bc bs) (fun _ _ _ _ _ _ _ _ _ h => h) ⟨tsb, by rw [ix1, nsb]; exact vp_in_i3 (by omega) (by omega), by omega, by omega, ?_⟩
  refine am_CT.mono ?_ (w_stopCount (d := d + 8) gn hw to1 no1)
  rintro z M5 ⟨e, eM⟩
  have hJ5 : JJ G a h E L sc st ks rs so A sb N0 o1 o2 p q T K M5 := by rw [eM]; split <;> exact hJ
  have eE : hp_E M5 = hp_E M := by rw [eM]; split <;> rfl
  have eT : hp_T M5 = hp_T M := by rw [eM]; split <;> rfl
  have eN : hp_N M5 = hp_N M := by rw [eM]; split <;> rfl
  have eI : hp_I M5 = hp_I M := by rw [eM]; split <;> rfl
  have m5 : mL M5 A := by rw [eM]; split <;> exact hm
  have hg5 : hp_E M5 (A 1) = g := by rw [eE]; exact hg
  refine ⟨_, e, by rw [eT]; exact tsb, by rw [ix1, eN, nsb]; exact vp_in_i3 (by omega) (by omega), m5.1, ?_⟩
  rw [eE]
  refine ct_i (c_stopCount (d := d + 7) m5 hg5 ok) ⟨m5.1, ?_⟩
  refine ct_i (c_thrown (d := d + 11) (M := hp_sI M5 153 (A 0) _) m5) ?_
  rw [hp_I_sI]
  refine cmp_end (by unfold sq_stops; (repeat' split) <;> (dsimp only; omega)) (by rw [hp_T_sI, eT]; exact to1) (by rw [hp_N_sI, eN, no1]; exact vp_in_i3 (k := 0) (by omega) (by omega)) (fun k0 => ?_) (hN _ T K _ _ (JJ_153 hJ5) (by omega) (by omega) (by omega) (by omega))
  rw [eM, if_pos k0]
  exact hp_L_at _ _ _
theorem B_1391 {X : am_Cx} {G : am_Gx} {d : Nat} {a h E : Nat} {L : Nat → Nat → Nat} {sc st ks rs so : Nat} {A : Nat → Nat} {sb N0 o1 o2 p q : Nat} {T K j bc bs : Nat} {M : am_Hp} (hX : am_ok X rL_law G (d + 13)) (hM : ∀ {pc : Nat} {lv : List (Nat × Value)} {M : am_Hp} {bc bs : Nat}, decode rL_law.2.1 pc = .ok (.ireturn, 1) → am_J X pc lv [.int (1 : Int32)] M bc bs) (hz : cz G) (hp : sioo G) (hJ : JJ G a h E L sc st ks rs so A sb N0 o1 o2 p q T K M) (hT : T < 13000000) (hK : K < 100000000) (hi : 4 * j + 3 < N0) (hN0 : N0 ≤ 2048) (hbc : 20 ≤ bc) (hbs : 2000 ≤ bs) (hN : ∀ M' T' K' bc' bs', JJ G a h E L sc st ks rs so A sb N0 o1 o2 p q T' K' M' → T' ≤ T + 23790 → K' ≤ K + 13 → bc ≤ bc' + 20 → bs ≤ bs' + 2000 → am_J X 3219 [(0, .ref sb), (1, .ref a), (2, .ref (A 0)), (3, .ref o1), (4, .ref o2), (5, .int (i3 (4 * j)))] [] M' bc' bs') : am_J X 1391 [(0, .ref sb), (1, .ref a), (2, .ref (A 0)), (3, .ref o1), (4, .ref o2), (5, .int (i3 (4 * j)))] [] M bc bs := by
  obtain ⟨g, gn, hw, hm, hg, tsb, nsb, to1, no1, to2, no2, f127, f128⟩ := JJ_q hJ
  have ok := md_wf_ok hw
  have ix1 : i3 (4 * j) + (1 : Int32) = i3 (4 * j + 1) := i3_add _ 1
  refine vL_law_1391 hX hM (fun x0 x1 x2 x3 x4 x5 M bc bs => am_J X 3219 [(0, .ref x0), (1, .ref x1), (2, .ref x2), (3, .ref x3), (4, .ref x4), (5, .int x5)] [] M bc bs) (fun _ _ _ _ _ _ _ _ _ h => h) ⟨tsb, by rw [ix1, nsb]; exact vp_in_i3 (by omega) (by omega), by omega, by omega, ?_⟩
  refine am_CT.mono ?_ (w_nextStop (d := d + 8) gn hw to1 no1)
  rintro z M5 ⟨e, eM⟩
  have hJ5 : JJ G a h E L sc st ks rs so A sb N0 o1 o2 p q T K M5 := by rw [eM]; split <;> exact hJ
  have eE : hp_E M5 = hp_E M := by rw [eM]; split <;> rfl
  have eT : hp_T M5 = hp_T M := by rw [eM]; split <;> rfl
  have eN : hp_N M5 = hp_N M := by rw [eM]; split <;> rfl
  have eI : hp_I M5 = hp_I M := by rw [eM]; split <;> rfl
  have m5 : mL M5 A := by rw [eM]; split <;> exact hm
  have hg5 : hp_E M5 (A 1) = g := by rw [eE]; exact hg
  refine ⟨_, e, by rw [eT]; exact tsb, by rw [ix1, eN, nsb]; exact vp_in_i3 (by omega) (by omega), m5.1, ?_⟩
  rw [eE]
  refine ct_i (c_nextStop (d := d + 7) m5 hg5 hw) ⟨m5.1, ?_⟩
  refine ct_i (c_thrown (d := d + 11) (M := hp_sI M5 153 (A 0) _) m5) ?_
  rw [hp_I_sI]
  refine cmp_end (by unfold sq_next; (repeat' split) <;> (dsimp only; omega)) (by rw [hp_T_sI, eT]; exact to1) (by rw [hp_N_sI, eN, no1]; exact vp_in_i3 (k := 0) (by omega) (by omega)) (fun k0 => ?_) (hN _ T K _ _ (JJ_153 hJ5) (by omega) (by omega) (by omega) (by omega))
  rw [eM, if_pos k0]
  exact hp_L_at _ _ _
theorem B_1460 {X : am_Cx} {G : am_Gx} {d : Nat} {a h E : Nat} {L : Nat → Nat → Nat} {sc st ks rs so : Nat} {A : Nat → Nat} {sb N0 o1 o2 p q : Nat} {T K j bc bs : Nat} {M : am_Hp} (hX : am_ok X rL_law G (d + 13)) (hM : ∀ {pc : Nat} {lv : List (Nat × Value)} {M : am_Hp} {bc bs : Nat}, decode rL_law.2.1 pc = .ok (.ireturn, 1) → am_J X pc lv [.int (1 : Int32)] M bc bs) (hz : cz G) (hp : sioo G) (hJ : JJ G a h E L sc st ks rs so A sb N0 o1 o2 p q T K M) (hT : T < 13000000) (hK : K < 100000000) (hi : 4 * j + 3 < N0) (hN0 : N0 ≤ 2048) (hbc : 20 ≤ bc) (hbs : 2000 ≤ bs) (hN : ∀ M' T' K' bc' bs', JJ G a h E L sc st ks rs so A sb N0 o1 o2 p q T' K' M' → T' ≤ T + 23790 → K' ≤ K + 13 → bc ≤ bc' + 20 → bs ≤ bs' + 2000 → am_J X 3219 [(0, .ref sb), (1, .ref a), (2, .ref (A 0)), (3, .ref o1), (4, .ref o2), (5, .int (i3 (4 * j)))] [] M' bc' bs') : am_J X 1460 [(0, .ref sb), (1, .ref a), (2, .ref (A 0)), (3, .ref o1), (4, .ref o2), (5, .int (i3 (4 * j)))] [] M bc bs := by
  obtain ⟨g, gn, hw, hm, hg, tsb, nsb, to1, no1, to2, no2, f127, f128⟩ := JJ_q hJ
  have ok := md_wf_ok hw
  have ix1 : i3 (4 * j) + (1 : Int32) = i3 (4 * j + 1) := i3_add _ 1
  refine vL_law_1460 hX hM (fun x0 x1 x2 x3 x4 x5 M bc bs => am_J X 3219 [(0, .ref x0), (1, .ref x1), (2, .ref x2), (3, .ref x3), (4, .ref x4), (5, .int x5)] [] M bc bs) (fun _ _ _ _ _ _ _ _ _ h => h) ⟨tsb, by rw [ix1, nsb]; exact vp_in_i3 (by omega) (by omega), by omega, by omega, ?_⟩
  refine am_CT.mono ?_ (w_number (d := d + 8) gn ok to1 no1)
  rintro z M5 ⟨e, eM⟩
  have hJ5 : JJ G a h E L sc st ks rs so A sb N0 o1 o2 p q T K M5 := by rw [eM]; split <;> exact hJ
  have eE : hp_E M5 = hp_E M := by rw [eM]; split <;> rfl
  have eT : hp_T M5 = hp_T M := by rw [eM]; split <;> rfl
  have eN : hp_N M5 = hp_N M := by rw [eM]; split <;> rfl
  have eI : hp_I M5 = hp_I M := by rw [eM]; split <;> rfl
  have m5 : mL M5 A := by rw [eM]; split <;> exact hm
  have hg5 : hp_E M5 (A 1) = g := by rw [eE]; exact hg
  refine ⟨_, e, by rw [eT]; exact tsb, by rw [ix1, eN, nsb]; exact vp_in_i3 (by omega) (by omega), m5.1, ?_⟩
  rw [eE]
  refine ct_i (c_number (d := d + 8) m5 hg5 ok) ⟨m5.1, ?_⟩
  refine ct_i (c_thrown (d := d + 11) (M := hp_sI M5 153 (A 0) _) m5) ?_
  rw [hp_I_sI]
  refine cmp_end (by unfold sq_pas; (repeat' split) <;> (dsimp only; omega)) (by rw [hp_T_sI, eT]; exact to1) (by rw [hp_N_sI, eN, no1]; exact vp_in_i3 (k := 0) (by omega) (by omega)) (fun k0 => ?_) (hN _ T K _ _ (JJ_153 hJ5) (by omega) (by omega) (by omega) (by omega))
  rw [eM, if_pos k0]
  exact hp_L_at _ _ _
theorem B_1516 {X : am_Cx} {G : am_Gx} {d : Nat} {a h E : Nat} {L : Nat → Nat → Nat} {sc st ks rs so : Nat} {A : Nat → Nat} {sb N0 o1 o2 p q : Nat} {T K j bc bs : Nat} {M : am_Hp} (hX : am_ok X rL_law G (d + 13)) (hM : ∀ {pc : Nat} {lv : List (Nat × Value)} {M : am_Hp} {bc bs : Nat}, decode rL_law.2.1 pc = .ok (.ireturn, 1) → am_J X pc lv [.int (1 : Int32)] M bc bs) (hz : cz G) (hp : sioo G) (hJ : JJ G a h E L sc st ks rs so A sb N0 o1 o2 p q T K M) (hT : T < 13000000) (hK : K < 100000000) (hi : 4 * j + 3 < N0) (hN0 : N0 ≤ 2048) (hbc : 20 ≤ bc) (hbs : 2000 ≤ bs) (hN : ∀ M' T' K' bc' bs', JJ G a h E L sc st ks rs so A sb N0 o1 o2 p q T' K' M' → T' ≤ T + 23790 → K' ≤ K + 13 → bc ≤ bc' + 20 → bs ≤ bs' + 2000 → am_J X 3219 [(0, .ref sb), (1, .ref a), (2, .ref (A 0)), (3, .ref o1), (4, .ref o2), (5, .int (i3 (4 * j)))] [] M' bc' bs') : am_J X 1516 [(0, .ref sb), (1, .ref a), (2, .ref (A 0)), (3, .ref o1), (4, .ref o2), (5, .int (i3 (4 * j)))] [] M bc bs := by
  obtain ⟨g, gn, hw, hm, hg, tsb, nsb, to1, no1, to2, no2, f127, f128⟩ := JJ_q hJ
  have ok := md_wf_ok hw
  have ix1 : i3 (4 * j) + (1 : Int32) = i3 (4 * j + 1) := i3_add _ 1
  refine vL_law_1516 hX hM (fun x0 x1 x2 x3 x4 x5 M bc bs => am_J X 3219 [(0, .ref x0), (1, .ref x1), (2, .ref x2), (3, .ref x3), (4, .ref x4), (5, .int x5)] [] M bc bs) (fun _ _ _ _ _ _ _ _ _ h => h) ⟨tsb, by rw [ix1, nsb]; exact vp_in_i3 (by omega) (by omega), by omega, by omega, ?_⟩
  refine am_CT.mono ?_ (w_start (d := d + 8) gn ok to1 no1)
  rintro z M5 ⟨e, eM⟩
  have hJ5 : JJ G a h E L sc st ks rs so A sb N0 o1 o2 p q T K M5 := by rw [eM]; split <;> exact hJ
  have eE : hp_E M5 = hp_E M := by rw [eM]; split <;> rfl
  have eT : hp_T M5 = hp_T M := by rw [eM]; split <;> rfl
  have eN : hp_N M5 = hp_N M := by rw [eM]; split <;> rfl
  have eI : hp_I M5 = hp_I M := by rw [eM]; split <;> rfl
  have m5 : mL M5 A := by rw [eM]; split <;> exact hm
  have hg5 : hp_E M5 (A 1) = g := by rw [eE]; exact hg
  refine ⟨_, e, by rw [eT]; exact tsb, by rw [ix1, eN, nsb]; exact vp_in_i3 (by omega) (by omega), m5.1, ?_⟩
  rw [eE]
  refine ct_i (c_start (d := d + 8) m5 hg5 ok) ⟨m5.1, ?_⟩
  refine ct_i (c_thrown (d := d + 11) (M := hp_sI M5 153 (A 0) _) m5) ?_
  rw [hp_I_sI]
  refine cmp_end (by unfold sq_pas; (repeat' split) <;> (dsimp only; omega)) (by rw [hp_T_sI, eT]; exact to1) (by rw [hp_N_sI, eN, no1]; exact vp_in_i3 (k := 0) (by omega) (by omega)) (fun k0 => ?_) (hN _ T K _ _ (JJ_153 hJ5) (by omega) (by omega) (by omega) (by omega))
  rw [eM, if_pos k0]
  exact hp_L_at _ _ _
theorem B_1572 {X : am_Cx} {G : am_Gx} {d : Nat} {a h E : Nat} {L : Nat → Nat → Nat} {sc st ks rs so : Nat} {A : Nat → Nat} {sb N0 o1 o2 p q : Nat} {T K j bc bs : Nat} {M : am_Hp} (hX : am_ok X rL_law G (d + 13)) (hM : ∀ {pc : Nat} {lv : List (Nat × Value)} {M : am_Hp} {bc bs : Nat}, decode rL_law.2.1 pc = .ok (.ireturn, 1) → am_J X pc lv [.int (1 : Int32)] M bc bs) (hz : cz G) (hp : sioo G) (hJ : JJ G a h E L sc st ks rs so A sb N0 o1 o2 p q T K M) (hT : T < 13000000) (hK : K < 100000000) (hi : 4 * j + 3 < N0) (hN0 : N0 ≤ 2048) (hbc : 20 ≤ bc) (hbs : 2000 ≤ bs) (hN : ∀ M' T' K' bc' bs', JJ G a h E L sc st ks rs so A sb N0 o1 o2 p q T' K' M' → T' ≤ T + 23790 → K' ≤ K + 13 → bc ≤ bc' + 20 → bs ≤ bs' + 2000 → am_J X 3219 [(0, .ref sb), (1, .ref a), (2, .ref (A 0)), (3, .ref o1), (4, .ref o2), (5, .int (i3 (4 * j)))] [] M' bc' bs') : am_J X 1572 [(0, .ref sb), (1, .ref a), (2, .ref (A 0)), (3, .ref o1), (4, .ref o2), (5, .int (i3 (4 * j)))] [] M bc bs := by
  obtain ⟨g, gn, hw, hm, hg, tsb, nsb, to1, no1, to2, no2, f127, f128⟩ := JJ_q hJ
  have ok := md_wf_ok hw
  have ix1 : i3 (4 * j) + (1 : Int32) = i3 (4 * j + 1) := i3_add _ 1
  refine vL_law_1572 hX hM (fun x0 x1 x2 x3 x4 x5 M bc bs => am_J X 3219 [(0, .ref x0), (1, .ref x1), (2, .ref x2), (3, .ref x3), (4, .ref x4), (5, .int x5)] [] M bc bs) (fun _ _ _ _ _ _ _ _ _ h => h) ⟨tsb, by rw [ix1, nsb]; exact vp_in_i3 (by omega) (by omega), by omega, by omega, ?_⟩
  refine am_CT.mono ?_ (w_destination (d := d + 8) gn ok to1 no1)
  rintro z M5 ⟨e, eM⟩
  have hJ5 : JJ G a h E L sc st ks rs so A sb N0 o1 o2 p q T K M5 := by rw [eM]; split <;> exact hJ
  have eE : hp_E M5 = hp_E M := by rw [eM]; split <;> rfl
  have eT : hp_T M5 = hp_T M := by rw [eM]; split <;> rfl
  have eN : hp_N M5 = hp_N M := by rw [eM]; split <;> rfl
  have eI : hp_I M5 = hp_I M := by rw [eM]; split <;> rfl
  have m5 : mL M5 A := by rw [eM]; split <;> exact hm
  have hg5 : hp_E M5 (A 1) = g := by rw [eE]; exact hg
  refine ⟨_, e, by rw [eT]; exact tsb, by rw [ix1, eN, nsb]; exact vp_in_i3 (by omega) (by omega), m5.1, ?_⟩
  rw [eE]
  refine ct_i (c_destination (d := d + 8) m5 hg5 ok) ⟨m5.1, ?_⟩
  refine ct_i (c_thrown (d := d + 11) (M := hp_sI M5 153 (A 0) _) m5) ?_
  rw [hp_I_sI]
  refine cmp_end (by unfold sq_pas; (repeat' split) <;> (dsimp only; omega)) (by rw [hp_T_sI, eT]; exact to1) (by rw [hp_N_sI, eN, no1]; exact vp_in_i3 (k := 0) (by omega) (by omega)) (fun k0 => ?_) (hN _ T K _ _ (JJ_153 hJ5) (by omega) (by omega) (by omega) (by omega))
  rw [eM, if_pos k0]
  exact hp_L_at _ _ _
theorem B_1628 {X : am_Cx} {G : am_Gx} {d : Nat} {a h E : Nat} {L : Nat → Nat → Nat} {sc st ks rs so : Nat} {A : Nat → Nat} {sb N0 o1 o2 p q : Nat} {T K j bc bs : Nat} {M : am_Hp} (hX : am_ok X rL_law G (d + 13)) (hM : ∀ {pc : Nat} {lv : List (Nat × Value)} {M : am_Hp} {bc bs : Nat}, decode rL_law.2.1 pc = .ok (.ireturn, 1) → am_J X pc lv [.int (1 : Int32)] M bc bs) (hz : cz G) (hp : sioo G) (hJ : JJ G a h E L sc st ks rs so A sb N0 o1 o2 p q T K M) (hT : T < 13000000) (hK : K < 100000000) (hi : 4 * j + 3 < N0) (hN0 : N0 ≤ 2048) (hbc : 20 ≤ bc) (hbs : 2000 ≤ bs) (hN : ∀ M' T' K' bc' bs', JJ G a h E L sc st ks rs so A sb N0 o1 o2 p q T' K' M' → T' ≤ T + 23790 → K' ≤ K + 13 → bc ≤ bc' + 20 → bs ≤ bs' + 2000 → am_J X 3219 [(0, .ref sb), (1, .ref a), (2, .ref (A 0)), (3, .ref o1), (4, .ref o2), (5, .int (i3 (4 * j)))] [] M' bc' bs') : am_J X 1628 [(0, .ref sb), (1, .ref a), (2, .ref (A 0)), (3, .ref o1), (4, .ref o2), (5, .int (i3 (4 * j)))] [] M bc bs := by
  obtain ⟨g, gn, hw, hm, hg, tsb, nsb, to1, no1, to2, no2, f127, f128⟩ := JJ_q hJ
  have ok := md_wf_ok hw
  have ix1 : i3 (4 * j) + (1 : Int32) = i3 (4 * j + 1) := i3_add _ 1
  refine vL_law_1628 hX hM (fun x0 x1 x2 x3 x4 x5 M bc bs => am_J X 3219 [(0, .ref x0), (1, .ref x1), (2, .ref x2), (3, .ref x3), (4, .ref x4), (5, .int x5)] [] M bc bs) (fun _ _ _ _ _ _ _ _ _ h => h) ⟨tsb, by rw [ix1, nsb]; exact vp_in_i3 (by omega) (by omega), by omega, by omega, ?_⟩
  refine am_CT.mono ?_ (w_weight (d := d + 8) gn ok to1 no1)
  rintro z M5 ⟨e, eM⟩
  have hJ5 : JJ G a h E L sc st ks rs so A sb N0 o1 o2 p q T K M5 := by rw [eM]; split <;> exact hJ
  have eE : hp_E M5 = hp_E M := by rw [eM]; split <;> rfl
  have eT : hp_T M5 = hp_T M := by rw [eM]; split <;> rfl
  have eN : hp_N M5 = hp_N M := by rw [eM]; split <;> rfl
  have eI : hp_I M5 = hp_I M := by rw [eM]; split <;> rfl
  have m5 : mL M5 A := by rw [eM]; split <;> exact hm
  have hg5 : hp_E M5 (A 1) = g := by rw [eE]; exact hg
  refine ⟨_, e, by rw [eT]; exact tsb, by rw [ix1, eN, nsb]; exact vp_in_i3 (by omega) (by omega), m5.1, ?_⟩
  rw [eE]
  refine ct_i (c_weight (d := d + 8) m5 hg5 ok) ⟨m5.1, ?_⟩
  refine ct_i (c_thrown (d := d + 11) (M := hp_sI M5 153 (A 0) _) m5) ?_
  rw [hp_I_sI]
  refine cmp_end (by unfold sq_pas; (repeat' split) <;> (dsimp only; omega)) (by rw [hp_T_sI, eT]; exact to1) (by rw [hp_N_sI, eN, no1]; exact vp_in_i3 (k := 0) (by omega) (by omega)) (fun k0 => ?_) (hN _ T K _ _ (JJ_153 hJ5) (by omega) (by omega) (by omega) (by omega))
  rw [eM, if_pos k0]
  exact hp_L_at _ _ _
theorem B_1684 {X : am_Cx} {G : am_Gx} {d : Nat} {a h E : Nat} {L : Nat → Nat → Nat} {sc st ks rs so : Nat} {A : Nat → Nat} {sb N0 o1 o2 p q : Nat} {T K j bc bs : Nat} {M : am_Hp} (hX : am_ok X rL_law G (d + 13)) (hM : ∀ {pc : Nat} {lv : List (Nat × Value)} {M : am_Hp} {bc bs : Nat}, decode rL_law.2.1 pc = .ok (.ireturn, 1) → am_J X pc lv [.int (1 : Int32)] M bc bs) (hz : cz G) (hp : sioo G) (hJ : JJ G a h E L sc st ks rs so A sb N0 o1 o2 p q T K M) (hT : T < 13000000) (hK : K < 100000000) (hi : 4 * j + 3 < N0) (hN0 : N0 ≤ 2048) (hbc : 20 ≤ bc) (hbs : 2000 ≤ bs) (hN : ∀ M' T' K' bc' bs', JJ G a h E L sc st ks rs so A sb N0 o1 o2 p q T' K' M' → T' ≤ T + 23790 → K' ≤ K + 13 → bc ≤ bc' + 20 → bs ≤ bs' + 2000 → am_J X 3219 [(0, .ref sb), (1, .ref a), (2, .ref (A 0)), (3, .ref o1), (4, .ref o2), (5, .int (i3 (4 * j)))] [] M' bc' bs') : am_J X 1684 [(0, .ref sb), (1, .ref a), (2, .ref (A 0)), (3, .ref o1), (4, .ref o2), (5, .int (i3 (4 * j)))] [] M bc bs := by
  obtain ⟨g, gn, hw, hm, hg, tsb, nsb, to1, no1, to2, no2, f127, f128⟩ := JJ_q hJ
  have ok := md_wf_ok hw
  have ix1 : i3 (4 * j) + (1 : Int32) = i3 (4 * j + 1) := i3_add _ 1
  refine vL_law_1684 hX hM (fun x0 x1 x2 x3 x4 x5 M bc bs => am_J X 3219 [(0, .ref x0), (1, .ref x1), (2, .ref x2), (3, .ref x3), (4, .ref x4), (5, .int x5)] [] M bc bs) (fun _ _ _ _ _ _ _ _ _ h => h) ⟨tsb, by rw [ix1, nsb]; exact vp_in_i3 (by omega) (by omega), by omega, by omega, ?_⟩
  refine am_CT.mono ?_ (w_waitingTime (d := d + 8) gn ok to1 no1)
  rintro z M5 ⟨e, eM⟩
  have hJ5 : JJ G a h E L sc st ks rs so A sb N0 o1 o2 p q T K M5 := by rw [eM]; split <;> exact hJ
  have eE : hp_E M5 = hp_E M := by rw [eM]; split <;> rfl
  have eT : hp_T M5 = hp_T M := by rw [eM]; split <;> rfl
  have eN : hp_N M5 = hp_N M := by rw [eM]; split <;> rfl
  have eI : hp_I M5 = hp_I M := by rw [eM]; split <;> rfl
  have m5 : mL M5 A := by rw [eM]; split <;> exact hm
  have hg5 : hp_E M5 (A 1) = g := by rw [eE]; exact hg
  refine ⟨_, e, by rw [eT]; exact tsb, by rw [ix1, eN, nsb]; exact vp_in_i3 (by omega) (by omega), m5.1, ?_⟩
  rw [eE]
  refine ct_i (c_waitingTime (d := d + 8) m5 hg5 ok) ⟨m5.1, ?_⟩
  refine ct_i (c_thrown (d := d + 11) (M := hp_sI M5 153 (A 0) _) m5) ?_
  rw [hp_I_sI]
  refine cmp_end (by unfold sq_pas; (repeat' split) <;> (dsimp only; omega)) (by rw [hp_T_sI, eT]; exact to1) (by rw [hp_N_sI, eN, no1]; exact vp_in_i3 (k := 0) (by omega) (by omega)) (fun k0 => ?_) (hN _ T K _ _ (JJ_153 hJ5) (by omega) (by omega) (by omega) (by omega))
  rw [eM, if_pos k0]
  exact hp_L_at _ _ _
theorem B_1803 {X : am_Cx} {G : am_Gx} {d : Nat} {a h E : Nat} {L : Nat → Nat → Nat} {sc st ks rs so : Nat} {A : Nat → Nat} {sb N0 o1 o2 p q : Nat} {T K j bc bs : Nat} {M : am_Hp} (hX : am_ok X rL_law G (d + 13)) (hM : ∀ {pc : Nat} {lv : List (Nat × Value)} {M : am_Hp} {bc bs : Nat}, decode rL_law.2.1 pc = .ok (.ireturn, 1) → am_J X pc lv [.int (1 : Int32)] M bc bs) (hz : cz G) (hp : sioo G) (hJ : JJ G a h E L sc st ks rs so A sb N0 o1 o2 p q T K M) (hT : T < 13000000) (hK : K < 100000000) (hi : 4 * j + 3 < N0) (hN0 : N0 ≤ 2048) (hbc : 20 ≤ bc) (hbs : 2000 ≤ bs) (hN : ∀ M' T' K' bc' bs', JJ G a h E L sc st ks rs so A sb N0 o1 o2 p q T' K' M' → T' ≤ T + 23790 → K' ≤ K + 13 → bc ≤ bc' + 20 → bs ≤ bs' + 2000 → am_J X 3219 [(0, .ref sb), (1, .ref a), (2, .ref (A 0)), (3, .ref o1), (4, .ref o2), (5, .int (i3 (4 * j)))] [] M' bc' bs') : am_J X 1803 [(0, .ref sb), (1, .ref a), (2, .ref (A 0)), (3, .ref o1), (4, .ref o2), (5, .int (i3 (4 * j)))] [] M bc bs := by
  obtain ⟨g, gn, hw, hm, hg, tsb, nsb, to1, no1, to2, no2, f127, f128⟩ := JJ_q hJ
  have ok := md_wf_ok hw
  have ix1 : i3 (4 * j) + (1 : Int32) = i3 (4 * j + 1) := i3_add _ 1
  refine vL_law_1803 hX hM (fun x0 x1 x2 x3 x4 x5 M bc bs => am_J X 3219 [(0, .ref x0), (1, .ref x1), (2, .ref x2), (3, .ref x3), (4, .ref x4), (5, .int x5)] [] M bc bs) (fun _ _ _ _ _ _ _ _ _ h => h) ⟨tsb, by rw [ix1, nsb]; exact vp_in_i3 (by omega) (by omega), by omega, by omega, ?_⟩
  refine am_CT.mono ?_ (w_carOf (d := d + 8) gn hw to1 no1)
  rintro z M5 ⟨e, eM⟩
  have hJ5 : JJ G a h E L sc st ks rs so A sb N0 o1 o2 p q T K M5 := by rw [eM]; split <;> exact hJ
  have eE : hp_E M5 = hp_E M := by rw [eM]; split <;> rfl
  have eT : hp_T M5 = hp_T M := by rw [eM]; split <;> rfl
  have eN : hp_N M5 = hp_N M := by rw [eM]; split <;> rfl
  have eI : hp_I M5 = hp_I M := by rw [eM]; split <;> rfl
  have m5 : mL M5 A := by rw [eM]; split <;> exact hm
  have hg5 : hp_E M5 (A 1) = g := by rw [eE]; exact hg
  refine ⟨_, e, by rw [eT]; exact tsb, by rw [ix1, eN, nsb]; exact vp_in_i3 (by omega) (by omega), m5.1, ?_⟩
  rw [eE]
  refine ct_i (c_carOf (d := d + 8) m5 hg5 ok) ⟨m5.1, ?_⟩
  refine ct_i (c_thrown (d := d + 11) (M := hp_sI M5 153 (A 0) _) m5) ?_
  rw [hp_I_sI]
  refine cmp_end (by unfold sq_carOf; (repeat' split) <;> (dsimp only; omega)) (by rw [hp_T_sI, eT]; exact to1) (by rw [hp_N_sI, eN, no1]; exact vp_in_i3 (k := 0) (by omega) (by omega)) (fun k0 => ?_) (hN _ T K _ _ (JJ_153 hJ5) (by omega) (by omega) (by omega) (by omega))
  rw [eM, if_pos k0]
  exact hp_L_at _ _ _
theorem B_1859 {X : am_Cx} {G : am_Gx} {d : Nat} {a h E : Nat} {L : Nat → Nat → Nat} {sc st ks rs so : Nat} {A : Nat → Nat} {sb N0 o1 o2 p q : Nat} {T K j bc bs : Nat} {M : am_Hp} (hX : am_ok X rL_law G (d + 13)) (hM : ∀ {pc : Nat} {lv : List (Nat × Value)} {M : am_Hp} {bc bs : Nat}, decode rL_law.2.1 pc = .ok (.ireturn, 1) → am_J X pc lv [.int (1 : Int32)] M bc bs) (hz : cz G) (hp : sioo G) (hJ : JJ G a h E L sc st ks rs so A sb N0 o1 o2 p q T K M) (hT : T < 13000000) (hK : K < 100000000) (hi : 4 * j + 3 < N0) (hN0 : N0 ≤ 2048) (hbc : 20 ≤ bc) (hbs : 2000 ≤ bs) (hN : ∀ M' T' K' bc' bs', JJ G a h E L sc st ks rs so A sb N0 o1 o2 p q T' K' M' → T' ≤ T + 23790 → K' ≤ K + 13 → bc ≤ bc' + 20 → bs ≤ bs' + 2000 → am_J X 3219 [(0, .ref sb), (1, .ref a), (2, .ref (A 0)), (3, .ref o1), (4, .ref o2), (5, .int (i3 (4 * j)))] [] M' bc' bs') : am_J X 1859 [(0, .ref sb), (1, .ref a), (2, .ref (A 0)), (3, .ref o1), (4, .ref o2), (5, .int (i3 (4 * j)))] [] M bc bs := by
  obtain ⟨g, gn, hw, hm, hg, tsb, nsb, to1, no1, to2, no2, f127, f128⟩ := JJ_q hJ
  have ok := md_wf_ok hw
  have ix1 : i3 (4 * j) + (1 : Int32) = i3 (4 * j + 1) := i3_add _ 1
  refine vL_law_1859 hX hM (fun x0 x1 x2 x3 x4 x5 M bc bs => am_J X 3219 [(0, .ref x0), (1, .ref x1), (2, .ref x2), (3, .ref x3), (4, .ref x4), (5, .int x5)] [] M bc bs) (fun _ _ _ _ _ _ _ _ _ h => h) ⟨tsb, by rw [ix1, nsb]; exact vp_in_i3 (by omega) (by omega), by omega, by omega, ?_⟩
  refine am_CT.mono ?_ (w_waitingAt (d := d + 8) gn ok to1 no1)
  rintro z M5 ⟨e, eM⟩
  have hJ5 : JJ G a h E L sc st ks rs so A sb N0 o1 o2 p q T K M5 := by rw [eM]; split <;> exact hJ
  have eE : hp_E M5 = hp_E M := by rw [eM]; split <;> rfl
  have eT : hp_T M5 = hp_T M := by rw [eM]; split <;> rfl
  have eN : hp_N M5 = hp_N M := by rw [eM]; split <;> rfl
  have eI : hp_I M5 = hp_I M := by rw [eM]; split <;> rfl
  have m5 : mL M5 A := by rw [eM]; split <;> exact hm
  have hg5 : hp_E M5 (A 1) = g := by rw [eE]; exact hg
  refine ⟨_, e, by rw [eT]; exact tsb, by rw [ix1, eN, nsb]; exact vp_in_i3 (by omega) (by omega), m5.1, ?_⟩
  rw [eE]
  refine ct_i (c_waitingAt (d := d + 8) m5 hg5 ok) ⟨m5.1, ?_⟩
  refine ct_i (c_thrown (d := d + 11) (M := hp_sI M5 153 (A 0) _) m5) ?_
  rw [hp_I_sI]
  refine cmp_end (by unfold sq_wait; (repeat' split) <;> (dsimp only; omega)) (by rw [hp_T_sI, eT]; exact to1) (by rw [hp_N_sI, eN, no1]; exact vp_in_i3 (k := 0) (by omega) (by omega)) (fun k0 => ?_) (hN _ T K _ _ (JJ_153 hJ5) (by omega) (by omega) (by omega) (by omega))
  rw [eM, if_pos k0]
  exact hp_L_at _ _ _
theorem B_1915 {X : am_Cx} {G : am_Gx} {d : Nat} {a h E : Nat} {L : Nat → Nat → Nat} {sc st ks rs so : Nat} {A : Nat → Nat} {sb N0 o1 o2 p q : Nat} {T K j bc bs : Nat} {M : am_Hp} (hX : am_ok X rL_law G (d + 13)) (hM : ∀ {pc : Nat} {lv : List (Nat × Value)} {M : am_Hp} {bc bs : Nat}, decode rL_law.2.1 pc = .ok (.ireturn, 1) → am_J X pc lv [.int (1 : Int32)] M bc bs) (hz : cz G) (hp : sioo G) (hJ : JJ G a h E L sc st ks rs so A sb N0 o1 o2 p q T K M) (hT : T < 13000000) (hK : K < 100000000) (hi : 4 * j + 3 < N0) (hN0 : N0 ≤ 2048) (hbc : 20 ≤ bc) (hbs : 2000 ≤ bs) (hN : ∀ M' T' K' bc' bs', JJ G a h E L sc st ks rs so A sb N0 o1 o2 p q T' K' M' → T' ≤ T + 23790 → K' ≤ K + 13 → bc ≤ bc' + 20 → bs ≤ bs' + 2000 → am_J X 3219 [(0, .ref sb), (1, .ref a), (2, .ref (A 0)), (3, .ref o1), (4, .ref o2), (5, .int (i3 (4 * j)))] [] M' bc' bs') : am_J X 1915 [(0, .ref sb), (1, .ref a), (2, .ref (A 0)), (3, .ref o1), (4, .ref o2), (5, .int (i3 (4 * j)))] [] M bc bs := by
  obtain ⟨g, gn, hw, hm, hg, tsb, nsb, to1, no1, to2, no2, f127, f128⟩ := JJ_q hJ
  have ok := md_wf_ok hw
  have ix1 : i3 (4 * j) + (1 : Int32) = i3 (4 * j + 1) := i3_add _ 1
  have ix2 : i3 (4 * j) + (2 : Int32) = i3 (4 * j + 2) := i3_add _ 2
  refine vL_law_1915 hX hM (fun x0 x1 x2 x3 x4 x5 M bc bs => am_J X 3219 [(0, .ref x0), (1, .ref x1), (2, .ref x2), (3, .ref x3), (4, .ref x4), (5, .int x5)] [] M bc bs) (fun _ _ _ _ _ _ _ _ _ h => h) ⟨tsb, by rw [ix1, nsb]; exact vp_in_i3 (by omega) (by omega), by rw [ix2, nsb]; exact vp_in_i3 (by omega) (by omega), by omega, by omega, ?_⟩
  refine am_CT.mono ?_ (w_estimate (d := d + 8) gn hw to1 no1)
  rintro z M5 ⟨e, eM⟩
  have hJ5 : JJ G a h E L sc st ks rs so A sb N0 o1 o2 p q T K M5 := by rw [eM]; split <;> exact hJ
  have eE : hp_E M5 = hp_E M := by rw [eM]; split <;> rfl
  have eT : hp_T M5 = hp_T M := by rw [eM]; split <;> rfl
  have eN : hp_N M5 = hp_N M := by rw [eM]; split <;> rfl
  have eI : hp_I M5 = hp_I M := by rw [eM]; split <;> rfl
  have m5 : mL M5 A := by rw [eM]; split <;> exact hm
  have hg5 : hp_E M5 (A 1) = g := by rw [eE]; exact hg
  refine ⟨_, e, by rw [eT]; exact tsb, by rw [ix1, eN, nsb]; exact vp_in_i3 (by omega) (by omega), by rw [ix2, eN, nsb]; exact vp_in_i3 (by omega) (by omega), m5.1, ?_⟩
  rw [eE]
  refine ct_i (c_estimate (d := d + 7) m5 hg5 ok) ⟨m5.1, ?_⟩
  refine ct_i (c_thrown (d := d + 11) (M := hp_sI M5 153 (A 0) _) m5) ?_
  rw [hp_I_sI]
  refine cmp_end (by unfold sq_est; (repeat' split) <;> (dsimp only; omega)) (by rw [hp_T_sI, eT]; exact to1) (by rw [hp_N_sI, eN, no1]; exact vp_in_i3 (k := 0) (by omega) (by omega)) (fun k0 => ?_) (hN _ T K _ _ (JJ_153 hJ5) (by omega) (by omega) (by omega) (by omega))
  rw [eM, if_pos k0]
  exact hp_L_at _ _ _
theorem B_1983 {X : am_Cx} {G : am_Gx} {d : Nat} {a h E : Nat} {L : Nat → Nat → Nat} {sc st ks rs so : Nat} {A : Nat → Nat} {sb N0 o1 o2 p q : Nat} {T K j bc bs : Nat} {M : am_Hp} (hX : am_ok X rL_law G (d + 13)) (hM : ∀ {pc : Nat} {lv : List (Nat × Value)} {M : am_Hp} {bc bs : Nat}, decode rL_law.2.1 pc = .ok (.ireturn, 1) → am_J X pc lv [.int (1 : Int32)] M bc bs) (hz : cz G) (hp : sioo G) (hJ : JJ G a h E L sc st ks rs so A sb N0 o1 o2 p q T K M) (hT : T < 13000000) (hK : K < 100000000) (hi : 4 * j + 3 < N0) (hN0 : N0 ≤ 2048) (hbc : 20 ≤ bc) (hbs : 2000 ≤ bs) (hN : ∀ M' T' K' bc' bs', JJ G a h E L sc st ks rs so A sb N0 o1 o2 p q T' K' M' → T' ≤ T + 23790 → K' ≤ K + 13 → bc ≤ bc' + 20 → bs ≤ bs' + 2000 → am_J X 3219 [(0, .ref sb), (1, .ref a), (2, .ref (A 0)), (3, .ref o1), (4, .ref o2), (5, .int (i3 (4 * j)))] [] M' bc' bs') : am_J X 1983 [(0, .ref sb), (1, .ref a), (2, .ref (A 0)), (3, .ref o1), (4, .ref o2), (5, .int (i3 (4 * j)))] [] M bc bs := by
  obtain ⟨g, gn, hw, hm, hg, tsb, nsb, to1, no1, to2, no2, f127, f128⟩ := JJ_q hJ
  have ok := md_wf_ok hw
  have ix1 : i3 (4 * j) + (1 : Int32) = i3 (4 * j + 1) := i3_add _ 1
  have ix2 : i3 (4 * j) + (2 : Int32) = i3 (4 * j + 2) := i3_add _ 2
  refine vL_law_1983 hX hM (fun x0 x1 x2 x3 x4 x5 M bc bs => am_J X 3219 [(0, .ref x0), (1, .ref x1), (2, .ref x2), (3, .ref x3), (4, .ref x4), (5, .int x5)] [] M bc bs) (fun _ _ _ _ _ _ _ _ _ h => h) ⟨tsb, by rw [ix1, nsb]; exact vp_in_i3 (by omega) (by omega), by rw [ix2, nsb]; exact vp_in_i3 (by omega) (by omega), by omega, by omega, ?_⟩
  refine am_CT.mono ?_ (w_estimateByWalk (d := d + 8) gn hw to1 no1)
  rintro z M5 ⟨e, eM⟩
  have hJ5 : JJ G a h E L sc st ks rs so A sb N0 o1 o2 p q T K M5 := by rw [eM]; split <;> exact hJ
  have eE : hp_E M5 = hp_E M := by rw [eM]; split <;> rfl
  have eT : hp_T M5 = hp_T M := by rw [eM]; split <;> rfl
  have eN : hp_N M5 = hp_N M := by rw [eM]; split <;> rfl
  have eI : hp_I M5 = hp_I M := by rw [eM]; split <;> rfl
  have m5 : mL M5 A := by rw [eM]; split <;> exact hm
  have hg5 : hp_E M5 (A 1) = g := by rw [eE]; exact hg
  refine ⟨_, e, by rw [eT]; exact tsb, by rw [ix1, eN, nsb]; exact vp_in_i3 (by omega) (by omega), by rw [ix2, eN, nsb]; exact vp_in_i3 (by omega) (by omega), m5.1, ?_⟩
  rw [eE]
  refine ct_i (c_estimateByWalk (d := d + 6) m5 hg5 ok) ⟨m5.1, ?_⟩
  refine ct_i (c_thrown (d := d + 11) (M := hp_sI M5 153 (A 0) _) m5) ?_
  rw [hp_I_sI]
  refine cmp_end (by unfold sq_est; (repeat' split) <;> (dsimp only; omega)) (by rw [hp_T_sI, eT]; exact to1) (by rw [hp_N_sI, eN, no1]; exact vp_in_i3 (k := 0) (by omega) (by omega)) (fun k0 => ?_) (hN _ T K _ _ (JJ_153 hJ5) (by omega) (by omega) (by omega) (by omega))
  rw [eM, if_pos k0]
  exact hp_L_at _ _ _
theorem B_2051 {X : am_Cx} {G : am_Gx} {d : Nat} {a h E : Nat} {L : Nat → Nat → Nat} {sc st ks rs so : Nat} {A : Nat → Nat} {sb N0 o1 o2 p q : Nat} {T K j bc bs : Nat} {M : am_Hp} (hX : am_ok X rL_law G (d + 13)) (hM : ∀ {pc : Nat} {lv : List (Nat × Value)} {M : am_Hp} {bc bs : Nat}, decode rL_law.2.1 pc = .ok (.ireturn, 1) → am_J X pc lv [.int (1 : Int32)] M bc bs) (hz : cz G) (hp : sioo G) (hJ : JJ G a h E L sc st ks rs so A sb N0 o1 o2 p q T K M) (hT : T < 13000000) (hK : K < 100000000) (hi : 4 * j + 3 < N0) (hN0 : N0 ≤ 2048) (hbc : 20 ≤ bc) (hbs : 2000 ≤ bs) (hN : ∀ M' T' K' bc' bs', JJ G a h E L sc st ks rs so A sb N0 o1 o2 p q T' K' M' → T' ≤ T + 23790 → K' ≤ K + 13 → bc ≤ bc' + 20 → bs ≤ bs' + 2000 → am_J X 3219 [(0, .ref sb), (1, .ref a), (2, .ref (A 0)), (3, .ref o1), (4, .ref o2), (5, .int (i3 (4 * j)))] [] M' bc' bs') : am_J X 2051 [(0, .ref sb), (1, .ref a), (2, .ref (A 0)), (3, .ref o1), (4, .ref o2), (5, .int (i3 (4 * j)))] [] M bc bs := by
  obtain ⟨g, gn, hw, hm, hg, tsb, nsb, to1, no1, to2, no2, f127, f128⟩ := JJ_q hJ
  have ok := md_wf_ok hw
  have ix1 : i3 (4 * j) + (1 : Int32) = i3 (4 * j + 1) := i3_add _ 1
  have ix2 : i3 (4 * j) + (2 : Int32) = i3 (4 * j + 2) := i3_add _ 2
  refine vL_law_2051 hX hM (fun x0 x1 x2 x3 x4 x5 M bc bs => am_J X 3219 [(0, .ref x0), (1, .ref x1), (2, .ref x2), (3, .ref x3), (4, .ref x4), (5, .int x5)] [] M bc bs) (fun _ _ _ _ _ _ _ _ _ h => h) ⟨tsb, by rw [ix1, nsb]; exact vp_in_i3 (by omega) (by omega), by rw [ix2, nsb]; exact vp_in_i3 (by omega) (by omega), by omega, by omega, ?_⟩
  refine am_CT.mono ?_ (w_bestCar (d := d + 7) gn hw to1 no1)
  rintro z M5 ⟨e, eM⟩
  have hJ5 : JJ G a h E L sc st ks rs so A sb N0 o1 o2 p q T K M5 := by rw [eM]; split <;> exact hJ
  have eE : hp_E M5 = hp_E M := by rw [eM]; split <;> rfl
  have eT : hp_T M5 = hp_T M := by rw [eM]; split <;> rfl
  have eN : hp_N M5 = hp_N M := by rw [eM]; split <;> rfl
  have eI : hp_I M5 = hp_I M := by rw [eM]; split <;> rfl
  have m5 : mL M5 A := by rw [eM]; split <;> exact hm
  have hg5 : hp_E M5 (A 1) = g := by rw [eE]; exact hg
  refine ⟨_, e, by rw [eT]; exact tsb, by rw [ix1, eN, nsb]; exact vp_in_i3 (by omega) (by omega), by rw [ix2, eN, nsb]; exact vp_in_i3 (by omega) (by omega), m5.1, ?_⟩
  rw [eE]
  refine ct_i (c_bestCar (d := d + 6) m5 hg5 ok) ⟨m5.1, ?_⟩
  refine ct_i (c_thrown (d := d + 11) (M := hp_sI M5 153 (A 0) _) m5) ?_
  rw [hp_I_sI]
  refine cmp_end (by unfold sq_best; (repeat' split) <;> (dsimp only; omega)) (by rw [hp_T_sI, eT]; exact to1) (by rw [hp_N_sI, eN, no1]; exact vp_in_i3 (k := 0) (by omega) (by omega)) (fun k0 => ?_) (hN _ T K _ _ (JJ_153 hJ5) (by omega) (by omega) (by omega) (by omega))
  rw [eM, if_pos k0]
  exact hp_L_at _ _ _
theorem B_2287 {X : am_Cx} {G : am_Gx} {d : Nat} {a h E : Nat} {L : Nat → Nat → Nat} {sc st ks rs so : Nat} {A : Nat → Nat} {sb N0 o1 o2 p q : Nat} {T K j bc bs : Nat} {M : am_Hp} (hX : am_ok X rL_law G (d + 13)) (hM : ∀ {pc : Nat} {lv : List (Nat × Value)} {M : am_Hp} {bc bs : Nat}, decode rL_law.2.1 pc = .ok (.ireturn, 1) → am_J X pc lv [.int (1 : Int32)] M bc bs) (hz : cz G) (hp : sioo G) (hJ : JJ G a h E L sc st ks rs so A sb N0 o1 o2 p q T K M) (hT : T < 13000000) (hK : K < 100000000) (hi : 4 * j + 3 < N0) (hN0 : N0 ≤ 2048) (hbc : 20 ≤ bc) (hbs : 2000 ≤ bs) (hN : ∀ M' T' K' bc' bs', JJ G a h E L sc st ks rs so A sb N0 o1 o2 p q T' K' M' → T' ≤ T + 23790 → K' ≤ K + 13 → bc ≤ bc' + 20 → bs ≤ bs' + 2000 → am_J X 3219 [(0, .ref sb), (1, .ref a), (2, .ref (A 0)), (3, .ref o1), (4, .ref o2), (5, .int (i3 (4 * j)))] [] M' bc' bs') : am_J X 2287 [(0, .ref sb), (1, .ref a), (2, .ref (A 0)), (3, .ref o1), (4, .ref o2), (5, .int (i3 (4 * j)))] [] M bc bs := by
  obtain ⟨g, gn, hw, hm, hg, tsb, nsb, to1, no1, to2, no2, f127, f128⟩ := JJ_q hJ
  have ok := md_wf_ok hw
  have ix1 : i3 (4 * j) + (1 : Int32) = i3 (4 * j + 1) := i3_add _ 1
  refine vL_law_2287 hX hM (fun x0 x1 x2 x3 x4 x5 M bc bs => am_J X 3219 [(0, .ref x0), (1, .ref x1), (2, .ref x2), (3, .ref x3), (4, .ref x4), (5, .int x5)] [] M bc bs) (fun _ _ _ _ _ _ _ _ _ h => h) ⟨tsb, by rw [ix1, nsb]; exact vp_in_i3 (by omega) (by omega), by omega, by omega, ?_⟩
  refine am_CT.mono ?_ (w_passengerByWaiting (d := d + 7) gn hw (by omega) to1 no1)
  rintro z M5 ⟨e, eM⟩
  have hJ5 : JJ G a h E L sc st ks rs so A sb N0 o1 o2 p q T K M5 := by rw [eM]; split <;> exact hJ
  have eE : hp_E M5 = hp_E M := by rw [eM]; split <;> rfl
  have eT : hp_T M5 = hp_T M := by rw [eM]; split <;> rfl
  have eN : hp_N M5 = hp_N M := by rw [eM]; split <;> rfl
  have eI : hp_I M5 = hp_I M := by rw [eM]; split <;> rfl
  have m5 : mL M5 A := by rw [eM]; split <;> exact hm
  have hg5 : hp_E M5 (A 1) = g := by rw [eE]; exact hg
  refine ⟨_, e, by rw [eT]; exact tsb, by rw [ix1, eN, nsb]; exact vp_in_i3 (by omega) (by omega), m5.1, ?_⟩
  rw [eE]
  refine ct_i (c_passengerByWaiting (d := d + 9) m5 hg5 ok) ⟨m5.1, ?_⟩
  refine ct_i (c_thrown (d := d + 11) (M := hp_sI M5 153 (A 0) _) m5) ?_
  rw [hp_I_sI]
  refine cmp_end (Nat.lt_of_le_of_lt (md_ff_le _ _ _) (by omega)) (by rw [hp_T_sI, eT]; exact to1) (by rw [hp_N_sI, eN, no1]; exact vp_in_i3 (k := 0) (by omega) (by omega)) (fun k0 => ?_) (hN _ T K _ _ (JJ_153 hJ5) (by omega) (by omega) (by omega) (by omega))
  rw [eM, if_pos k0]
  exact hp_L_at _ _ _
theorem B_2343 {X : am_Cx} {G : am_Gx} {d : Nat} {a h E : Nat} {L : Nat → Nat → Nat} {sc st ks rs so : Nat} {A : Nat → Nat} {sb N0 o1 o2 p q : Nat} {T K j bc bs : Nat} {M : am_Hp} (hX : am_ok X rL_law G (d + 13)) (hM : ∀ {pc : Nat} {lv : List (Nat × Value)} {M : am_Hp} {bc bs : Nat}, decode rL_law.2.1 pc = .ok (.ireturn, 1) → am_J X pc lv [.int (1 : Int32)] M bc bs) (hz : cz G) (hp : sioo G) (hJ : JJ G a h E L sc st ks rs so A sb N0 o1 o2 p q T K M) (hT : T < 13000000) (hK : K < 100000000) (hi : 4 * j + 3 < N0) (hN0 : N0 ≤ 2048) (hbc : 20 ≤ bc) (hbs : 2000 ≤ bs) (hN : ∀ M' T' K' bc' bs', JJ G a h E L sc st ks rs so A sb N0 o1 o2 p q T' K' M' → T' ≤ T + 23790 → K' ≤ K + 13 → bc ≤ bc' + 20 → bs ≤ bs' + 2000 → am_J X 3219 [(0, .ref sb), (1, .ref a), (2, .ref (A 0)), (3, .ref o1), (4, .ref o2), (5, .int (i3 (4 * j)))] [] M' bc' bs') : am_J X 2343 [(0, .ref sb), (1, .ref a), (2, .ref (A 0)), (3, .ref o1), (4, .ref o2), (5, .int (i3 (4 * j)))] [] M bc bs := by
  obtain ⟨g, gn, hw, hm, hg, tsb, nsb, to1, no1, to2, no2, f127, f128⟩ := JJ_q hJ
  have ok := md_wf_ok hw
  have ix1 : i3 (4 * j) + (1 : Int32) = i3 (4 * j + 1) := i3_add _ 1
  refine vL_law_2343 hX hM (fun x0 x1 x2 x3 x4 x5 M bc bs => am_J X 3219 [(0, .ref x0), (1, .ref x1), (2, .ref x2), (3, .ref x3), (4, .ref x4), (5, .int x5)] [] M bc bs) (fun _ _ _ _ _ _ _ _ _ h => h) ⟨tsb, by rw [ix1, nsb]; exact vp_in_i3 (by omega) (by omega), by omega, by omega, ?_⟩
  refine am_CT.mono ?_ (w_carByEnergy (d := d + 7) gn hw (by omega) to1 no1)
  rintro z M5 ⟨e, eM⟩
  have hJ5 : JJ G a h E L sc st ks rs so A sb N0 o1 o2 p q T K M5 := by rw [eM]; split <;> exact hJ
  have eE : hp_E M5 = hp_E M := by rw [eM]; split <;> rfl
  have eT : hp_T M5 = hp_T M := by rw [eM]; split <;> rfl
  have eN : hp_N M5 = hp_N M := by rw [eM]; split <;> rfl
  have eI : hp_I M5 = hp_I M := by rw [eM]; split <;> rfl
  have m5 : mL M5 A := by rw [eM]; split <;> exact hm
  have hg5 : hp_E M5 (A 1) = g := by rw [eE]; exact hg
  refine ⟨_, e, by rw [eT]; exact tsb, by rw [ix1, eN, nsb]; exact vp_in_i3 (by omega) (by omega), m5.1, ?_⟩
  rw [eE]
  refine ct_i (c_carByEnergy (d := d + 7) m5 hg5 ok) ⟨m5.1, ?_⟩
  refine ct_i (c_thrown (d := d + 11) (M := hp_sI M5 153 (A 0) _) m5) ?_
  rw [hp_I_sI]
  refine cmp_end (Nat.lt_of_le_of_lt (md_ff_le _ _ _) (by omega)) (by rw [hp_T_sI, eT]; exact to1) (by rw [hp_N_sI, eN, no1]; exact vp_in_i3 (k := 0) (by omega) (by omega)) (fun k0 => ?_) (hN _ T K _ _ (JJ_153 hJ5) (by omega) (by omega) (by omega) (by omega))
  rw [eM, if_pos k0]
  exact hp_L_at _ _ _
theorem B_2399 {X : am_Cx} {G : am_Gx} {d : Nat} {a h E : Nat} {L : Nat → Nat → Nat} {sc st ks rs so : Nat} {A : Nat → Nat} {sb N0 o1 o2 p q : Nat} {T K j bc bs : Nat} {M : am_Hp} (hX : am_ok X rL_law G (d + 13)) (hM : ∀ {pc : Nat} {lv : List (Nat × Value)} {M : am_Hp} {bc bs : Nat}, decode rL_law.2.1 pc = .ok (.ireturn, 1) → am_J X pc lv [.int (1 : Int32)] M bc bs) (hz : cz G) (hp : sioo G) (hJ : JJ G a h E L sc st ks rs so A sb N0 o1 o2 p q T K M) (hT : T < 13000000) (hK : K < 100000000) (hi : 4 * j + 3 < N0) (hN0 : N0 ≤ 2048) (hbc : 20 ≤ bc) (hbs : 2000 ≤ bs) (hN : ∀ M' T' K' bc' bs', JJ G a h E L sc st ks rs so A sb N0 o1 o2 p q T' K' M' → T' ≤ T + 23790 → K' ≤ K + 13 → bc ≤ bc' + 20 → bs ≤ bs' + 2000 → am_J X 3219 [(0, .ref sb), (1, .ref a), (2, .ref (A 0)), (3, .ref o1), (4, .ref o2), (5, .int (i3 (4 * j)))] [] M' bc' bs') : am_J X 2399 [(0, .ref sb), (1, .ref a), (2, .ref (A 0)), (3, .ref o1), (4, .ref o2), (5, .int (i3 (4 * j)))] [] M bc bs := by
  obtain ⟨g, gn, hw, hm, hg, tsb, nsb, to1, no1, to2, no2, f127, f128⟩ := JJ_q hJ
  have ok := md_wf_ok hw
  have ix1 : i3 (4 * j) + (1 : Int32) = i3 (4 * j + 1) := i3_add _ 1
  obtain ⟨t3, t3T, g3⟩ := hw.2.2.2.2.1
  refine vL_law_2399 hX hM (fun x0 x1 x2 x3 x4 x5 M bc bs => am_J X 3219 [(0, .ref x0), (1, .ref x1), (2, .ref x2), (3, .ref x3), (4, .ref x4), (5, .int x5)] [] M bc bs) (fun _ _ _ _ _ _ _ _ _ h => h) ⟨tsb, by rw [ix1, nsb]; exact vp_in_i3 (by omega) (by omega), by omega, by omega, ?_⟩
  refine am_CT.mono ?_ (w_tripNumber (d := d + 8) gn hw (by omega) to1 no1)
  rintro z M5 ⟨e, eM⟩
  have hJ5 : JJ G a h E L sc st ks rs so A sb N0 o1 o2 p q T K M5 := by rw [eM]; split <;> exact hJ
  have eE : hp_E M5 = hp_E M := by rw [eM]; split <;> rfl
  have eT : hp_T M5 = hp_T M := by rw [eM]; split <;> rfl
  have eN : hp_N M5 = hp_N M := by rw [eM]; split <;> rfl
  have eI : hp_I M5 = hp_I M := by rw [eM]; split <;> rfl
  have m5 : mL M5 A := by rw [eM]; split <;> exact hm
  have hg5 : hp_E M5 (A 1) = g := by rw [eE]; exact hg
  refine ⟨_, e, by rw [eT]; exact tsb, by rw [ix1, eN, nsb]; exact vp_in_i3 (by omega) (by omega), m5.1, ?_⟩
  rw [eE]
  refine ct_i (c_tripNumber (d := d + 9) m5 hg5 g3 (by omega)) ⟨m5.1, ?_⟩
  refine ct_i (c_thrown (d := d + 11) (M := hp_sI M5 153 (A 0) _) m5) ?_
  rw [hp_I_sI]
  refine cmp_end (by unfold sq_trip; (repeat' split) <;> (dsimp only; omega)) (by rw [hp_T_sI, eT]; exact to1) (by rw [hp_N_sI, eN, no1]; exact vp_in_i3 (k := 0) (by omega) (by omega)) (fun k0 => ?_) (hN _ T K _ _ (JJ_153 hJ5) (by omega) (by omega) (by omega) (by omega))
  rw [eM, if_pos k0]
  exact hp_L_at _ _ _
theorem B_2455 {X : am_Cx} {G : am_Gx} {d : Nat} {a h E : Nat} {L : Nat → Nat → Nat} {sc st ks rs so : Nat} {A : Nat → Nat} {sb N0 o1 o2 p q : Nat} {T K j bc bs : Nat} {M : am_Hp} (hX : am_ok X rL_law G (d + 13)) (hM : ∀ {pc : Nat} {lv : List (Nat × Value)} {M : am_Hp} {bc bs : Nat}, decode rL_law.2.1 pc = .ok (.ireturn, 1) → am_J X pc lv [.int (1 : Int32)] M bc bs) (hz : cz G) (hp : sioo G) (hJ : JJ G a h E L sc st ks rs so A sb N0 o1 o2 p q T K M) (hT : T < 13000000) (hK : K < 100000000) (hi : 4 * j + 3 < N0) (hN0 : N0 ≤ 2048) (hbc : 20 ≤ bc) (hbs : 2000 ≤ bs) (hN : ∀ M' T' K' bc' bs', JJ G a h E L sc st ks rs so A sb N0 o1 o2 p q T' K' M' → T' ≤ T + 23790 → K' ≤ K + 13 → bc ≤ bc' + 20 → bs ≤ bs' + 2000 → am_J X 3219 [(0, .ref sb), (1, .ref a), (2, .ref (A 0)), (3, .ref o1), (4, .ref o2), (5, .int (i3 (4 * j)))] [] M' bc' bs') : am_J X 2455 [(0, .ref sb), (1, .ref a), (2, .ref (A 0)), (3, .ref o1), (4, .ref o2), (5, .int (i3 (4 * j)))] [] M bc bs := by
  obtain ⟨g, gn, hw, hm, hg, tsb, nsb, to1, no1, to2, no2, f127, f128⟩ := JJ_q hJ
  have ok := md_wf_ok hw
  have ix1 : i3 (4 * j) + (1 : Int32) = i3 (4 * j + 1) := i3_add _ 1
  obtain ⟨t3, t3T, g3⟩ := hw.2.2.2.2.1
  refine vL_law_2455 hX hM (fun x0 x1 x2 x3 x4 x5 M bc bs => am_J X 3219 [(0, .ref x0), (1, .ref x1), (2, .ref x2), (3, .ref x3), (4, .ref x4), (5, .int x5)] [] M bc bs) (fun _ _ _ _ _ _ _ _ _ h => h) ⟨tsb, by rw [ix1, nsb]; exact vp_in_i3 (by omega) (by omega), by omega, by omega, ?_⟩
  refine am_CT.mono ?_ (w_tripCar (d := d + 8) gn hw (by omega) to1 no1)
  rintro z M5 ⟨e, eM⟩
  have hJ5 : JJ G a h E L sc st ks rs so A sb N0 o1 o2 p q T K M5 := by rw [eM]; split <;> exact hJ
  have eE : hp_E M5 = hp_E M := by rw [eM]; split <;> rfl
  have eT : hp_T M5 = hp_T M := by rw [eM]; split <;> rfl
  have eN : hp_N M5 = hp_N M := by rw [eM]; split <;> rfl
  have eI : hp_I M5 = hp_I M := by rw [eM]; split <;> rfl
  have m5 : mL M5 A := by rw [eM]; split <;> exact hm
  have hg5 : hp_E M5 (A 1) = g := by rw [eE]; exact hg
  refine ⟨_, e, by rw [eT]; exact tsb, by rw [ix1, eN, nsb]; exact vp_in_i3 (by omega) (by omega), m5.1, ?_⟩
  rw [eE]
  refine ct_i (c_tripCar (d := d + 9) m5 hg5 g3 (by omega)) ⟨m5.1, ?_⟩
  refine ct_i (c_thrown (d := d + 11) (M := hp_sI M5 153 (A 0) _) m5) ?_
  rw [hp_I_sI]
  refine cmp_end (by unfold sq_trip; (repeat' split) <;> (dsimp only; omega)) (by rw [hp_T_sI, eT]; exact to1) (by rw [hp_N_sI, eN, no1]; exact vp_in_i3 (k := 0) (by omega) (by omega)) (fun k0 => ?_) (hN _ T K _ _ (JJ_153 hJ5) (by omega) (by omega) (by omega) (by omega))
  rw [eM, if_pos k0]
  exact hp_L_at _ _ _
theorem B_2511 {X : am_Cx} {G : am_Gx} {d : Nat} {a h E : Nat} {L : Nat → Nat → Nat} {sc st ks rs so : Nat} {A : Nat → Nat} {sb N0 o1 o2 p q : Nat} {T K j bc bs : Nat} {M : am_Hp} (hX : am_ok X rL_law G (d + 13)) (hM : ∀ {pc : Nat} {lv : List (Nat × Value)} {M : am_Hp} {bc bs : Nat}, decode rL_law.2.1 pc = .ok (.ireturn, 1) → am_J X pc lv [.int (1 : Int32)] M bc bs) (hz : cz G) (hp : sioo G) (hJ : JJ G a h E L sc st ks rs so A sb N0 o1 o2 p q T K M) (hT : T < 13000000) (hK : K < 100000000) (hi : 4 * j + 3 < N0) (hN0 : N0 ≤ 2048) (hbc : 20 ≤ bc) (hbs : 2000 ≤ bs) (hN : ∀ M' T' K' bc' bs', JJ G a h E L sc st ks rs so A sb N0 o1 o2 p q T' K' M' → T' ≤ T + 23790 → K' ≤ K + 13 → bc ≤ bc' + 20 → bs ≤ bs' + 2000 → am_J X 3219 [(0, .ref sb), (1, .ref a), (2, .ref (A 0)), (3, .ref o1), (4, .ref o2), (5, .int (i3 (4 * j)))] [] M' bc' bs') : am_J X 2511 [(0, .ref sb), (1, .ref a), (2, .ref (A 0)), (3, .ref o1), (4, .ref o2), (5, .int (i3 (4 * j)))] [] M bc bs := by
  obtain ⟨g, gn, hw, hm, hg, tsb, nsb, to1, no1, to2, no2, f127, f128⟩ := JJ_q hJ
  have ok := md_wf_ok hw
  have ix1 : i3 (4 * j) + (1 : Int32) = i3 (4 * j + 1) := i3_add _ 1
  obtain ⟨t3, t3T, g3⟩ := hw.2.2.2.2.1
  refine vL_law_2511 hX hM (fun x0 x1 x2 x3 x4 x5 M bc bs => am_J X 3219 [(0, .ref x0), (1, .ref x1), (2, .ref x2), (3, .ref x3), (4, .ref x4), (5, .int x5)] [] M bc bs) (fun _ _ _ _ _ _ _ _ _ h => h) ⟨tsb, by rw [ix1, nsb]; exact vp_in_i3 (by omega) (by omega), by omega, by omega, ?_⟩
  refine am_CT.mono ?_ (w_tripWaiting (d := d + 8) gn hw (by omega) to1 no1)
  rintro z M5 ⟨e, eM⟩
  have hJ5 : JJ G a h E L sc st ks rs so A sb N0 o1 o2 p q T K M5 := by rw [eM]; split <;> exact hJ
  have eE : hp_E M5 = hp_E M := by rw [eM]; split <;> rfl
  have eT : hp_T M5 = hp_T M := by rw [eM]; split <;> rfl
  have eN : hp_N M5 = hp_N M := by rw [eM]; split <;> rfl
  have eI : hp_I M5 = hp_I M := by rw [eM]; split <;> rfl
  have m5 : mL M5 A := by rw [eM]; split <;> exact hm
  have hg5 : hp_E M5 (A 1) = g := by rw [eE]; exact hg
  refine ⟨_, e, by rw [eT]; exact tsb, by rw [ix1, eN, nsb]; exact vp_in_i3 (by omega) (by omega), m5.1, ?_⟩
  rw [eE]
  refine ct_i (c_tripWaiting (d := d + 9) m5 hg5 g3 (by omega)) ⟨m5.1, ?_⟩
  refine ct_i (c_thrown (d := d + 11) (M := hp_sI M5 153 (A 0) _) m5) ?_
  rw [hp_I_sI]
  refine cmp_end (by unfold sq_trip; (repeat' split) <;> (dsimp only; omega)) (by rw [hp_T_sI, eT]; exact to1) (by rw [hp_N_sI, eN, no1]; exact vp_in_i3 (k := 0) (by omega) (by omega)) (fun k0 => ?_) (hN _ T K _ _ (JJ_153 hJ5) (by omega) (by omega) (by omega) (by omega))
  rw [eM, if_pos k0]
  exact hp_L_at _ _ _
theorem B_3030 {X : am_Cx} {G : am_Gx} {d : Nat} {a h E : Nat} {L : Nat → Nat → Nat} {sc st ks rs so : Nat} {A : Nat → Nat} {sb N0 o1 o2 p q : Nat} {T K j bc bs : Nat} {M : am_Hp} (hX : am_ok X rL_law G (d + 13)) (hM : ∀ {pc : Nat} {lv : List (Nat × Value)} {M : am_Hp} {bc bs : Nat}, decode rL_law.2.1 pc = .ok (.ireturn, 1) → am_J X pc lv [.int (1 : Int32)] M bc bs) (hz : cz G) (hp : sioo G) (hJ : JJ G a h E L sc st ks rs so A sb N0 o1 o2 p q T K M) (hT : T < 13000000) (hK : K < 100000000) (hi : 4 * j + 3 < N0) (hN0 : N0 ≤ 2048) (hbc : 20 ≤ bc) (hbs : 2000 ≤ bs) (hN : ∀ M' T' K' bc' bs', JJ G a h E L sc st ks rs so A sb N0 o1 o2 p q T' K' M' → T' ≤ T + 23790 → K' ≤ K + 13 → bc ≤ bc' + 20 → bs ≤ bs' + 2000 → am_J X 3219 [(0, .ref sb), (1, .ref a), (2, .ref (A 0)), (3, .ref o1), (4, .ref o2), (5, .int (i3 (4 * j)))] [] M' bc' bs') : am_J X 3030 [(0, .ref sb), (1, .ref a), (2, .ref (A 0)), (3, .ref o1), (4, .ref o2), (5, .int (i3 (4 * j)))] [] M bc bs := by
  obtain ⟨g, gn, hw, hm, hg, tsb, nsb, to1, no1, to2, no2, f127, f128⟩ := JJ_q hJ
  have ok := md_wf_ok hw
  refine vL_law_3030 hX hM (fun x0 x1 x2 x3 x4 x5 M bc bs => am_J X 3219 [(0, .ref x0), (1, .ref x1), (2, .ref x2), (3, .ref x3), (4, .ref x4), (5, .int x5)] [] M bc bs) (fun _ _ _ _ _ _ _ _ _ h => h) ⟨by omega, by omega, ?_⟩
  refine am_CT.mono ?_ (w_errorPosition (d := d + 10) gn.1 to1 no1)
  rintro z M5 ⟨e, eM⟩
  have hJ5 : JJ G a h E L sc st ks rs so A sb N0 o1 o2 p q T K M5 := by rw [eM]; split <;> exact hJ
  have eE : hp_E M5 = hp_E M := by rw [eM]; split <;> rfl
  have eT : hp_T M5 = hp_T M := by rw [eM]; split <;> rfl
  have eN : hp_N M5 = hp_N M := by rw [eM]; split <;> rfl
  have eI : hp_I M5 = hp_I M := by rw [eM]; split <;> rfl
  have m5 : mL M5 A := by rw [eM]; split <;> exact hm
  have hg5 : hp_E M5 (A 1) = g := by rw [eE]; exact hg
  refine ⟨_, e, m5.1, ?_⟩
  refine ct_i (c_errorPosition (d := d + 10) m5) ⟨m5.1, ?_⟩
  rw [eI, ← f127]
  refine ct_i (c_thrown (d := d + 11) (M := hp_sI M5 153 (A 0) _) m5) ?_
  rw [hp_I_sI]
  refine cmp_end (by unfold sq_flag; (repeat' split) <;> (dsimp only; omega)) (by rw [hp_T_sI, eT]; exact to1) (by rw [hp_N_sI, eN, no1]; exact vp_in_i3 (k := 0) (by omega) (by omega)) (fun k0 => ?_) (hN _ T K _ _ (JJ_153 hJ5) (by omega) (by omega) (by omega) (by omega))
  rw [eM, if_pos k0]
  exact hp_L_at _ _ _
theorem B_3074 {X : am_Cx} {G : am_Gx} {d : Nat} {a h E : Nat} {L : Nat → Nat → Nat} {sc st ks rs so : Nat} {A : Nat → Nat} {sb N0 o1 o2 p q : Nat} {T K j bc bs : Nat} {M : am_Hp} (hX : am_ok X rL_law G (d + 13)) (hM : ∀ {pc : Nat} {lv : List (Nat × Value)} {M : am_Hp} {bc bs : Nat}, decode rL_law.2.1 pc = .ok (.ireturn, 1) → am_J X pc lv [.int (1 : Int32)] M bc bs) (hz : cz G) (hp : sioo G) (hJ : JJ G a h E L sc st ks rs so A sb N0 o1 o2 p q T K M) (hT : T < 13000000) (hK : K < 100000000) (hi : 4 * j + 3 < N0) (hN0 : N0 ≤ 2048) (hbc : 20 ≤ bc) (hbs : 2000 ≤ bs) (hN : ∀ M' T' K' bc' bs', JJ G a h E L sc st ks rs so A sb N0 o1 o2 p q T' K' M' → T' ≤ T + 23790 → K' ≤ K + 13 → bc ≤ bc' + 20 → bs ≤ bs' + 2000 → am_J X 3219 [(0, .ref sb), (1, .ref a), (2, .ref (A 0)), (3, .ref o1), (4, .ref o2), (5, .int (i3 (4 * j)))] [] M' bc' bs') : am_J X 3074 [(0, .ref sb), (1, .ref a), (2, .ref (A 0)), (3, .ref o1), (4, .ref o2), (5, .int (i3 (4 * j)))] [] M bc bs := by
  obtain ⟨g, gn, hw, hm, hg, tsb, nsb, to1, no1, to2, no2, f127, f128⟩ := JJ_q hJ
  have ok := md_wf_ok hw
  refine vL_law_3074 hX hM (fun x0 x1 x2 x3 x4 x5 M bc bs => am_J X 3219 [(0, .ref x0), (1, .ref x1), (2, .ref x2), (3, .ref x3), (4, .ref x4), (5, .int x5)] [] M bc bs) (fun _ _ _ _ _ _ _ _ _ h => h) ⟨by omega, by omega, ?_⟩
  refine am_CT.mono ?_ (w_failedCommand (d := d + 10) gn.1 to1 no1)
  rintro z M5 ⟨e, eM⟩
  have hJ5 : JJ G a h E L sc st ks rs so A sb N0 o1 o2 p q T K M5 := by rw [eM]; split <;> exact hJ
  have eE : hp_E M5 = hp_E M := by rw [eM]; split <;> rfl
  have eT : hp_T M5 = hp_T M := by rw [eM]; split <;> rfl
  have eN : hp_N M5 = hp_N M := by rw [eM]; split <;> rfl
  have eI : hp_I M5 = hp_I M := by rw [eM]; split <;> rfl
  have m5 : mL M5 A := by rw [eM]; split <;> exact hm
  have hg5 : hp_E M5 (A 1) = g := by rw [eE]; exact hg
  refine ⟨_, e, m5.1, ?_⟩
  refine ct_i (c_failedCommand (d := d + 10) m5) ⟨m5.1, ?_⟩
  rw [eI, ← f128]
  refine ct_i (c_thrown (d := d + 11) (M := hp_sI M5 153 (A 0) _) m5) ?_
  rw [hp_I_sI]
  refine cmp_end (by unfold sq_flag; (repeat' split) <;> (dsimp only; omega)) (by rw [hp_T_sI, eT]; exact to1) (by rw [hp_N_sI, eN, no1]; exact vp_in_i3 (k := 0) (by omega) (by omega)) (fun k0 => ?_) (hN _ T K _ _ (JJ_153 hJ5) (by omega) (by omega) (by omega) (by omega))
  rw [eM, if_pos k0]
  exact hp_L_at _ _ _
theorem B_1141 {X : am_Cx} {G : am_Gx} {d : Nat} {a h E : Nat} {L : Nat → Nat → Nat} {sc st ks rs so : Nat} {A : Nat → Nat} {sb N0 o1 o2 p q : Nat} {T K j bc bs : Nat} {M : am_Hp} (hX : am_ok X rL_law G (d + 13)) (hM : ∀ {pc : Nat} {lv : List (Nat × Value)} {M : am_Hp} {bc bs : Nat}, decode rL_law.2.1 pc = .ok (.ireturn, 1) → am_J X pc lv [.int (1 : Int32)] M bc bs) (hz : cz G) (hp : sioo G) (hJ : JJ G a h E L sc st ks rs so A sb N0 o1 o2 p q T K M) (hT : T < 13000000) (hK : K < 100000000) (hi : 4 * j + 3 < N0) (hN0 : N0 ≤ 2048) (hbc : 20 ≤ bc) (hbs : 2000 ≤ bs) (hN : ∀ M' T' K' bc' bs', JJ G a h E L sc st ks rs so A sb N0 o1 o2 p q T' K' M' → T' ≤ T + 23790 → K' ≤ K + 13 → bc ≤ bc' + 20 → bs ≤ bs' + 2000 → am_J X 3219 [(0, .ref sb), (1, .ref a), (2, .ref (A 0)), (3, .ref o1), (4, .ref o2), (5, .int (i3 (4 * j)))] [] M' bc' bs') : am_J X 1141 [(0, .ref sb), (1, .ref a), (2, .ref (A 0)), (3, .ref o1), (4, .ref o2), (5, .int (i3 (4 * j)))] [] M bc bs := by
  obtain ⟨g, gn, hw, hm, hg, tsb, nsb, to1, no1, to2, no2, f127, f128⟩ := JJ_q hJ
  have ok := md_wf_ok hw
  have ix1 : i3 (4 * j) + (1 : Int32) = i3 (4 * j + 1) := i3_add _ 1
  refine vL_law_1141 hX hM (fun x0 x1 x2 x3 x4 x5 M bc bs => am_J X 3219 [(0, .ref x0), (1, .ref x1), (2, .ref x2), (3, .ref x3), (4, .ref x4), (5, .int x5)] [] M bc bs) (fun _ _ _ _ _ _ _ _ _ h => h) ⟨tsb, by rw [ix1, nsb]; exact vp_in_i3 (by omega) (by omega), by omega, by omega, ?_⟩
  refine am_CT.mono ?_ (w_isInService (d := d + 8) gn ok to1 no1)
  rintro z M5 ⟨e, eM⟩
  have hJ5 : JJ G a h E L sc st ks rs so A sb N0 o1 o2 p q T K M5 := by rw [eM]; split <;> exact hJ
  have eE : hp_E M5 = hp_E M := by rw [eM]; split <;> rfl
  have eT : hp_T M5 = hp_T M := by rw [eM]; split <;> rfl
  have eN : hp_N M5 = hp_N M := by rw [eM]; split <;> rfl
  have eI : hp_I M5 = hp_I M := by rw [eM]; split <;> rfl
  have m5 : mL M5 A := by rw [eM]; split <;> exact hm
  have hg5 : hp_E M5 (A 1) = g := by rw [eE]; exact hg
  refine ⟨_, e, by rw [eT]; exact tsb, by rw [ix1, eN, nsb]; exact vp_in_i3 (by omega) (by omega), m5.1, ?_⟩
  rw [eE]
  refine ct_i (c_isInService (d := d + 7) m5 hg5) ⟨m5.1, ?_⟩
  refine ct_i (c_thrown (d := d + 11) (M := hp_sI M5 153 (A 0) _) m5) ?_
  rw [hp_I_sI]
  refine cmp_endb (by unfold sq_serv; (repeat' split) <;> (dsimp only; omega)) (by rw [hp_T_sI, eT]; exact to1) (by rw [hp_N_sI, eN, no1]; exact vp_in_i3 (k := 0) (by omega) (by omega)) (fun k0 => ?_) (by unfold sq_serv; (repeat' split) <;> first | exact .inl rfl | exact bI01 _) (hN _ T K _ _ (JJ_153 hJ5) (by omega) (by omega) (by omega) (by omega))
  rw [eM, if_pos k0]
  exact hp_L_at _ _ _
theorem B_1260 {X : am_Cx} {G : am_Gx} {d : Nat} {a h E : Nat} {L : Nat → Nat → Nat} {sc st ks rs so : Nat} {A : Nat → Nat} {sb N0 o1 o2 p q : Nat} {T K j bc bs : Nat} {M : am_Hp} (hX : am_ok X rL_law G (d + 13)) (hM : ∀ {pc : Nat} {lv : List (Nat × Value)} {M : am_Hp} {bc bs : Nat}, decode rL_law.2.1 pc = .ok (.ireturn, 1) → am_J X pc lv [.int (1 : Int32)] M bc bs) (hz : cz G) (hp : sioo G) (hJ : JJ G a h E L sc st ks rs so A sb N0 o1 o2 p q T K M) (hT : T < 13000000) (hK : K < 100000000) (hi : 4 * j + 3 < N0) (hN0 : N0 ≤ 2048) (hbc : 20 ≤ bc) (hbs : 2000 ≤ bs) (hN : ∀ M' T' K' bc' bs', JJ G a h E L sc st ks rs so A sb N0 o1 o2 p q T' K' M' → T' ≤ T + 23790 → K' ≤ K + 13 → bc ≤ bc' + 20 → bs ≤ bs' + 2000 → am_J X 3219 [(0, .ref sb), (1, .ref a), (2, .ref (A 0)), (3, .ref o1), (4, .ref o2), (5, .int (i3 (4 * j)))] [] M' bc' bs') : am_J X 1260 [(0, .ref sb), (1, .ref a), (2, .ref (A 0)), (3, .ref o1), (4, .ref o2), (5, .int (i3 (4 * j)))] [] M bc bs := by
  obtain ⟨g, gn, hw, hm, hg, tsb, nsb, to1, no1, to2, no2, f127, f128⟩ := JJ_q hJ
  have ok := md_wf_ok hw
  have ix1 : i3 (4 * j) + (1 : Int32) = i3 (4 * j + 1) := i3_add _ 1
  have ix2 : i3 (4 * j) + (2 : Int32) = i3 (4 * j + 2) := i3_add _ 2
  refine vL_law_1260 hX hM (fun x0 x1 x2 x3 x4 x5 M bc bs => am_J X 3219 [(0, .ref x0), (1, .ref x1), (2, .ref x2), (3, .ref x3), (4, .ref x4), (5, .int x5)] [] M bc bs) (fun _ _ _ _ _ _ _ _ _ h => h) ⟨tsb, by rw [ix1, nsb]; exact vp_in_i3 (by omega) (by omega), by rw [ix2, nsb]; exact vp_in_i3 (by omega) (by omega), by omega, by omega, ?_⟩
  refine am_CT.mono ?_ (w_isStop (d := d + 8) gn hw to1 no1)
  rintro z M5 ⟨e, eM⟩
  have hJ5 : JJ G a h E L sc st ks rs so A sb N0 o1 o2 p q T K M5 := by rw [eM]; split <;> exact hJ
  have eE : hp_E M5 = hp_E M := by rw [eM]; split <;> rfl
  have eT : hp_T M5 = hp_T M := by rw [eM]; split <;> rfl
  have eN : hp_N M5 = hp_N M := by rw [eM]; split <;> rfl
  have eI : hp_I M5 = hp_I M := by rw [eM]; split <;> rfl
  have m5 : mL M5 A := by rw [eM]; split <;> exact hm
  have hg5 : hp_E M5 (A 1) = g := by rw [eE]; exact hg
  refine ⟨_, e, by rw [eT]; exact tsb, by rw [ix1, eN, nsb]; exact vp_in_i3 (by omega) (by omega), by rw [ix2, eN, nsb]; exact vp_in_i3 (by omega) (by omega), m5.1, ?_⟩
  rw [eE]
  refine ct_i (c_isStop (d := d + 7) m5 hg5 ok) ⟨m5.1, ?_⟩
  refine ct_i (c_thrown (d := d + 11) (M := hp_sI M5 153 (A 0) _) m5) ?_
  rw [hp_I_sI]
  refine cmp_endb (by unfold sq_stop; (repeat' split) <;> (dsimp only; omega)) (by rw [hp_T_sI, eT]; exact to1) (by rw [hp_N_sI, eN, no1]; exact vp_in_i3 (k := 0) (by omega) (by omega)) (fun k0 => ?_) (by unfold sq_stop; (repeat' split) <;> first | exact .inl rfl | exact bI01 _) (hN _ T K _ _ (JJ_153 hJ5) (by omega) (by omega) (by omega) (by omega))
  rw [eM, if_pos k0]
  exact hp_L_at _ _ _
theorem B_1740 {X : am_Cx} {G : am_Gx} {d : Nat} {a h E : Nat} {L : Nat → Nat → Nat} {sc st ks rs so : Nat} {A : Nat → Nat} {sb N0 o1 o2 p q : Nat} {T K j bc bs : Nat} {M : am_Hp} (hX : am_ok X rL_law G (d + 13)) (hM : ∀ {pc : Nat} {lv : List (Nat × Value)} {M : am_Hp} {bc bs : Nat}, decode rL_law.2.1 pc = .ok (.ireturn, 1) → am_J X pc lv [.int (1 : Int32)] M bc bs) (hz : cz G) (hp : sioo G) (hJ : JJ G a h E L sc st ks rs so A sb N0 o1 o2 p q T K M) (hT : T < 13000000) (hK : K < 100000000) (hi : 4 * j + 3 < N0) (hN0 : N0 ≤ 2048) (hbc : 20 ≤ bc) (hbs : 2000 ≤ bs) (hN : ∀ M' T' K' bc' bs', JJ G a h E L sc st ks rs so A sb N0 o1 o2 p q T' K' M' → T' ≤ T + 23790 → K' ≤ K + 13 → bc ≤ bc' + 20 → bs ≤ bs' + 2000 → am_J X 3219 [(0, .ref sb), (1, .ref a), (2, .ref (A 0)), (3, .ref o1), (4, .ref o2), (5, .int (i3 (4 * j)))] [] M' bc' bs') : am_J X 1740 [(0, .ref sb), (1, .ref a), (2, .ref (A 0)), (3, .ref o1), (4, .ref o2), (5, .int (i3 (4 * j)))] [] M bc bs := by
  obtain ⟨g, gn, hw, hm, hg, tsb, nsb, to1, no1, to2, no2, f127, f128⟩ := JJ_q hJ
  have ok := md_wf_ok hw
  have ix1 : i3 (4 * j) + (1 : Int32) = i3 (4 * j + 1) := i3_add _ 1
  refine vL_law_1740 hX hM (fun x0 x1 x2 x3 x4 x5 M bc bs => am_J X 3219 [(0, .ref x0), (1, .ref x1), (2, .ref x2), (3, .ref x3), (4, .ref x4), (5, .int x5)] [] M bc bs) (fun _ _ _ _ _ _ _ _ _ h => h) ⟨tsb, by rw [ix1, nsb]; exact vp_in_i3 (by omega) (by omega), by omega, by omega, ?_⟩
  refine am_CT.mono ?_ (w_isInCar (d := d + 8) gn hw to1 no1)
  rintro z M5 ⟨e, eM⟩
  have hJ5 : JJ G a h E L sc st ks rs so A sb N0 o1 o2 p q T K M5 := by rw [eM]; split <;> exact hJ
  have eE : hp_E M5 = hp_E M := by rw [eM]; split <;> rfl
  have eT : hp_T M5 = hp_T M := by rw [eM]; split <;> rfl
  have eN : hp_N M5 = hp_N M := by rw [eM]; split <;> rfl
  have eI : hp_I M5 = hp_I M := by rw [eM]; split <;> rfl
  have m5 : mL M5 A := by rw [eM]; split <;> exact hm
  have hg5 : hp_E M5 (A 1) = g := by rw [eE]; exact hg
  refine ⟨_, e, by rw [eT]; exact tsb, by rw [ix1, eN, nsb]; exact vp_in_i3 (by omega) (by omega), m5.1, ?_⟩
  rw [eE]
  refine ct_i (c_isInCar (d := d + 8) m5 hg5 ok) ⟨m5.1, ?_⟩
  refine ct_i (c_thrown (d := d + 11) (M := hp_sI M5 153 (A 0) _) m5) ?_
  rw [hp_I_sI]
  refine cmp_endb (by unfold sq_inside; (repeat' split) <;> (dsimp only; omega)) (by rw [hp_T_sI, eT]; exact to1) (by rw [hp_N_sI, eN, no1]; exact vp_in_i3 (k := 0) (by omega) (by omega)) (fun k0 => ?_) (by unfold sq_inside; (repeat' split) <;> first | exact .inl rfl | exact bI01 _) (hN _ T K _ _ (JJ_153 hJ5) (by omega) (by omega) (by omega) (by omega))
  rw [eM, if_pos k0]
  exact hp_L_at _ _ _
