/-! .. the law's blocks: the answers without an exception (made by gen/mk/mk8t.py) -/
theorem B_736 {X : am_Cx} {G : am_Gx} {d : Nat} {a h E : Nat} {L : Nat → Nat → Nat} {sc st ks rs so : Nat} {A : Nat → Nat} {sb N0 o1 o2 p q : Nat} {T K j bc bs : Nat} {M : am_Hp} (hX : am_ok X rL_law G (d + 13)) (hM : ∀ {pc : Nat} {lv : List (Nat × Value)} {M : am_Hp} {bc bs : Nat}, decode rL_law.2.1 pc = .ok (.ireturn, 1) → am_J X pc lv [.int (1 : Int32)] M bc bs) (hz : cz G) (hp : sioo G) (hJ : JJ G a h E L sc st ks rs so A sb N0 o1 o2 p q T K M) (hT : T < 13000000) (hK : K < 100000000) (hi : 4 * j + 3 < N0) (hN0 : N0 ≤ 2048) (hbc : 20 ≤ bc) (hbs : 2000 ≤ bs) (hN : ∀ M' T' K' bc' bs', JJ G a h E L sc st ks rs so A sb N0 o1 o2 p q T' K' M' → T' ≤ T + 23790 → K' ≤ K + 13 → bc ≤ bc' + 20 → bs ≤ bs' + 2000 → am_J X 3219 [(0, .ref sb), (1, .ref a), (2, .ref (A 0)), (3, .ref o1), (4, .ref o2), (5, .int (i3 (4 * j)))] [] M' bc' bs') : am_J X 736 [(0, .ref sb), (1, .ref a), (2, .ref (A 0)), (3, .ref o1), (4, .ref o2), (5, .int (i3 (4 * j)))] [] M bc bs := by
  obtain ⟨g, gn, hw, hm, hg, tsb, nsb, to1, no1, to2, no2, f127, f128⟩ := JJ_q hJ
  have ok := md_wf_ok hw
  exact vL_law_736 hX hM (fun x0 x1 x2 x3 x4 x5 M bc bs => am_J X 3219 [(0, .ref x0), (1, .ref x1), (2, .ref x2), (3, .ref x3), (4, .ref x4), (5, .int x5)] [] M bc bs) (fun _ _ _ _ _ _ _ _ _ h => h) ⟨gn.1, ct_i (g_time (d := d + 11) gn ok) ⟨hm.1, ct_i (c_time (d := d + 10) hm hg) ⟨fun _ => (hN _ T K _ _ (JJ_153 hJ) (by omega) (by omega) (by omega) (by omega)), fun z => absurd rfl z⟩⟩⟩
theorem B_1447 {X : am_Cx} {G : am_Gx} {d : Nat} {a h E : Nat} {L : Nat → Nat → Nat} {sc st ks rs so : Nat} {A : Nat → Nat} {sb N0 o1 o2 p q : Nat} {T K j bc bs : Nat} {M : am_Hp} (hX : am_ok X rL_law G (d + 13)) (hM : ∀ {pc : Nat} {lv : List (Nat × Value)} {M : am_Hp} {bc bs : Nat}, decode rL_law.2.1 pc = .ok (.ireturn, 1) → am_J X pc lv [.int (1 : Int32)] M bc bs) (hz : cz G) (hp : sioo G) (hJ : JJ G a h E L sc st ks rs so A sb N0 o1 o2 p q T K M) (hT : T < 13000000) (hK : K < 100000000) (hi : 4 * j + 3 < N0) (hN0 : N0 ≤ 2048) (hbc : 20 ≤ bc) (hbs : 2000 ≤ bs) (hN : ∀ M' T' K' bc' bs', JJ G a h E L sc st ks rs so A sb N0 o1 o2 p q T' K' M' → T' ≤ T + 23790 → K' ≤ K + 13 → bc ≤ bc' + 20 → bs ≤ bs' + 2000 → am_J X 3219 [(0, .ref sb), (1, .ref a), (2, .ref (A 0)), (3, .ref o1), (4, .ref o2), (5, .int (i3 (4 * j)))] [] M' bc' bs') : am_J X 1447 [(0, .ref sb), (1, .ref a), (2, .ref (A 0)), (3, .ref o1), (4, .ref o2), (5, .int (i3 (4 * j)))] [] M bc bs := by
  obtain ⟨g, gn, hw, hm, hg, tsb, nsb, to1, no1, to2, no2, f127, f128⟩ := JJ_q hJ
  have ok := md_wf_ok hw
  exact vL_law_1447 hX hM (fun x0 x1 x2 x3 x4 x5 M bc bs => am_J X 3219 [(0, .ref x0), (1, .ref x1), (2, .ref x2), (3, .ref x3), (4, .ref x4), (5, .int x5)] [] M bc bs) (fun _ _ _ _ _ _ _ _ _ h => h) ⟨gn.1, ct_i (g_passengerCount (d := d + 11) gn ok) ⟨hm.1, ct_i (c_passengerCount (d := d + 10) hm hg) ⟨fun _ => (hN _ T K _ _ (JJ_153 hJ) (by omega) (by omega) (by omega) (by omega)), fun z => absurd ok.1.symm z⟩⟩⟩
theorem B_2567 {X : am_Cx} {G : am_Gx} {d : Nat} {a h E : Nat} {L : Nat → Nat → Nat} {sc st ks rs so : Nat} {A : Nat → Nat} {sb N0 o1 o2 p q : Nat} {T K j bc bs : Nat} {M : am_Hp} (hX : am_ok X rL_law G (d + 13)) (hM : ∀ {pc : Nat} {lv : List (Nat × Value)} {M : am_Hp} {bc bs : Nat}, decode rL_law.2.1 pc = .ok (.ireturn, 1) → am_J X pc lv [.int (1 : Int32)] M bc bs) (hz : cz G) (hp : sioo G) (hJ : JJ G a h E L sc st ks rs so A sb N0 o1 o2 p q T K M) (hT : T < 13000000) (hK : K < 100000000) (hi : 4 * j + 3 < N0) (hN0 : N0 ≤ 2048) (hbc : 20 ≤ bc) (hbs : 2000 ≤ bs) (hN : ∀ M' T' K' bc' bs', JJ G a h E L sc st ks rs so A sb N0 o1 o2 p q T' K' M' → T' ≤ T + 23790 → K' ≤ K + 13 → bc ≤ bc' + 20 → bs ≤ bs' + 2000 → am_J X 3219 [(0, .ref sb), (1, .ref a), (2, .ref (A 0)), (3, .ref o1), (4, .ref o2), (5, .int (i3 (4 * j)))] [] M' bc' bs') : am_J X 2567 [(0, .ref sb), (1, .ref a), (2, .ref (A 0)), (3, .ref o1), (4, .ref o2), (5, .int (i3 (4 * j)))] [] M bc bs := by
  obtain ⟨g, gn, hw, hm, hg, tsb, nsb, to1, no1, to2, no2, f127, f128⟩ := JJ_q hJ
  have ok := md_wf_ok hw
  exact vL_law_2567 hX hM (fun x0 x1 x2 x3 x4 x5 M bc bs => am_J X 3219 [(0, .ref x0), (1, .ref x1), (2, .ref x2), (3, .ref x3), (4, .ref x4), (5, .int x5)] [] M bc bs) (fun _ _ _ _ _ _ _ _ _ h => h) ⟨gn.1, ct_i (g_tripCount (d := d + 11) gn ok) ⟨hm.1, ct_i (c_tripCount (d := d + 10) hm hg) ⟨fun _ => (hN _ T K _ _ (JJ_153 hJ) (by omega) (by omega) (by omega) (by omega)), fun z => absurd rfl z⟩⟩⟩
theorem B_2608 {X : am_Cx} {G : am_Gx} {d : Nat} {a h E : Nat} {L : Nat → Nat → Nat} {sc st ks rs so : Nat} {A : Nat → Nat} {sb N0 o1 o2 p q : Nat} {T K j bc bs : Nat} {M : am_Hp} (hX : am_ok X rL_law G (d + 13)) (hM : ∀ {pc : Nat} {lv : List (Nat × Value)} {M : am_Hp} {bc bs : Nat}, decode rL_law.2.1 pc = .ok (.ireturn, 1) → am_J X pc lv [.int (1 : Int32)] M bc bs) (hz : cz G) (hp : sioo G) (hJ : JJ G a h E L sc st ks rs so A sb N0 o1 o2 p q T K M) (hT : T < 13000000) (hK : K < 100000000) (hi : 4 * j + 3 < N0) (hN0 : N0 ≤ 2048) (hbc : 20 ≤ bc) (hbs : 2000 ≤ bs) (hN : ∀ M' T' K' bc' bs', JJ G a h E L sc st ks rs so A sb N0 o1 o2 p q T' K' M' → T' ≤ T + 23790 → K' ≤ K + 13 → bc ≤ bc' + 20 → bs ≤ bs' + 2000 → am_J X 3219 [(0, .ref sb), (1, .ref a), (2, .ref (A 0)), (3, .ref o1), (4, .ref o2), (5, .int (i3 (4 * j)))] [] M' bc' bs') : am_J X 2608 [(0, .ref sb), (1, .ref a), (2, .ref (A 0)), (3, .ref o1), (4, .ref o2), (5, .int (i3 (4 * j)))] [] M bc bs := by
  obtain ⟨g, gn, hw, hm, hg, tsb, nsb, to1, no1, to2, no2, f127, f128⟩ := JJ_q hJ
  have ok := md_wf_ok hw
  exact vL_law_2608 hX hM (fun x0 x1 x2 x3 x4 x5 M bc bs => am_J X 3219 [(0, .ref x0), (1, .ref x1), (2, .ref x2), (3, .ref x3), (4, .ref x4), (5, .int x5)] [] M bc bs) (fun _ _ _ _ _ _ _ _ _ h => h) ⟨gn.1, ct_i (g_floorsUp (d := d + 11) gn ok) ⟨hm.1, ct_i (c_floorsUp (d := d + 10) hm hg) ⟨fun _ => (hN _ T K _ _ (JJ_153 hJ) (by omega) (by omega) (by omega) (by omega)), fun z => absurd rfl z⟩⟩⟩
theorem B_2621 {X : am_Cx} {G : am_Gx} {d : Nat} {a h E : Nat} {L : Nat → Nat → Nat} {sc st ks rs so : Nat} {A : Nat → Nat} {sb N0 o1 o2 p q : Nat} {T K j bc bs : Nat} {M : am_Hp} (hX : am_ok X rL_law G (d + 13)) (hM : ∀ {pc : Nat} {lv : List (Nat × Value)} {M : am_Hp} {bc bs : Nat}, decode rL_law.2.1 pc = .ok (.ireturn, 1) → am_J X pc lv [.int (1 : Int32)] M bc bs) (hz : cz G) (hp : sioo G) (hJ : JJ G a h E L sc st ks rs so A sb N0 o1 o2 p q T K M) (hT : T < 13000000) (hK : K < 100000000) (hi : 4 * j + 3 < N0) (hN0 : N0 ≤ 2048) (hbc : 20 ≤ bc) (hbs : 2000 ≤ bs) (hN : ∀ M' T' K' bc' bs', JJ G a h E L sc st ks rs so A sb N0 o1 o2 p q T' K' M' → T' ≤ T + 23790 → K' ≤ K + 13 → bc ≤ bc' + 20 → bs ≤ bs' + 2000 → am_J X 3219 [(0, .ref sb), (1, .ref a), (2, .ref (A 0)), (3, .ref o1), (4, .ref o2), (5, .int (i3 (4 * j)))] [] M' bc' bs') : am_J X 2621 [(0, .ref sb), (1, .ref a), (2, .ref (A 0)), (3, .ref o1), (4, .ref o2), (5, .int (i3 (4 * j)))] [] M bc bs := by
  obtain ⟨g, gn, hw, hm, hg, tsb, nsb, to1, no1, to2, no2, f127, f128⟩ := JJ_q hJ
  have ok := md_wf_ok hw
  exact vL_law_2621 hX hM (fun x0 x1 x2 x3 x4 x5 M bc bs => am_J X 3219 [(0, .ref x0), (1, .ref x1), (2, .ref x2), (3, .ref x3), (4, .ref x4), (5, .int x5)] [] M bc bs) (fun _ _ _ _ _ _ _ _ _ h => h) ⟨gn.1, ct_i (g_floorsDown (d := d + 11) gn ok) ⟨hm.1, ct_i (c_floorsDown (d := d + 10) hm hg) ⟨fun _ => (hN _ T K _ _ (JJ_153 hJ) (by omega) (by omega) (by omega) (by omega)), fun z => absurd rfl z⟩⟩⟩
theorem B_2634 {X : am_Cx} {G : am_Gx} {d : Nat} {a h E : Nat} {L : Nat → Nat → Nat} {sc st ks rs so : Nat} {A : Nat → Nat} {sb N0 o1 o2 p q : Nat} {T K j bc bs : Nat} {M : am_Hp} (hX : am_ok X rL_law G (d + 13)) (hM : ∀ {pc : Nat} {lv : List (Nat × Value)} {M : am_Hp} {bc bs : Nat}, decode rL_law.2.1 pc = .ok (.ireturn, 1) → am_J X pc lv [.int (1 : Int32)] M bc bs) (hz : cz G) (hp : sioo G) (hJ : JJ G a h E L sc st ks rs so A sb N0 o1 o2 p q T K M) (hT : T < 13000000) (hK : K < 100000000) (hi : 4 * j + 3 < N0) (hN0 : N0 ≤ 2048) (hbc : 20 ≤ bc) (hbs : 2000 ≤ bs) (hN : ∀ M' T' K' bc' bs', JJ G a h E L sc st ks rs so A sb N0 o1 o2 p q T' K' M' → T' ≤ T + 23790 → K' ≤ K + 13 → bc ≤ bc' + 20 → bs ≤ bs' + 2000 → am_J X 3219 [(0, .ref sb), (1, .ref a), (2, .ref (A 0)), (3, .ref o1), (4, .ref o2), (5, .int (i3 (4 * j)))] [] M' bc' bs') : am_J X 2634 [(0, .ref sb), (1, .ref a), (2, .ref (A 0)), (3, .ref o1), (4, .ref o2), (5, .int (i3 (4 * j)))] [] M bc bs := by
  obtain ⟨g, gn, hw, hm, hg, tsb, nsb, to1, no1, to2, no2, f127, f128⟩ := JJ_q hJ
  have ok := md_wf_ok hw
  exact vL_law_2634 hX hM (fun x0 x1 x2 x3 x4 x5 M bc bs => am_J X 3219 [(0, .ref x0), (1, .ref x1), (2, .ref x2), (3, .ref x3), (4, .ref x4), (5, .int x5)] [] M bc bs) (fun _ _ _ _ _ _ _ _ _ h => h) ⟨gn.1, ct_i (g_doorOpenings (d := d + 11) gn ok) ⟨hm.1, ct_i (c_doorOpenings (d := d + 10) hm hg) ⟨fun _ => (hN _ T K _ _ (JJ_153 hJ) (by omega) (by omega) (by omega) (by omega)), fun z => absurd rfl z⟩⟩⟩
theorem B_2790 {X : am_Cx} {G : am_Gx} {d : Nat} {a h E : Nat} {L : Nat → Nat → Nat} {sc st ks rs so : Nat} {A : Nat → Nat} {sb N0 o1 o2 p q : Nat} {T K j bc bs : Nat} {M : am_Hp} (hX : am_ok X rL_law G (d + 13)) (hM : ∀ {pc : Nat} {lv : List (Nat × Value)} {M : am_Hp} {bc bs : Nat}, decode rL_law.2.1 pc = .ok (.ireturn, 1) → am_J X pc lv [.int (1 : Int32)] M bc bs) (hz : cz G) (hp : sioo G) (hJ : JJ G a h E L sc st ks rs so A sb N0 o1 o2 p q T K M) (hT : T < 13000000) (hK : K < 100000000) (hi : 4 * j + 3 < N0) (hN0 : N0 ≤ 2048) (hbc : 20 ≤ bc) (hbs : 2000 ≤ bs) (hN : ∀ M' T' K' bc' bs', JJ G a h E L sc st ks rs so A sb N0 o1 o2 p q T' K' M' → T' ≤ T + 23790 → K' ≤ K + 13 → bc ≤ bc' + 20 → bs ≤ bs' + 2000 → am_J X 3219 [(0, .ref sb), (1, .ref a), (2, .ref (A 0)), (3, .ref o1), (4, .ref o2), (5, .int (i3 (4 * j)))] [] M' bc' bs') : am_J X 2790 [(0, .ref sb), (1, .ref a), (2, .ref (A 0)), (3, .ref o1), (4, .ref o2), (5, .int (i3 (4 * j)))] [] M bc bs := by
  obtain ⟨g, gn, hw, hm, hg, tsb, nsb, to1, no1, to2, no2, f127, f128⟩ := JJ_q hJ
  have ok := md_wf_ok hw
  exact vL_law_2790 hX hM (fun x0 x1 x2 x3 x4 x5 M bc bs => am_J X 3219 [(0, .ref x0), (1, .ref x1), (2, .ref x2), (3, .ref x3), (4, .ref x4), (5, .int x5)] [] M bc bs) (fun _ _ _ _ _ _ _ _ _ h => h) ⟨gn.1, ct_i (g_isConsistent (d := d + 8) gn hw (by omega)) ⟨hm.1, ct_i (c_isConsistent (d := d + 10) hm) ⟨fun _ => (hN _ T K _ _ (JJ_153 hJ) (by omega) (by omega) (by omega) (by omega)), fun z => absurd rfl z⟩⟩⟩
theorem B_2580 {X : am_Cx} {G : am_Gx} {d : Nat} {a h E : Nat} {L : Nat → Nat → Nat} {sc st ks rs so : Nat} {A : Nat → Nat} {sb N0 o1 o2 p q : Nat} {T K j bc bs : Nat} {M : am_Hp} (hX : am_ok X rL_law G (d + 13)) (hM : ∀ {pc : Nat} {lv : List (Nat × Value)} {M : am_Hp} {bc bs : Nat}, decode rL_law.2.1 pc = .ok (.ireturn, 1) → am_J X pc lv [.int (1 : Int32)] M bc bs) (hz : cz G) (hp : sioo G) (hJ : JJ G a h E L sc st ks rs so A sb N0 o1 o2 p q T K M) (hT : T < 13000000) (hK : K < 100000000) (hi : 4 * j + 3 < N0) (hN0 : N0 ≤ 2048) (hbc : 20 ≤ bc) (hbs : 2000 ≤ bs) (hN : ∀ M' T' K' bc' bs', JJ G a h E L sc st ks rs so A sb N0 o1 o2 p q T' K' M' → T' ≤ T + 23790 → K' ≤ K + 13 → bc ≤ bc' + 20 → bs ≤ bs' + 2000 → am_J X 3219 [(0, .ref sb), (1, .ref a), (2, .ref (A 0)), (3, .ref o1), (4, .ref o2), (5, .int (i3 (4 * j)))] [] M' bc' bs') : am_J X 2580 [(0, .ref sb), (1, .ref a), (2, .ref (A 0)), (3, .ref o1), (4, .ref o2), (5, .int (i3 (4 * j)))] [] M bc bs := by
  obtain ⟨g, gn, hw, hm, hg, tsb, nsb, to1, no1, to2, no2, f127, f128⟩ := JJ_q hJ
  have ok := md_wf_ok hw
  exact vL_law_2580 hX hM (fun x0 x1 x2 x3 x4 x5 M bc bs => am_J X 3219 [(0, .ref x0), (1, .ref x1), (2, .ref x2), (3, .ref x3), (4, .ref x4), (5, .int x5)] [] M bc bs) (fun _ _ _ _ _ _ _ _ _ h => h) ⟨gn.1, ct_l (g_totalEnergy (d := d + 10) gn ok) ⟨hm.1, ct_l (c_totalEnergy (d := d + 10) hm hg) ⟨fun _ => (hN _ T K _ _ (JJ_153 hJ) (by omega) (by omega) (by omega) (by omega)), fun z => absurd (lg_self _) z⟩⟩⟩
theorem B_2594 {X : am_Cx} {G : am_Gx} {d : Nat} {a h E : Nat} {L : Nat → Nat → Nat} {sc st ks rs so : Nat} {A : Nat → Nat} {sb N0 o1 o2 p q : Nat} {T K j bc bs : Nat} {M : am_Hp} (hX : am_ok X rL_law G (d + 13)) (hM : ∀ {pc : Nat} {lv : List (Nat × Value)} {M : am_Hp} {bc bs : Nat}, decode rL_law.2.1 pc = .ok (.ireturn, 1) → am_J X pc lv [.int (1 : Int32)] M bc bs) (hz : cz G) (hp : sioo G) (hJ : JJ G a h E L sc st ks rs so A sb N0 o1 o2 p q T K M) (hT : T < 13000000) (hK : K < 100000000) (hi : 4 * j + 3 < N0) (hN0 : N0 ≤ 2048) (hbc : 20 ≤ bc) (hbs : 2000 ≤ bs) (hN : ∀ M' T' K' bc' bs', JJ G a h E L sc st ks rs so A sb N0 o1 o2 p q T' K' M' → T' ≤ T + 23790 → K' ≤ K + 13 → bc ≤ bc' + 20 → bs ≤ bs' + 2000 → am_J X 3219 [(0, .ref sb), (1, .ref a), (2, .ref (A 0)), (3, .ref o1), (4, .ref o2), (5, .int (i3 (4 * j)))] [] M' bc' bs') : am_J X 2594 [(0, .ref sb), (1, .ref a), (2, .ref (A 0)), (3, .ref o1), (4, .ref o2), (5, .int (i3 (4 * j)))] [] M bc bs := by
  obtain ⟨g, gn, hw, hm, hg, tsb, nsb, to1, no1, to2, no2, f127, f128⟩ := JJ_q hJ
  have ok := md_wf_ok hw
  exact vL_law_2594 hX hM (fun x0 x1 x2 x3 x4 x5 M bc bs => am_J X 3219 [(0, .ref x0), (1, .ref x1), (2, .ref x2), (3, .ref x3), (4, .ref x4), (5, .int x5)] [] M bc bs) (fun _ _ _ _ _ _ _ _ _ h => h) ⟨gn.1, ct_l (g_totalEnergyByMoves (d := d + 10) gn ok) ⟨hm.1, ct_l (c_totalEnergyByMoves (d := d + 10) hm hg) ⟨fun _ => (hN _ T K _ _ (JJ_153 hJ) (by omega) (by omega) (by omega) (by omega)), fun z => absurd (lg_self _) z⟩⟩⟩
theorem ct_d {G : am_Gx} {d : Nat} {r : am_Rec} {as : List Value} {M M1 : am_Hp} {mc ms : Nat} {v : UInt64} {P : UInt64 → am_Hp → Prop} (h : am_CT G d r as M mc ms (fun o M' => o = .inl (some (.double v)) ∧ M' = M1)) (k : P v M1) : am_CT G d r as M mc ms (fun o M' => ∃ v, o = .inl (some (.double v)) ∧ P v M') := am_CT.mono (fun o M' ⟨e1, e2⟩ => ⟨v, e1, e2 ▸ k⟩) h
theorem ct_f {G : am_Gx} {d : Nat} {r : am_Rec} {as : List Value} {M M1 : am_Hp} {mc ms : Nat} {v : UInt32} {P : UInt32 → am_Hp → Prop} (h : am_CT G d r as M mc ms (fun o M' => o = .inl (some (.float v)) ∧ M' = M1)) (k : P v M1) : am_CT G d r as M mc ms (fun o M' => ∃ v, o = .inl (some (.float v)) ∧ P v M') := am_CT.mono (fun o M' ⟨e1, e2⟩ => ⟨v, e1, e2 ▸ k⟩) h
theorem hp_D_at (M : am_Hp) (x : Nat) (v : UInt64) : hp_D (hp_sD M x 0 v) x ((0 : Int32)).toNatClampNeg = v := by
  show hp_u (hp_D M) x 0 v x 0 = v
  simp [hp_u]
theorem dcmp_n64 {x : UInt64} (h : vf_n64 x) : FP.dcmp x x = some .eq := by
  have h1 : FP.Core.dIsNaN x = false := by
    rw [Bool.eq_false_iff]
    intro z
    have z1 := (FP.Core.isNaN_bits _).mp z
    have e : x.toNat &&& (0x7fffffffffffffff : UInt64).toNat = x.toNat % 2 ^ 63 := Nat.and_two_pow_sub_one_eq_mod _ 63
    have h2 : x &&& 0x7fffffffffffffff ≤ 0x7ff0000000000000 := h
    rw [UInt64.le_iff_toNat_le, UInt64.toNat_and, e] at h2
    have : (0x7ff0000000000000 : UInt64).toNat = 9218868437227405312 := rfl
    omega
  exact FP.Core.dcmp_self ((FP.Core.notNaN_iff _).mp h1)
theorem dcmp_n64' {x : UInt64} (h : vf_n64 x) : Op.cmpValue (FP.dcmp x x) CmpOp.l = 0 := by
  rw [dcmp_n64 h]
  rfl
theorem sq_mean_le {g : md_R} : (sq_mean g).1 ≤ 1 := by
  unfold sq_mean
  split <;> simp
theorem sq_share_le {g : md_R} {v : Int32} : (sq_share g v).1 ≤ 1 := by
  unfold sq_share
  split <;> simp
theorem sq_share_n {g : md_R} {T : Nat} {v : Int32} (hw : md_wf T g) (y : (sq_share g v).1 = 0) : vf_n64 (FP.f2d (sq_share g v).2) := by
  unfold sq_share at y ⊢
  by_cases c1 : md_ic v = true
  · obtain ⟨c, hc, rfl⟩ := md_ic_iff.mp c1
    obtain ⟨k, k1, k2, k3, -⟩ := (hw.2.1 c hc).2.2.1
    have hz : g (15 + c) ≠ 0 := fun z => by
      rw [k3] at z
      exact absurd ((i3_eq (b := 0) (by omega) (by omega)).mp z) (by omega)
    rw [if_pos c1, i3_toNat (by omega)]
    exact nnf hz
  · rw [if_neg c1] at y
    exact absurd y (by decide)
theorem B_2647 {X : am_Cx} {G : am_Gx} {d : Nat} {a h E : Nat} {L : Nat → Nat → Nat} {sc st ks rs so : Nat} {A : Nat → Nat} {sb N0 o1 o2 p q : Nat} {T K j bc bs : Nat} {M : am_Hp} (hX : am_ok X rL_law G (d + 13)) (hM : ∀ {pc : Nat} {lv : List (Nat × Value)} {M : am_Hp} {bc bs : Nat}, decode rL_law.2.1 pc = .ok (.ireturn, 1) → am_J X pc lv [.int (1 : Int32)] M bc bs) (hz : cz G) (hp : sioo G) (hJ : JJ G a h E L sc st ks rs so A sb N0 o1 o2 p q T K M) (hT : T < 13000000) (hK : K < 100000000) (hi : 4 * j + 3 < N0) (hN0 : N0 ≤ 2048) (hbc : 20 ≤ bc) (hbs : 2000 ≤ bs) (hN : ∀ M' T' K' bc' bs', JJ G a h E L sc st ks rs so A sb N0 o1 o2 p q T' K' M' → T' ≤ T + 23790 → K' ≤ K + 13 → bc ≤ bc' + 20 → bs ≤ bs' + 2000 → am_J X 3219 [(0, .ref sb), (1, .ref a), (2, .ref (A 0)), (3, .ref o1), (4, .ref o2), (5, .int (i3 (4 * j)))] [] M' bc' bs') : am_J X 2647 [(0, .ref sb), (1, .ref a), (2, .ref (A 0)), (3, .ref o1), (4, .ref o2), (5, .int (i3 (4 * j)))] [] M bc bs := by
  obtain ⟨g, gn, hw, hm, hg, tsb, nsb, to1, no1, to2, no2, f127, f128⟩ := JJ_q hJ
  have ok := md_wf_ok hw
  have hs := @sq_mean_le g
  refine vL_law_2647 hX hM (fun x0 x1 x2 x3 x4 x5 M bc bs => am_J X 3219 [(0, .ref x0), (1, .ref x1), (2, .ref x2), (3, .ref x3), (4, .ref x4), (5, .int x5)] [] M bc bs) (fun _ _ _ _ _ _ _ _ _ h => h) ⟨by omega, by omega, am_CT.mono ?_ (w_meanWaiting (d := d + 10) gn ok to2 no2)⟩
  rintro z M5 ⟨e, eM⟩
  have hJ5 : JJ G a h E L sc st ks rs so A sb N0 o1 o2 p q T K M5 := by rw [eM]; split <;> exact hJ
  have eE : hp_E M5 = hp_E M := by rw [eM]; split <;> rfl
  have eT : hp_T M5 = hp_T M := by rw [eM]; split <;> rfl
  have eN : hp_N M5 = hp_N M := by rw [eM]; split <;> rfl
  have m5 : mL M5 A := by rw [eM]; split <;> exact hm
  have hg5 : hp_E M5 (A 1) = g := by rw [eE]; exact hg
  have R : ∀ v, am_J X 3219 [(0, .ref sb), (1, .ref a), (2, .ref (A 0)), (3, .ref o1), (4, .ref o2), (5, .int (i3 (4 * j)))] [] (hp_sI M5 153 (A 0) v) (bc - 1) (bs - 6) := fun v => hN _ T K (bc - 1) (bs - 6) (JJ_153 hJ5) (by omega) (by omega) (by omega) (by omega)
  refine ⟨_, e, m5.1, ct_d (c_meanWaiting (d := d + 10) m5 hg5) ⟨m5.1, ct_i (c_thrown (d := d + 11) (M := hp_sI M5 153 (A 0) _) m5) ?_⟩⟩
  rw [hp_I_sI]
  refine ⟨fun _ => ⟨fun y => ?_, fun _ => R _⟩, fun z => absurd rfl z⟩
  have y0 : (sq_mean g).1 = 0 := (i3_eq (b := 0) (by omega) (by omega)).mp y
  have eD : hp_D (hp_sI M5 153 (A 0) (i3 (sq_mean g).1)) o2 ((0 : Int32)).toNatClampNeg = (sq_mean g).2 := by
    rw [eM, if_pos y0]
    exact hp_D_at _ _ _
  have vp : vp_in (0 : Int32) (hp_N (hp_sI M5 153 (A 0) (i3 (sq_mean g).1)) o2) := by rw [hp_N_sI, eN, no2]; exact vp_in_i3 (k := 0) (by omega) (by omega)
  rw [eD]
  exact ⟨by rw [hp_T_sI, eT]; exact to2, vp, fun _ => R _, fun w => ⟨vp, vp, fun u => absurd u w, fun _ => ⟨fun u => absurd u w, fun _ => R _⟩⟩⟩
theorem B_2712 {X : am_Cx} {G : am_Gx} {d : Nat} {a h E : Nat} {L : Nat → Nat → Nat} {sc st ks rs so : Nat} {A : Nat → Nat} {sb N0 o1 o2 p q : Nat} {T K j bc bs : Nat} {M : am_Hp} (hX : am_ok X rL_law G (d + 13)) (hM : ∀ {pc : Nat} {lv : List (Nat × Value)} {M : am_Hp} {bc bs : Nat}, decode rL_law.2.1 pc = .ok (.ireturn, 1) → am_J X pc lv [.int (1 : Int32)] M bc bs) (hz : cz G) (hp : sioo G) (hJ : JJ G a h E L sc st ks rs so A sb N0 o1 o2 p q T K M) (hT : T < 13000000) (hK : K < 100000000) (hi : 4 * j + 3 < N0) (hN0 : N0 ≤ 2048) (hbc : 20 ≤ bc) (hbs : 2000 ≤ bs) (hN : ∀ M' T' K' bc' bs', JJ G a h E L sc st ks rs so A sb N0 o1 o2 p q T' K' M' → T' ≤ T + 23790 → K' ≤ K + 13 → bc ≤ bc' + 20 → bs ≤ bs' + 2000 → am_J X 3219 [(0, .ref sb), (1, .ref a), (2, .ref (A 0)), (3, .ref o1), (4, .ref o2), (5, .int (i3 (4 * j)))] [] M' bc' bs') : am_J X 2712 [(0, .ref sb), (1, .ref a), (2, .ref (A 0)), (3, .ref o1), (4, .ref o2), (5, .int (i3 (4 * j)))] [] M bc bs := by
  obtain ⟨g, gn, hw, hm, hg, tsb, nsb, to1, no1, to2, no2, f127, f128⟩ := JJ_q hJ
  have ok := md_wf_ok hw
  have ix1 : i3 (4 * j) + (1 : Int32) = i3 (4 * j + 1) := i3_add _ 1
  refine vL_law_2712 hX hM (fun x0 x1 x2 x3 x4 x5 M bc bs => am_J X 3219 [(0, .ref x0), (1, .ref x1), (2, .ref x2), (3, .ref x3), (4, .ref x4), (5, .int x5)] [] M bc bs) (fun _ _ _ _ _ _ _ _ _ h => h) ⟨tsb, by rw [ix1, nsb]; exact vp_in_i3 (by omega) (by omega), by omega, by omega, am_CT.mono ?_ (w_loadShare (d := d + 8) gn hw to2 no2)⟩
  rintro z M5 ⟨e, eM⟩
  have hs := @sq_share_le g (hp_E M sb ((i3 (4 * j) + (1 : Int32))).toNatClampNeg)
  have hJ5 : JJ G a h E L sc st ks rs so A sb N0 o1 o2 p q T K M5 := by rw [eM]; split <;> exact hJ
  have eE : hp_E M5 = hp_E M := by rw [eM]; split <;> rfl
  have eT : hp_T M5 = hp_T M := by rw [eM]; split <;> rfl
  have eN : hp_N M5 = hp_N M := by rw [eM]; split <;> rfl
  have m5 : mL M5 A := by rw [eM]; split <;> exact hm
  have hg5 : hp_E M5 (A 1) = g := by rw [eE]; exact hg
  have R : ∀ v, am_J X 3219 [(0, .ref sb), (1, .ref a), (2, .ref (A 0)), (3, .ref o1), (4, .ref o2), (5, .int (i3 (4 * j)))] [] (hp_sI M5 153 (A 0) v) (bc - 1) (bs - 6) := fun v => hN _ T K (bc - 1) (bs - 6) (JJ_153 hJ5) (by omega) (by omega) (by omega) (by omega)
  refine ⟨_, e, by rw [eT]; exact tsb, by rw [ix1, eN, nsb]; exact vp_in_i3 (by omega) (by omega), m5.1, ?_⟩
  rw [eE]
  refine ct_f (c_loadShare (d := d + 9) m5 hg5 hw) ⟨m5.1, ct_i (c_thrown (d := d + 11) (M := hp_sI M5 153 (A 0) _) m5) ?_⟩
  rw [hp_I_sI]
  refine ⟨fun _ => ⟨fun y => ?_, fun _ => R _⟩, fun z => absurd rfl z⟩
  have y0 : (sq_share g (hp_E M sb ((i3 (4 * j) + (1 : Int32))).toNatClampNeg)).1 = 0 := (i3_eq (b := 0) (by omega) (by omega)).mp y
  have nn := sq_share_n hw y0
  have eD : hp_D (hp_sI M5 153 (A 0) (i3 (sq_share g (hp_E M sb ((i3 (4 * j) + (1 : Int32))).toNatClampNeg)).1)) o2 ((0 : Int32)).toNatClampNeg = FP.f2d (sq_share g (hp_E M sb ((i3 (4 * j) + (1 : Int32))).toNatClampNeg)).2 := by
    rw [eM, if_pos y0]
    exact hp_D_at _ _ _
  have vp : vp_in (0 : Int32) (hp_N (hp_sI M5 153 (A 0) (i3 (sq_share g (hp_E M sb ((i3 (4 * j) + (1 : Int32))).toNatClampNeg)).1)) o2) := by rw [hp_N_sI, eN, no2]; exact vp_in_i3 (k := 0) (by omega) (by omega)
  rw [eD]
  exact ⟨by rw [hp_T_sI, eT]; exact to2, vp, nn, fun _ => R _, fun w => absurd (dcmp_n64' nn) w⟩
