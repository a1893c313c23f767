/-! .. the law: the third group (by gen/mk8y.py) -/
def lK (k : Nat) : Nat := [186, 198, 206, 208, 214, 216, 218, 220, 222, 224, 226, 228, 230, 232].getD k 0
def lF (k : Nat) : List Nat := stF (8 + k)
/-- what holds at the start -/
def LC (G : am_Gx) (M0 : am_Hp) (e sb : Nat) : Prop := cz G ∧ sioo G ∧ stK G M0 ∧ (∀ k, k < 14 → stO M0 (gx_s G "LiftGroupLaw" (lK k)) (lF k)) ∧ em G e ∧ hp_T M0 e = 43 ∧ hp_N M0 e = 0 ∧ hp_T M0 sb = 42 ∧ hp_N M0 sb ≤ 260
theorem LC.ro {G : am_Gx} {M0 M : am_Hp} {e sb : Nat} (h : LC G M0 e sb) (r : RO M0 M) : LC G M e sb := by
  obtain ⟨a1, a2, a3, a4, a5, a6, a7, a8, a9⟩ := h
  have se := r e (by omega)
  have ss := r sb (by omega)
  exact ⟨a1, a2, stK_ty a3 (fun x hx => r x (by omega)), fun k hk => stO_sm (r _ (by rw [(a4 k hk).1]; exact Nat.le_refl _)) (r _ (by rw [(a4 k hk).2.2.1]; decide)) (a4 k hk), a5, se.1.trans a6, se.2.1.trans a7, ss.1.trans a8, by rw [ss.2.1]; exact a9⟩
theorem RO_sx {G : am_Gx} {M0 M : am_Hp} {e sb : Nat} (r : RO M0 M) (h : LC G M0 e sb) : sx M sb = sx M0 sb := by
  have ss := r sb (by have := h.2.2.2.2.2.2.2.1; omega)
  funext k
  unfold sx
  rw [ss.2.1, ss.2.2.2.2.1]
/-- the first group waits, the third is at z with the row r -/
def JZ (M0 M : am_Hp) (x : Nat) (g : md_R) (r : md_R) (T z : Nat) : Prop := ∃ (c : Nat) (h : Nat → md_R) (u1 u2 : Int32) (cz : Nat) (hz : Nat → md_R), J2 M0 M 223790 x (g, c, h) (i3 1) g u1 u2 T z (r, cz, hz) 0 md_g0 (-1) (-1)
theorem JZ_g {M0 M : am_Hp} {x : Nat} {g r : md_R} {T z : Nat} (h : JZ M0 M x g r T z) : ∃ (S : Nat → Prop) (cz : Nat) (hz : Nat → md_R), ow T M z S (r, cz, hz) 0 md_g0 [] (-1) (-1) ∧ ∀ {V : Nat} {M' : am_Hp} {P' : ps}, gt V M M' z S P' 0 md_g0 [] (-1) (-1) → JZ M0 M' x g P'.1 V z := by
  obtain ⟨c, hh, u1, u2, cz, hz, hJ⟩ := h
  obtain ⟨S, hO, k⟩ := J2_g2 hJ
  exact ⟨S, cz, hz, hO, fun {V M' P'} g => ⟨c, hh, u1, u2, P'.2.1, P'.2.2, k g⟩⟩
theorem JZ_e {M0 M : am_Hp} {x : Nat} {g r r' : md_R} {T z : Nat} (h : JZ M0 M x g r T z) (e : r = r') : JZ M0 M x g r' T z := e ▸ h
theorem q_xd {G : am_Gx} {d : Nat} {r : am_Rec} {as : List Value} {M : am_Hp} {mc ms : Nat} {ns : List String} {s : Nat × UInt64} {v : UInt64} {P : UInt64 → am_Hp → Prop} {D : am_Q} (h : am_CT G d r as M mc ms (xd ns s M)) (hs : s = (0, v)) (k : P v M) : am_CT G d r as M mc ms (fun oz M1 => (∃ v : UInt64, oz = .inl (some (.double v)) ∧ P v M1) ∨ D oz M1) := am_CT.mono (fun o M' hh => by
  obtain ⟨e, rfl⟩ := hh
  rw [hs] at e
  exact .inl ⟨v, e, k⟩) h
theorem c0_0 : (0 : Int32).toNatClampNeg = 0 := by decide
theorem c0_1 : (1 : Int32).toNatClampNeg = 1 := by decide
theorem c0_2 : (2 : Int32).toNatClampNeg = 2 := by decide
theorem c0_3 : (3 : Int32).toNatClampNeg = 3 := by decide
theorem aC_1 (g : md_R) (P : ps) : (aC 0 g P).1 = g := rfl
theorem zx_1002 {m : Nat} : md_it (zR3 m) (1 : Int32).toNatClampNeg = zR4 m := by
  rw [c0_1, it_1]
  exact za_1002
theorem zx_1043 {m : Nat} (hm : m < 4) : md_it (zR4 m) (1 : Int32).toNatClampNeg = zR5 m := by
  rw [c0_1, it_1]
  exact za_1043 hm
theorem lg_889 : ∀ m, m < 4 → lg_cmp (md_te (zF' m)) ((3 : Int64) * (i3 (2 + m)).toInt64 + 2) = 0 ∧ lg_cmp (md_tm (zF' m)) ((3 : Int64) * (i3 (2 + m)).toInt64 + 2) = 0 := by decide +kernel
theorem lg_369 : lg_cmp (md_te md_g0) 0 = 0 := by decide +kernel
theorem B_1139 {X : am_Cx} {G : am_Gx} {d e sb x  : Nat} {M0 M : am_Hp} {g : md_R} {bc bs : Nat} (hX : am_ok X rL_law G (d + 12)) (hM : ∀ {pc : Nat} {lv : List (Nat × Value)} {M : am_Hp} {bc bs : Nat}, decode rL_law.2.1 pc = .ok (.ireturn, 1) → am_J X pc lv [.int (1 : Int32)] M bc bs) (cx : LC G M0 e sb) {c : Nat} {h : Nat → md_R} {u1 u2 : Int32} {T : Nat} (hJ : J1 M0 M T x (g, c, h) (i3 1) g u1 u2) (q : 170 ≤ bc) (r : 1200 ≤ bs) : am_J X 1139 [(1, .ref x), (4, .int (sV g))] [] M bc bs := by
  obtain ⟨S, hO, k⟩ := J1_g hJ
  have cm := cx.ro hJ.2
  exact vL_law_1139 hX hM ⟨q, r, c_state (d := d + 3) cm.2.2.2.2.1 cm.2.2.2.2.2.1 cm.2.2.2.2.2.2.1 hO (fun M1 F => ⟨fun _ => trivial, fun y => absurd rfl y⟩)⟩
theorem B_1131 {X : am_Cx} {G : am_Gx} {d e sb x  : Nat} {M0 M : am_Hp} {g : md_R} {bc bs : Nat} (hX : am_ok X rL_law G (d + 12)) (hM : ∀ {pc : Nat} {lv : List (Nat × Value)} {M : am_Hp} {bc bs : Nat}, decode rL_law.2.1 pc = .ok (.ireturn, 1) → am_J X pc lv [.int (1 : Int32)] M bc bs) (cx : LC G M0 e sb) {c : Nat} {h : Nat → md_R} {u1 u2 : Int32} {T : Nat} (hJ : J1 M0 M T x (g, c, h) (i3 1) g u1 u2) (q : 171 ≤ bc) (r : 1206 ≤ bs) : am_J X 1131 [(1, .ref x), (3, .int (g 1)), (4, .int (sV g))] [] M bc bs := by
  obtain ⟨S, hO, k⟩ := J1_g hJ
  exact vL_law_1131 hX hM (fun x1 x4 M bc bs => am_J X 1139 [(1, .ref x1), (4, .int x4)] [] M bc bs) (fun _ _ _ _ _ h => h) ⟨(ow_ta hO).1, by omega, by omega, c_rest (d := d + 8) hO rfl (fun M1 G1 => ⟨fun _ => B_1139 hX hM cx (k G1) (by omega) (by omega), fun y => absurd rfl y⟩)⟩
theorem JZ_1 {M0 M : am_Hp} {x : Nat} {g r : md_R} {T z : Nat} (h : JZ M0 M x g r T z) : ∃ (c : Nat) (h : Nat → md_R) (u1 u2 : Int32), J1 M0 M 223790 x (g, c, h) (i3 1) g u1 u2 := by
  obtain ⟨c, hh, u1, u2, cz, hz, hJ⟩ := h
  exact ⟨c, hh, u1, u2, J2_1 hJ⟩
theorem B_1121 {X : am_Cx} {G : am_Gx} {d e sb x z m i : Nat} {M0 M : am_Hp} {g : md_R} {bc bs : Nat} (hX : am_ok X rL_law G (d + 12)) (hM : ∀ {pc : Nat} {lv : List (Nat × Value)} {M : am_Hp} {bc bs : Nat}, decode rL_law.2.1 pc = .ok (.ireturn, 1) → am_J X pc lv [.int (1 : Int32)] M bc bs) (cx : LC G M0 e sb) (hm : m < 4) (hi : i < 64) (h : JZ M0 M x g (zR7 m) 36600 z) (q : 171 ≤ bc) (r : 1206 ≤ bs) : am_J X 1121 [(1, .ref x), (3, .int (g 1)), (4, .int (sV g)), (8, .ref z)] [] M bc bs := by
  obtain ⟨S, c, hist, hO, k⟩ := JZ_g h
  obtain ⟨Bq, hB, hw⟩ := ow_gN hO
  exact vL_law_1121 hX hM (fun x1 x3 x4 M bc bs => am_J X 1131 [(1, .ref x1), (3, .int x3), (4, .int x4)] [] M bc bs) (fun _ _ _ _ _ _ h => h) ⟨hB.1, ct_i (g_isConsistent (d := d + 7) hB hw (by omega)) ⟨fun y => absurd y (by decide), fun _ => (JZ_1 (h)).elim (fun c9 y => y.elim (fun h9 y => y.elim (fun u9 y => y.elim (fun w9 y => B_1131 hX hM cx y (by omega) (by omega)))))⟩⟩
theorem B_1111 {X : am_Cx} {G : am_Gx} {d e sb x z m i : Nat} {M0 M : am_Hp} {g : md_R} {bc bs : Nat} (hX : am_ok X rL_law G (d + 12)) (hM : ∀ {pc : Nat} {lv : List (Nat × Value)} {M : am_Hp} {bc bs : Nat}, decode rL_law.2.1 pc = .ok (.ireturn, 1) → am_J X pc lv [.int (1 : Int32)] M bc bs) (cx : LC G M0 e sb) (hm : m < 4) (hi : i < 64) (h : JZ M0 M x g (zR6 m) 34770 z) (q : 172 ≤ bc) (r : 1212 ≤ bs) : am_J X 1111 [(1, .ref x), (3, .int (g 1)), (4, .int (sV g)), (8, .ref z)] [] M bc bs := by
  obtain ⟨S, c, hist, hO, k⟩ := JZ_g h
  obtain ⟨Bq, hB, hw⟩ := ow_gN hO
  exact vL_law_1111 hX hM (fun x1 x3 x4 x8 M bc bs => am_J X 1121 [(1, .ref x1), (3, .int x3), (4, .int x4), (8, .ref x8)] [] M bc bs) (fun _ _ _ _ _ _ _ h => h) ⟨hB.1, by omega, by omega, c_start6 (d := d + 4) hO (by omega) (zq_1111 m hm).1 (fun M1 G1 => ⟨fun _ => B_1121 hX hM cx hm hi (JZ_e (k G1) ((by rw [c0_0]; exact za_1111))) (by omega) (by omega), fun y => absurd ((zq_1111 m hm).2) y⟩)⟩
theorem B_1100 {X : am_Cx} {G : am_Gx} {d e sb x z m i : Nat} {M0 M : am_Hp} {g : md_R} {bc bs : Nat} (hX : am_ok X rL_law G (d + 12)) (hM : ∀ {pc : Nat} {lv : List (Nat × Value)} {M : am_Hp} {bc bs : Nat}, decode rL_law.2.1 pc = .ok (.ireturn, 1) → am_J X pc lv [.int (1 : Int32)] M bc bs) (cx : LC G M0 e sb) (hm : m < 4) (hi : i < 64) (h : JZ M0 M x g (zR6 m) 34770 z) (q : 174 ≤ bc) (r : 1224 ≤ bs) : am_J X 1100 [(1, .ref x), (3, .int (g 1)), (4, .int (sV g)), (8, .ref z)] [] M bc bs := by
  obtain ⟨S, c, hist, hO, k⟩ := JZ_g h
  obtain ⟨Bq, hB, hw⟩ := ow_gN hO
  exact vL_law_1100 hX hM (fun x1 x3 x4 x8 M bc bs => am_J X 1111 [(1, .ref x1), (3, .int x3), (4, .int x4), (8, .ref x8)] [] M bc bs) (fun _ _ _ _ _ _ _ h => h) ⟨hB.1, by omega, by omega, q_x1 (g_nextStop (d := d + 8) hB hw) (zq_1100 m hm) ⟨fun _ => B_1111 hX hM cx hm hi (h) (by omega) (by omega), fun y => absurd rfl y⟩⟩
theorem B_1090 {X : am_Cx} {G : am_Gx} {d e sb x z m i : Nat} {M0 M : am_Hp} {g : md_R} {bc bs : Nat} (hX : am_ok X rL_law G (d + 12)) (hM : ∀ {pc : Nat} {lv : List (Nat × Value)} {M : am_Hp} {bc bs : Nat}, decode rL_law.2.1 pc = .ok (.ireturn, 1) → am_J X pc lv [.int (1 : Int32)] M bc bs) (cx : LC G M0 e sb) (hm : m < 4) (hi : i < 64) (h : JZ M0 M x g (zR6 m) 34770 z) (q : 175 ≤ bc) (r : 1230 ≤ bs) : am_J X 1090 [(1, .ref x), (3, .int (g 1)), (4, .int (sV g)), (8, .ref z)] [] M bc bs := by
  obtain ⟨S, c, hist, hO, k⟩ := JZ_g h
  obtain ⟨Bq, hB, hw⟩ := ow_gN hO
  exact vL_law_1090 hX hM (fun x1 x3 x4 x8 M bc bs => am_J X 1100 [(1, .ref x1), (3, .int x3), (4, .int x4), (8, .ref x8)] [] M bc bs) (fun _ _ _ _ _ _ _ h => h) ⟨hB.1, by omega, by omega, q_x1 (g_passengersIn (d := d + 8) hB (md_wf_ok hw)) (zq_1090 m hm) ⟨fun _ => B_1100 hX hM cx hm hi (h) (by omega) (by omega), fun y => absurd rfl y⟩⟩
theorem B_1081 {X : am_Cx} {G : am_Gx} {d e sb x z m i : Nat} {M0 M : am_Hp} {g : md_R} {bc bs : Nat} (hX : am_ok X rL_law G (d + 12)) (hM : ∀ {pc : Nat} {lv : List (Nat × Value)} {M : am_Hp} {bc bs : Nat}, decode rL_law.2.1 pc = .ok (.ireturn, 1) → am_J X pc lv [.int (1 : Int32)] M bc bs) (cx : LC G M0 e sb) (hm : m < 4) (hi : i < 64) (h : JZ M0 M x g (zR5 m) 32940 z) (q : 176 ≤ bc) (r : 1236 ≤ bs) : am_J X 1081 [(1, .ref x), (3, .int (g 1)), (4, .int (sV g)), (8, .ref z)] [] M bc bs := by
  obtain ⟨S, c, hist, hO, k⟩ := JZ_g h
  obtain ⟨Bq, hB, hw⟩ := ow_gN hO
  exact vL_law_1081 hX hM (fun x1 x3 x4 x8 M bc bs => am_J X 1090 [(1, .ref x1), (3, .int x3), (4, .int x4), (8, .ref x8)] [] M bc bs) (fun _ _ _ _ _ _ _ h => h) ⟨hB.1, by omega, by omega, c_stop6 (d := d + 4) hO (by omega) (zq_1081 m hm).1 (fun M1 G1 => ⟨fun _ => B_1090 hX hM cx hm hi (JZ_e (k G1) ((by rw [c0_2]; exact za_1081))) (by omega) (by omega), fun y => absurd ((zq_1081 m hm).2) y⟩)⟩
theorem B_1071 {X : am_Cx} {G : am_Gx} {d e sb x z m i : Nat} {M0 M : am_Hp} {g : md_R} {bc bs : Nat} (hX : am_ok X rL_law G (d + 12)) (hM : ∀ {pc : Nat} {lv : List (Nat × Value)} {M : am_Hp} {bc bs : Nat}, decode rL_law.2.1 pc = .ok (.ireturn, 1) → am_J X pc lv [.int (1 : Int32)] M bc bs) (cx : LC G M0 e sb) (hm : m < 4) (hi : i < 64) (h : JZ M0 M x g (zR5 m) 32940 z) (q : 177 ≤ bc) (r : 1242 ≤ bs) : am_J X 1071 [(1, .ref x), (3, .int (g 1)), (4, .int (sV g)), (8, .ref z)] [] M bc bs := by
  obtain ⟨S, c, hist, hO, k⟩ := JZ_g h
  obtain ⟨Bq, hB, hw⟩ := ow_gN hO
  exact vL_law_1071 hX hM (fun x1 x3 x4 x8 M bc bs => am_J X 1081 [(1, .ref x1), (3, .int x3), (4, .int x4), (8, .ref x8)] [] M bc bs) (fun _ _ _ _ _ _ _ h => h) ⟨hB.1, by omega, by omega, q_x1 (g_number (d := d + 8) hB (md_wf_ok hw)) (zq_1071 m hm) ⟨fun _ => B_1081 hX hM cx hm hi (h) (by omega) (by omega), fun y => absurd rfl y⟩⟩
theorem B_1061 {X : am_Cx} {G : am_Gx} {d e sb x z m i : Nat} {M0 M : am_Hp} {g : md_R} {bc bs : Nat} (hX : am_ok X rL_law G (d + 12)) (hM : ∀ {pc : Nat} {lv : List (Nat × Value)} {M : am_Hp} {bc bs : Nat}, decode rL_law.2.1 pc = .ok (.ireturn, 1) → am_J X pc lv [.int (1 : Int32)] M bc bs) (cx : LC G M0 e sb) (hm : m < 4) (hi : i < 64) (h : JZ M0 M x g (zR5 m) 32940 z) (q : 179 ≤ bc) (r : 1254 ≤ bs) : am_J X 1061 [(1, .ref x), (3, .int (g 1)), (4, .int (sV g)), (8, .ref z)] [] M bc bs := by
  obtain ⟨S, c, hist, hO, k⟩ := JZ_g h
  obtain ⟨Bq, hB, hw⟩ := ow_gN hO
  exact vL_law_1061 hX hM (fun x1 x3 x4 x8 M bc bs => am_J X 1071 [(1, .ref x1), (3, .int x3), (4, .int x4), (8, .ref x8)] [] M bc bs) (fun _ _ _ _ _ _ _ h => h) ⟨hB.1, by omega, by omega, q_x1 (g_carOf (d := d + 8) hB hw) (zq_1061 m hm) ⟨fun _ => B_1071 hX hM cx hm hi (h) (by omega) (by omega), fun y => absurd rfl y⟩⟩
theorem B_1052 {X : am_Cx} {G : am_Gx} {d e sb x z m i : Nat} {M0 M : am_Hp} {g : md_R} {bc bs : Nat} (hX : am_ok X rL_law G (d + 12)) (hM : ∀ {pc : Nat} {lv : List (Nat × Value)} {M : am_Hp} {bc bs : Nat}, decode rL_law.2.1 pc = .ok (.ireturn, 1) → am_J X pc lv [.int (1 : Int32)] M bc bs) (cx : LC G M0 e sb) (hm : m < 4) (hi : i < 64) (h : JZ M0 M x g (zR5 m) 32940 z) (q : 180 ≤ bc) (r : 1260 ≤ bs) : am_J X 1052 [(1, .ref x), (3, .int (g 1)), (4, .int (sV g)), (8, .ref z)] [] M bc bs := by
  obtain ⟨S, c, hist, hO, k⟩ := JZ_g h
  obtain ⟨Bq, hB, hw⟩ := ow_gN hO
  exact vL_law_1052 hX hM (fun x1 x3 x4 x8 M bc bs => am_J X 1061 [(1, .ref x1), (3, .int x3), (4, .int x4), (8, .ref x8)] [] M bc bs) (fun _ _ _ _ _ _ _ h => h) ⟨hB.1, by omega, by omega, q_x1 (g_isInCar (d := d + 8) hB hw) (zq_1052 m hm) ⟨fun y => absurd y (by decide), fun _ => B_1061 hX hM cx hm hi (h) (by omega) (by omega)⟩⟩
theorem B_1043 {X : am_Cx} {G : am_Gx} {d e sb x z m i : Nat} {M0 M : am_Hp} {g : md_R} {bc bs : Nat} (hX : am_ok X rL_law G (d + 12)) (hM : ∀ {pc : Nat} {lv : List (Nat × Value)} {M : am_Hp} {bc bs : Nat}, decode rL_law.2.1 pc = .ok (.ireturn, 1) → am_J X pc lv [.int (1 : Int32)] M bc bs) (cx : LC G M0 e sb) (hm : m < 4) (hi : i < 64) (h : JZ M0 M x g (zR4 m) 31110 z) (q : 181 ≤ bc) (r : 1266 ≤ bs) : am_J X 1043 [(1, .ref x), (3, .int (g 1)), (4, .int (sV g)), (8, .ref z)] [] M bc bs := by
  obtain ⟨S, c, hist, hO, k⟩ := JZ_g h
  obtain ⟨Bq, hB, hw⟩ := ow_gN hO
  have zz : md_it (zR4 m) ((1 : Int32)).toNatClampNeg = zR5 m := zx_1043 hm
  have zv : md_it (zR4 m) ((1 : Int32)).toNatClampNeg 3 - (zR4 m) 3 = 0 := by
    rw [zz, show (zR5 m) 3 = 1 from rd_3, show (zR4 m) 3 = 1 from rd_3]
    rfl
  exact vL_law_1043 hX hM (fun x1 x3 x4 x8 M bc bs => am_J X 1052 [(1, .ref x1), (3, .int x3), (4, .int x4), (8, .ref x8)] [] M bc bs) (fun _ _ _ _ _ _ _ h => h) ⟨hB.1, by omega, by omega, c_adv (d := d + 4) hO (by omega) zq_642 (fun M1 G1 => ⟨fun _ => B_1052 hX hM cx hm hi (JZ_e (k G1) ((aC_1 _ _).trans zz)) (by omega) (by omega), fun y => absurd (zv) y⟩)⟩
theorem B_1030 {X : am_Cx} {G : am_Gx} {d e sb x z m i : Nat} {M0 M : am_Hp} {g : md_R} {bc bs : Nat} (hX : am_ok X rL_law G (d + 12)) (hM : ∀ {pc : Nat} {lv : List (Nat × Value)} {M : am_Hp} {bc bs : Nat}, decode rL_law.2.1 pc = .ok (.ireturn, 1) → am_J X pc lv [.int (1 : Int32)] M bc bs) (cx : LC G M0 e sb) (hm : m < 4) (hi : i < 64) (h : JZ M0 M x g (zR4 m) 31110 z) (q : 183 ≤ bc) (r : 1278 ≤ bs) : am_J X 1030 [(1, .ref x), (3, .int (g 1)), (4, .int (sV g)), (8, .ref z)] [] M bc bs := by
  obtain ⟨S, c, hist, hO, k⟩ := JZ_g h
  obtain ⟨Bq, hB, hw⟩ := ow_gN hO
  exact vL_law_1030 hX hM (fun x1 x3 x4 x8 M bc bs => am_J X 1043 [(1, .ref x1), (3, .int x3), (4, .int x4), (8, .ref x8)] [] M bc bs) (fun _ _ _ _ _ _ _ h => h) ⟨hB.1, by omega, by omega, q_x1 (g_bestCar (d := d + 7) hB hw) (zq_1030 m hm) ⟨fun _ => B_1043 hX hM cx hm hi (h) (by omega) (by omega), fun y => absurd rfl y⟩⟩
theorem B_1020 {X : am_Cx} {G : am_Gx} {d e sb x z m i : Nat} {M0 M : am_Hp} {g : md_R} {bc bs : Nat} (hX : am_ok X rL_law G (d + 12)) (hM : ∀ {pc : Nat} {lv : List (Nat × Value)} {M : am_Hp} {bc bs : Nat}, decode rL_law.2.1 pc = .ok (.ireturn, 1) → am_J X pc lv [.int (1 : Int32)] M bc bs) (cx : LC G M0 e sb) (hm : m < 4) (hi : i < 64) (h : JZ M0 M x g (zR4 m) 31110 z) (q : 184 ≤ bc) (r : 1284 ≤ bs) : am_J X 1020 [(1, .ref x), (3, .int (g 1)), (4, .int (sV g)), (8, .ref z)] [] M bc bs := by
  obtain ⟨S, c, hist, hO, k⟩ := JZ_g h
  obtain ⟨Bq, hB, hw⟩ := ow_gN hO
  exact vL_law_1020 hX hM (fun x1 x3 x4 x8 M bc bs => am_J X 1030 [(1, .ref x1), (3, .int x3), (4, .int x4), (8, .ref x8)] [] M bc bs) (fun _ _ _ _ _ _ _ h => h) ⟨hB.1, by omega, by omega, q_x1 (g_doorSteps (d := d + 8) hB (md_wf_ok hw)) (zq_1020 m hm) ⟨fun _ => B_1030 hX hM cx hm hi (h) (by omega) (by omega), fun y => absurd rfl y⟩⟩
theorem B_1011 {X : am_Cx} {G : am_Gx} {d e sb x z m i : Nat} {M0 M : am_Hp} {g : md_R} {bc bs : Nat} (hX : am_ok X rL_law G (d + 12)) (hM : ∀ {pc : Nat} {lv : List (Nat × Value)} {M : am_Hp} {bc bs : Nat}, decode rL_law.2.1 pc = .ok (.ireturn, 1) → am_J X pc lv [.int (1 : Int32)] M bc bs) (cx : LC G M0 e sb) (hm : m < 4) (hi : i < 64) (h : JZ M0 M x g (zR4 m) 31110 z) (q : 185 ≤ bc) (r : 1290 ≤ bs) : am_J X 1011 [(1, .ref x), (3, .int (g 1)), (4, .int (sV g)), (8, .ref z)] [] M bc bs := by
  obtain ⟨S, c, hist, hO, k⟩ := JZ_g h
  obtain ⟨Bq, hB, hw⟩ := ow_gN hO
  exact vL_law_1011 hX hM (fun x1 x3 x4 x8 M bc bs => am_J X 1020 [(1, .ref x1), (3, .int x3), (4, .int x4), (8, .ref x8)] [] M bc bs) (fun _ _ _ _ _ _ _ h => h) ⟨hB.1, by omega, by omega, q_x1 (g_isInCar (d := d + 8) hB hw) (zq_1011 m hm) ⟨fun _ => B_1020 hX hM cx hm hi (h) (by omega) (by omega), fun y => absurd rfl y⟩⟩
theorem B_1002 {X : am_Cx} {G : am_Gx} {d e sb x z m i : Nat} {M0 M : am_Hp} {g : md_R} {bc bs : Nat} (hX : am_ok X rL_law G (d + 12)) (hM : ∀ {pc : Nat} {lv : List (Nat × Value)} {M : am_Hp} {bc bs : Nat}, decode rL_law.2.1 pc = .ok (.ireturn, 1) → am_J X pc lv [.int (1 : Int32)] M bc bs) (cx : LC G M0 e sb) (hm : m < 4) (hi : i < 64) (h : JZ M0 M x g (zR3 m) 29280 z) (q : 186 ≤ bc) (r : 1296 ≤ bs) : am_J X 1002 [(1, .ref x), (3, .int (g 1)), (4, .int (sV g)), (8, .ref z)] [] M bc bs := by
  obtain ⟨S, c, hist, hO, k⟩ := JZ_g h
  obtain ⟨Bq, hB, hw⟩ := ow_gN hO
  have zz : md_it (zR3 m) ((1 : Int32)).toNatClampNeg = zR4 m := zx_1002
  have zv : md_it (zR3 m) ((1 : Int32)).toNatClampNeg 3 - (zR3 m) 3 = 0 := by
    rw [zz, show (zR4 m) 3 = 1 from rd_3, show (zR3 m) 3 = 1 from rd_3]
    rfl
  exact vL_law_1002 hX hM (fun x1 x3 x4 x8 M bc bs => am_J X 1011 [(1, .ref x1), (3, .int x3), (4, .int x4), (8, .ref x8)] [] M bc bs) (fun _ _ _ _ _ _ _ h => h) ⟨hB.1, by omega, by omega, c_adv (d := d + 4) hO (by omega) zq_642 (fun M1 G1 => ⟨fun _ => B_1011 hX hM cx hm hi (JZ_e (k G1) ((aC_1 _ _).trans zz)) (by omega) (by omega), fun y => absurd (zv) y⟩)⟩
theorem B_987 {X : am_Cx} {G : am_Gx} {d e sb x z m i : Nat} {M0 M : am_Hp} {g : md_R} {bc bs : Nat} (hX : am_ok X rL_law G (d + 12)) (hM : ∀ {pc : Nat} {lv : List (Nat × Value)} {M : am_Hp} {bc bs : Nat}, decode rL_law.2.1 pc = .ok (.ireturn, 1) → am_J X pc lv [.int (1 : Int32)] M bc bs) (cx : LC G M0 e sb) (hm : m < 4) (hi : i < 64) (h : JZ M0 M x g (zR2 m) 27450 z) (q : 187 ≤ bc) (r : 1302 ≤ bs) : am_J X 987 [(1, .ref x), (3, .int (g 1)), (4, .int (sV g)), (8, .ref z)] [] M bc bs := by
  obtain ⟨S, c, hist, hO, k⟩ := JZ_g h
  obtain ⟨Bq, hB, hw⟩ := ow_gN hO
  exact vL_law_987 hX hM (fun x1 x3 x4 x8 M bc bs => am_J X 1002 [(1, .ref x1), (3, .int x3), (4, .int x4), (8, .ref x8)] [] M bc bs) (fun _ _ _ _ _ _ _ h => h) ⟨hB.1, by omega, by omega, c_limit (d := d + 4) hO (by omega) (zq_987 m hm).1 (fun M1 G1 => ⟨fun _ => B_1002 hX hM cx hm hi (JZ_e (k G1) ((by rw [c0_1]; exact za_987))) (by omega) (by omega), fun y => absurd ((zq_987 m hm).2) y⟩)⟩
theorem B_977 {X : am_Cx} {G : am_Gx} {d e sb x z m i : Nat} {M0 M : am_Hp} {g : md_R} {bc bs : Nat} (hX : am_ok X rL_law G (d + 12)) (hM : ∀ {pc : Nat} {lv : List (Nat × Value)} {M : am_Hp} {bc bs : Nat}, decode rL_law.2.1 pc = .ok (.ireturn, 1) → am_J X pc lv [.int (1 : Int32)] M bc bs) (cx : LC G M0 e sb) (hm : m < 4) (hi : i < 64) (h : JZ M0 M x g (zR2 m) 27450 z) (q : 189 ≤ bc) (r : 1314 ≤ bs) : am_J X 977 [(1, .ref x), (3, .int (g 1)), (4, .int (sV g)), (8, .ref z)] [] M bc bs := by
  obtain ⟨S, c, hist, hO, k⟩ := JZ_g h
  obtain ⟨Bq, hB, hw⟩ := ow_gN hO
  exact vL_law_977 hX hM (fun x1 x3 x4 x8 M bc bs => am_J X 987 [(1, .ref x1), (3, .int x3), (4, .int x4), (8, .ref x8)] [] M bc bs) (fun _ _ _ _ _ _ _ h => h) ⟨hB.1, by omega, by omega, q_x1 (g_carOf (d := d + 8) hB hw) (zq_977 m hm) ⟨fun _ => B_987 hX hM cx hm hi (h) (by omega) (by omega), fun y => absurd rfl y⟩⟩
theorem B_963 {X : am_Cx} {G : am_Gx} {d e sb x z m i : Nat} {M0 M : am_Hp} {g : md_R} {bc bs : Nat} (hX : am_ok X rL_law G (d + 12)) (hM : ∀ {pc : Nat} {lv : List (Nat × Value)} {M : am_Hp} {bc bs : Nat}, decode rL_law.2.1 pc = .ok (.ireturn, 1) → am_J X pc lv [.int (1 : Int32)] M bc bs) (cx : LC G M0 e sb) (hm : m < 4) (hi : i < 64) (h : JZ M0 M x g (zR1 m) 25620 z) (q : 190 ≤ bc) (r : 1320 ≤ bs) : am_J X 963 [(1, .ref x), (3, .int (g 1)), (4, .int (sV g)), (8, .ref z)] [] M bc bs := by
  obtain ⟨S, c, hist, hO, k⟩ := JZ_g h
  obtain ⟨Bq, hB, hw⟩ := ow_gN hO
  exact vL_law_963 hX hM (fun x1 x3 x4 x8 M bc bs => am_J X 977 [(1, .ref x1), (3, .int x3), (4, .int x4), (8, .ref x8)] [] M bc bs) (fun _ _ _ _ _ _ _ h => h) ⟨hB.1, by omega, by omega, c_add (d := d + 4) hO (by omega) (zq_963 m hm).1 (fun M1 G1 => ⟨fun _ => B_977 hX hM cx hm hi (JZ_e (k G1) (za_963 hm)) (by omega) (by omega), fun y => absurd ((zq_963 m hm).2) y⟩)⟩
theorem B_954 {X : am_Cx} {G : am_Gx} {d e sb x z m i : Nat} {M0 M : am_Hp} {g : md_R} {bc bs : Nat} (hX : am_ok X rL_law G (d + 12)) (hM : ∀ {pc : Nat} {lv : List (Nat × Value)} {M : am_Hp} {bc bs : Nat}, decode rL_law.2.1 pc = .ok (.ireturn, 1) → am_J X pc lv [.int (1 : Int32)] M bc bs) (cx : LC G M0 e sb) (hm : m < 4) (hi : i < 64) (h : JZ M0 M x g (zF' m) 23790 z) (q : 191 ≤ bc) (r : 1326 ≤ bs) : am_J X 954 [(1, .ref x), (3, .int (g 1)), (4, .int (sV g)), (8, .ref z)] [] M bc bs := by
  obtain ⟨S, c, hist, hO, k⟩ := JZ_g h
  obtain ⟨Bq, hB, hw⟩ := ow_gN hO
  exact vL_law_954 hX hM (fun x1 x3 x4 x8 M bc bs => am_J X 963 [(1, .ref x1), (3, .int x3), (4, .int x4), (8, .ref x8)] [] M bc bs) (fun _ _ _ _ _ _ _ h => h) ⟨hB.1, by omega, by omega, c_stop6 (d := d + 4) hO (by omega) (zq_954 m hm).1 (fun M1 G1 => ⟨fun _ => B_963 hX hM cx hm hi (JZ_e (k G1) ((by rw [c0_0]; exact za_954))) (by omega) (by omega), fun y => absurd ((zq_954 m hm).2) y⟩)⟩
theorem B_943 {X : am_Cx} {G : am_Gx} {d e sb x z m i : Nat} {M0 M : am_Hp} {g : md_R} {bc bs : Nat} (hX : am_ok X rL_law G (d + 12)) (hM : ∀ {pc : Nat} {lv : List (Nat × Value)} {M : am_Hp} {bc bs : Nat}, decode rL_law.2.1 pc = .ok (.ireturn, 1) → am_J X pc lv [.int (1 : Int32)] M bc bs) (cx : LC G M0 e sb) (hm : m < 4) (hi : i < 64) (h : JZ M0 M x g (zF' m) 23790 z) (q : 192 ≤ bc) (r : 1332 ≤ bs) : am_J X 943 [(1, .ref x), (3, .int (g 1)), (4, .int (sV g)), (8, .ref z)] [] M bc bs := by
  obtain ⟨S, c, hist, hO, k⟩ := JZ_g h
  obtain ⟨Bq, hB, hw⟩ := ow_gN hO
  exact vL_law_943 hX hM (fun x1 x3 x4 x8 M bc bs => am_J X 954 [(1, .ref x1), (3, .int x3), (4, .int x4), (8, .ref x8)] [] M bc bs) (fun _ _ _ _ _ _ _ h => h) ⟨hB.1, by omega, by omega, q_x1 (g_carByEnergy (d := d + 7) hB hw (by omega)) (zq_943 m hm) ⟨fun _ => B_954 hX hM cx hm hi (h) (by omega) (by omega), fun y => absurd rfl y⟩⟩
theorem B_929 {X : am_Cx} {G : am_Gx} {d e sb x z m i : Nat} {M0 M : am_Hp} {g : md_R} {bc bs : Nat} (hX : am_ok X rL_law G (d + 12)) (hM : ∀ {pc : Nat} {lv : List (Nat × Value)} {M : am_Hp} {bc bs : Nat}, decode rL_law.2.1 pc = .ok (.ireturn, 1) → am_J X pc lv [.int (1 : Int32)] M bc bs) (cx : LC G M0 e sb) (hm : m < 4) (hi : i < 64) (h : JZ M0 M x g (zF' m) 23790 z) (q : 193 ≤ bc) (r : 1338 ≤ bs) : am_J X 929 [(1, .ref x), (3, .int (g 1)), (4, .int (sV g)), (6, .int (i3 (2 + m))), (8, .ref z)] [] M bc bs := by
  obtain ⟨S, c, hist, hO, k⟩ := JZ_g h
  obtain ⟨Bq, hB, hw⟩ := ow_gN hO
  exact vL_law_929 hX hM (fun x1 x3 x4 x8 M bc bs => am_J X 943 [(1, .ref x1), (3, .int x3), (4, .int x4), (8, .ref x8)] [] M bc bs) (fun _ _ _ _ _ _ _ h => h) ⟨hB.1, by omega, by omega, q_xd (g_meanWaiting (d := d + 10) hB (md_wf_ok hw)) (zq_929 m hm) ⟨fun _ => B_943 hX hM cx hm hi (h) (by omega) (by omega), fun y => absurd (zq_929b m hm) y⟩⟩
theorem B_909 {X : am_Cx} {G : am_Gx} {d e sb x z m i : Nat} {M0 M : am_Hp} {g : md_R} {bc bs : Nat} (hX : am_ok X rL_law G (d + 12)) (hM : ∀ {pc : Nat} {lv : List (Nat × Value)} {M : am_Hp} {bc bs : Nat}, decode rL_law.2.1 pc = .ok (.ireturn, 1) → am_J X pc lv [.int (1 : Int32)] M bc bs) (cx : LC G M0 e sb) (hm : m < 4) (hi : i < 64) (h : JZ M0 M x g (zF' m) 23790 z) (q : 193 ≤ bc) (r : 1338 ≤ bs) : am_J X 909 [(1, .ref x), (3, .int (g 1)), (4, .int (sV g)), (6, .int (i3 (2 + m))), (8, .ref z)] [] M bc bs := by
  obtain ⟨S, c, hist, hO, k⟩ := JZ_g h
  obtain ⟨Bq, hB, hw⟩ := ow_gN hO
  exact vL_law_909 hX hM (fun x1 x3 x4 x6 x8 M bc bs => am_J X 929 [(1, .ref x1), (3, .int x3), (4, .int x4), (6, .int x6), (8, .ref x8)] [] M bc bs) (fun _ _ _ _ _ _ _ _ h => h) ⟨hB.1, ct_l (g_totalEnergyByMoves (d := d + 9) hB (md_wf_ok hw)) ⟨fun _ => B_929 hX hM cx hm hi (h) (by omega) (by omega), fun y => absurd (lg_889 m hm).2 y⟩⟩
theorem B_889 {X : am_Cx} {G : am_Gx} {d e sb x z m i : Nat} {M0 M : am_Hp} {g : md_R} {bc bs : Nat} (hX : am_ok X rL_law G (d + 12)) (hM : ∀ {pc : Nat} {lv : List (Nat × Value)} {M : am_Hp} {bc bs : Nat}, decode rL_law.2.1 pc = .ok (.ireturn, 1) → am_J X pc lv [.int (1 : Int32)] M bc bs) (cx : LC G M0 e sb) (hm : m < 4) (hi : i < 64) (h : JZ M0 M x g (zF' m) 23790 z) (q : 193 ≤ bc) (r : 1338 ≤ bs) : am_J X 889 [(1, .ref x), (3, .int (g 1)), (4, .int (sV g)), (6, .int (i3 (2 + m))), (8, .ref z)] [] M bc bs := by
  obtain ⟨S, c, hist, hO, k⟩ := JZ_g h
  obtain ⟨Bq, hB, hw⟩ := ow_gN hO
  exact vL_law_889 hX hM (fun x1 x3 x4 x6 x8 M bc bs => am_J X 909 [(1, .ref x1), (3, .int x3), (4, .int x4), (6, .int x6), (8, .ref x8)] [] M bc bs) (fun _ _ _ _ _ _ _ _ h => h) ⟨hB.1, ct_l (g_totalEnergy (d := d + 9) hB (md_wf_ok hw)) ⟨fun _ => B_909 hX hM cx hm hi (h) (by omega) (by omega), fun y => absurd (lg_889 m hm).1 y⟩⟩
theorem B_880 {X : am_Cx} {G : am_Gx} {d e sb x z m i : Nat} {M0 M : am_Hp} {g : md_R} {bc bs : Nat} (hX : am_ok X rL_law G (d + 12)) (hM : ∀ {pc : Nat} {lv : List (Nat × Value)} {M : am_Hp} {bc bs : Nat}, decode rL_law.2.1 pc = .ok (.ireturn, 1) → am_J X pc lv [.int (1 : Int32)] M bc bs) (cx : LC G M0 e sb) (hm : m < 4) (hi : i < 64) (h : JZ M0 M x g (zF' m) 23790 z) (q : 193 ≤ bc) (r : 1338 ≤ bs) : am_J X 880 [(1, .ref x), (3, .int (g 1)), (4, .int (sV g)), (6, .int (i3 (2 + m))), (8, .ref z)] [] M bc bs := by
  obtain ⟨S, c, hist, hO, k⟩ := JZ_g h
  obtain ⟨Bq, hB, hw⟩ := ow_gN hO
  exact vL_law_880 hX hM (fun x1 x3 x4 x6 x8 M bc bs => am_J X 889 [(1, .ref x1), (3, .int x3), (4, .int x4), (6, .int x6), (8, .ref x8)] [] M bc bs) (fun _ _ _ _ _ _ _ _ h => h) ⟨hB.1, ct_i (g_doorOpenings (d := d + 10) hB (md_wf_ok hw)) ⟨fun _ => B_889 hX hM cx hm hi (h) (by omega) (by omega), fun y => absurd (zq_860 m hm).2.2 y⟩⟩
theorem B_870 {X : am_Cx} {G : am_Gx} {d e sb x z m i : Nat} {M0 M : am_Hp} {g : md_R} {bc bs : Nat} (hX : am_ok X rL_law G (d + 12)) (hM : ∀ {pc : Nat} {lv : List (Nat × Value)} {M : am_Hp} {bc bs : Nat}, decode rL_law.2.1 pc = .ok (.ireturn, 1) → am_J X pc lv [.int (1 : Int32)] M bc bs) (cx : LC G M0 e sb) (hm : m < 4) (hi : i < 64) (h : JZ M0 M x g (zF' m) 23790 z) (q : 193 ≤ bc) (r : 1338 ≤ bs) : am_J X 870 [(1, .ref x), (3, .int (g 1)), (4, .int (sV g)), (6, .int (i3 (2 + m))), (8, .ref z)] [] M bc bs := by
  obtain ⟨S, c, hist, hO, k⟩ := JZ_g h
  obtain ⟨Bq, hB, hw⟩ := ow_gN hO
  exact vL_law_870 hX hM (fun x1 x3 x4 x6 x8 M bc bs => am_J X 880 [(1, .ref x1), (3, .int x3), (4, .int x4), (6, .int x6), (8, .ref x8)] [] M bc bs) (fun _ _ _ _ _ _ _ _ h => h) ⟨hB.1, ct_i (g_floorsDown (d := d + 10) hB (md_wf_ok hw)) ⟨fun _ => B_880 hX hM cx hm hi (h) (by omega) (by omega), fun y => absurd (zq_860 m hm).2.1 y⟩⟩
theorem B_860 {X : am_Cx} {G : am_Gx} {d e sb x z m i : Nat} {M0 M : am_Hp} {g : md_R} {bc bs : Nat} (hX : am_ok X rL_law G (d + 12)) (hM : ∀ {pc : Nat} {lv : List (Nat × Value)} {M : am_Hp} {bc bs : Nat}, decode rL_law.2.1 pc = .ok (.ireturn, 1) → am_J X pc lv [.int (1 : Int32)] M bc bs) (cx : LC G M0 e sb) (hm : m < 4) (hi : i < 64) (h : JZ M0 M x g (zF' m) 23790 z) (q : 193 ≤ bc) (r : 1338 ≤ bs) : am_J X 860 [(1, .ref x), (3, .int (g 1)), (4, .int (sV g)), (6, .int (i3 (2 + m))), (8, .ref z)] [] M bc bs := by
  obtain ⟨S, c, hist, hO, k⟩ := JZ_g h
  obtain ⟨Bq, hB, hw⟩ := ow_gN hO
  exact vL_law_860 hX hM (fun x1 x3 x4 x6 x8 M bc bs => am_J X 870 [(1, .ref x1), (3, .int x3), (4, .int x4), (6, .int x6), (8, .ref x8)] [] M bc bs) (fun _ _ _ _ _ _ _ _ h => h) ⟨hB.1, ct_i (g_floorsUp (d := d + 10) hB (md_wf_ok hw)) ⟨fun _ => B_870 hX hM cx hm hi (h) (by omega) (by omega), fun y => absurd (zq_860 m hm).1 y⟩⟩
theorem B_847 {X : am_Cx} {G : am_Gx} {d e sb x z m i : Nat} {M0 M : am_Hp} {g : md_R} {bc bs : Nat} (hX : am_ok X rL_law G (d + 12)) (hM : ∀ {pc : Nat} {lv : List (Nat × Value)} {M : am_Hp} {bc bs : Nat}, decode rL_law.2.1 pc = .ok (.ireturn, 1) → am_J X pc lv [.int (1 : Int32)] M bc bs) (cx : LC G M0 e sb) (hm : m < 4) (hi : i < 64) (h : JZ M0 M x g (zF' m) 23790 z) (q : 194 ≤ bc) (r : 1344 ≤ bs) : am_J X 847 [(1, .ref x), (3, .int (g 1)), (4, .int (sV g)), (6, .int (i3 (2 + m))), (8, .ref z)] [] M bc bs := by
  obtain ⟨S, c, hist, hO, k⟩ := JZ_g h
  obtain ⟨Bq, hB, hw⟩ := ow_gN hO
  exact vL_law_847 hX hM (fun x1 x3 x4 x6 x8 M bc bs => am_J X 860 [(1, .ref x1), (3, .int x3), (4, .int x4), (6, .int x6), (8, .ref x8)] [] M bc bs) (fun _ _ _ _ _ _ _ _ h => h) ⟨hB.1, by omega, by omega, q_x1 (g_tripWaiting (d := d + 8) hB hw (by omega)) (zq_847 m hm) ⟨fun _ => B_860 hX hM cx hm hi (h) (by omega) (by omega), fun y => absurd rfl y⟩⟩
theorem B_838 {X : am_Cx} {G : am_Gx} {d e sb x z m i : Nat} {M0 M : am_Hp} {g : md_R} {bc bs : Nat} (hX : am_ok X rL_law G (d + 12)) (hM : ∀ {pc : Nat} {lv : List (Nat × Value)} {M : am_Hp} {bc bs : Nat}, decode rL_law.2.1 pc = .ok (.ireturn, 1) → am_J X pc lv [.int (1 : Int32)] M bc bs) (cx : LC G M0 e sb) (hm : m < 4) (hi : i < 64) (h : JZ M0 M x g (zF' m) 23790 z) (q : 195 ≤ bc) (r : 1350 ≤ bs) : am_J X 838 [(1, .ref x), (3, .int (g 1)), (4, .int (sV g)), (6, .int (i3 (2 + m))), (8, .ref z)] [] M bc bs := by
  obtain ⟨S, c, hist, hO, k⟩ := JZ_g h
  obtain ⟨Bq, hB, hw⟩ := ow_gN hO
  exact vL_law_838 hX hM (fun x1 x3 x4 x6 x8 M bc bs => am_J X 847 [(1, .ref x1), (3, .int x3), (4, .int x4), (6, .int x6), (8, .ref x8)] [] M bc bs) (fun _ _ _ _ _ _ _ _ h => h) ⟨hB.1, by omega, by omega, q_x1 (g_tripCar (d := d + 8) hB hw (by omega)) (zq_838 m hm) ⟨fun _ => B_847 hX hM cx hm hi (h) (by omega) (by omega), fun y => absurd rfl y⟩⟩
theorem B_828 {X : am_Cx} {G : am_Gx} {d e sb x z m i : Nat} {M0 M : am_Hp} {g : md_R} {bc bs : Nat} (hX : am_ok X rL_law G (d + 12)) (hM : ∀ {pc : Nat} {lv : List (Nat × Value)} {M : am_Hp} {bc bs : Nat}, decode rL_law.2.1 pc = .ok (.ireturn, 1) → am_J X pc lv [.int (1 : Int32)] M bc bs) (cx : LC G M0 e sb) (hm : m < 4) (hi : i < 64) (h : JZ M0 M x g (zF' m) 23790 z) (q : 196 ≤ bc) (r : 1356 ≤ bs) : am_J X 828 [(1, .ref x), (3, .int (g 1)), (4, .int (sV g)), (6, .int (i3 (2 + m))), (8, .ref z)] [] M bc bs := by
  obtain ⟨S, c, hist, hO, k⟩ := JZ_g h
  obtain ⟨Bq, hB, hw⟩ := ow_gN hO
  exact vL_law_828 hX hM (fun x1 x3 x4 x6 x8 M bc bs => am_J X 838 [(1, .ref x1), (3, .int x3), (4, .int x4), (6, .int x6), (8, .ref x8)] [] M bc bs) (fun _ _ _ _ _ _ _ _ h => h) ⟨hB.1, by omega, by omega, q_x1 (g_tripNumber (d := d + 8) hB hw (by omega)) (zq_828 m hm) ⟨fun _ => B_838 hX hM cx hm hi (h) (by omega) (by omega), fun y => absurd rfl y⟩⟩
theorem B_820 {X : am_Cx} {G : am_Gx} {d e sb x z m i : Nat} {M0 M : am_Hp} {g : md_R} {bc bs : Nat} (hX : am_ok X rL_law G (d + 12)) (hM : ∀ {pc : Nat} {lv : List (Nat × Value)} {M : am_Hp} {bc bs : Nat}, decode rL_law.2.1 pc = .ok (.ireturn, 1) → am_J X pc lv [.int (1 : Int32)] M bc bs) (cx : LC G M0 e sb) (hm : m < 4) (hi : i < 64) (h : JZ M0 M x g (zF' m) 23790 z) (q : 196 ≤ bc) (r : 1356 ≤ bs) : am_J X 820 [(1, .ref x), (3, .int (g 1)), (4, .int (sV g)), (6, .int (i3 (2 + m))), (8, .ref z)] [] M bc bs := by
  obtain ⟨S, c, hist, hO, k⟩ := JZ_g h
  obtain ⟨Bq, hB, hw⟩ := ow_gN hO
  exact vL_law_820 hX hM (fun x1 x3 x4 x6 x8 M bc bs => am_J X 828 [(1, .ref x1), (3, .int x3), (4, .int x4), (6, .int x6), (8, .ref x8)] [] M bc bs) (fun _ _ _ _ _ _ _ _ h => h) ⟨hB.1, ct_i (g_passengerCount (d := d + 10) hB (md_wf_ok hw)) ⟨fun _ => B_828 hX hM cx hm hi (h) (by omega) (by omega), fun y => absurd (zq_820 m hm) y⟩⟩
theorem B_808 {X : am_Cx} {G : am_Gx} {d e sb x z m i : Nat} {M0 M : am_Hp} {g : md_R} {bc bs : Nat} (hX : am_ok X rL_law G (d + 12)) (hM : ∀ {pc : Nat} {lv : List (Nat × Value)} {M : am_Hp} {bc bs : Nat}, decode rL_law.2.1 pc = .ok (.ireturn, 1) → am_J X pc lv [.int (1 : Int32)] M bc bs) (cx : LC G M0 e sb) (hm : m < 4) (hi : i < 64) (h : JZ M0 M x g (zW m i (2 + m + 2 + (2 + m)) (2 + m) 400 0 (-1)) 21960 z) (q : 197 ≤ bc) (r : 1362 ≤ bs) : am_J X 808 [(1, .ref x), (3, .int (g 1)), (4, .int (sV g)), (6, .int (i3 (2 + m))), (8, .ref z)] [] M bc bs := by
  obtain ⟨S, c, hist, hO, k⟩ := JZ_g h
  obtain ⟨Bq, hB, hw⟩ := ow_gN hO
  have zz : md_it (zW m i (2 + m + 2 + (2 + m)) (2 + m) 400 0 (-1)) ((1 : Int32)).toNatClampNeg = zE (2 + m) (2 + m + 2 + (2 + m) + 1) := za_808
  have zv : md_it (zW m i (2 + m + 2 + (2 + m)) (2 + m) 400 0 (-1)) ((1 : Int32)).toNatClampNeg 3 - (zW m i (2 + m + 2 + (2 + m)) (2 + m) 400 0 (-1)) 3 = 1 := by
    rw [zz, show (zE (2 + m) (2 + m + 2 + (2 + m) + 1)) 3 = 1 from rd_3, show (zW m i (2 + m + 2 + (2 + m)) (2 + m) 400 0 (-1)) 3 = 0 from rd_3]
    rfl
  exact vL_law_808 hX hM (fun x1 x3 x4 x6 x8 M bc bs => am_J X 820 [(1, .ref x1), (3, .int x3), (4, .int x4), (6, .int x6), (8, .ref x8)] [] M bc bs) (fun _ _ _ _ _ _ _ _ h => h) ⟨hB.1, by omega, by omega, c_adv (d := d + 4) hO (by omega) zq_642 (fun M1 G1 => ⟨fun _ => B_820 hX hM cx hm hi (JZ_e (k G1) ((aC_1 _ _).trans zz)) (by omega) (by omega), fun y => absurd (zv) y⟩)⟩
theorem B_798 {X : am_Cx} {G : am_Gx} {d e sb x z m i : Nat} {M0 M : am_Hp} {g : md_R} {bc bs : Nat} (hX : am_ok X rL_law G (d + 12)) (hM : ∀ {pc : Nat} {lv : List (Nat × Value)} {M : am_Hp} {bc bs : Nat}, decode rL_law.2.1 pc = .ok (.ireturn, 1) → am_J X pc lv [.int (1 : Int32)] M bc bs) (cx : LC G M0 e sb) (hm : m < 4) (hi : i < 64) (h : JZ M0 M x g (zW m i (2 + m + 2 + (2 + m)) (2 + m) 400 0 (-1)) 21960 z) (q : 198 ≤ bc) (r : 1368 ≤ bs) : am_J X 798 [(1, .ref x), (3, .int (g 1)), (4, .int (sV g)), (6, .int (i3 (2 + m))), (8, .ref z)] [] M bc bs := by
  obtain ⟨S, c, hist, hO, k⟩ := JZ_g h
  obtain ⟨Bq, hB, hw⟩ := ow_gN hO
  exact vL_law_798 hX hM (fun x1 x3 x4 x6 x8 M bc bs => am_J X 808 [(1, .ref x1), (3, .int x3), (4, .int x4), (6, .int x6), (8, .ref x8)] [] M bc bs) (fun _ _ _ _ _ _ _ _ h => h) ⟨hB.1, by omega, by omega, q_x1 (g_direction (d := d + 8) hB (md_wf_ok hw)) (zq_798 m hm i hi) ⟨fun _ => B_808 hX hM cx hm hi (h) (by omega) (by omega), fun y => absurd rfl y⟩⟩
theorem B_789 {X : am_Cx} {G : am_Gx} {d e sb x z m i : Nat} {M0 M : am_Hp} {g : md_R} {bc bs : Nat} (hX : am_ok X rL_law G (d + 12)) (hM : ∀ {pc : Nat} {lv : List (Nat × Value)} {M : am_Hp} {bc bs : Nat}, decode rL_law.2.1 pc = .ok (.ireturn, 1) → am_J X pc lv [.int (1 : Int32)] M bc bs) (cx : LC G M0 e sb) (hm : m < 4) (hi : i < 64) (h : JZ M0 M x g (zW m i (2 + m + 2 + (2 + m)) (2 + m) 400 0 (-1)) 21960 z) (q : 199 ≤ bc) (r : 1374 ≤ bs) : am_J X 789 [(1, .ref x), (3, .int (g 1)), (4, .int (sV g)), (6, .int (i3 (2 + m))), (8, .ref z)] [] M bc bs := by
  obtain ⟨S, c, hist, hO, k⟩ := JZ_g h
  obtain ⟨Bq, hB, hw⟩ := ow_gN hO
  exact vL_law_789 hX hM (fun x1 x3 x4 x6 x8 M bc bs => am_J X 798 [(1, .ref x1), (3, .int x3), (4, .int x4), (6, .int x6), (8, .ref x8)] [] M bc bs) (fun _ _ _ _ _ _ _ _ h => h) ⟨hB.1, by omega, by omega, q_x1 (g_floor (d := d + 8) hB (md_wf_ok hw)) (zq_789 m hm i hi) ⟨fun _ => B_798 hX hM cx hm hi (h) (by omega) (by omega), fun y => absurd rfl y⟩⟩
theorem B_779 {X : am_Cx} {G : am_Gx} {d e sb x z m i : Nat} {M0 M : am_Hp} {g : md_R} {bc bs : Nat} (hX : am_ok X rL_law G (d + 12)) (hM : ∀ {pc : Nat} {lv : List (Nat × Value)} {M : am_Hp} {bc bs : Nat}, decode rL_law.2.1 pc = .ok (.ireturn, 1) → am_J X pc lv [.int (1 : Int32)] M bc bs) (cx : LC G M0 e sb) (hm : m < 4) (hi : i < 64) (h : JZ M0 M x g (zW m i (2 + m + 2) 0 400 0 1) 20130 z) (q : 200 ≤ bc) (r : 1380 ≤ bs) : am_J X 779 [(1, .ref x), (3, .int (g 1)), (4, .int (sV g)), (6, .int (i3 (2 + m))), (8, .ref z)] [] M bc bs := by
  obtain ⟨S, c, hist, hO, k⟩ := JZ_g h
  obtain ⟨Bq, hB, hw⟩ := ow_gN hO
  have zz : md_it (zW m i (2 + m + 2) 0 400 0 1) (i3 (2 + m)).toNatClampNeg = zB (2 + m) (2 + m + 2 + (2 + m)) (2 + m) 400 0 (-1) (i3 (60 + i)) := za_779 hm
  have zv : md_it (zW m i (2 + m + 2) 0 400 0 1) (i3 (2 + m)).toNatClampNeg 3 - (zW m i (2 + m + 2) 0 400 0 1) 3 = 0 := by
    rw [zz, show (zB (2 + m) (2 + m + 2 + (2 + m)) (2 + m) 400 0 (-1) (i3 (60 + i))) 3 = 0 from rd_3, show (zW m i (2 + m + 2) 0 400 0 1) 3 = 0 from rd_3]
    rfl
  exact vL_law_779 hX hM (fun x1 x3 x4 x6 x8 M bc bs => am_J X 789 [(1, .ref x1), (3, .int x3), (4, .int x4), (6, .int x6), (8, .ref x8)] [] M bc bs) (fun _ _ _ _ _ _ _ _ h => h) ⟨hB.1, by omega, by omega, c_adv (d := d + 4) hO (by omega) (zq_558 m hm) (fun M1 G1 => ⟨fun _ => B_789 hX hM cx hm hi (JZ_e (k G1) ((aC_1 _ _).trans zz)) (by omega) (by omega), fun y => absurd (zv) y⟩)⟩
theorem B_770 {X : am_Cx} {G : am_Gx} {d e sb x z m i : Nat} {M0 M : am_Hp} {g : md_R} {bc bs : Nat} (hX : am_ok X rL_law G (d + 12)) (hM : ∀ {pc : Nat} {lv : List (Nat × Value)} {M : am_Hp} {bc bs : Nat}, decode rL_law.2.1 pc = .ok (.ireturn, 1) → am_J X pc lv [.int (1 : Int32)] M bc bs) (cx : LC G M0 e sb) (hm : m < 4) (hi : i < 64) (h : JZ M0 M x g (zW m i (2 + m + 2) 0 400 0 1) 20130 z) (q : 201 ≤ bc) (r : 1386 ≤ bs) : am_J X 770 [(1, .ref x), (3, .int (g 1)), (4, .int (sV g)), (6, .int (i3 (2 + m))), (8, .ref z)] [] M bc bs := by
  obtain ⟨S, c, hist, hO, k⟩ := JZ_g h
  obtain ⟨Bq, hB, hw⟩ := ow_gN hO
  exact vL_law_770 hX hM (fun x1 x3 x4 x6 x8 M bc bs => am_J X 779 [(1, .ref x1), (3, .int x3), (4, .int x4), (6, .int x6), (8, .ref x8)] [] M bc bs) (fun _ _ _ _ _ _ _ _ h => h) ⟨hB.1, by omega, by omega, q_x1 (g_doorSteps (d := d + 8) hB (md_wf_ok hw)) (zq_770 m hm i hi) ⟨fun _ => B_779 hX hM cx hm hi (h) (by omega) (by omega), fun y => absurd rfl y⟩⟩
theorem B_761 {X : am_Cx} {G : am_Gx} {d e sb x z m i : Nat} {M0 M : am_Hp} {g : md_R} {bc bs : Nat} (hX : am_ok X rL_law G (d + 12)) (hM : ∀ {pc : Nat} {lv : List (Nat × Value)} {M : am_Hp} {bc bs : Nat}, decode rL_law.2.1 pc = .ok (.ireturn, 1) → am_J X pc lv [.int (1 : Int32)] M bc bs) (cx : LC G M0 e sb) (hm : m < 4) (hi : i < 64) (h : JZ M0 M x g (zW m i (2 + m + 1) 0 400 1 1) 18300 z) (q : 202 ≤ bc) (r : 1392 ≤ bs) : am_J X 761 [(1, .ref x), (3, .int (g 1)), (4, .int (sV g)), (6, .int (i3 (2 + m))), (8, .ref z)] [] M bc bs := by
  obtain ⟨S, c, hist, hO, k⟩ := JZ_g h
  obtain ⟨Bq, hB, hw⟩ := ow_gN hO
  have zz : md_it (zW m i (2 + m + 1) 0 400 1 1) ((1 : Int32)).toNatClampNeg = zB (2 + m) (2 + m + 1 + 1) 0 400 0 1 (i3 (60 + i)) := za_761 hm
  have zv : md_it (zW m i (2 + m + 1) 0 400 1 1) ((1 : Int32)).toNatClampNeg 3 - (zW m i (2 + m + 1) 0 400 1 1) 3 = 0 := by
    rw [zz, show (zB (2 + m) (2 + m + 1 + 1) 0 400 0 1 (i3 (60 + i))) 3 = 0 from rd_3, show (zW m i (2 + m + 1) 0 400 1 1) 3 = 0 from rd_3]
    rfl
  exact vL_law_761 hX hM (fun x1 x3 x4 x6 x8 M bc bs => am_J X 770 [(1, .ref x1), (3, .int x3), (4, .int x4), (6, .int x6), (8, .ref x8)] [] M bc bs) (fun _ _ _ _ _ _ _ _ h => h) ⟨hB.1, by omega, by omega, c_adv (d := d + 4) hO (by omega) zq_642 (fun M1 G1 => ⟨fun _ => B_770 hX hM cx hm hi (JZ_e (k G1) ((aC_1 _ _).trans zz)) (by omega) (by omega), fun y => absurd (zv) y⟩)⟩
theorem B_750 {X : am_Cx} {G : am_Gx} {d e sb x z m i : Nat} {M0 M : am_Hp} {g : md_R} {bc bs : Nat} (hX : am_ok X rL_law G (d + 12)) (hM : ∀ {pc : Nat} {lv : List (Nat × Value)} {M : am_Hp} {bc bs : Nat}, decode rL_law.2.1 pc = .ok (.ireturn, 1) → am_J X pc lv [.int (1 : Int32)] M bc bs) (cx : LC G M0 e sb) (hm : m < 4) (hi : i < 64) (h : JZ M0 M x g (zW m i (2 + m + 1) 0 400 2 1) 16470 z) (q : 203 ≤ bc) (r : 1398 ≤ bs) : am_J X 750 [(1, .ref x), (3, .int (g 1)), (4, .int (sV g)), (6, .int (i3 (2 + m))), (8, .ref z)] [] M bc bs := by
  obtain ⟨S, c, hist, hO, k⟩ := JZ_g h
  obtain ⟨Bq, hB, hw⟩ := ow_gN hO
  exact vL_law_750 hX hM (fun x1 x3 x4 x6 x8 M bc bs => am_J X 761 [(1, .ref x1), (3, .int x3), (4, .int x4), (6, .int x6), (8, .ref x8)] [] M bc bs) (fun _ _ _ _ _ _ _ _ h => h) ⟨hB.1, by omega, by omega, c_hold (d := d + 4) hO (by omega) (zq_750 m hm i hi) (fun M1 G1 => ⟨fun _ => B_761 hX hM cx hm hi (JZ_e (k G1) ((by rw [c0_0]; exact zw_s))) (by omega) (by omega), fun y => absurd (rfl) y⟩)⟩
theorem B_736 {X : am_Cx} {G : am_Gx} {d e sb x z m i : Nat} {M0 M : am_Hp} {g : md_R} {bc bs : Nat} (hX : am_ok X rL_law G (d + 12)) (hM : ∀ {pc : Nat} {lv : List (Nat × Value)} {M : am_Hp} {bc bs : Nat}, decode rL_law.2.1 pc = .ok (.ireturn, 1) → am_J X pc lv [.int (1 : Int32)] M bc bs) (cx : LC G M0 e sb) (hm : m < 4) (hi : i < 64) {cp : Int32} (hcp : cp = 100 ∨ cp = 400) (h : JZ M0 M x g (zW m i (2 + m + 1) 0 cp 2 1) 14640 z) (q : 204 ≤ bc) (r : 1404 ≤ bs) : am_J X 736 [(1, .ref x), (3, .int (g 1)), (4, .int (sV g)), (6, .int (i3 (2 + m))), (8, .ref z)] [] M bc bs := by
  obtain ⟨S, c, hist, hO, k⟩ := JZ_g h
  obtain ⟨Bq, hB, hw⟩ := ow_gN hO
  have hrf : rf_limit (zW m i (2 + m + 1) 0 cp 2 1) 0 400 = 0 := by rcases hcp with rfl | rfl; exact (zq_736 m hm i hi).1; exact (zq_736 m hm i hi).2
  exact vL_law_736 hX hM (fun x1 x3 x4 x6 x8 M bc bs => am_J X 750 [(1, .ref x1), (3, .int x3), (4, .int x4), (6, .int x6), (8, .ref x8)] [] M bc bs) (fun _ _ _ _ _ _ _ _ h => h) ⟨hB.1, by omega, by omega, c_limit (d := d + 4) hO (by omega) hrf (fun M1 G1 => ⟨fun y => absurd (show cp < 100 from y) (by rcases hcp with rfl | rfl <;> decide), fun _ => B_750 hX hM cx hm hi (JZ_e (k G1) (by rw [c0_0]; exact zw_cp)) (by omega) (by omega)⟩)⟩
theorem B_733 {X : am_Cx} {G : am_Gx} {d e sb x z m i : Nat} {M0 M : am_Hp} {g : md_R} {bc bs : Nat} (hX : am_ok X rL_law G (d + 12)) (hM : ∀ {pc : Nat} {lv : List (Nat × Value)} {M : am_Hp} {bc bs : Nat}, decode rL_law.2.1 pc = .ok (.ireturn, 1) → am_J X pc lv [.int (1 : Int32)] M bc bs) (cx : LC G M0 e sb) (hm : m < 4) (hi : i < 64) {cp : Int32} (hcp : cp = 100 ∨ cp = 400) {s : Int32} (h : JZ M0 M x g (zW m i (2 + m + 1) 0 cp 2 1) 14640 z) (q : 204 ≤ bc) (r : 1404 ≤ bs) : am_J X 733 [(1, .ref x), (3, .int (g 1)), (4, .int (sV g)), (6, .int (i3 (2 + m))), (8, .ref z)] [.int s, .int s] M bc bs := by
  obtain ⟨S, c, hist, hO, k⟩ := JZ_g h
  obtain ⟨Bq, hB, hw⟩ := ow_gN hO
  exact vL_law_733 hX hM (fun x1 x3 x4 x6 x8 M bc bs => am_J X 736 [(1, .ref x1), (3, .int x3), (4, .int x4), (6, .int x6), (8, .ref x8)] [] M bc bs) (fun _ _ _ _ _ _ _ _ h => h) ⟨fun _ => B_736 hX hM cx hm hi hcp h (by omega) (by omega), fun y => absurd rfl y⟩
theorem B_708 {X : am_Cx} {G : am_Gx} {d e sb x z m i : Nat} {M0 M : am_Hp} {g : md_R} {bc bs : Nat} (hX : am_ok X rL_law G (d + 12)) (hM : ∀ {pc : Nat} {lv : List (Nat × Value)} {M : am_Hp} {bc bs : Nat}, decode rL_law.2.1 pc = .ok (.ireturn, 1) → am_J X pc lv [.int (1 : Int32)] M bc bs) (cx : LC G M0 e sb) (hm : m < 4) (hi : i < 64) (h : JZ M0 M x g (zW m i (2 + m + 1) 0 400 2 1) 12810 z) (q : 205 ≤ bc) (r : 1410 ≤ bs) : am_J X 708 [(1, .ref x), (3, .int (g 1)), (4, .int (sV g)), (6, .int (i3 (2 + m))), (7, .int (i3 (60 + i))), (8, .ref z)] [] M bc bs := by
  obtain ⟨S, c, hist, hO, k⟩ := JZ_g h
  obtain ⟨Bq, hB, hw⟩ := ow_gN hO
  refine vL_law_708 hX hM (fun x1 x3 x4 x6 x8 y0 y1 M bc bs => am_J X 733 [(1, .ref x1), (3, .int x3), (4, .int x4), (6, .int x6), (8, .ref x8)] [.int y0, .int y1] M bc bs) (fun _ _ _ _ _ _ _ _ _ _ h => h) ⟨by omega, by omega, c_act0 (d := d + 3) hO (by omega) (fun M1 G1 => ⟨fun z9 => ?_, fun z9 => ?_⟩)⟩
  · have ea : aN (zW m i (2 + m + 1) 0 400 2 1) 5 0 100 0 = 0 := by rw [zq_708 m hm i hi, if_pos z9]
    have ev : aV (aN ((zW m i (2 + m + 1) 0 400 2 1), c, hist).1 5 0 100 0) (aW ((zW m i (2 + m + 1) 0 400 2 1), c, hist).1 5 0 100) = 400 := by
      show aV (aN (zW m i (2 + m + 1) 0 400 2 1) 5 0 100 0) (aW (zW m i (2 + m + 1) 0 400 2 1) 5 0 100) = 400
      rw [ea]
      rfl
    have es : (aS ((zW m i (2 + m + 1) 0 400 2 1), c, hist) 5 0 100 0).1 = zW m i (2 + m + 1) 0 100 2 1 := by
      show (aC (aN (zW m i (2 + m + 1) 0 400 2 1) 5 0 100 0) (aG (zW m i (2 + m + 1) 0 400 2 1) 5 0 100 0) ((zW m i (2 + m + 1) 0 400 2 1), c, hist)).1 = _
      rw [ea]
      show va_up (zW m i (2 + m + 1) 0 400 2 1) (15 + (0 : Int32).toNatClampNeg) 100 = _
      rw [c0_0]
      exact zw_cp
    rw [ev]
    exact B_733 hX hM cx hm hi (.inl rfl) (JZ_e (k G1) es) (by omega) (by omega)
  · have ea : aN ((zW m i (2 + m + 1) 0 400 2 1), c, hist).1 5 0 100 0 = 4 := (zq_708 m hm i hi).trans (if_neg z9)
    rw [aS_r ea (by decide)] at G1
    rw [ea]
    exact B_733 hX hM cx hm hi (.inr rfl) (k G1) (by omega) (by omega)
theorem B_694 {X : am_Cx} {G : am_Gx} {d e sb x z m i : Nat} {M0 M : am_Hp} {g : md_R} {bc bs : Nat} (hX : am_ok X rL_law G (d + 12)) (hM : ∀ {pc : Nat} {lv : List (Nat × Value)} {M : am_Hp} {bc bs : Nat}, decode rL_law.2.1 pc = .ok (.ireturn, 1) → am_J X pc lv [.int (1 : Int32)] M bc bs) (cx : LC G M0 e sb) (hm : m < 4) (hi : i < 64) (h : JZ M0 M x g (zW m i (2 + m + 1) 0 400 2 1) 10980 z) (q : 206 ≤ bc) (r : 1416 ≤ bs) : am_J X 694 [(1, .ref x), (3, .int (g 1)), (4, .int (sV g)), (6, .int (i3 (2 + m))), (7, .int (i3 (60 + i))), (8, .ref z)] [] M bc bs := by
  obtain ⟨S, c, hist, hO, k⟩ := JZ_g h
  obtain ⟨Bq, hB, hw⟩ := ow_gN hO
  have ea : aN ((zW m i (2 + m + 1) 0 400 2 1), c, hist).1 1 0 0 0 = _ := (zq_694 m hm i hi)
  exact vL_law_694 hX hM (fun x1 x3 x4 x6 x7 x8 M bc bs => am_J X 708 [(1, .ref x1), (3, .int x3), (4, .int x4), (6, .int x6), (7, .int x7), (8, .ref x8)] [] M bc bs) (fun _ _ _ _ _ _ _ _ _ h => h) ⟨by omega, by omega, c_act0 (d := d + 3) hO (by omega) (fun M1 G1 => by
    rw [aS_r ea (by decide)] at G1
    rw [ea]
    exact ⟨fun _ => B_708 hX hM cx hm hi (k G1) (by omega) (by omega), fun y => absurd rfl y⟩)⟩
theorem B_683 {X : am_Cx} {G : am_Gx} {d e sb x z m i : Nat} {M0 M : am_Hp} {g : md_R} {bc bs : Nat} (hX : am_ok X rL_law G (d + 12)) (hM : ∀ {pc : Nat} {lv : List (Nat × Value)} {M : am_Hp} {bc bs : Nat}, decode rL_law.2.1 pc = .ok (.ireturn, 1) → am_J X pc lv [.int (1 : Int32)] M bc bs) (cx : LC G M0 e sb) (hm : m < 4) (hi : i < 64) (h : JZ M0 M x g (zW m i (2 + m + 1) 0 400 2 1) 10980 z) (q : 207 ≤ bc) (r : 1422 ≤ bs) : am_J X 683 [(1, .ref x), (3, .int (g 1)), (4, .int (sV g)), (6, .int (i3 (2 + m))), (7, .int (i3 (60 + i))), (8, .ref z)] [] M bc bs := by
  obtain ⟨S, c, hist, hO, k⟩ := JZ_g h
  obtain ⟨Bq, hB, hw⟩ := ow_gN hO
  exact vL_law_683 hX hM (fun x1 x3 x4 x6 x7 x8 M bc bs => am_J X 694 [(1, .ref x1), (3, .int x3), (4, .int x4), (6, .int x6), (7, .int x7), (8, .ref x8)] [] M bc bs) (fun _ _ _ _ _ _ _ _ _ h => h) ⟨hB.1, by omega, by omega, q_x1 (g_load (d := d + 8) hB (md_wf_ok hw)) (zq_683 m hm i hi) ⟨fun _ => B_694 hX hM cx hm hi (h) (by omega) (by omega), fun y => absurd rfl y⟩⟩
theorem B_670 {X : am_Cx} {G : am_Gx} {d e sb x z m i : Nat} {M0 M : am_Hp} {g : md_R} {bc bs : Nat} (hX : am_ok X rL_law G (d + 12)) (hM : ∀ {pc : Nat} {lv : List (Nat × Value)} {M : am_Hp} {bc bs : Nat}, decode rL_law.2.1 pc = .ok (.ireturn, 1) → am_J X pc lv [.int (1 : Int32)] M bc bs) (cx : LC G M0 e sb) (hm : m < 4) (hi : i < 64) (h : JZ M0 M x g (zW m i (2 + m + 1) 0 400 2 1) 10980 z) (q : 208 ≤ bc) (r : 1428 ≤ bs) : am_J X 670 [(1, .ref x), (3, .int (g 1)), (4, .int (sV g)), (6, .int (i3 (2 + m))), (7, .int (i3 (60 + i))), (8, .ref z)] [] M bc bs := by
  obtain ⟨S, c, hist, hO, k⟩ := JZ_g h
  obtain ⟨Bq, hB, hw⟩ := ow_gN hO
  exact vL_law_670 hX hM (fun x1 x3 x4 x6 x7 x8 M bc bs => am_J X 683 [(1, .ref x1), (3, .int x3), (4, .int x4), (6, .int x6), (7, .int x7), (8, .ref x8)] [] M bc bs) (fun _ _ _ _ _ _ _ _ _ h => h) ⟨hB.1, by omega, by omega, q_x1 (g_waitingTime (d := d + 8) hB (md_wf_ok hw)) (zq_670 m hm i hi) ⟨fun _ => B_683 hX hM cx hm hi (h) (by omega) (by omega), fun y => absurd rfl y⟩⟩
theorem B_660 {X : am_Cx} {G : am_Gx} {d e sb x z m i : Nat} {M0 M : am_Hp} {g : md_R} {bc bs : Nat} (hX : am_ok X rL_law G (d + 12)) (hM : ∀ {pc : Nat} {lv : List (Nat × Value)} {M : am_Hp} {bc bs : Nat}, decode rL_law.2.1 pc = .ok (.ireturn, 1) → am_J X pc lv [.int (1 : Int32)] M bc bs) (cx : LC G M0 e sb) (hm : m < 4) (hi : i < 64) (h : JZ M0 M x g (zW m i (2 + m + 1) 0 400 2 1) 10980 z) (q : 209 ≤ bc) (r : 1434 ≤ bs) : am_J X 660 [(1, .ref x), (3, .int (g 1)), (4, .int (sV g)), (6, .int (i3 (2 + m))), (7, .int (i3 (60 + i))), (8, .ref z)] [] M bc bs := by
  obtain ⟨S, c, hist, hO, k⟩ := JZ_g h
  obtain ⟨Bq, hB, hw⟩ := ow_gN hO
  exact vL_law_660 hX hM (fun x1 x3 x4 x6 x7 x8 M bc bs => am_J X 670 [(1, .ref x1), (3, .int x3), (4, .int x4), (6, .int x6), (7, .int x7), (8, .ref x8)] [] M bc bs) (fun _ _ _ _ _ _ _ _ _ h => h) ⟨hB.1, by omega, by omega, q_x1 (g_doorSteps (d := d + 8) hB (md_wf_ok hw)) (zq_660 m hm i hi) ⟨fun _ => B_670 hX hM cx hm hi (h) (by omega) (by omega), fun y => absurd rfl y⟩⟩
theorem B_651 {X : am_Cx} {G : am_Gx} {d e sb x z m i : Nat} {M0 M : am_Hp} {g : md_R} {bc bs : Nat} (hX : am_ok X rL_law G (d + 12)) (hM : ∀ {pc : Nat} {lv : List (Nat × Value)} {M : am_Hp} {bc bs : Nat}, decode rL_law.2.1 pc = .ok (.ireturn, 1) → am_J X pc lv [.int (1 : Int32)] M bc bs) (cx : LC G M0 e sb) (hm : m < 4) (hi : i < 64) (h : JZ M0 M x g (zW m i (2 + m + 1) 0 400 2 1) 10980 z) (q : 210 ≤ bc) (r : 1440 ≤ bs) : am_J X 651 [(1, .ref x), (3, .int (g 1)), (4, .int (sV g)), (6, .int (i3 (2 + m))), (7, .int (i3 (60 + i))), (8, .ref z)] [] M bc bs := by
  obtain ⟨S, c, hist, hO, k⟩ := JZ_g h
  obtain ⟨Bq, hB, hw⟩ := ow_gN hO
  exact vL_law_651 hX hM (fun x1 x3 x4 x6 x7 x8 M bc bs => am_J X 660 [(1, .ref x1), (3, .int x3), (4, .int x4), (6, .int x6), (7, .int x7), (8, .ref x8)] [] M bc bs) (fun _ _ _ _ _ _ _ _ _ h => h) ⟨hB.1, by omega, by omega, q_x1 (g_isInCar (d := d + 8) hB hw) (zq_651 m hm i hi) ⟨fun y => absurd y (by decide), fun _ => B_660 hX hM cx hm hi (h) (by omega) (by omega)⟩⟩
theorem B_642 {X : am_Cx} {G : am_Gx} {d e sb x z m i : Nat} {M0 M : am_Hp} {g : md_R} {bc bs : Nat} (hX : am_ok X rL_law G (d + 12)) (hM : ∀ {pc : Nat} {lv : List (Nat × Value)} {M : am_Hp} {bc bs : Nat}, decode rL_law.2.1 pc = .ok (.ireturn, 1) → am_J X pc lv [.int (1 : Int32)] M bc bs) (cx : LC G M0 e sb) (hm : m < 4) (hi : i < 64) (h : JZ M0 M x g (zV m i) 9150 z) (q : 211 ≤ bc) (r : 1446 ≤ bs) : am_J X 642 [(1, .ref x), (3, .int (g 1)), (4, .int (sV g)), (6, .int (i3 (2 + m))), (7, .int (i3 (60 + i))), (8, .ref z)] [] M bc bs := by
  obtain ⟨S, c, hist, hO, k⟩ := JZ_g h
  obtain ⟨Bq, hB, hw⟩ := ow_gN hO
  have zz : md_it (zV m i) ((1 : Int32)).toNatClampNeg = zB (2 + m) (2 + m + 1) 0 400 2 1 (i3 (60 + i)) := za_642 hm hi
  have zv : md_it (zV m i) ((1 : Int32)).toNatClampNeg 3 - (zV m i) 3 = 0 := by
    rw [zz, show (zB (2 + m) (2 + m + 1) 0 400 2 1 (i3 (60 + i))) 3 = 0 from rd_3, show (zV m i) 3 = 0 from rd_3]
    rfl
  exact vL_law_642 hX hM (fun x1 x3 x4 x6 x7 x8 M bc bs => am_J X 651 [(1, .ref x1), (3, .int x3), (4, .int x4), (6, .int x6), (7, .int x7), (8, .ref x8)] [] M bc bs) (fun _ _ _ _ _ _ _ _ _ h => h) ⟨hB.1, by omega, by omega, c_adv (d := d + 4) hO (by omega) zq_642 (fun M1 G1 => ⟨fun _ => B_651 hX hM cx hm hi (JZ_e (k G1) ((aC_1 _ _).trans zz)) (by omega) (by omega), fun y => absurd (zv) y⟩)⟩
theorem B_628 {X : am_Cx} {G : am_Gx} {d e sb x z m i : Nat} {M0 M : am_Hp} {g : md_R} {bc bs : Nat} (hX : am_ok X rL_law G (d + 12)) (hM : ∀ {pc : Nat} {lv : List (Nat × Value)} {M : am_Hp} {bc bs : Nat}, decode rL_law.2.1 pc = .ok (.ireturn, 1) → am_J X pc lv [.int (1 : Int32)] M bc bs) (cx : LC G M0 e sb) (hm : m < 4) (hi : i < 64) (h : JZ M0 M x g (zV m i) 9150 z) (q : 213 ≤ bc) (r : 1458 ≤ bs) : am_J X 628 [(1, .ref x), (3, .int (g 1)), (4, .int (sV g)), (6, .int (i3 (2 + m))), (7, .int (i3 (60 + i))), (8, .ref z)] [] M bc bs := by
  obtain ⟨S, c, hist, hO, k⟩ := JZ_g h
  obtain ⟨Bq, hB, hw⟩ := ow_gN hO
  exact vL_law_628 hX hM (fun x1 x3 x4 x6 x7 x8 M bc bs => am_J X 642 [(1, .ref x1), (3, .int x3), (4, .int x4), (6, .int x6), (7, .int x7), (8, .ref x8)] [] M bc bs) (fun _ _ _ _ _ _ _ _ _ h => h) ⟨hB.1, by omega, by omega, q_x1 (g_estimateByWalk (d := d + 8) hB hw) (zq_616 m hm i hi) ⟨fun _ => B_642 hX hM cx hm hi (h) (by omega) (by omega), fun y => absurd rfl y⟩⟩
theorem B_616 {X : am_Cx} {G : am_Gx} {d e sb x z m i : Nat} {M0 M : am_Hp} {g : md_R} {bc bs : Nat} (hX : am_ok X rL_law G (d + 12)) (hM : ∀ {pc : Nat} {lv : List (Nat × Value)} {M : am_Hp} {bc bs : Nat}, decode rL_law.2.1 pc = .ok (.ireturn, 1) → am_J X pc lv [.int (1 : Int32)] M bc bs) (cx : LC G M0 e sb) (hm : m < 4) (hi : i < 64) (h : JZ M0 M x g (zV m i) 9150 z) (q : 215 ≤ bc) (r : 1470 ≤ bs) : am_J X 616 [(1, .ref x), (3, .int (g 1)), (4, .int (sV g)), (6, .int (i3 (2 + m))), (7, .int (i3 (60 + i))), (8, .ref z)] [] M bc bs := by
  obtain ⟨S, c, hist, hO, k⟩ := JZ_g h
  obtain ⟨Bq, hB, hw⟩ := ow_gN hO
  exact vL_law_616 hX hM (fun x1 x3 x4 x6 x7 x8 M bc bs => am_J X 628 [(1, .ref x1), (3, .int x3), (4, .int x4), (6, .int x6), (7, .int x7), (8, .ref x8)] [] M bc bs) (fun _ _ _ _ _ _ _ _ _ h => h) ⟨hB.1, by omega, by omega, q_x1 (g_estimate (d := d + 8) hB hw) (zq_616 m hm i hi) ⟨fun _ => B_628 hX hM cx hm hi (h) (by omega) (by omega), fun y => absurd rfl y⟩⟩
theorem B_602 {X : am_Cx} {G : am_Gx} {d e sb x z m i : Nat} {M0 M : am_Hp} {g : md_R} {bc bs : Nat} (hX : am_ok X rL_law G (d + 12)) (hM : ∀ {pc : Nat} {lv : List (Nat × Value)} {M : am_Hp} {bc bs : Nat}, decode rL_law.2.1 pc = .ok (.ireturn, 1) → am_J X pc lv [.int (1 : Int32)] M bc bs) (cx : LC G M0 e sb) (hm : m < 4) (hi : i < 64) (h : JZ M0 M x g (zV m i) 9150 z) (q : 217 ≤ bc) (r : 1482 ≤ bs) : am_J X 602 [(1, .ref x), (3, .int (g 1)), (4, .int (sV g)), (6, .int (i3 (2 + m))), (7, .int (i3 (60 + i))), (8, .ref z)] [] M bc bs := by
  obtain ⟨S, c, hist, hO, k⟩ := JZ_g h
  obtain ⟨Bq, hB, hw⟩ := ow_gN hO
  exact vL_law_602 hX hM (fun x1 x3 x4 x6 x7 x8 M bc bs => am_J X 616 [(1, .ref x1), (3, .int x3), (4, .int x4), (6, .int x6), (7, .int x7), (8, .ref x8)] [] M bc bs) (fun _ _ _ _ _ _ _ _ _ h => h) ⟨hB.1, by omega, by omega, q_x1 (g_estimate (d := d + 8) hB hw) (zq_602 m hm i hi) ⟨fun _ => B_616 hX hM cx hm hi (h) (by omega) (by omega), fun y => absurd rfl y⟩⟩
theorem B_589 {X : am_Cx} {G : am_Gx} {d e sb x z m i : Nat} {M0 M : am_Hp} {g : md_R} {bc bs : Nat} (hX : am_ok X rL_law G (d + 12)) (hM : ∀ {pc : Nat} {lv : List (Nat × Value)} {M : am_Hp} {bc bs : Nat}, decode rL_law.2.1 pc = .ok (.ireturn, 1) → am_J X pc lv [.int (1 : Int32)] M bc bs) (cx : LC G M0 e sb) (hm : m < 4) (hi : i < 64) (h : JZ M0 M x g (zV m i) 9150 z) (q : 218 ≤ bc) (r : 1488 ≤ bs) : am_J X 589 [(1, .ref x), (3, .int (g 1)), (4, .int (sV g)), (6, .int (i3 (2 + m))), (7, .int (i3 (60 + i))), (8, .ref z)] [] M bc bs := by
  obtain ⟨S, c, hist, hO, k⟩ := JZ_g h
  obtain ⟨Bq, hB, hw⟩ := ow_gN hO
  exact vL_law_589 hX hM (fun x1 x3 x4 x6 x7 x8 M bc bs => am_J X 602 [(1, .ref x1), (3, .int x3), (4, .int x4), (6, .int x6), (7, .int x7), (8, .ref x8)] [] M bc bs) (fun _ _ _ _ _ _ _ _ _ h => h) ⟨hB.1, by omega, by omega, q_x1 (g_energy (d := d + 8) hB (md_wf_ok hw)) (zq_589 m hm i hi) ⟨fun _ => B_602 hX hM cx hm hi (h) (by omega) (by omega), fun y => absurd rfl y⟩⟩
theorem B_579 {X : am_Cx} {G : am_Gx} {d e sb x z m i : Nat} {M0 M : am_Hp} {g : md_R} {bc bs : Nat} (hX : am_ok X rL_law G (d + 12)) (hM : ∀ {pc : Nat} {lv : List (Nat × Value)} {M : am_Hp} {bc bs : Nat}, decode rL_law.2.1 pc = .ok (.ireturn, 1) → am_J X pc lv [.int (1 : Int32)] M bc bs) (cx : LC G M0 e sb) (hm : m < 4) (hi : i < 64) (h : JZ M0 M x g (zV m i) 9150 z) (q : 219 ≤ bc) (r : 1494 ≤ bs) : am_J X 579 [(1, .ref x), (3, .int (g 1)), (4, .int (sV g)), (6, .int (i3 (2 + m))), (7, .int (i3 (60 + i))), (8, .ref z)] [] M bc bs := by
  obtain ⟨S, c, hist, hO, k⟩ := JZ_g h
  obtain ⟨Bq, hB, hw⟩ := ow_gN hO
  exact vL_law_579 hX hM (fun x1 x3 x4 x6 x7 x8 M bc bs => am_J X 589 [(1, .ref x1), (3, .int x3), (4, .int x4), (6, .int x6), (7, .int x7), (8, .ref x8)] [] M bc bs) (fun _ _ _ _ _ _ _ _ _ h => h) ⟨hB.1, by omega, by omega, q_x1 (g_direction (d := d + 8) hB (md_wf_ok hw)) (zq_579 m hm i hi) ⟨fun _ => B_589 hX hM cx hm hi (h) (by omega) (by omega), fun y => absurd rfl y⟩⟩
theorem B_568 {X : am_Cx} {G : am_Gx} {d e sb x z m i : Nat} {M0 M : am_Hp} {g : md_R} {bc bs : Nat} (hX : am_ok X rL_law G (d + 12)) (hM : ∀ {pc : Nat} {lv : List (Nat × Value)} {M : am_Hp} {bc bs : Nat}, decode rL_law.2.1 pc = .ok (.ireturn, 1) → am_J X pc lv [.int (1 : Int32)] M bc bs) (cx : LC G M0 e sb) (hm : m < 4) (hi : i < 64) (h : JZ M0 M x g (zV m i) 9150 z) (q : 220 ≤ bc) (r : 1500 ≤ bs) : am_J X 568 [(1, .ref x), (3, .int (g 1)), (4, .int (sV g)), (6, .int (i3 (2 + m))), (7, .int (i3 (60 + i))), (8, .ref z)] [] M bc bs := by
  obtain ⟨S, c, hist, hO, k⟩ := JZ_g h
  obtain ⟨Bq, hB, hw⟩ := ow_gN hO
  exact vL_law_568 hX hM (fun x1 x3 x4 x6 x7 x8 M bc bs => am_J X 579 [(1, .ref x1), (3, .int x3), (4, .int x4), (6, .int x6), (7, .int x7), (8, .ref x8)] [] M bc bs) (fun _ _ _ _ _ _ _ _ _ h => h) ⟨hB.1, by omega, by omega, q_x1 (g_floor (d := d + 8) hB (md_wf_ok hw)) (zq_568 m hm i hi) ⟨fun _ => B_579 hX hM cx hm hi (h) (by omega) (by omega), fun y => absurd rfl y⟩⟩
theorem B_558 {X : am_Cx} {G : am_Gx} {d e sb x z m i : Nat} {M0 M : am_Hp} {g : md_R} {bc bs : Nat} (hX : am_ok X rL_law G (d + 12)) (hM : ∀ {pc : Nat} {lv : List (Nat × Value)} {M : am_Hp} {bc bs : Nat}, decode rL_law.2.1 pc = .ok (.ireturn, 1) → am_J X pc lv [.int (1 : Int32)] M bc bs) (cx : LC G M0 e sb) (hm : m < 4) (hi : i < 64) (h : JZ M0 M x g (zA m i) 7320 z) (q : 221 ≤ bc) (r : 1506 ≤ bs) : am_J X 558 [(1, .ref x), (3, .int (g 1)), (4, .int (sV g)), (6, .int (i3 (2 + m))), (7, .int (i3 (60 + i))), (8, .ref z)] [] M bc bs := by
  obtain ⟨S, c, hist, hO, k⟩ := JZ_g h
  obtain ⟨Bq, hB, hw⟩ := ow_gN hO
  have zz : md_it (zA m i) (i3 (2 + m)).toNatClampNeg = zU (2 + m) (2 + m) (2 + m) 1 (i3 (60 + i)) := za_558 hm hi
  have zv : md_it (zA m i) (i3 (2 + m)).toNatClampNeg 3 - (zA m i) 3 = 0 := by
    rw [zz, show (zU (2 + m) (2 + m) (2 + m) 1 (i3 (60 + i))) 3 = 0 from rd_3, show (zA m i) 3 = 0 from rd_3]
    rfl
  exact vL_law_558 hX hM (fun x1 x3 x4 x6 x7 x8 M bc bs => am_J X 568 [(1, .ref x1), (3, .int x3), (4, .int x4), (6, .int x6), (7, .int x7), (8, .ref x8)] [] M bc bs) (fun _ _ _ _ _ _ _ _ _ h => h) ⟨hB.1, by omega, by omega, c_adv (d := d + 4) hO (by omega) (zq_558 m hm) (fun M1 G1 => ⟨fun _ => B_568 hX hM cx hm hi (JZ_e (k G1) ((aC_1 _ _).trans zz)) (by omega) (by omega), fun y => absurd (zv) y⟩)⟩
theorem B_543 {X : am_Cx} {G : am_Gx} {d e sb x z m i : Nat} {M0 M : am_Hp} {g : md_R} {bc bs : Nat} (hX : am_ok X rL_law G (d + 12)) (hM : ∀ {pc : Nat} {lv : List (Nat × Value)} {M : am_Hp} {bc bs : Nat}, decode rL_law.2.1 pc = .ok (.ireturn, 1) → am_J X pc lv [.int (1 : Int32)] M bc bs) (cx : LC G M0 e sb) (hm : m < 4) (hi : i < 64) (h : JZ M0 M x g (zA m i) 7320 z) (q : 222 ≤ bc) (r : 1512 ≤ bs) : am_J X 543 [(1, .ref x), (3, .int (g 1)), (4, .int (sV g)), (6, .int (i3 (2 + m))), (7, .int (i3 (60 + i))), (8, .ref z)] [] M bc bs := by
  obtain ⟨S, c, hist, hO, k⟩ := JZ_g h
  obtain ⟨Bq, hB, hw⟩ := ow_gN hO
  exact vL_law_543 hX hM (fun x1 x3 x4 x6 x7 x8 M bc bs => am_J X 558 [(1, .ref x1), (3, .int x3), (4, .int x4), (6, .int x6), (7, .int x7), (8, .ref x8)] [] M bc bs) (fun _ _ _ _ _ _ _ _ _ h => h) ⟨hB.1, by omega, by omega, c_trips (d := d + 4) hO (by omega) (zq_543 hm hi) (fun M1 G1 => ⟨fun _ => B_558 hX hM cx hm hi (k G1) (by omega) (by omega), fun y => absurd rfl y⟩)⟩
theorem B_529 {X : am_Cx} {G : am_Gx} {d e sb x z m i : Nat} {M0 M : am_Hp} {g : md_R} {bc bs : Nat} (hX : am_ok X rL_law G (d + 12)) (hM : ∀ {pc : Nat} {lv : List (Nat × Value)} {M : am_Hp} {bc bs : Nat}, decode rL_law.2.1 pc = .ok (.ireturn, 1) → am_J X pc lv [.int (1 : Int32)] M bc bs) (cx : LC G M0 e sb) (hm : m < 4) (hi : i < 64) (h : JZ M0 M x g (zA m i) 7320 z) (q : 223 ≤ bc) (r : 1518 ≤ bs) : am_J X 529 [(1, .ref x), (3, .int (g 1)), (4, .int (sV g)), (6, .int (i3 (2 + m))), (7, .int (i3 (60 + i))), (8, .ref z)] [] M bc bs := by
  obtain ⟨S, c, hist, hO, k⟩ := JZ_g h
  obtain ⟨Bq, hB, hw⟩ := ow_gN hO
  exact vL_law_529 hX hM (fun x1 x3 x4 x6 x7 x8 M bc bs => am_J X 543 [(1, .ref x1), (3, .int x3), (4, .int x4), (6, .int x6), (7, .int x7), (8, .ref x8)] [] M bc bs) (fun _ _ _ _ _ _ _ _ _ h => h) ⟨hB.1, by omega, by omega, c_trips (d := d + 4) hO (by omega) (zq_529 hm hi) (fun M1 G1 => ⟨fun _ => B_543 hX hM cx hm hi (k G1) (by omega) (by omega), fun y => absurd rfl y⟩)⟩
theorem B_516 {X : am_Cx} {G : am_Gx} {d e sb x z m i : Nat} {M0 M : am_Hp} {g : md_R} {bc bs : Nat} (hX : am_ok X rL_law G (d + 12)) (hM : ∀ {pc : Nat} {lv : List (Nat × Value)} {M : am_Hp} {bc bs : Nat}, decode rL_law.2.1 pc = .ok (.ireturn, 1) → am_J X pc lv [.int (1 : Int32)] M bc bs) (cx : LC G M0 e sb) (hm : m < 4) (hi : i < 64) (h : JZ M0 M x g (zA m i) 7320 z) (q : 225 ≤ bc) (r : 1530 ≤ bs) : am_J X 516 [(1, .ref x), (3, .int (g 1)), (4, .int (sV g)), (6, .int (i3 (2 + m))), (7, .int (i3 (60 + i))), (8, .ref z)] [] M bc bs := by
  obtain ⟨S, c, hist, hO, k⟩ := JZ_g h
  obtain ⟨Bq, hB, hw⟩ := ow_gN hO
  exact vL_law_516 hX hM (fun x1 x3 x4 x6 x7 x8 M bc bs => am_J X 529 [(1, .ref x1), (3, .int x3), (4, .int x4), (6, .int x6), (7, .int x7), (8, .ref x8)] [] M bc bs) (fun _ _ _ _ _ _ _ _ _ h => h) ⟨hB.1, by omega, by omega, q_x1 (g_estimate (d := d + 8) hB hw) (zq_516 m hm i hi) ⟨fun _ => B_529 hX hM cx hm hi (h) (by omega) (by omega), fun y => absurd rfl y⟩⟩
theorem B_505 {X : am_Cx} {G : am_Gx} {d e sb x z m i : Nat} {M0 M : am_Hp} {g : md_R} {bc bs : Nat} (hX : am_ok X rL_law G (d + 12)) (hM : ∀ {pc : Nat} {lv : List (Nat × Value)} {M : am_Hp} {bc bs : Nat}, decode rL_law.2.1 pc = .ok (.ireturn, 1) → am_J X pc lv [.int (1 : Int32)] M bc bs) (cx : LC G M0 e sb) (hm : m < 4) (hi : i < 64) (h : JZ M0 M x g (zA m i) 7320 z) (q : 227 ≤ bc) (r : 1542 ≤ bs) : am_J X 505 [(1, .ref x), (3, .int (g 1)), (4, .int (sV g)), (6, .int (i3 (2 + m))), (7, .int (i3 (60 + i))), (8, .ref z)] [] M bc bs := by
  obtain ⟨S, c, hist, hO, k⟩ := JZ_g h
  obtain ⟨Bq, hB, hw⟩ := ow_gN hO
  exact vL_law_505 hX hM (fun x1 x3 x4 x6 x7 x8 M bc bs => am_J X 516 [(1, .ref x1), (3, .int x3), (4, .int x4), (6, .int x6), (7, .int x7), (8, .ref x8)] [] M bc bs) (fun _ _ _ _ _ _ _ _ _ h => h) ⟨hB.1, by omega, by omega, q_x1 (g_nextStop (d := d + 8) hB hw) (zq_505 m hm i hi) ⟨fun _ => B_516 hX hM cx hm hi (h) (by omega) (by omega), fun y => absurd rfl y⟩⟩
theorem B_490 {X : am_Cx} {G : am_Gx} {d e sb x z m i : Nat} {M0 M : am_Hp} {g : md_R} {bc bs : Nat} (hX : am_ok X rL_law G (d + 12)) (hM : ∀ {pc : Nat} {lv : List (Nat × Value)} {M : am_Hp} {bc bs : Nat}, decode rL_law.2.1 pc = .ok (.ireturn, 1) → am_J X pc lv [.int (1 : Int32)] M bc bs) (cx : LC G M0 e sb) (hm : m < 4) (hi : i < 64) (h : JZ M0 M x g (zA m i) 7320 z) (q : 229 ≤ bc) (r : 1554 ≤ bs) : am_J X 490 [(1, .ref x), (3, .int (g 1)), (4, .int (sV g)), (6, .int (i3 (2 + m))), (7, .int (i3 (60 + i))), (8, .ref z)] [] M bc bs := by
  obtain ⟨S, c, hist, hO, k⟩ := JZ_g h
  obtain ⟨Bq, hB, hw⟩ := ow_gN hO
  exact vL_law_490 hX hM (fun x1 x3 x4 x6 x7 x8 M bc bs => am_J X 505 [(1, .ref x1), (3, .int x3), (4, .int x4), (6, .int x6), (7, .int x7), (8, .ref x8)] [] M bc bs) (fun _ _ _ _ _ _ _ _ _ h => h) ⟨hB.1, by omega, by omega, c_arr (d := d + 5) hO (by omega) (zq_490 hm hi) (fun M1 G1 => ⟨fun _ => B_505 hX hM cx hm hi (k G1) (by omega) (by omega), fun y => absurd rfl y⟩)⟩
theorem B_477 {X : am_Cx} {G : am_Gx} {d e sb x z m i : Nat} {M0 M : am_Hp} {g : md_R} {bc bs : Nat} (hX : am_ok X rL_law G (d + 12)) (hM : ∀ {pc : Nat} {lv : List (Nat × Value)} {M : am_Hp} {bc bs : Nat}, decode rL_law.2.1 pc = .ok (.ireturn, 1) → am_J X pc lv [.int (1 : Int32)] M bc bs) (cx : LC G M0 e sb) (hm : m < 4) (hi : i < 64) (h : JZ M0 M x g (zA m i) 7320 z) (q : 231 ≤ bc) (r : 1566 ≤ bs) : am_J X 477 [(1, .ref x), (3, .int (g 1)), (4, .int (sV g)), (6, .int (i3 (2 + m))), (7, .int (i3 (60 + i))), (8, .ref z)] [] M bc bs := by
  obtain ⟨S, c, hist, hO, k⟩ := JZ_g h
  obtain ⟨Bq, hB, hw⟩ := ow_gN hO
  have n1 : md_n (zA m i) = 1 := nr1 rfl
  exact vL_law_477 hX hM (fun x1 x3 x4 x6 x7 x8 M bc bs => am_J X 490 [(1, .ref x1), (3, .int x3), (4, .int x4), (6, .int x6), (7, .int x7), (8, .ref x8)] [] M bc bs) (fun _ _ _ _ _ _ _ _ _ h => h) ⟨hB.1, by omega, by omega, c_brd (d := d + 5) hO (by omega) (fun p q hp hq _ => by have hp : p < md_n (zA m i) := hp; have hq : q < md_n (zA m i) := hq; omega) (zq_477 hm hi) (fun M1 G1 => ⟨fun _ => B_490 hX hM cx hm hi (k G1) (by omega) (by omega), fun y => absurd rfl y⟩)⟩
theorem B_468 {X : am_Cx} {G : am_Gx} {d e sb x z m i : Nat} {M0 M : am_Hp} {g : md_R} {bc bs : Nat} (hX : am_ok X rL_law G (d + 12)) (hM : ∀ {pc : Nat} {lv : List (Nat × Value)} {M : am_Hp} {bc bs : Nat}, decode rL_law.2.1 pc = .ok (.ireturn, 1) → am_J X pc lv [.int (1 : Int32)] M bc bs) (cx : LC G M0 e sb) (hm : m < 4) (hi : i < 64) (h : JZ M0 M x g (zA m i) 7320 z) (q : 233 ≤ bc) (r : 1578 ≤ bs) : am_J X 468 [(1, .ref x), (3, .int (g 1)), (4, .int (sV g)), (6, .int (i3 (2 + m))), (7, .int (i3 (60 + i))), (8, .ref z)] [] M bc bs := by
  obtain ⟨S, c, hist, hO, k⟩ := JZ_g h
  obtain ⟨Bq, hB, hw⟩ := ow_gN hO
  exact vL_law_468 hX hM (fun x1 x3 x4 x6 x7 x8 M bc bs => am_J X 477 [(1, .ref x1), (3, .int x3), (4, .int x4), (6, .int x6), (7, .int x7), (8, .ref x8)] [] M bc bs) (fun _ _ _ _ _ _ _ _ _ h => h) ⟨hB.1, by omega, by omega, q_x1 (g_carOf (d := d + 8) hB hw) (zq_468 m hm i hi) ⟨fun _ => B_477 hX hM cx hm hi (h) (by omega) (by omega), fun y => absurd rfl y⟩⟩
theorem B_455 {X : am_Cx} {G : am_Gx} {d e sb x z m i : Nat} {M0 M : am_Hp} {g : md_R} {bc bs : Nat} (hX : am_ok X rL_law G (d + 12)) (hM : ∀ {pc : Nat} {lv : List (Nat × Value)} {M : am_Hp} {bc bs : Nat}, decode rL_law.2.1 pc = .ok (.ireturn, 1) → am_J X pc lv [.int (1 : Int32)] M bc bs) (cx : LC G M0 e sb) (hm : m < 4) (hi : i < 64) (h : JZ M0 M x g md_g0 5490 z) (q : 234 ≤ bc) (r : 1584 ≤ bs) : am_J X 455 [(1, .ref x), (3, .int (g 1)), (4, .int (sV g)), (6, .int (i3 (2 + m))), (7, .int (i3 (60 + i))), (8, .ref z)] [] M bc bs := by
  obtain ⟨S, c, hist, hO, k⟩ := JZ_g h
  obtain ⟨Bq, hB, hw⟩ := ow_gN hO
  exact vL_law_455 hX hM (fun x1 x3 x4 x6 x7 x8 M bc bs => am_J X 468 [(1, .ref x1), (3, .int x3), (4, .int x4), (6, .int x6), (7, .int x7), (8, .ref x8)] [] M bc bs) (fun _ _ _ _ _ _ _ _ _ h => h) ⟨hB.1, by omega, by omega, c_add (d := d + 4) hO (by omega) (zq_455 m hm i hi) (fun M1 G1 => ⟨fun _ => B_468 hX hM cx hm hi (JZ_e (k G1) (z_ad hm hi)) (by omega) (by omega), fun y => absurd (rfl) y⟩)⟩
theorem B_439 {X : am_Cx} {G : am_Gx} {d e sb x z m i : Nat} {M0 M : am_Hp} {g : md_R} {bc bs : Nat} (hX : am_ok X rL_law G (d + 12)) (hM : ∀ {pc : Nat} {lv : List (Nat × Value)} {M : am_Hp} {bc bs : Nat}, decode rL_law.2.1 pc = .ok (.ireturn, 1) → am_J X pc lv [.int (1 : Int32)] M bc bs) (cx : LC G M0 e sb) (hm : m < 4) (hi : i < 64) (h : JZ M0 M x g md_g0 3660 z) (q : 235 ≤ bc) (r : 1590 ≤ bs) : am_J X 439 [(1, .ref x), (3, .int (g 1)), (4, .int (sV g)), (6, .int (i3 (2 + m))), (7, .int (i3 (60 + i))), (8, .ref z)] [] M bc bs := by
  obtain ⟨S, c, hist, hO, k⟩ := JZ_g h
  obtain ⟨Bq, hB, hw⟩ := ow_gN hO
  have ea : aN (md_g0, c, hist).1 4 0 0 0 = _ := zq_439
  exact vL_law_439 hX hM (fun x1 x3 x4 x6 x7 x8 M bc bs => am_J X 455 [(1, .ref x1), (3, .int x3), (4, .int x4), (6, .int x6), (7, .int x7), (8, .ref x8)] [] M bc bs) (fun _ _ _ _ _ _ _ _ _ h => h) ⟨by omega, by omega, c_act0 (d := d + 3) hO (by omega) (fun M1 G1 => by
    rw [aS_r ea (by decide)] at G1
    rw [ea]
    exact ⟨fun _ => B_455 hX hM cx hm hi (k G1) (by omega) (by omega), fun y => absurd rfl y⟩)⟩
theorem B_425 {X : am_Cx} {G : am_Gx} {d e sb x z m i : Nat} {M0 M : am_Hp} {g : md_R} {bc bs : Nat} (hX : am_ok X rL_law G (d + 12)) (hM : ∀ {pc : Nat} {lv : List (Nat × Value)} {M : am_Hp} {bc bs : Nat}, decode rL_law.2.1 pc = .ok (.ireturn, 1) → am_J X pc lv [.int (1 : Int32)] M bc bs) (cx : LC G M0 e sb) (hm : m < 4) (hi : i < 64) (h : JZ M0 M x g md_g0 1830 z) (q : 236 ≤ bc) (r : 1596 ≤ bs) : am_J X 425 [(1, .ref x), (3, .int (g 1)), (4, .int (sV g)), (6, .int (i3 (2 + m))), (7, .int (i3 (60 + i))), (8, .ref z)] [] M bc bs := by
  obtain ⟨S, c, hist, hO, k⟩ := JZ_g h
  obtain ⟨Bq, hB, hw⟩ := ow_gN hO
  have ea : aN (md_g0, c, hist).1 2 0 1 0 = _ := zq_425
  exact vL_law_425 hX hM (fun x1 x3 x4 x6 x7 x8 M bc bs => am_J X 439 [(1, .ref x1), (3, .int x3), (4, .int x4), (6, .int x6), (7, .int x7), (8, .ref x8)] [] M bc bs) (fun _ _ _ _ _ _ _ _ _ h => h) ⟨by omega, by omega, c_act0 (d := d + 3) hO (by omega) (fun M1 G1 => by
    rw [aS_r ea (by decide)] at G1
    rw [ea]
    exact ⟨fun _ => B_439 hX hM cx hm hi (k G1) (by omega) (by omega), fun y => absurd rfl y⟩)⟩
theorem B_411 {X : am_Cx} {G : am_Gx} {d e sb x z m i : Nat} {M0 M : am_Hp} {g : md_R} {bc bs : Nat} (hX : am_ok X rL_law G (d + 12)) (hM : ∀ {pc : Nat} {lv : List (Nat × Value)} {M : am_Hp} {bc bs : Nat}, decode rL_law.2.1 pc = .ok (.ireturn, 1) → am_J X pc lv [.int (1 : Int32)] M bc bs) (cx : LC G M0 e sb) (hm : m < 4) (hi : i < 64) (h : JZ M0 M x g md_g0 0 z) (q : 237 ≤ bc) (r : 1602 ≤ bs) : am_J X 411 [(1, .ref x), (3, .int (g 1)), (4, .int (sV g)), (6, .int (i3 (2 + m))), (7, .int (i3 (60 + i))), (8, .ref z)] [] M bc bs := by
  obtain ⟨S, c, hist, hO, k⟩ := JZ_g h
  obtain ⟨Bq, hB, hw⟩ := ow_gN hO
  have ea : aN (md_g0, c, hist).1 1 0 0 0 = _ := zq_411
  exact vL_law_411 hX hM (fun x1 x3 x4 x6 x7 x8 M bc bs => am_J X 425 [(1, .ref x1), (3, .int x3), (4, .int x4), (6, .int x6), (7, .int x7), (8, .ref x8)] [] M bc bs) (fun _ _ _ _ _ _ _ _ _ h => h) ⟨by omega, by omega, c_act0 (d := d + 3) hO (by omega) (fun M1 G1 => by
    rw [aS_r ea (by decide)] at G1
    rw [ea]
    exact ⟨fun _ => B_425 hX hM cx hm hi (k G1) (by omega) (by omega), fun y => absurd rfl y⟩)⟩
theorem B_401 {X : am_Cx} {G : am_Gx} {d e sb x z m i : Nat} {M0 M : am_Hp} {g : md_R} {bc bs : Nat} (hX : am_ok X rL_law G (d + 12)) (hM : ∀ {pc : Nat} {lv : List (Nat × Value)} {M : am_Hp} {bc bs : Nat}, decode rL_law.2.1 pc = .ok (.ireturn, 1) → am_J X pc lv [.int (1 : Int32)] M bc bs) (cx : LC G M0 e sb) (hm : m < 4) (hi : i < 64) (h : JZ M0 M x g md_g0 0 z) (q : 238 ≤ bc) (r : 1608 ≤ bs) : am_J X 401 [(1, .ref x), (3, .int (g 1)), (4, .int (sV g)), (6, .int (i3 (2 + m))), (7, .int (i3 (60 + i))), (8, .ref z)] [] M bc bs := by
  obtain ⟨S, c, hist, hO, k⟩ := JZ_g h
  obtain ⟨Bq, hB, hw⟩ := ow_gN hO
  exact vL_law_401 hX hM (fun x1 x3 x4 x6 x7 x8 M bc bs => am_J X 411 [(1, .ref x1), (3, .int x3), (4, .int x4), (6, .int x6), (7, .int x7), (8, .ref x8)] [] M bc bs) (fun _ _ _ _ _ _ _ _ _ h => h) ⟨hB.1, by omega, by omega, q_x1 (g_carByEnergy (d := d + 7) hB hw (by omega)) zq_401 ⟨fun _ => B_411 hX hM cx hm hi (h) (by omega) (by omega), fun y => absurd rfl y⟩⟩
theorem B_391 {X : am_Cx} {G : am_Gx} {d e sb x z m i : Nat} {M0 M : am_Hp} {g : md_R} {bc bs : Nat} (hX : am_ok X rL_law G (d + 12)) (hM : ∀ {pc : Nat} {lv : List (Nat × Value)} {M : am_Hp} {bc bs : Nat}, decode rL_law.2.1 pc = .ok (.ireturn, 1) → am_J X pc lv [.int (1 : Int32)] M bc bs) (cx : LC G M0 e sb) (hm : m < 4) (hi : i < 64) (h : JZ M0 M x g md_g0 0 z) (q : 239 ≤ bc) (r : 1614 ≤ bs) : am_J X 391 [(1, .ref x), (3, .int (g 1)), (4, .int (sV g)), (6, .int (i3 (2 + m))), (7, .int (i3 (60 + i))), (8, .ref z)] [] M bc bs := by
  obtain ⟨S, c, hist, hO, k⟩ := JZ_g h
  obtain ⟨Bq, hB, hw⟩ := ow_gN hO
  exact vL_law_391 hX hM (fun x1 x3 x4 x6 x7 x8 M bc bs => am_J X 401 [(1, .ref x1), (3, .int x3), (4, .int x4), (6, .int x6), (7, .int x7), (8, .ref x8)] [] M bc bs) (fun _ _ _ _ _ _ _ _ _ h => h) ⟨hB.1, by omega, by omega, c_trips (d := d + 4) hO (by omega) zq_391 (fun M1 G1 => ⟨fun _ => B_401 hX hM cx hm hi (k G1) (by omega) (by omega), fun y => absurd rfl y⟩)⟩
theorem B_379 {X : am_Cx} {G : am_Gx} {d e sb x z m i : Nat} {M0 M : am_Hp} {g : md_R} {bc bs : Nat} (hX : am_ok X rL_law G (d + 12)) (hM : ∀ {pc : Nat} {lv : List (Nat × Value)} {M : am_Hp} {bc bs : Nat}, decode rL_law.2.1 pc = .ok (.ireturn, 1) → am_J X pc lv [.int (1 : Int32)] M bc bs) (cx : LC G M0 e sb) (hm : m < 4) (hi : i < 64) (h : JZ M0 M x g md_g0 0 z) (q : 241 ≤ bc) (r : 1626 ≤ bs) : am_J X 379 [(1, .ref x), (3, .int (g 1)), (4, .int (sV g)), (6, .int (i3 (2 + m))), (7, .int (i3 (60 + i))), (8, .ref z)] [] M bc bs := by
  obtain ⟨S, c, hist, hO, k⟩ := JZ_g h
  obtain ⟨Bq, hB, hw⟩ := ow_gN hO
  exact vL_law_379 hX hM (fun x1 x3 x4 x6 x7 x8 M bc bs => am_J X 391 [(1, .ref x1), (3, .int x3), (4, .int x4), (6, .int x6), (7, .int x7), (8, .ref x8)] [] M bc bs) (fun _ _ _ _ _ _ _ _ _ h => h) ⟨hB.1, by omega, by omega, q_x1 (g_bestCar (d := d + 7) hB hw) zq_379 ⟨fun _ => B_391 hX hM cx hm hi (h) (by omega) (by omega), fun y => absurd rfl y⟩⟩
theorem B_369 {X : am_Cx} {G : am_Gx} {d e sb x z m i : Nat} {M0 M : am_Hp} {g : md_R} {bc bs : Nat} (hX : am_ok X rL_law G (d + 12)) (hM : ∀ {pc : Nat} {lv : List (Nat × Value)} {M : am_Hp} {bc bs : Nat}, decode rL_law.2.1 pc = .ok (.ireturn, 1) → am_J X pc lv [.int (1 : Int32)] M bc bs) (cx : LC G M0 e sb) (hm : m < 4) (hi : i < 64) (h : JZ M0 M x g md_g0 0 z) (q : 241 ≤ bc) (r : 1626 ≤ bs) : am_J X 369 [(1, .ref x), (3, .int (g 1)), (4, .int (sV g)), (6, .int (i3 (2 + m))), (7, .int (i3 (60 + i))), (8, .ref z)] [] M bc bs := by
  obtain ⟨S, c, hist, hO, k⟩ := JZ_g h
  obtain ⟨Bq, hB, hw⟩ := ow_gN hO
  exact vL_law_369 hX hM (fun x1 x3 x4 x6 x7 x8 M bc bs => am_J X 379 [(1, .ref x1), (3, .int x3), (4, .int x4), (6, .int x6), (7, .int x7), (8, .ref x8)] [] M bc bs) (fun _ _ _ _ _ _ _ _ _ h => h) ⟨hB.1, ct_l (g_totalEnergy (d := d + 9) hB (md_wf_ok hw)) ⟨fun _ => B_379 hX hM cx hm hi (h) (by omega) (by omega), fun y => absurd lg_369 y⟩⟩
theorem B_361 {X : am_Cx} {G : am_Gx} {d e sb x z m i : Nat} {M0 M : am_Hp} {g : md_R} {bc bs : Nat} (hX : am_ok X rL_law G (d + 12)) (hM : ∀ {pc : Nat} {lv : List (Nat × Value)} {M : am_Hp} {bc bs : Nat}, decode rL_law.2.1 pc = .ok (.ireturn, 1) → am_J X pc lv [.int (1 : Int32)] M bc bs) (cx : LC G M0 e sb) (hm : m < 4) (hi : i < 64) (h : JZ M0 M x g md_g0 0 z) (q : 241 ≤ bc) (r : 1626 ≤ bs) : am_J X 361 [(1, .ref x), (3, .int (g 1)), (4, .int (sV g)), (6, .int (i3 (2 + m))), (7, .int (i3 (60 + i))), (8, .ref z)] [] M bc bs := by
  obtain ⟨S, c, hist, hO, k⟩ := JZ_g h
  obtain ⟨Bq, hB, hw⟩ := ow_gN hO
  exact vL_law_361 hX hM (fun x1 x3 x4 x6 x7 x8 M bc bs => am_J X 369 [(1, .ref x1), (3, .int x3), (4, .int x4), (6, .int x6), (7, .int x7), (8, .ref x8)] [] M bc bs) (fun _ _ _ _ _ _ _ _ _ h => h) ⟨hB.1, ct_i (g_isConsistent (d := d + 7) hB hw (by omega)) ⟨fun y => absurd y (by decide), fun _ => B_369 hX hM cx hm hi (h) (by omega) (by omega)⟩⟩
