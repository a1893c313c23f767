/-! .. the law's cars, people, carOf, state -/
theorem ct_x0 {G : am_Gx} {d : Nat} {r : am_Rec} {as : List Value} {M : am_Hp} {mc ms : Nat} {s : md_Sq} {N : String} {v : Int32} {P : Int32 → am_Hp → Prop} (h : am_CT G d r as M mc ms (xq [N] s M)) (hs : s = (0, v)) (k0 : P v M) : am_CT G d r as M mc ms (fun oz M1 => (∃ v, oz = .inl (some (.int v)) ∧ P v M1) ∨ (oz = .inr N ∧ False)) := by
  refine am_CT.mono (fun o M' h => ?_) h
  obtain ⟨e1, rfl⟩ := h
  rw [hs] at e1
  exact .inl ⟨_, e1, k0⟩
/-- a fresh cell's change keeps what stood in M0 -/
theorem fr_q {M0 M M1 : am_Hp} {q : Nat} (hq : hp_T M0 q = 0) (h : fr (fun _ => False) M0 M) (k : ∀ x, x ≠ q → sm M M1 x) : fr (fun _ => False) M0 M1 := fun x x1 x2 => (h x x1 x2).tr (k x (fun z => x1 (by rw [z]; exact hq)))
theorem fr_0 {M0 M : am_Hp} (h : fr (fun _ => False) M0 M) {x : Nat} (hx : hp_T M x = 0) : hp_T M0 x = 0 := Classical.byContradiction (fun z => z (by rw [← (h x z (fun w => w)).1]; exact hx))
theorem sm_sE {M : am_Hp} {a k x : Nat} {v : Int32} (h : x ≠ a) : sm M (hp_sE M a k v) x := ⟨rfl, rfl, fun _ => rfl, fun _ => rfl, by funext j; simp [hp_sE, hp_E, hp_u, h], rfl, rfl, rfl⟩
theorem E_at (M : am_Hp) (a k : Nat) (v : Int32) : hp_E (hp_sE M a k v) a = va_up (hp_E M a) k v := by
  funext j
  simp [hp_sE, hp_E, hp_u, va_up]
theorem ow_in {T : Nat} {M0 M : am_Hp} {a : Nat} {S : Nat → Prop} {P : ps} {f : Int32} {sn : md_R} {tx : List Nat} {e1 e2 : Int32} (hO : ow T M0 a S P f sn tx e1 e2) (h : fr (fun _ => False) M0 M) : ∃ B, gN M a B P.1 ∧ md_wf T P.1 := ow_gN (ow_fr h (fun _ _ z => z) hO)
/-- the six numbers of a car -/
def cX (g : md_R) (k : Nat) : Nat → Int32 := fun j => if j = 0 then g (9 + k) else if j = 1 then g (12 + k) else if j = 2 then g (15 + k) else if j = 3 then g (18 + k) else if j = 4 then (if g (21 + k) = i3 0 then 0 else 1) else g (24 + k)
theorem ic_i {k : Nat} (h : k < 3) : md_ic (i3 k) = true := by
  match k, h with
  | 0, _ => decide
  | 1, _ => decide
  | 2, _ => decide
theorem sq_cell_i {k : Nat} {g : md_R} {c : Nat} (h : c < 3) : sq_cell k g (i3 c) = (0, g (k + c)) := by
  unfold sq_cell
  rw [if_pos (ic_i h), i3_toNat (by omega)]
theorem sq_serv_i {g : md_R} {c : Nat} (h : c < 3) : sq_serv g (i3 c) = (0, bI (decide (g (21 + c) = i3 0))) := by
  unfold sq_serv
  rw [if_pos (ic_i h), i3_toNat (by omega)]
/-- a car's row -/
def cW (M : am_Hp) (g : md_R) (q k : Nat) : Prop := q ≠ 0 ∧ hp_T M q = 22 ∧ hp_N M q = 6 ∧ ∀ j, j < 6 → hp_E M q j = cX g k j
theorem cW_sm {M M' : am_Hp} {g : md_R} {q k : Nat} (s : sm M M' q) (h : cW M g q k) : cW M' g q k := ⟨h.1, s.1.trans h.2.1, s.2.1.trans h.2.2.1, fun j hj => by rw [s.2.2.2.2.1]; exact h.2.2.2 j hj⟩
def cI (M0 M : am_Hp) (g : md_R) (a p k : Nat) : Prop := hp_T M0 p = 0 ∧ p ≠ 0 ∧ hp_T M p = 28 ∧ hp_N M p = 3 ∧ fr (fun _ => False) M0 M ∧ ∀ i, i < k → hp_T M0 (hp_Q M p i) = 0 ∧ cW M g (hp_Q M p i) i
set_option maxHeartbeats 4000000 in
def wq (M0 M M2 : am_Hp) (q n k : Nat) (F : Nat → Int32) : Prop := hp_T M2 q = 22 ∧ hp_N M2 q = n ∧ (∀ x, x ≠ q → sm M M2 x) ∧ (∀ j, j < k → hp_E M2 q j = F j) ∧ fr (fun _ => False) M0 M2
theorem wq_0 {M0 M M2 : am_Hp} {q n : Nat} {F : Nat → Int32} (hq : hp_T M0 q = 0) (hf : fr (fun _ => False) M0 M) (e : M2 = hp_a M q 22 n) : wq M0 M M2 q n 0 F := by
  subst e
  obtain ⟨a1, a2, -, -⟩ := a_at M q 22 n
  exact ⟨a1, a2, fun x hx => sm_a hx, fun j hj => absurd hj (Nat.not_lt_zero _), fr_q hq hf (fun x hx => sm_a hx)⟩
theorem wq_s {M0 M M2 M3 : am_Hp} {q n k i : Nat} {v : Int32} {F : Nat → Int32} (hq : hp_T M0 q = 0) (h : wq M0 M M2 q n k F) (e : M3 = hp_sE M2 q i v) (hi : i = k) (hv : v = F k) : wq M0 M M3 q n (k + 1) F := by
  subst e hi hv
  obtain ⟨h1, h2, h3, h4, h5⟩ := h
  refine ⟨h1, h2, fun x hx => (h3 x hx).tr (sm_sE hx), fun j hj => ?_, fr_q hq h5 (fun x hx => sm_sE hx)⟩
  rw [E_at]
  by_cases z : j = i
  · rw [z, up_e]
  · rw [up_n _ _ z]
    exact h4 j (by omega)
theorem wq_v {M0 M M2 : am_Hp} {q n k : Nat} {F : Nat → Int32} (h : wq M0 M M2 q n k F) (j : Nat) (hj : j < n) (hn : n < 100) : vp_in (i3 j) (hp_N M2 q) := by
  rw [h.2.1]
  exact vp_in_i3 hj (by omega)
theorem c_step {X : am_Cx} {G : am_Gx} {d T a p : Nat} {Q : am_Q} {M0 : am_Hp} {S : Nat → Prop} {P : ps} {f : Int32} {sn : md_R} {tx : List Nat} {e1 e2 : Int32} (hX : am_ok X rL_cars G (d + 4)) (hM : am_me X rL_cars Q) (hO : ow T M0 a S P f sn tx e1 e2) {j k : Nat} {M : am_Hp} {bc bs : Nat} (hk : k + (j + 1) = 3) (h : cI M0 M P.1 a p k) (hbc : 7 * (j + 1) ≤ bc) (hbs : 42 * (j + 1) ≤ bs) (ih : ∀ (M : am_Hp) (bc bs : Nat), cI M0 M P.1 a p (k + 1) → 7 * j ≤ bc → 42 * j ≤ bs → am_J X 7 [(0, .ref a), (1, .ref p), (2, .int (i3 (k + 1)))] [] M bc bs) : am_J X 7 [(0, .ref a), (1, .ref p), (2, .int (i3 k))] [] M bc bs := by
  have hk3 : k < 3 := by omega
  have c6 : ((6 : Int32)).toNatClampNeg = 6 := by decide
  obtain ⟨B0, hB0, hw⟩ := ow_gN hO
  have ok := md_wf_ok hw
  obtain ⟨hp0, zp, tp, np, hf, hr⟩ := h
  refine vL_cars_7 hX hM (fun x0 x1 x2 y0 y1 y2 y3 y4 y5 M bc bs => am_J X 65 [(0, .ref x0), (1, .ref x1), (2, .int x2)] [.int y0, .int y1, .ref y2, .ref y3, .int y4, .ref y5] M bc bs) (fun _ _ _ _ _ _ _ _ _ _ _ _ h => h) ⟨fun e => ?_, fun _ => ⟨by decide, by decide, by omega, by omega, fun q hq zq M1 e1 => ?_⟩⟩
  · have := (i3_le (a := 3) (b := k) (by omega) (by omega)).mp e
    omega
  · rw [c6] at e1
    have hq0 := fr_0 hf hq
    have pq : p ≠ q := ne_fresh tp hq
    have O : ∀ (M2 : am_Hp) (i : Nat), wq M0 M M2 q 6 i (cX P.1 k) → ∃ B, gN M2 a B P.1 := fun M2 i h2 => by
      obtain ⟨B, hB, -⟩ := ow_in hO h2.2.2.2.2
      exact ⟨B, hB⟩
    have w1 : wq M0 M M1 q 6 0 (cX P.1 k) := wq_0 hq0 hf e1
    obtain ⟨B1, g1⟩ := O _ _ w1
    refine ⟨g1.1, by omega, by omega, ct_x0 (g_floor (d := d) g1 ok) (sq_cell_i hk3) ⟨w1.1, wq_v w1 0 (by omega) (by omega), fun M2 e2 => ?_⟩⟩
    have w2 := wq_s hq0 w1 e2 (by decide) rfl
    obtain ⟨B2, g2⟩ := O _ _ w2
    refine ⟨g2.1, by omega, by omega, ct_x0 (g_direction (d := d) g2 ok) (sq_cell_i hk3) ⟨w2.1, wq_v w2 1 (by omega) (by omega), fun M3 e3 => ?_⟩⟩
    have w3 := wq_s hq0 w2 e3 (by decide) rfl
    obtain ⟨B3, g3⟩ := O _ _ w3
    refine ⟨g3.1, by omega, by omega, ct_x0 (g_capacity (d := d) g3 ok) (sq_cell_i hk3) ⟨w3.1, wq_v w3 2 (by omega) (by omega), fun M4 e4 => ?_⟩⟩
    have w4 := wq_s hq0 w3 e4 (by decide) rfl
    obtain ⟨B4, g4⟩ := O _ _ w4
    refine ⟨g4.1, by omega, by omega, ct_x0 (g_doorSteps (d := d) g4 ok) (sq_cell_i hk3) ⟨w4.1, wq_v w4 3 (by omega) (by omega), fun M5 e5 => ?_⟩⟩
    have w5 := wq_s hq0 w4 e5 (by decide) rfl
    obtain ⟨B5, g5⟩ := O _ _ w5
    have key : ∀ (b : Int32) (bc' bs' : Nat), b = cX P.1 k 4 → 1 + 7 * j ≤ bc' → 6 + 42 * j ≤ bs' → am_J X 65 [(0, .ref a), (1, .ref p), (2, .int (i3 k))] [.int b, .int (4 : Int32), .ref q, .ref q, .int (i3 k), .ref p] M5 bc' bs' := fun b bc' bs' hb h1 h2 => by
      refine vL_cars_65 hX hM (fun x0 x1 x2 M bc bs => am_J X 7 [(0, .ref x0), (1, .ref x1), (2, .int x2)] [] M bc bs) (fun _ _ _ _ _ _ h => h) ⟨w5.1, wq_v w5 4 (by omega) (by omega), fun M6 e6 => ?_⟩
      have w6 := wq_s hq0 w5 e6 (by decide) hb
      obtain ⟨B6, g6⟩ := O _ _ w6
      refine ⟨g6.1, by omega, by omega, ct_x0 (g_energy (d := d) g6 ok) (sq_cell_i hk3) ⟨w6.1, wq_v w6 5 (by omega) (by omega), fun M7 e7 => ?_⟩⟩
      have w7 := wq_s hq0 w6 e7 (by decide) rfl
      have sp := w7.2.2.1 p pq
      refine ⟨sp.1.trans tp, zq, by rw [sp.2.1, np]; exact vp_in_i3 hk3 (by omega), fun M8 e8 v20 e20 => ?_⟩
      rw [i3_toNat (show k < 2147483648 by omega)] at e8
      rw [e20, i3_one]
      have s8 : ∀ x, x ≠ p → sm M7 M8 x := fun x hx => by rw [e8]; exact sm_sQ hx
      have Q8 : ∀ i, hp_Q M8 p i = if i = k then q else hp_Q M7 p i := fun i => by rw [e8]; simp [hp_sQ, hp_Q, hp_u]
      have T8 : hp_T M8 = hp_T M7 := by rw [e8]; rfl
      have N8 : hp_N M8 = hp_N M7 := by rw [e8]; rfl
      refine ih M8 _ _ ⟨hp0, zp, by rw [T8]; exact sp.1.trans tp, by rw [N8]; exact sp.2.1.trans np, fr_q hp0 w7.2.2.2.2 s8, fun i hi => ?_⟩ (by omega) (by omega)
      rw [Q8]
      by_cases ik : i = k
      · rw [if_pos ik, ik]
        exact ⟨hq0, cW_sm (s8 q (Ne.symm pq)) ⟨zq, w7.1, w7.2.1, w7.2.2.2.1⟩⟩
      · rw [if_neg ik, sp.2.2.2.2.2.1]
        obtain ⟨r1, r2⟩ := hr i (by omega)
        have rq : hp_Q M p i ≠ q := ne_fresh r2.2.1 hq
        have rp : hp_Q M p i ≠ p := fun z => by have := r2.2.1; rw [z, tp] at this; omega
        exact ⟨r1, cW_sm ((w7.2.2.1 _ rq).tr (s8 _ rp)) r2⟩
    refine ⟨g5.1, by omega, by omega, ct_x0 (g_isInService (d := d) g5 ok) (sq_serv_i hk3) ⟨fun z => key 1 _ _ ?_ (by omega) (by omega), fun z => key 0 _ _ ?_ (by omega) (by omega)⟩⟩
    · show (1 : Int32) = (if P.1 (21 + k) = i3 0 then 0 else 1)
      by_cases y : P.1 (21 + k) = i3 0
      · rw [decide_eq_true y] at z
        exact absurd z (by decide)
      · rw [if_neg y]
    · show (0 : Int32) = (if P.1 (21 + k) = i3 0 then 0 else 1)
      by_cases y : P.1 (21 + k) = i3 0
      · rw [if_pos y]
      · rw [decide_eq_false y] at z
        exact absurd rfl z
theorem c_loop {X : am_Cx} {G : am_Gx} {d T a p : Nat} {Q : am_Q} {M0 : am_Hp} {S : Nat → Prop} {P : ps} {f : Int32} {sn : md_R} {tx : List Nat} {e1 e2 : Int32} (hX : am_ok X rL_cars G (d + 4)) (hM : am_me X rL_cars Q) (hO : ow T M0 a S P f sn tx e1 e2) (kk : ∀ M, cI M0 M P.1 a p 3 → Q (.inl (some (.ref p))) M) : ∀ (j k : Nat) (M : am_Hp) (bc bs : Nat), k + j = 3 → cI M0 M P.1 a p k → 7 * j ≤ bc → 42 * j ≤ bs → am_J X 7 [(0, .ref a), (1, .ref p), (2, .int (i3 k))] [] M bc bs
  | 0, k, M, bc, bs, hk, h, hbc, hbs => by
    obtain rfl : k = 3 := by omega
    exact vL_cars_7 hX hM (fun x0 x1 x2 y0 y1 y2 y3 y4 y5 M bc bs => am_J X 65 [(0, .ref x0), (1, .ref x1), (2, .int x2)] [.int y0, .int y1, .ref y2, .ref y3, .int y4, .ref y5] M bc bs) (fun _ _ _ _ _ _ _ _ _ _ _ _ h => h) ⟨fun _ => kk M h, fun e => absurd (by decide) e⟩
  | j + 1, k, M, bc, bs, hk, h, hbc, hbs => c_step (d := d) hX hM hO hk h hbc hbs (fun M bc bs h1 h2 h3 => c_loop (d := d) hX hM hO kk j (k + 1) M bc bs (by omega) h1 h2 h3)
theorem w_cars {G : am_Gx} {d T a : Nat} {M : am_Hp} {S : Nat → Prop} {P : ps} {f : Int32} {sn : md_R} {tx : List Nat} {e1 e2 : Int32} (hO : ow T M a S P f sn tx e1 e2) : am_CT G (d + 4) rL_cars [.ref a] M 30 200 (fun o M' => ∃ p, o = .inl (some (.ref p)) ∧ cI M M' P.1 a p 3) := by
  refine am_intro mkL_cars rfl (Nat.le_of_ble_eq_true rfl) rfl (fun X hX hM => ?_)
  have c3 : ((3 : Int32)).toNatClampNeg = 3 := by decide
  refine vL_cars_0 hX hM (fun x0 x1 x2 M bc bs => am_J X 7 [(0, .ref x0), (1, .ref x1), (2, .int x2)] [] M bc bs) (fun _ _ _ _ _ _ h => h) ⟨by decide, by decide, by omega, by rw [c3]; omega, fun p hp zp => ?_⟩
  simp only [forall_eq]
  rw [c3]
  obtain ⟨a1, a2, -⟩ := a_at M p 28 3
  exact c_loop (d := d) hX hM hO (fun M' h => ⟨p, rfl, h⟩) 3 0 _ _ _ (by omega) ⟨hp, zp, a1, a2, fun x x1 _ => sm_a (ne_fr x1 hp), fun i hi => absurd hi (Nat.not_lt_zero _)⟩ (by omega) (by omega)
/-! people -/
theorem ip_i {T p : Nat} {g : md_R} (hw : md_wf T g) (hp : p < md_n g) : md_ip g (i3 p) = true := (md_ip_iff (md_wf_ok hw)).mpr ⟨p, hp, rfl⟩
theorem w_carOf {G : am_Gx} {d T a p : Nat} {M : am_Hp} {B : Nat → Nat} {g : md_R} (h : gN M a B g) (hw : md_wf T g) (hp : p < md_n g) : am_CT G (d + 4) rL_carOf [.ref a, .int (i3 p)] M 2 12 (qi (if g (87 + p) = i3 0 then -1 else g (87 + p) - i3 1) M) := by
  refine am_introH mkL_carOf (by decide) (Nat.le_of_ble_eq_true rfl) rfl (fun X hX hM => ?_)
  have h12 := md_wf_n hw
  refine vL_carOf_0 hX hM ⟨h.1, Nat.le_refl _, Nat.le_refl _, am_CT.mono (fun o M' hh => ?_) (g_carOf (d := d) (v := i3 p) h hw)⟩
  obtain ⟨e, rfl⟩ := hh
  have ip : md_ip g (i3 p) = true := ip_i hw hp
  unfold sq_carOf at e
  rw [if_pos ip, i3_toNat (by omega)] at e
  by_cases z : g (87 + p) = i3 0
  · rw [if_pos z] at e
    refine .inr (.inr ⟨e, fun _ => ⟨?_, rfl⟩⟩)
    rw [if_pos z]
  · rw [if_neg z] at e
    refine .inl ⟨_, e, ?_, rfl⟩
    rw [if_neg z]
/-- the seven numbers of a passenger -/
def pE (g : md_R) (k : Nat) : Nat → Int32 := fun j => if j = 0 then g (27 + k) else if j = 1 then g (39 + k) else if j = 2 then g (51 + k) else if j = 3 then g (63 + k) else if j = 4 then g (75 + k) else if j = 5 then (if g (87 + k) = i3 0 then -1 else g (87 + k) - i3 1) else (if g (99 + k) = i3 1 then 1 else 0)
theorem sq_pas_i {T k p : Nat} {g : md_R} (hw : md_wf T g) (hp : p < md_n g) : sq_pas k g (i3 p) = (0, g (k + p)) := by
  have := md_wf_n hw
  unfold sq_pas
  rw [if_pos (ip_i hw hp), i3_toNat (by omega)]
theorem sq_inside_i {T p : Nat} {g : md_R} (hw : md_wf T g) (hp : p < md_n g) : sq_inside g (i3 p) = (0, bI (decide (g (99 + p) = i3 1))) := by
  have := md_wf_n hw
  unfold sq_inside
  rw [if_pos (ip_i hw hp), i3_toNat (by omega)]
/-- a passenger's row -/
def pW (M : am_Hp) (g : md_R) (q k : Nat) : Prop := hp_N M q = 7 ∧ ∀ j, j < 7 → hp_E M q j = pE g k j
theorem pW_sm {M M' : am_Hp} {g : md_R} {q k : Nat} (s : sm M M' q) (h : pW M g q k) : pW M' g q k := ⟨s.2.1.trans h.1, fun j hj => by rw [s.2.2.2.2.1]; exact h.2 j hj⟩
def pI (M0 M : am_Hp) (g : md_R) (l e k : Nat) : Prop := hp_T M0 l = 0 ∧ l ≠ 0 ∧ fr (fun _ => False) M0 M ∧ ∃ r, lsR M0 M l e k r ∧ ∀ i, i < k → hp_T M0 (r i) = 0 ∧ pW M g (r i) i
/-- the list of passengers -/
def pL (M0 M : am_Hp) (g : md_R) (l e : Nat) : Prop := pI M0 M g l e (md_n g)
set_option maxHeartbeats 4000000 in
theorem p_step {X : am_Cx} {G : am_Gx} {d T a l e : Nat} {Q : am_Q} {M0 : am_Hp} {S : Nat → Prop} {P : ps} {f : Int32} {sn : md_R} {tx : List Nat} {e1 e2 : Int32} (he : em G e) (hX : am_ok X rL_people G (d + 7)) (hM : am_me X rL_people Q) (hO : ow T M0 a S P f sn tx e1 e2) {j k : Nat} {M : am_Hp} {bc bs : Nat} (hk : k + (j + 1) = md_n P.1) (h : pI M0 M P.1 l e k) (hbc : 10 * (j + 1) ≤ bc) (hbs : 70 * (j + 1) ≤ bs) (ih : ∀ (M : am_Hp) (bc bs : Nat), pI M0 M P.1 l e (k + 1) → 10 * j ≤ bc → 70 * j ≤ bs → am_J X 10 [(0, .ref a), (1, .ref l), (2, .int (i3 (k + 1)))] [] M bc bs) : am_J X 10 [(0, .ref a), (1, .ref l), (2, .int (i3 k))] [] M bc bs := by
  obtain ⟨hl0, zl, hf, r, hL, hr⟩ := h
  obtain ⟨B0, hB0, hw⟩ := ow_in hO hf
  have h12 := md_wf_n hw
  have ok := md_wf_ok hw
  have hkn : k < md_n P.1 := by omega
  have c7 : ((7 : Int32)).toNatClampNeg = 7 := by decide
  refine vL_people_10 hX hM (fun x0 x1 x2 y0 y1 y2 y3 y4 M bc bs => am_J X 87 [(0, .ref x0), (1, .ref x1), (2, .int x2)] [.int y0, .int y1, .ref y2, .ref y3, .ref y4] M bc bs) (fun _ _ _ _ _ _ _ _ _ _ _ h => h) ⟨hB0.1, ct_i (g_passengerCount (d := d + 5) hB0 ok) ⟨fun y => ?_, fun _ => ⟨by decide, by decide, by omega, by omega, fun q hq zq M1 e1 => ?_⟩⟩⟩
  · have := (i3_le (by omega) (by omega)).mp y
    omega
  · rw [c7] at e1
    have hq0 := fr_0 hf hq
    have O : ∀ (M2 : am_Hp) (i : Nat), wq M0 M M2 q 7 i (pE P.1 k) → ∃ B, gN M2 a B P.1 := fun M2 i h2 => by
      obtain ⟨B, hB, -⟩ := ow_in hO h2.2.2.2.2
      exact ⟨B, hB⟩
    have w1 : wq M0 M M1 q 7 0 (pE P.1 k) := wq_0 hq0 hf e1
    obtain ⟨B1, g1⟩ := O _ _ w1
    refine ⟨g1.1, by omega, by omega, ct_x0 (g_number (d := d + 3) g1 ok) (sq_pas_i hw hkn) ⟨w1.1, wq_v w1 0 (by omega) (by omega), fun M2 e2 => ?_⟩⟩
    have w2 := wq_s hq0 w1 e2 (by decide) rfl
    obtain ⟨B2, g2⟩ := O _ _ w2
    refine ⟨g2.1, by omega, by omega, ct_x0 (g_start (d := d + 3) g2 ok) (sq_pas_i hw hkn) ⟨w2.1, wq_v w2 1 (by omega) (by omega), fun M3 e3 => ?_⟩⟩
    have w3 := wq_s hq0 w2 e3 (by decide) rfl
    obtain ⟨B3, g3⟩ := O _ _ w3
    refine ⟨g3.1, by omega, by omega, ct_x0 (g_destination (d := d + 3) g3 ok) (sq_pas_i hw hkn) ⟨w3.1, wq_v w3 2 (by omega) (by omega), fun M4 e4 => ?_⟩⟩
    have w4 := wq_s hq0 w3 e4 (by decide) rfl
    obtain ⟨B4, g4⟩ := O _ _ w4
    refine ⟨g4.1, by omega, by omega, ct_x0 (g_weight (d := d + 3) g4 ok) (sq_pas_i hw hkn) ⟨w4.1, wq_v w4 3 (by omega) (by omega), fun M5 e5 => ?_⟩⟩
    have w5 := wq_s hq0 w4 e5 (by decide) rfl
    obtain ⟨B5, g5⟩ := O _ _ w5
    refine ⟨g5.1, by omega, by omega, ct_x0 (g_waitingTime (d := d + 3) g5 ok) (sq_pas_i hw hkn) ⟨w5.1, wq_v w5 4 (by omega) (by omega), fun M6 e6 => ?_⟩⟩
    have w6 := wq_s hq0 w5 e6 (by decide) rfl
    obtain ⟨B6, g6⟩ := O _ _ w6
    refine ⟨by omega, by omega, am_CT.mono (fun o M' hh => .inl ?_) (w_carOf (d := d + 2) g6 hw hkn)⟩
    obtain ⟨eo, rfl⟩ := hh
    refine ⟨_, eo, w6.1, wq_v w6 5 (by omega) (by omega), fun M7 e7 => ?_⟩
    have w7 := wq_s hq0 w6 e7 (by decide) rfl
    obtain ⟨B7, g7⟩ := O _ _ w7
    have key : ∀ (b : Int32) (bc' bs' : Nat), b = pE P.1 k 6 → 1 + 10 * j ≤ bc' → 15 + 70 * j ≤ bs' → am_J X 87 [(0, .ref a), (1, .ref l), (2, .int (i3 k))] [.int b, .int (6 : Int32), .ref q, .ref q, .ref l] M7 bc' bs' := fun b bc' bs' hb h1 h2 => by
      refine vL_people_87 hX hM (fun x0 x1 x2 M bc bs => am_J X 10 [(0, .ref x0), (1, .ref x1), (2, .int x2)] [] M bc bs) (fun _ _ _ _ _ _ h => h) ⟨w7.1, wq_v w7 6 (by omega) (by omega), fun M8 e8 => ?_⟩
      have w8 := wq_s hq0 w7 e8 (by decide) hb
      obtain ⟨t8, n8, s8, r8, f8⟩ := w8
      have hL8 : lsR M0 M8 l e k r := by
        obtain ⟨L1, L2, L3⟩ := hL
        have lq : l ≠ q := ne_fresh L1 hq
        refine ⟨(s8 l lq).1.trans L1, ((s8 l lq).2.2.1 142).trans L2, ?_⟩
        rcases L3 with ⟨n0, hR, te, ne⟩ | ⟨E, cap, n0, f0, hE, tE, nE, ncap, hcap, hq'⟩
        · have eq : e ≠ q := ne_fresh te hq
          exact .inl ⟨n0, ((s8 l lq).2.2.2.1 141).trans hR, (s8 e eq).1.trans te, (s8 e eq).2.1.trans ne⟩
        · have Eq' : E ≠ q := ne_fresh tE hq
          exact .inr ⟨E, cap, n0, f0, ((s8 l lq).2.2.2.1 141).trans hE, (s8 E Eq').1.trans tE, (s8 E Eq').2.1.trans nE, ncap, hcap, fun i hi => ⟨by rw [(s8 E Eq').2.2.2.2.2.1]; exact (hq' i hi).1, (hq' i hi).2.1, (s8 _ (ne_fresh (hq' i hi).2.2 hq)).1.trans (hq' i hi).2.2⟩⟩
      refine ⟨hL8.1, by omega, by omega, am_CT.mono (fun o M' hh => ?_) (k_ad (d := d) he hL8 (fun x hx => fr_0 f8 hx) (by omega) t8 zq)⟩
      obtain ⟨w, eo, g1, g2, g3⟩ := hh
      refine ⟨w, eo, fun v10 e10 => ?_⟩
      rw [e10, i3_one]
      have lq : q ≠ l := fun z => by
        have := hL8.1
        rw [← z, t8] at this
        omega
      refine ih M' _ _ ⟨hl0, zl, fun x x1 x2 => (f8 x x1 x2).tr (g3 x (by rw [(f8 x x1 x2).1]; exact x1) x1 (fun z => x1 (by rw [z]; exact hl0))), va_up r k q, g1, fun i hi => ?_⟩ (by omega) (by omega)
      have sq : sm M8 M' q := g2 q (by rw [t8]; decide) lq (by rw [t8]; decide)
      by_cases ik : i = k
      · rw [ik, up_e]
        exact ⟨hq0, pW_sm sq ⟨n8, r8⟩⟩
      · rw [up_n _ _ ik]
        obtain ⟨r1, r2⟩ := hr i (by omega)
        have tr : hp_T M (r i) = 22 := by
          rcases hL.2.2 with ⟨n0, -⟩ | ⟨E, cap, -, -, -, -, -, -, -, hq'⟩
          · omega
          · exact (hq' i (by omega)).2.2
        have rq : r i ≠ q := ne_fresh tr hq
        have t9 := (s8 _ rq).1.trans tr
        exact ⟨r1, pW_sm ((s8 _ rq).tr (g2 _ (by rw [t9]; decide) (fun z => by have := hL8.1; rw [← z, t9] at this; omega) (by rw [t9]; decide))) r2⟩
    refine ⟨g7.1, by omega, by omega, ct_x0 (g_isInCar (d := d + 3) g7 hw) (sq_inside_i hw hkn) ⟨fun z => key 0 _ _ ?_ (by omega) (by omega), fun z => key 1 _ _ ?_ (by omega) (by omega)⟩⟩
    · show (0 : Int32) = (if P.1 (99 + k) = i3 1 then 1 else 0)
      by_cases y : P.1 (99 + k) = i3 1
      · rw [decide_eq_true y] at z
        exact absurd z (by decide)
      · rw [if_neg y]
    · show (1 : Int32) = (if P.1 (99 + k) = i3 1 then 1 else 0)
      by_cases y : P.1 (99 + k) = i3 1
      · rw [if_pos y]
      · rw [decide_eq_false y] at z
        exact absurd rfl z
theorem p_loop {X : am_Cx} {G : am_Gx} {d T a l e : Nat} {Q : am_Q} {M0 : am_Hp} {S : Nat → Prop} {P : ps} {f : Int32} {sn : md_R} {tx : List Nat} {e1 e2 : Int32} (he : em G e) (hX : am_ok X rL_people G (d + 7)) (hM : am_me X rL_people Q) (hO : ow T M0 a S P f sn tx e1 e2) (kk : ∀ M, pL M0 M P.1 l e → Q (.inl (some (.ref l))) M) : ∀ (j k : Nat) (M : am_Hp) (bc bs : Nat), k + j = md_n P.1 → pI M0 M P.1 l e k → 10 * j ≤ bc → 70 * j ≤ bs → am_J X 10 [(0, .ref a), (1, .ref l), (2, .int (i3 k))] [] M bc bs
  | 0, k, M, bc, bs, hk, h, hbc, hbs => by
    obtain ⟨B, hB, hw⟩ := ow_in hO h.2.2.1
    have h12 := md_wf_n hw
    obtain rfl : k = md_n P.1 := by omega
    exact vL_people_10 hX hM (fun x0 x1 x2 y0 y1 y2 y3 y4 M bc bs => am_J X 87 [(0, .ref x0), (1, .ref x1), (2, .int x2)] [.int y0, .int y1, .ref y2, .ref y3, .ref y4] M bc bs) (fun _ _ _ _ _ _ _ _ _ _ _ h => h) ⟨hB.1, ct_i (g_passengerCount (d := d + 5) hB (md_wf_ok hw)) ⟨fun _ => kk M h, fun y => absurd ((i3_le (by omega) (by omega)).mpr (Nat.le_refl _)) y⟩⟩
  | j + 1, k, M, bc, bs, hk, h, hbc, hbs => p_step (d := d) he hX hM hO hk h hbc hbs (fun M bc bs h1 h2 h3 => p_loop (d := d) he hX hM hO kk j (k + 1) M bc bs (by omega) h1 h2 h3)
theorem w_people {G : am_Gx} {d T a e : Nat} {M : am_Hp} {S : Nat → Prop} {P : ps} {f : Int32} {sn : md_R} {tx : List Nat} {e1 e2 : Int32} (he : em G e) (te : hp_T M e = 43) (ne : hp_N M e = 0) (hO : ow T M a S P f sn tx e1 e2) : am_CT G (d + 7) rL_people [.ref a] M 130 900 (fun o M' => ∃ l, o = .inl (some (.ref l)) ∧ pL M M' P.1 l e) := by
  refine am_intro mkL_people rfl (Nat.le_of_ble_eq_true rfl) rfl (fun X hX hM => ?_)
  obtain ⟨B, hB, hw⟩ := ow_gN hO
  have h12 := md_wf_n hw
  refine vL_people_0 hX hM (fun x0 x1 x2 M bc bs => am_J X 10 [(0, .ref x0), (1, .ref x1), (2, .int x2)] [] M bc bs) (fun _ _ _ _ _ _ h => h) ⟨by omega, by omega, fun l hl zl => ?_⟩
  simp only [forall_eq]
  obtain ⟨o1, o2, -⟩ := o_at M l 8
  have el : e ≠ l := ne_fresh te hl
  have s0 : ∀ x, x ≠ l → sm M (hp_sR (hp_sI (hp_o M l 8) 140 l 0) 141 l (e + 1)) x := fun x hx => ((sm_o hx).tr (sm_sI hx)).tr (sm_sR hx)
  refine ct_v (k_AI (d := d + 3) he o1) ?_
  refine p_loop (d := d) (e := e) he hX hM hO (fun M' h => ⟨l, rfl, h⟩) (md_n P.1) 0 _ _ _ (by omega) ⟨hl, zl, fun x x1 _ => s0 x (ne_fr x1 hl), fun _ => 0, ⟨o1, ?_, .inl ⟨rfl, R_at _ _ _ _, (s0 e el).1.trans te, (s0 e el).2.1.trans ne⟩⟩, fun i hi => absurd hi (Nat.not_lt_zero _)⟩ (by omega) (by omega)
  show hp_I (hp_sI (hp_o M l 8) 140 l 0) 142 l = i3 0
  rw [hp_I_sIu _ _ _ _ (by decide)]
  exact o2 142
/-! state -/
def fX (F : Nat → Int32) : Nat → Int32 → Int32
  | 0, v => v
  | n + 1, v => (31 : Int32) * fX F n v + F n
def sC (g : md_R) : Nat → Int32 → Int32
  | 0, v => v
  | n + 1, v => fX (cX g n) 6 (sC g n v)
def sP (g : md_R) : Nat → Int32 → Int32
  | 0, v => v
  | n + 1, v => fX (pE g n) 7 (sP g n v)
/-- the law's number of a state -/
def sV (g : md_R) : Int32 := (31 : Int32) * sP g (md_n g) (sC g 3 ((31 : Int32) * ((31 : Int32) * g 0 + g 3) + (md_te g).toInt32)) + i3 (md_n g)
theorem s_in1 {X : am_Cx} {G : am_Gx} {d a p q i N : Nat} {Q : am_Q} {M : am_Hp} {F : Nat → Int32} {v0 : Int32} (hX : am_ok X rL_state G (d + 1)) (hM : am_me X rL_state Q) (t : hp_T M q = 22) (hn : hp_N M q = N) (hN : N < 100) (hE : ∀ j, j < N → hp_E M q j = F j) {bc bs : Nat} (kk : am_J X 33 [(0, .ref a), (1, .int (fX F N v0)), (2, .ref p), (3, .int (3 : Int32)), (4, .int (i3 (i + 1)))] [] M bc bs) : ∀ (j k : Nat), k + j = N → am_J X 57 [(0, .ref a), (1, .int (fX F k v0)), (2, .ref p), (3, .int (3 : Int32)), (4, .int (i3 i)), (6, .ref q), (7, .int (i3 N)), (8, .int (i3 k))] [] M bc bs
  | 0, k, hk => by
    obtain rfl : k = N := by omega
    refine vL_state_57 hX hM (fun x0 x1 x2 x3 x4 M bc bs => am_J X 33 [(0, .ref x0), (1, .int x1), (2, .ref x2), (3, .int x3), (4, .int x4)] [] M bc bs) (fun _ _ _ _ _ _ _ _ h => h) (fun x0 x1 x2 x3 x4 x6 x7 x8 M bc bs => am_J X 57 [(0, .ref x0), (1, .int x1), (2, .ref x2), (3, .int x3), (4, .int x4), (6, .ref x6), (7, .int x7), (8, .int x8)] [] M bc bs) (fun _ _ _ _ _ _ _ _ _ _ _ h => h) ⟨fun _ v2 e2 => ?_, fun y => absurd ((i3_le (by omega) (by omega)).mpr (Nat.le_refl _)) y⟩
    rw [e2, i3_one]
    exact kk
  | j + 1, k, hk => by
    refine vL_state_57 hX hM (fun x0 x1 x2 x3 x4 M bc bs => am_J X 33 [(0, .ref x0), (1, .int x1), (2, .ref x2), (3, .int x3), (4, .int x4)] [] M bc bs) (fun _ _ _ _ _ _ _ _ h => h) (fun x0 x1 x2 x3 x4 x6 x7 x8 M bc bs => am_J X 57 [(0, .ref x0), (1, .int x1), (2, .ref x2), (3, .int x3), (4, .int x4), (6, .ref x6), (7, .int x7), (8, .int x8)] [] M bc bs) (fun _ _ _ _ _ _ _ _ _ _ _ h => h) ⟨fun y => ?_, fun _ => ⟨t, by rw [hn]; exact vp_in_i3 (by omega) (by omega), fun v5 e5 v6 e6 v7 e7 => ?_⟩⟩
    · have := (i3_le (by omega) (by omega)).mp y
      omega
    · rw [i3_toNat (by omega), hE k (by omega)] at e5
      rw [e7, e6, e5, i3_one]
      exact s_in1 hX hM t hn hN hE kk j (k + 1) (by omega)
theorem s_in2 {X : am_Cx} {G : am_Gx} {d a p q N : Nat} {Q : am_Q} {M : am_Hp} {F : Nat → Int32} {v0 : Int32} (hX : am_ok X rL_state G (d + 1)) (hM : am_me X rL_state Q) (t : hp_T M q = 22) (hn : hp_N M q = N) (hN : N < 100) (hE : ∀ j, j < N → hp_E M q j = F j) {bc bs : Nat} (kk : am_J X 99 [(0, .ref a), (1, .int (fX F N v0)), (2, .ref p)] [] M bc bs) : ∀ (j k : Nat), k + j = N → am_J X 129 [(0, .ref a), (1, .int (fX F k v0)), (2, .ref p), (4, .ref q), (5, .int (i3 N)), (6, .int (i3 k))] [] M bc bs
  | 0, k, hk => by
    obtain rfl : k = N := by omega
    exact vL_state_129 hX hM (fun x0 x1 x2 M bc bs => am_J X 99 [(0, .ref x0), (1, .int x1), (2, .ref x2)] [] M bc bs) (fun _ _ _ _ _ _ h => h) (fun x0 x1 x2 x4 x5 x6 M bc bs => am_J X 129 [(0, .ref x0), (1, .int x1), (2, .ref x2), (4, .ref x4), (5, .int x5), (6, .int x6)] [] M bc bs) (fun _ _ _ _ _ _ _ _ _ h => h) ⟨fun _ => kk, fun y => absurd ((i3_le (by omega) (by omega)).mpr (Nat.le_refl _)) y⟩
  | j + 1, k, hk => by
    refine vL_state_129 hX hM (fun x0 x1 x2 M bc bs => am_J X 99 [(0, .ref x0), (1, .int x1), (2, .ref x2)] [] M bc bs) (fun _ _ _ _ _ _ h => h) (fun x0 x1 x2 x4 x5 x6 M bc bs => am_J X 129 [(0, .ref x0), (1, .int x1), (2, .ref x2), (4, .ref x4), (5, .int x5), (6, .int x6)] [] M bc bs) (fun _ _ _ _ _ _ _ _ _ h => h) ⟨fun y => ?_, fun _ => ⟨t, by rw [hn]; exact vp_in_i3 (by omega) (by omega), fun v5 e5 v6 e6 v7 e7 => ?_⟩⟩
    · have := (i3_le (by omega) (by omega)).mp y
      omega
    · rw [i3_toNat (by omega), hE k (by omega)] at e5
      rw [e7, e6, e5, i3_one]
      exact s_in2 hX hM t hn hN hE kk j (k + 1) (by omega)
/-- the loop over the cars -/
theorem s_cars {X : am_Cx} {G : am_Gx} {d a p : Nat} {Q : am_Q} {M0 M : am_Hp} {g : md_R} {v0 : Int32} (hX : am_ok X rL_state G (d + 1)) (hM : am_me X rL_state Q) (h : cI M0 M g a p 3) {bc bs : Nat} (kk : am_J X 33 [(0, .ref a), (1, .int (sC g 3 v0)), (2, .ref p), (3, .int (3 : Int32)), (4, .int (i3 3))] [] M bc bs) : ∀ (j k : Nat), k + j = 3 → am_J X 33 [(0, .ref a), (1, .int (sC g k v0)), (2, .ref p), (3, .int (3 : Int32)), (4, .int (i3 k))] [] M bc bs
  | 0, k, hk => by
    obtain rfl : k = 3 := by omega
    exact kk
  | j + 1, k, hk => by
    obtain ⟨hp0, zp, tp, np, hf, hr⟩ := h
    obtain ⟨r1, r2, r3, r4, r5⟩ := hr k (by omega)
    refine vL_state_33 hX hM (fun x0 x1 x2 x3 x4 x6 x7 x8 M bc bs => am_J X 57 [(0, .ref x0), (1, .int x1), (2, .ref x2), (3, .int x3), (4, .int x4), (6, .ref x6), (7, .int x7), (8, .int x8)] [] M bc bs) (fun _ _ _ _ _ _ _ _ _ _ _ h => h) (fun x0 x1 x2 M bc bs => am_J X 99 [(0, .ref x0), (1, .int x1), (2, .ref x2)] [] M bc bs) (fun _ _ _ _ _ _ h => h) ⟨fun y => ?_, fun _ => ⟨tp, by rw [np]; exact vp_in_i3 (by omega) (by omega), ?_⟩⟩
    · have := (i3_le (b := k) (a := 3) (by omega) (by omega)).mp y
      omega
    · rw [i3_toNat (by omega)]
      refine ⟨r2, fun p14 e14 => ?_⟩
      rw [e14]
      refine ⟨r3, fun v16 e16 => ?_⟩
      rw [e16, r4]
      refine s_in1 hX hM r3 r4 (by omega) r5 (v0 := sC g k v0) ?_ 6 0 (by omega)
      exact s_cars hX hM ⟨hp0, zp, tp, np, hf, hr⟩ kk j (k + 1) (by omega)
/-- the loop over the passengers -/
def sI (M1 M : am_Hp) (l p k : Nat) : Prop := p ≠ l ∧ hp_T M p = 11 ∧ hp_R M 203 p = l ∧ hp_I M 200 p = i3 k ∧ hp_I M 202 p = hp_I M1 140 l ∧ ∀ x, x ≠ p → sm M1 M x
theorem s_people {X : am_Cx} {G : am_Gx} {d T a l p e : Nat} {Q : am_Q} {M0 M1 : am_Hp} {S : Nat → Prop} {P : ps} {f : Int32} {sn : md_R} {tx : List Nat} {e1 e2 : Int32} {v0 : Int32} (hX : am_ok X rL_state G (d + 3)) (hM : am_me X rL_state Q) (hO : ow T M0 a S P f sn tx e1 e2) (h : pL M0 M1 P.1 l e) (hp1 : hp_T M1 p = 0) (kk : ∀ M, fr (fun _ => False) M0 M → Q (.inl (some (.int ((31 : Int32) * sP P.1 (md_n P.1) v0 + i3 (md_n P.1))))) M) {bc bs : Nat} : ∀ (j k : Nat) (M : am_Hp), k + j = md_n P.1 → sI M1 M l p k → am_J X 99 [(0, .ref a), (1, .int (sP P.1 k v0)), (2, .ref p)] [] M bc bs
  | 0, k, M, hk, hs => by
    obtain ⟨hl0, zl, hf, r, ⟨L1, L2, L3⟩, hr⟩ := h
    obtain ⟨q1, q2, q3, q4, q5, q6⟩ := hs
    have fM : fr (fun _ => False) M0 M := fr_q (fr_0 hf hp1) hf q6
    obtain ⟨B, hB, hw⟩ := ow_in hO fM
    obtain rfl : k = md_n P.1 := by omega
    have sl := q6 l q1.symm
    refine vL_state_99 hX hM (fun x0 x1 x2 x4 x5 x6 M bc bs => am_J X 129 [(0, .ref x0), (1, .int x1), (2, .ref x2), (4, .ref x4), (5, .int x5), (6, .int x6)] [] M bc bs) (fun _ _ _ _ _ _ _ _ _ h => h) ⟨q2, ct_i (k_hasNext (d := d + 1) q2 q3 (sl.1.trans L1) zl) ⟨fun _ => ⟨hB.1, ct_i (g_passengerCount (d := d + 1) hB (md_wf_ok hw)) (kk M fM)⟩, fun y => absurd ?_ y⟩⟩
    rw [q4, sl.2.2.1, L2, if_pos rfl]
  | j + 1, k, M, hk, hs => by
    obtain ⟨hl0, zl, hf, r, ⟨L1, L2, L3⟩, hr⟩ := id h
    obtain ⟨q1, q2, q3, q4, q5, q6⟩ := hs
    have fM : fr (fun _ => False) M0 M := fr_q (fr_0 hf hp1) hf q6
    obtain ⟨B, hB, hw⟩ := ow_in hO fM
    have h12 := md_wf_n hw
    have sl := q6 l q1.symm
    obtain ⟨E, cap, n0, f0, hE, tE, nE, ncap, hcap, hq⟩ : ∃ E cap, 0 < md_n P.1 ∧ hp_T M0 E = 0 ∧ hp_R M1 141 l = E + 1 ∧ hp_T M1 E = 29 ∧ hp_N M1 E = cap ∧ md_n P.1 ≤ cap ∧ (cap = 10 ∨ cap = 15) ∧ ∀ j, j < md_n P.1 → hp_Q M1 E j = r j ∧ r j ≠ 0 ∧ hp_T M1 (r j) = 22 := by
      rcases L3 with ⟨n0, -⟩ | L3
      · omega
      · exact L3
    have sE := q6 E (ne_fresh tE hp1)
    obtain ⟨w1, w2, w3⟩ := hq k (by omega)
    obtain ⟨v1, v2⟩ := hr k (by omega)
    have rp : r k ≠ p := ne_fresh w3 hp1
    refine vL_state_99 hX hM (fun x0 x1 x2 x4 x5 x6 M bc bs => am_J X 129 [(0, .ref x0), (1, .int x1), (2, .ref x2), (4, .ref x4), (5, .int x5), (6, .int x6)] [] M bc bs) (fun _ _ _ _ _ _ _ _ _ h => h) ⟨q2, ct_i (k_hasNext (d := d + 1) q2 q3 (sl.1.trans L1) zl) ⟨fun y => ?_, fun _ => ⟨q2, ?_⟩⟩⟩
    · exfalso
      rw [q4, sl.2.2.1, L2, if_neg (fun z => by have := (i3_eq (by omega) (by omega)).mp z; omega)] at y
      exact absurd y (by decide)
    · refine am_CT.mono (fun o M' hh => ?_) (k_next (d := d) q2 q3 (sl.1.trans L1) zl ((sl.2.2.1 140).trans q5.symm) q4 ((sl.2.2.1 142).trans L2) (by omega) ((sl.2.2.2.1 141).trans hE) (sE.1.trans tE) (sE.2.1.trans nE) ncap (by omega) (by rw [sE.2.2.2.2.2.1, w1]; exact w2))
      obtain ⟨eo, rfl⟩ := hh
      rw [sE.2.2.2.2.2.1, w1] at eo
      have q6' : ∀ x, x ≠ p → sm M1 (hp_sI (hp_sI M 200 p (i3 k + 1)) 201 p (i3 k)) x := fun x hx => ((q6 x hx).tr (sm_sI hx)).tr (sm_sI hx)
      have sr := q6' (r k) rp
      have pr := pW_sm sr v2
      refine ⟨r k, eo, sr.1.trans w3, fun v12 e12 => ?_⟩
      rw [e12, pr.1]
      refine s_in2 hX hM (sr.1.trans w3) pr.1 (by omega) pr.2 (v0 := sP P.1 k v0) ?_ 7 0 (by omega)
      refine s_people hX hM hO h hp1 kk j (k + 1) _ (by omega) ⟨q1, q2, q3, ?_, ?_, q6'⟩
      · rw [hp_I_sIu _ _ _ _ (by decide), hp_I_sI, i3_one]
      · rw [hp_I_sIu _ _ _ _ (by decide), hp_I_sIu _ _ _ _ (by decide)]
        exact q5
theorem w_state {G : am_Gx} {d T a e : Nat} {M : am_Hp} {S : Nat → Prop} {P : ps} {f : Int32} {sn : md_R} {tx : List Nat} {e1 e2 : Int32} (he : em G e) (te : hp_T M e = 43) (ne : hp_N M e = 0) (hO : ow T M a S P f sn tx e1 e2) : am_CT G (d + 8) rL_state [.ref a] M 170 1200 (fun o M' => o = .inl (some (.int (sV P.1))) ∧ fr (fun _ => False) M M') := by
  refine am_intro mkL_state rfl (Nat.le_of_ble_eq_true rfl) rfl (fun X hX hM => ?_)
  obtain ⟨B, hB, hw⟩ := ow_gN hO
  have ok := md_wf_ok hw
  refine vL_state_0 hX hM (fun x0 x1 x2 x3 x4 M bc bs => am_J X 33 [(0, .ref x0), (1, .int x1), (2, .ref x2), (3, .int x3), (4, .int x4)] [] M bc bs) (fun _ _ _ _ _ _ _ _ h => h) ⟨hB.1, ct_i (g_time (d := d + 6) hB ok) ⟨hB.1, ct_i (g_tripCount (d := d + 6) hB ok) ⟨hB.1, ct_l (g_totalEnergy (d := d + 5) hB ok) (fun v10 e10 => ⟨by omega, by omega, am_CT.mono (fun o M1 hh => .inl ?_) (w_cars (d := d + 3) hO)⟩)⟩⟩⟩
  obtain ⟨p, eo, hc⟩ := hh
  refine ⟨p, eo, hc.2.2.1, fun v16 e16 => ?_⟩
  rw [e16, hc.2.2.2.1, e10]
  have hf1 := hc.2.2.2.2.1
  have hO1 := ow_fr hf1 (fun _ _ z => z) hO
  refine s_cars (d := d + 7) hX hM hc ?_ 3 0 (by omega)
  refine vL_state_33 hX hM (fun x0 x1 x2 x3 x4 x6 x7 x8 M bc bs => am_J X 57 [(0, .ref x0), (1, .int x1), (2, .ref x2), (3, .int x3), (4, .int x4), (6, .ref x6), (7, .int x7), (8, .int x8)] [] M bc bs) (fun _ _ _ _ _ _ _ _ _ _ _ h => h) (fun x0 x1 x2 M bc bs => am_J X 99 [(0, .ref x0), (1, .int x1), (2, .ref x2)] [] M bc bs) (fun _ _ _ _ _ _ h => h) ⟨fun _ => ⟨by omega, by omega, am_CT.mono (fun o M2 hh => .inl ?_) (w_people (d := d) he ((hf1 e (by omega) (fun z => z)).1.trans te) ((hf1 e (by omega) (fun z => z)).2.1.trans ne) hO1)⟩, fun y => absurd (by decide) y⟩
  obtain ⟨l, eo2, hl⟩ := hh
  obtain ⟨hl0, zl, hf, r, hL, hr⟩ := id hl
  refine ⟨l, eo2, hL.1, by omega, by omega, am_CT.mono (fun o M3 hh => ?_) (k_It (d := d + 5) hL.1 zl)⟩
  obtain ⟨q, eo3, hq, zq, tq, rq, cq, xq', sq⟩ := hh
  refine ⟨q, eo3, ?_⟩
  have ql : q ≠ l := fun z => by rw [z, hL.1] at hq; omega
  refine s_people (d := d + 5) hX hM hO1 hl hq (fun M4 hf4 => ⟨rfl, ?_⟩) (md_n P.1) 0 M3 (by omega) ⟨ql, tq, rq, cq, xq', sq⟩
  exact hf1.tr hf4 (fun _ _ z => z)
