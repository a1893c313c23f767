/-! .. the law's at and build (by gen/mk8s.py) -/
theorem gL_f0 {T : Nat} {M : am_Hp} {a h E n c : Nat} {L : Nat → Nat → Nat} {g : md_R} {hist : Nat → md_R} (hg : gL T M a h E n c L g (fun _ => -1) hist) : hp_I M 126 a = 0 := by
  rcases hg.2.2.2.2.2.2 with z | ⟨-, -, hw⟩
  · exact z
  · exact absurd (md_wf_ok hw).1 (by unfold md_n; decide)
/-- the script's number at a place, 0 behind its end -/
def sx (M : am_Hp) (sb : Nat) (k : Int32) : Int32 := if Int32.ofNat (hp_N M sb) ≤ k then 0 else hp_E M sb k.toNatClampNeg
theorem w_at {G : am_Gx} {d sb : Nat} {M : am_Hp} {k : Nat} (t : hp_T M sb = 42) (hn : hp_N M sb ≤ 260) (hk : k < 100) : am_CT G (d + 1) rL_at [.ref sb, .int (i3 k)] M 0 0 (qi (sx M sb (i3 k)) M) := by
  refine am_intro mkL_at rfl (Nat.le_of_ble_eq_true rfl) rfl (fun X hX hM => ?_)
  refine vL_at_0 hX hM ⟨t, fun e => ⟨by unfold sx; rw [if_pos e], rfl⟩, fun e => ⟨?_, by unfold sx; rw [if_neg e], rfl⟩⟩
  have e2 : k < hp_N M sb := by
    have h1 : ¬ (i3 (hp_N M sb) ≤ i3 k) := e
    rw [i3_le (by omega) (by omega)] at h1
    omega
  exact vp_in_i3 e2 (by omega)
/-- the first loop: one passenger -/
def bA (a2 a3 : Int32) (P : ps) : ps := aS P ((0 : Int32)) ((((a2 >>> (((2 : Int32) + ((3 : Int32) * a3)) &&& 31)) &&& (15 : Int32)) - ((a2 >>> (((2 : Int32) + ((3 : Int32) * a3)) &&& 31)) &&& (15 : Int32)) / (10 : Int32) * (10 : Int32))) ((((a2 >>> (((5 : Int32) + ((3 : Int32) * a3)) &&& 31)) &&& (15 : Int32)) - ((a2 >>> (((5 : Int32) + ((3 : Int32) * a3)) &&& 31)) &&& (15 : Int32)) / (10 : Int32) * (10 : Int32))) (((20 : Int32) + ((a2 >>> (a3 &&& 31)) &&& (127 : Int32))))
def bAs (a2 : Int32) : Nat → ps → ps
  | 0, P => P
  | n + 1, P => bA a2 (i3 n) (bAs a2 n P)
/-- the second loop: the numbers of a place -/
def bB0 (v3 : Int32) (P : ps) : ps := aS P ((0 : Int32)) (((v3 &&& (15 : Int32)) - (v3 &&& (15 : Int32)) / (10 : Int32) * (10 : Int32))) ((((v3 >>> ((4 : Int32) &&& 31)) &&& (15 : Int32)) - ((v3 >>> ((4 : Int32) &&& 31)) &&& (15 : Int32)) / (10 : Int32) * (10 : Int32))) (((10 : Int32) + ((v3 >>> ((8 : Int32) &&& 31)) &&& (127 : Int32))))
def bB1 (a4 : Int32) (P : ps) : ps := if (((a4 >>> ((15 : Int32) &&& 31)) &&& (1 : Int32)) = 0) then aS P ((6 : Int32)) (((1 : Int32) + ((a4 >>> ((16 : Int32) &&& 31)) &&& (7 : Int32)))) ((0 : Int32)) ((0 : Int32)) else P
def bB2 (a4 : Int32) (P : ps) : ps := if (((a4 >>> ((19 : Int32) &&& 31)) &&& (7 : Int32)) = 0) then aS P ((2 : Int32)) ((((a4 >>> ((22 : Int32) &&& 31)) &&& (3 : Int32)) - ((a4 >>> ((22 : Int32) &&& 31)) &&& (3 : Int32)) / (3 : Int32) * (3 : Int32))) (((1 : Int32) + (((a4 >>> ((24 : Int32) &&& 31)) &&& (3 : Int32)) - ((a4 >>> ((24 : Int32) &&& 31)) &&& (3 : Int32)) / (3 : Int32) * (3 : Int32)))) ((0 : Int32)) else P
def bB3 (a4 : Int32) (P : ps) : ps := if (((a4 >>> ((19 : Int32) &&& 31)) &&& (7 : Int32)) = (1 : Int32)) then aS P ((3 : Int32)) ((((a4 >>> ((22 : Int32) &&& 31)) &&& (3 : Int32)) - ((a4 >>> ((22 : Int32) &&& 31)) &&& (3 : Int32)) / (3 : Int32) * (3 : Int32))) ((0 : Int32)) ((0 : Int32)) else P
def bB4 (a4 : Int32) (P : ps) : ps := if (((a4 >>> ((19 : Int32) &&& 31)) &&& (3 : Int32)) = (2 : Int32)) then aS P ((4 : Int32)) ((((a4 >>> ((22 : Int32) &&& 31)) &&& (3 : Int32)) - ((a4 >>> ((22 : Int32) &&& 31)) &&& (3 : Int32)) / (3 : Int32) * (3 : Int32))) ((0 : Int32)) ((0 : Int32)) else P
def bB5 (a4 : Int32) (P : ps) : ps := if (((a4 >>> ((19 : Int32) &&& 31)) &&& (7 : Int32)) = (3 : Int32)) then aS P ((5 : Int32)) ((((a4 >>> ((22 : Int32) &&& 31)) &&& (3 : Int32)) - ((a4 >>> ((22 : Int32) &&& 31)) &&& (3 : Int32)) / (3 : Int32) * (3 : Int32))) (((100 : Int32) + ((a4 >>> ((8 : Int32) &&& 31)) &&& (511 : Int32)))) ((0 : Int32)) else P
def bB6 (a4 : Int32) (P : ps) : ps := if (((a4 >>> ((19 : Int32) &&& 31)) &&& (7 : Int32)) = (7 : Int32)) then aS P ((1 : Int32)) ((((a4 >>> ((22 : Int32) &&& 31)) &&& (15 : Int32)) - ((a4 >>> ((22 : Int32) &&& 31)) &&& (15 : Int32)) / (if (1 : Int32) < i3 (md_n P.1) then i3 (md_n P.1) else (1 : Int32)) * (if (1 : Int32) < i3 (md_n P.1) then i3 (md_n P.1) else (1 : Int32)))) ((0 : Int32)) ((0 : Int32)) else P
def bB7 (a4 : Int32) (P : ps) : ps := if (((a4 >>> ((26 : Int32) &&& 31)) &&& (3 : Int32)) = 0) then aS P ((6 : Int32)) (((1 : Int32) + ((a4 >>> ((28 : Int32) &&& 31)) &&& (3 : Int32)))) ((0 : Int32)) ((0 : Int32)) else P
def bB (c : Int32) (P : ps) : ps := bB7 c (bB6 c (bB5 c (bB4 c (bB3 c (bB2 c (bB1 c (bB0 c P)))))))
def bBs (s : Int32 → Int32) : Nat → ps → ps
  | 0, P => P
  | n + 1, P => bB (s (i3 (n + 1))) (bBs s n P)
def p0 : ps := (md_g0, 0, fun _ => md_g0)
/-- what the law's build makes of a script -/
def bZ (s : Int32 → Int32) : ps := bBs s 12 (bAs (s 0) ((1 : Int32) + (s 0 &&& (3 : Int32))).toNatClampNeg p0)
theorem and3 (z : Int32) : ∃ m, m < 4 ∧ z &&& (3 : Int32) = i3 m := by
  refine ⟨z.toBitVec.toNat &&& 3, Nat.and_lt_two_pow (n := 2) _ (by decide), ?_⟩
  apply Int32.toBitVec_inj.mp
  apply BitVec.eq_of_toNat_eq
  rw [Int32.toBitVec_and, BitVec.toNat_and]
  have h : z.toBitVec.toNat &&& 3 < 4 := Nat.and_lt_two_pow (n := 2) _ (by decide)
  show z.toBitVec.toNat &&& 3 = (i3 (z.toBitVec.toNat &&& 3)).toBitVec.toNat
  generalize z.toBitVec.toNat &&& 3 = q at h ⊢
  match q, h with
  | 0, _ => rfl
  | 1, _ => rfl
  | 2, _ => rfl
  | 3, _ => rfl
theorem and3_1 (z : Int32) : ∃ m, 1 ≤ m ∧ m ≤ 4 ∧ (1 : Int32) + (z &&& (3 : Int32)) = i3 m := by
  obtain ⟨m, hm, e⟩ := and3 z
  exact ⟨1 + m, by omega, by omega, by rw [e, i3_lit 1, i3_add]⟩
/-- the law's group while it is built: all that was there is as it was -/
def bD (T : Nat) (M0 M : am_Hp) (a : Nat) (P : ps) : Prop := ∃ S, ow T M a S P 0 md_g0 [] (-1) (-1) ∧ fr (fun _ => False) M0 M ∧ ∀ x, S x → hp_T M0 x = 0
theorem bD_gt {U : Nat} {M0 M M1 : am_Hp} {a : Nat} {P' : ps} {S : Nat → Prop} (hf : fr (fun _ => False) M0 M) (hS : ∀ x, S x → hp_T M0 x = 0) (h : gt U M M1 a S P' 0 md_g0 [] (-1) (-1)) : bD U M0 M1 a P' := by
  obtain ⟨S', h1, h2, h3⟩ := h
  refine ⟨S', h1, hf.tr h2 (fun x x1 _ z => x1 (hS x z)), fun x hx => ?_⟩
  rcases h3 x hx with y | y
  · exact hS x y
  · exact Classical.byContradiction (fun z => z (by rw [← (hf x z (fun w => w)).1]; exact y))
theorem bD_T {T U : Nat} {M0 M : am_Hp} {a : Nat} {P : ps} (hT : T ≤ U) (h : bD T M0 M a P) : bD U M0 M a P := by
  obtain ⟨S, h1, h2, h3⟩ := h
  exact ⟨S, ow_T hT h1, h2, h3⟩
/-- .. an act of it -/
theorem bD_act {G : am_Gx} {d T a : Nat} {M0 M : am_Hp} {P : ps} {k x y z : Int32} {R : am_Hp → Prop} (h : bD T M0 M a P) (hT : T < 80000000) (kk : ∀ M1, bD (T + 1830) M0 M1 a (aS P k x y z) → R M1) : am_CT G (d + 8) rL_act [.ref a, .int k, .int x, .int y, .int z] M 1 6 (fun o M' => ∃ v : Int32, o = .inl (some (.int v)) ∧ R M') := by
  obtain ⟨S, h1, h2, h3⟩ := h
  refine am_CT.mono (fun o M' hh => ?_) (w_act h1 hT)
  exact ⟨_, hh.1, kk M' (bD_gt h2 h3 hh.2)⟩
theorem bD_ta {T : Nat} {M0 M : am_Hp} {a : Nat} {P : ps} (h : bD T M0 M a P) : hp_T M a = 7 := by
  obtain ⟨S, h1, -⟩ := h
  exact (ow_ta h1).1
theorem bD_n {G : am_Gx} {d T a : Nat} {M0 M : am_Hp} {P : ps} (h : bD T M0 M a P) : am_CT G (d + 1) rX6_passengerCount [.ref a] M 0 0 (qi (i3 (md_n P.1)) M) := by
  obtain ⟨S, h1, -⟩ := h
  obtain ⟨B, hB, hw⟩ := ow_gN h1
  exact g_passengerCount hB (md_wf_ok hw)
theorem bD_n12 {T a : Nat} {M0 M : am_Hp} {P : ps} (h : bD T M0 M a P) : md_n P.1 ≤ 12 := by
  obtain ⟨S, h1, -⟩ := h
  obtain ⟨B, hB, hw⟩ := ow_gN h1
  exact md_wf_n hw
/-- the script stands -/
def bS (M0 M : am_Hp) (sb : Nat) : Prop := hp_T M sb = 42 ∧ hp_N M sb ≤ 260 ∧ ∀ k, sx M sb k = sx M0 sb k
theorem bS_bI {T a sb : Nat} {M0 M : am_Hp} {P : ps} (t : hp_T M0 sb = 42) (hn : hp_N M0 sb ≤ 260) (h : bD T M0 M a P) : bS M0 M sb := by
  obtain ⟨S, -, h2, -⟩ := h
  have s := h2 sb (by omega) (fun z => z)
  exact ⟨s.1.trans t, by rw [s.2.1]; exact hn, fun k => by unfold sx; rw [s.2.1, s.2.2.2.2.1]⟩
theorem b_122 {X : am_Cx} {G : am_Gx} {d T sb a : Nat} {Q : am_Q} {bc bs bc' bs' : Nat} {v c : Int32} {M0 M : am_Hp} {P : ps} (hX : am_ok X rL_build G (d + 9)) (hM : am_me X rL_build Q) (h : bD T M0 M a P) (hT : T < 80000000) (hbc : 1 ≤ bc) (hbs : 6 ≤ bs) (e1 : bc' + 1 ≤ bc) (e2 : bs' + 6 ≤ bs) (kk : ∀ M1 bc2 bs2, bD (T + 1830) M0 M1 a (bB1 c P) → bc' ≤ bc2 → bs' ≤ bs2 → am_J X 151 [(0, .ref sb), (1, .ref a), (3, .int v), (4, .int c)] [] M1 bc2 bs2) : am_J X 122 [(0, .ref sb), (1, .ref a), (3, .int v), (4, .int c)] [] M bc bs := by
  refine vL_build_122 hX hM (fun x0 x1 x3 x4 M bc bs => am_J X 151 [(0, .ref x0), (1, .ref x1), (3, .int x3), (4, .int x4)] [] M bc bs) (fun _ _ _ _ _ _ _ h => h) ⟨fun e => ?_, fun e => kk M bc bs (bD_T (T := T) (by omega) (by unfold bB1; rw [if_neg e]; exact h)) (by omega) (by omega)⟩
  · exact ⟨hbc, hbs, bD_act h hT (fun M1 h1 => kk M1 _ _ (by unfold bB1; rw [if_pos e]; exact h1) (by omega) (by omega))⟩
theorem b_151 {X : am_Cx} {G : am_Gx} {d T sb a : Nat} {Q : am_Q} {bc bs bc' bs' : Nat} {v c : Int32} {M0 M : am_Hp} {P : ps} (hX : am_ok X rL_build G (d + 9)) (hM : am_me X rL_build Q) (h : bD T M0 M a P) (hT : T < 80000000) (hbc : 1 ≤ bc) (hbs : 6 ≤ bs) (e1 : bc' + 1 ≤ bc) (e2 : bs' + 6 ≤ bs) (kk : ∀ M1 bc2 bs2, bD (T + 1830) M0 M1 a (bB2 c P) → bc' ≤ bc2 → bs' ≤ bs2 → am_J X 189 [(0, .ref sb), (1, .ref a), (3, .int v), (4, .int c)] [] M1 bc2 bs2) : am_J X 151 [(0, .ref sb), (1, .ref a), (3, .int v), (4, .int c)] [] M bc bs := by
  refine vL_build_151 hX hM (fun x0 x1 x3 x4 M bc bs => am_J X 189 [(0, .ref x0), (1, .ref x1), (3, .int x3), (4, .int x4)] [] M bc bs) (fun _ _ _ _ _ _ _ h => h) ⟨fun e => ?_, fun e => kk M bc bs (bD_T (T := T) (by omega) (by unfold bB2; rw [if_neg e]; exact h)) (by omega) (by omega)⟩
  · exact ⟨hbc, hbs, bD_act h hT (fun M1 h1 => kk M1 _ _ (by unfold bB2; rw [if_pos e]; exact h1) (by omega) (by omega))⟩
theorem b_189 {X : am_Cx} {G : am_Gx} {d T sb a : Nat} {Q : am_Q} {bc bs bc' bs' : Nat} {v c : Int32} {M0 M : am_Hp} {P : ps} (hX : am_ok X rL_build G (d + 9)) (hM : am_me X rL_build Q) (h : bD T M0 M a P) (hT : T < 80000000) (hbc : 1 ≤ bc) (hbs : 6 ≤ bs) (e1 : bc' + 1 ≤ bc) (e2 : bs' + 6 ≤ bs) (kk : ∀ M1 bc2 bs2, bD (T + 1830) M0 M1 a (bB3 c P) → bc' ≤ bc2 → bs' ≤ bs2 → am_J X 218 [(0, .ref sb), (1, .ref a), (3, .int v), (4, .int c)] [] M1 bc2 bs2) : am_J X 189 [(0, .ref sb), (1, .ref a), (3, .int v), (4, .int c)] [] M bc bs := by
  refine vL_build_189 hX hM (fun x0 x1 x3 x4 M bc bs => am_J X 218 [(0, .ref x0), (1, .ref x1), (3, .int x3), (4, .int x4)] [] M bc bs) (fun _ _ _ _ _ _ _ h => h) ⟨fun e => ?_, fun e => kk M bc bs (bD_T (T := T) (by omega) (by unfold bB3; rw [if_neg e]; exact h)) (by omega) (by omega)⟩
  · exact ⟨hbc, hbs, bD_act h hT (fun M1 h1 => kk M1 _ _ (by unfold bB3; rw [if_pos e]; exact h1) (by omega) (by omega))⟩
theorem b_218 {X : am_Cx} {G : am_Gx} {d T sb a : Nat} {Q : am_Q} {bc bs bc' bs' : Nat} {v c : Int32} {M0 M : am_Hp} {P : ps} (hX : am_ok X rL_build G (d + 9)) (hM : am_me X rL_build Q) (h : bD T M0 M a P) (hT : T < 80000000) (hbc : 1 ≤ bc) (hbs : 6 ≤ bs) (e1 : bc' + 1 ≤ bc) (e2 : bs' + 6 ≤ bs) (kk : ∀ M1 bc2 bs2, bD (T + 1830) M0 M1 a (bB4 c P) → bc' ≤ bc2 → bs' ≤ bs2 → am_J X 246 [(0, .ref sb), (1, .ref a), (3, .int v), (4, .int c)] [] M1 bc2 bs2) : am_J X 218 [(0, .ref sb), (1, .ref a), (3, .int v), (4, .int c)] [] M bc bs := by
  refine vL_build_218 hX hM (fun x0 x1 x3 x4 M bc bs => am_J X 246 [(0, .ref x0), (1, .ref x1), (3, .int x3), (4, .int x4)] [] M bc bs) (fun _ _ _ _ _ _ _ h => h) ⟨fun e => ?_, fun e => kk M bc bs (bD_T (T := T) (by omega) (by unfold bB4; rw [if_neg e]; exact h)) (by omega) (by omega)⟩
  · exact ⟨hbc, hbs, bD_act h hT (fun M1 h1 => kk M1 _ _ (by unfold bB4; rw [if_pos e]; exact h1) (by omega) (by omega))⟩
theorem b_246 {X : am_Cx} {G : am_Gx} {d T sb a : Nat} {Q : am_Q} {bc bs bc' bs' : Nat} {v c : Int32} {M0 M : am_Hp} {P : ps} (hX : am_ok X rL_build G (d + 9)) (hM : am_me X rL_build Q) (h : bD T M0 M a P) (hT : T < 80000000) (hbc : 1 ≤ bc) (hbs : 6 ≤ bs) (e1 : bc' + 1 ≤ bc) (e2 : bs' + 6 ≤ bs) (kk : ∀ M1 bc2 bs2, bD (T + 1830) M0 M1 a (bB5 c P) → bc' ≤ bc2 → bs' ≤ bs2 → am_J X 286 [(0, .ref sb), (1, .ref a), (3, .int v), (4, .int c)] [] M1 bc2 bs2) : am_J X 246 [(0, .ref sb), (1, .ref a), (3, .int v), (4, .int c)] [] M bc bs := by
  refine vL_build_246 hX hM (fun x0 x1 x3 x4 M bc bs => am_J X 286 [(0, .ref x0), (1, .ref x1), (3, .int x3), (4, .int x4)] [] M bc bs) (fun _ _ _ _ _ _ _ h => h) ⟨fun e => ?_, fun e => kk M bc bs (bD_T (T := T) (by omega) (by unfold bB5; rw [if_neg e]; exact h)) (by omega) (by omega)⟩
  · exact ⟨hbc, hbs, bD_act h hT (fun M1 h1 => kk M1 _ _ (by unfold bB5; rw [if_pos e]; exact h1) (by omega) (by omega))⟩
theorem b_286 {X : am_Cx} {G : am_Gx} {d T sb a : Nat} {Q : am_Q} {bc bs bc' bs' : Nat} {v c : Int32} {M0 M : am_Hp} {P : ps} (hX : am_ok X rL_build G (d + 9)) (hM : am_me X rL_build Q) (h : bD T M0 M a P) (hT : T < 80000000) (hbc : 1 ≤ bc) (hbs : 6 ≤ bs) (e1 : bc' + 1 ≤ bc) (e2 : bs' + 6 ≤ bs) (kk : ∀ M1 bc2 bs2, bD (T + 1830) M0 M1 a (bB6 c P) → bc' ≤ bc2 → bs' ≤ bs2 → am_J X 324 [(0, .ref sb), (1, .ref a), (3, .int v), (4, .int c)] [] M1 bc2 bs2) : am_J X 286 [(0, .ref sb), (1, .ref a), (3, .int v), (4, .int c)] [] M bc bs := by
  refine vL_build_286 hX hM (fun x0 x1 x3 x4 M bc bs => am_J X 324 [(0, .ref x0), (1, .ref x1), (3, .int x3), (4, .int x4)] [] M bc bs) (fun _ _ _ _ _ _ _ h => h) ⟨fun e => ?_, fun e => kk M bc bs (bD_T (T := T) (by omega) (by unfold bB6; rw [if_neg e]; exact h)) (by omega) (by omega)⟩
  · refine ⟨bD_ta h, ct_i (bD_n h) (fun v5 e5 => ?_)⟩
    have h12 := bD_n12 h
    have n0 : ¬ v5 = 0 := by
      rw [e5]
      by_cases z : 1 < md_n P.1
      · rw [if_pos (show (1 : Int32) < i3 (md_n P.1) from (i3_lt (a := 1) (by omega) (by omega)).mpr z)]
        intro y
        have := (i3_eq (b := 0) (by omega) (by omega)).mp y
        omega
      · rw [if_neg (show ¬ (1 : Int32) < i3 (md_n P.1) from fun y => z ((i3_lt (a := 1) (by omega) (by omega)).mp y))]
        decide
    refine ⟨n0, hbc, hbs, ?_⟩
    subst e5
    exact bD_act h hT (fun M1 h1 => kk M1 _ _ (by unfold bB6; rw [if_pos e]; exact h1) (by omega) (by omega))
theorem b_324 {X : am_Cx} {G : am_Gx} {d T sb a : Nat} {Q : am_Q} {bc bs bc' bs' : Nat} {v c : Int32} {M0 M : am_Hp} {P : ps} (hX : am_ok X rL_build G (d + 9)) (hM : am_me X rL_build Q) (h : bD T M0 M a P) (hT : T < 80000000) (hbc : 1 ≤ bc) (hbs : 6 ≤ bs) (e1 : bc' + 1 ≤ bc) (e2 : bs' + 6 ≤ bs) (kk : ∀ M1 bc2 bs2, bD (T + 1830) M0 M1 a (bB7 c P) → bc' ≤ bc2 → bs' ≤ bs2 → am_J X 352 [(0, .ref sb), (1, .ref a), (3, .int v)] [] M1 bc2 bs2) : am_J X 324 [(0, .ref sb), (1, .ref a), (3, .int v), (4, .int c)] [] M bc bs := by
  refine vL_build_324 hX hM (fun x0 x1 x3 M bc bs => am_J X 352 [(0, .ref x0), (1, .ref x1), (3, .int x3)] [] M bc bs) (fun _ _ _ _ _ _ h => h) ⟨fun e => ?_, fun e => kk M bc bs (bD_T (T := T) (by omega) (by unfold bB7; rw [if_neg e]; exact h)) (by omega) (by omega)⟩
  · exact ⟨hbc, hbs, bD_act h hT (fun M1 h1 => kk M1 _ _ (by unfold bB7; rw [if_pos e]; exact h1) (by omega) (by omega))⟩
theorem b_loop {X : am_Cx} {G : am_Gx} {d sb a : Nat} {Q : am_Q} {M0 : am_Hp} {P : ps} (hX : am_ok X rL_build G (d + 9)) (hM : am_me X rL_build Q) (t0 : hp_T M0 sb = 42) (n0 : hp_N M0 sb ≤ 260) (kk : ∀ M, bD 200000 M0 M a (bBs (sx M0 sb) 12 P) → Q (.inl (some (.ref a))) M) : ∀ (j k : Nat) (M : am_Hp) (bc bs : Nat), k + j = 12 → bD (10000 + 14640 * k) M0 M a (bBs (sx M0 sb) k P) → 8 * j ≤ bc → 48 * j ≤ bs → am_J X 74 [(0, .ref sb), (1, .ref a), (3, .int (i3 (k + 1)))] [] M bc bs
  | 0, k, M, bc, bs, hk, h, hbc, hbs => by
    obtain rfl : k = 12 := by omega
    refine vL_build_74 hX hM (fun x0 x1 x3 x4 M bc bs => am_J X 122 [(0, .ref x0), (1, .ref x1), (3, .int x3), (4, .int x4)] [] M bc bs) (fun _ _ _ _ _ _ _ h => h) ⟨fun _ => kk M (bD_T (by omega) h), fun e => absurd (show (13 : Int32) ≤ i3 (12 + 1) by decide) e⟩
  | j + 1, k, M, bc, bs, hk, h, hbc, hbs => by
    refine vL_build_74 hX hM (fun x0 x1 x3 x4 M bc bs => am_J X 122 [(0, .ref x0), (1, .ref x1), (3, .int x3), (4, .int x4)] [] M bc bs) (fun _ _ _ _ _ _ _ h => h) ⟨fun e => ?_, fun _ => ?_⟩
    · have := (i3_le (a := 13) (b := k + 1) (by omega) (by omega)).mp e
      omega
    · have hs := bS_bI t0 n0 h
      refine ct_i (w_at hs.1 hs.2.1 (by omega)) ⟨by omega, by omega, ?_⟩
      rw [hs.2.2]
      generalize hc : sx M0 sb (i3 (k + 1)) = c
      refine bD_act h (by omega) (fun M1 h1 => ?_)
      have h1 : bD (10000 + 14640 * k + 1830) M0 M1 a (bB0 c (bBs (sx M0 sb) k P)) := h1
      refine b_122 (d := d) (bc' := 8 * j + 6) (bs' := 48 * j + 36) hX hM h1 (by omega) (by omega) (by omega) (by omega) (by omega) (fun M2 bc2 bs2 h2 q2 r2 => ?_)
      refine b_151 (d := d) (bc' := 8 * j + 5) (bs' := 48 * j + 30) hX hM h2 (by omega) (by omega) (by omega) (by omega) (by omega) (fun M3 bc3 bs3 h3 q3 r3 => ?_)
      refine b_189 (d := d) (bc' := 8 * j + 4) (bs' := 48 * j + 24) hX hM h3 (by omega) (by omega) (by omega) (by omega) (by omega) (fun M4 bc4 bs4 h4 q4 r4 => ?_)
      refine b_218 (d := d) (bc' := 8 * j + 3) (bs' := 48 * j + 18) hX hM h4 (by omega) (by omega) (by omega) (by omega) (by omega) (fun M5 bc5 bs5 h5 q5 r5 => ?_)
      refine b_246 (d := d) (bc' := 8 * j + 2) (bs' := 48 * j + 12) hX hM h5 (by omega) (by omega) (by omega) (by omega) (by omega) (fun M6 bc6 bs6 h6 q6 r6 => ?_)
      refine b_286 (d := d) (bc' := 8 * j + 1) (bs' := 48 * j + 6) hX hM h6 (by omega) (by omega) (by omega) (by omega) (by omega) (fun M7 bc7 bs7 h7 q7 r7 => ?_)
      refine b_324 (d := d) (bc' := 8 * j) (bs' := 48 * j) hX hM h7 (by omega) (by omega) (by omega) (by omega) (by omega) (fun M8 bc8 bs8 h8 q8 r8 => ?_)
      refine vL_build_352 hX hM (fun x0 x1 x3 M bc bs => am_J X 74 [(0, .ref x0), (1, .ref x1), (3, .int x3)] [] M bc bs) (fun _ _ _ _ _ _ h => h) (fun v1 e1 => ?_)
      rw [e1, i3_one]
      refine b_loop hX hM t0 n0 kk j (k + 1) M8 bc8 bs8 (by omega) ?_ q8 r8
      rw [← hc] at h8
      have h9 : bD _ M0 M8 a (bBs (sx M0 sb) (k + 1) P) := h8
      exact bD_T (by omega) h9
theorem a_loop {X : am_Cx} {G : am_Gx} {d sb a m : Nat} {Q : am_Q} {M0 : am_Hp} {z : Int32} {P : ps} (hX : am_ok X rL_build G (d + 9)) (hM : am_me X rL_build Q) (hz : (1 : Int32) + (z &&& (3 : Int32)) = i3 m) (hm : m ≤ 4) (kk : ∀ M bc bs, bD 10000 M0 M a (bAs z m P) → 100 ≤ bc → 600 ≤ bs → am_J X 72 [(0, .ref sb), (1, .ref a)] [] M bc bs) : ∀ (j k : Nat) (M : am_Hp) (bc bs : Nat), k + j = m → bD (1830 * k) M0 M a (bAs z k P) → 100 + j ≤ bc → 600 + 6 * j ≤ bs → am_J X 16 [(0, .ref sb), (1, .ref a), (2, .int z), (3, .int (i3 k))] [] M bc bs
  | 0, k, M, bc, bs, hk, h, hbc, hbs => by
    obtain rfl : k = m := by omega
    refine vL_build_16 hX hM (fun x0 x1 x2 x3 M bc bs => am_J X 16 [(0, .ref x0), (1, .ref x1), (2, .int x2), (3, .int x3)] [] M bc bs) (fun _ _ _ _ _ _ _ h => h) (fun x0 x1 M bc bs => am_J X 72 [(0, .ref x0), (1, .ref x1)] [] M bc bs) (fun _ _ _ _ _ h => h) ⟨fun _ => kk M bc bs (bD_T (by omega) h) (by omega) (by omega), fun e => absurd ?_ e⟩
    rw [hz]
    exact (i3_le (by omega) (by omega)).mpr (Nat.le_refl _)
  | j + 1, k, M, bc, bs, hk, h, hbc, hbs => by
    refine vL_build_16 hX hM (fun x0 x1 x2 x3 M bc bs => am_J X 16 [(0, .ref x0), (1, .ref x1), (2, .int x2), (3, .int x3)] [] M bc bs) (fun _ _ _ _ _ _ _ h => h) (fun x0 x1 M bc bs => am_J X 72 [(0, .ref x0), (1, .ref x1)] [] M bc bs) (fun _ _ _ _ _ h => h) ⟨fun e => ?_, fun _ => ⟨by omega, by omega, bD_act h (by omega) (fun M1 h1 v6 e6 => ?_)⟩⟩
    · rw [hz] at e
      have := (i3_le (by omega) (by omega)).mp e
      omega
    · rw [e6, i3_one]
      exact a_loop hX hM hz hm kk j (k + 1) M1 _ _ (by omega) (bD_T (by omega) h1) (by omega) (by omega)
theorem w_build {G : am_Gx} {d sb : Nat} {M : am_Hp} (hz : cz G) (t : hp_T M sb = 42) (hn : hp_N M sb ≤ 260) : am_CT G (d + 9) rL_build [.ref sb] M 400 3000 (fun o M' => ∃ a, o = .inl (some (.ref a)) ∧ bD 200000 M M' a (bZ (sx M sb))) := by
  refine am_intro mkL_build rfl (Nat.le_of_ble_eq_true rfl) rfl (fun X hX hM => ?_)
  refine vL_build_0 hX hM (fun x0 x1 M bc bs => am_J X 8 [(0, .ref x0), (1, .ref x1)] [] M bc bs) (fun _ _ _ _ _ h => h) ⟨by omega, by omega, fun a ha za => ?_⟩
  simp only [forall_eq]
  refine ⟨by omega, by omega, am_CT.mono (fun o M' hh => ?_) (i_X6 (d := d + 4) hz (o_at M a 7).1)⟩
  obtain ⟨e, h, E, L, sc, st, b1, ks, rs, so, b2, hJ, hc, hfr, f1, f2, hf⟩ := hh
  refine ⟨e, ?_⟩
  obtain ⟨hg, hx, hS, hT1, hT2, hbb⟩ := hc md_g0 (fun _ => md_g0)
  have ob : ∀ x, hp_T M x ≠ 0 → hp_T (hp_o M a 7) x ≠ 0 := fun x x1 => by rw [(sm_o (ne_fr x1 ha)).1]; exact x1
  have oc : ∀ x, hp_T (hp_o M a 7) x = 0 → hp_T M x = 0 := fun x x1 => Classical.byContradiction (fun z => ob x z x1)
  have f0 : fr (fun _ => False) M M' := fun x x1 _ => (sm_o (ne_fr x1 ha)).tr (hf x (ob x x1) (ne_fr x1 ha))
  have b0 : bD 0 M M' a p0 := by
    refine ⟨fun x => cS a h E L sc st ks rs so x ∨ x = b1 ∨ x = b2, ⟨h, E, L, sc, st, b1, 16, ks, rs, so, b2, 16, 0, [], hJ, hg, ⟨hx, hS, hT1, hT2, hbb⟩, ?_, fun x => Iff.rfl⟩, f0, fun x hx' => ?_⟩
    · exact gL_f0 (hc (fun _ => -1) (fun _ => md_g0)).1
    · rcases hx' with z | z | z
      · by_cases xa : x = a
        · rw [xa]; exact ha
        · exact oc x (hfr x z xa)
      · rw [z]; exact oc b1 f1
      · rw [z]; exact oc b2 f2
  refine vL_build_8 hX hM (fun x0 x1 x2 x3 M bc bs => am_J X 16 [(0, .ref x0), (1, .ref x1), (2, .int x2), (3, .int x3)] [] M bc bs) (fun _ _ _ _ _ _ _ h => h) (ct_i (w_at (k := 0) (bS_bI t hn b0).1 (bS_bI t hn b0).2.1 (by omega)) ?_)
  rw [(bS_bI t hn b0).2.2]
  obtain ⟨m, m1, m4, em⟩ := and3_1 (sx M sb (i3 0))
  refine a_loop (d := d) hX hM em m4 (fun M2 bc bs h2 q2 r2 => ?_) m 0 M' _ _ (by omega) b0 (by omega) (by omega)
  refine vL_build_72 hX hM (fun x0 x1 x3 M bc bs => am_J X 74 [(0, .ref x0), (1, .ref x1), (3, .int x3)] [] M bc bs) (fun _ _ _ _ _ _ h => h) ?_
  refine b_loop (d := d) (P := bAs (sx M sb (i3 0)) m p0) hX hM t hn (fun M3 h3 => ⟨a, rfl, ?_⟩) 12 0 M2 bc bs (by omega) h2 (by omega) (by omega)
  unfold bZ
  rw [show sx M sb 0 = sx M sb (i3 0) from rfl, em, i3_toNat (by omega)]
  exact h3
