/-! .. the law: scripts and calls, undo, malformed scripts (by gen/mk8z.py) -/
def gx (g : md_R) : md_R := md_it (va_up (md_it g 3) 16 900) 1
theorem lF_8 : (rS (lF 0) 13 0 []).1 = true ∧ (rS (lF 0) 13 0 []).2.2 = [(6, [3]), (5, [1, 900]), (7, [])] := by decide +kernel
theorem lF_9 : (rS (lF 1) 13 0 []).1 = true ∧ (rS (lF 1) 13 0 []).2.2 = [(7, []), (0, [3, 3, 50])] := by decide +kernel
theorem lF_10 : (rS (lF 2) 13 0 []).1 = true ∧ (rS (lF 2) 13 0 []).2.2 = [(6, [31])] := by decide +kernel
theorem lF_c : ∀ k, k < 14 → (lF k).length ≤ 30 ∧ ∀ i, i < (lF k).length → 32 ≤ (lF k).getD i 0 ∧ (lF k).getD i 0 ≤ 126 := by decide +kernel
theorem lF_p : ∀ k, k < 11 → (rS (lF (3 + k)) 13 0 []).1 = false ∧ (rS (lF (3 + k)) 13 0 []).2.1 = [2, 8, 5, 6, 11, 0, 7, 1, 8, 6, 0].getD k 0 := by decide +kernel
theorem pf_6 {g x : md_R} : pf_k g 6 x = md_it g (x 0).toNatClampNeg := rfl
theorem pf_7 {g x : md_R} : pf_k g 7 x = md_it g 1 := rfl
theorem pf_5 {g x : md_R} : pf_k g 5 x = va_up g (15 + (x 0).toNatClampNeg) (x 1) := rfl
theorem rf_6 {g x : md_R} : rf_k g 6 x = rf_pass (x 0) := rfl
theorem rf_5 {g x : md_R} : rf_k g 5 x = rf_limit g (x 0) (x 1) := rfl
theorem rf_7 {g x : md_R} : rf_k g 7 x = 0 := rfl
theorem rf_0 {g x : md_R} : rf_k g 0 x = rf_add g (x 0) (x 1) (x 2) := rfl
theorem rn_c {g : md_R} {k : Nat} {l : List Nat} {cs : List (Nat × List Nat)} {i : Nat} : rn g ((k, l) :: cs) i = if rf_k g k (xa l) = 0 then rn (pf_k g k (xa l)) cs (i + 1) else (false, i, g) := rfl
theorem rn_n {g : md_R} {i : Nat} : rn g [] i = (true, i, g) := rfl
theorem rn_8 {T : Nat} {g : md_R} (hw : md_wf T g) (hT : T < 200000000) : rn g [(6, [3]), (5, [1, 900]), (7, [])] 0 = (true, 3, gx g) := by
  have h3 : (xa [3] 0).toNatClampNeg = 3 := by decide
  have h1 : (xa [1, 900] 0).toNatClampNeg = 1 := by decide
  have h9 : xa [1, 900] 1 = (900 : Int32) := rfl
  have h0 : xa [1, 900] 0 = i3 1 := rfl
  have w3 : md_wf (T + 61 * 3) (md_it g 3) := md_wf_it hw 3 (by omega)
  have r1 : rf_pass (xa [3] 0) = 0 := by decide
  have r2 : rf_limit (md_it g 3) (i3 1) 900 = 0 := limit_900 (c := 1) w3 (by omega)
  unfold gx
  rw [rn_c, rf_6, if_pos r1, pf_6, h3]
  generalize md_it g 3 = ga at r2 ⊢
  have e : ∀ a b c : md_R, a = ga → b = va_up a 16 900 → c = md_it b 1 → rn ga [(5, [1, 900]), (7, [])] (0 + 1) = (true, 3, c) := fun a b c ea eb ec => by
    subst ea
    rw [rn_c, rf_5, h0, h9, if_pos r2, pf_5, h1, h9, rn_c, rf_7, if_pos rfl, pf_7, rn_n, ec, eb]
  exact e ga _ _ rfl rfl rfl
theorem rn_9 {g : md_R} : rn g [(7, []), (0, [3, 3, 50])] 0 = (false, 1, md_it g 1) := by
  rw [rn_c, rf_7, if_pos rfl, pf_7]
  generalize md_it g 1 = ga
  have r1 : rf_add ga (xa [3, 3, 50] 0) (xa [3, 3, 50] 1) (xa [3, 3, 50] 2) ≠ 0 := by
    unfold rf_add
    rw [if_neg (by rintro ⟨-, -, h, -⟩; exact h rfl)]
    decide
  rw [rn_c, rf_0, if_neg r1]
theorem rn_10 {g : md_R} : rn g [(6, [31])] 0 = (false, 0, g) := by
  have r1 : rf_pass (xa [31] 0) ≠ 0 := by decide
  rw [rn_c, rf_6, if_neg r1]
def uC (c : Nat) : Nat := if c = 8 then 8 else c + 1
theorem y_1 {g : md_R} {H : Nat → md_R} : ∀ c, c ≤ 8 → ∃ k, uC c = k + 1 ∧ yP c g H k = g
  | 0, _ => ⟨0, rfl, rfl⟩
  | 1, _ => ⟨1, rfl, rfl⟩
  | 2, _ => ⟨2, rfl, rfl⟩
  | 3, _ => ⟨3, rfl, rfl⟩
  | 4, _ => ⟨4, rfl, rfl⟩
  | 5, _ => ⟨5, rfl, rfl⟩
  | 6, _ => ⟨6, rfl, rfl⟩
  | 7, _ => ⟨7, rfl, rfl⟩
  | 8, _ => ⟨7, rfl, rfl⟩
  | c + 9, h => absurd h (by omega)
theorem y_3 {g a b : md_R} {H : Nat → md_R} : ∀ c, c ≤ 8 → ∃ k, uC (uC (uC c)) = k + 3 ∧ yP (uC (uC c)) b (yP (uC c) a (yP c g H)) k = g
  | 0, _ => ⟨0, rfl, rfl⟩
  | 1, _ => ⟨1, rfl, rfl⟩
  | 2, _ => ⟨2, rfl, rfl⟩
  | 3, _ => ⟨3, rfl, rfl⟩
  | 4, _ => ⟨4, rfl, rfl⟩
  | 5, _ => ⟨5, rfl, rfl⟩
  | 6, _ => ⟨5, rfl, rfl⟩
  | 7, _ => ⟨5, rfl, rfl⟩
  | 8, _ => ⟨5, rfl, rfl⟩
  | c + 9, h => absurd h (by omega)
theorem and63 (z : Int32) : ∃ i, i < 64 ∧ z &&& (63 : Int32) = i3 i := by
  refine ⟨z.toBitVec.toNat &&& 63, Nat.and_lt_two_pow (n := 6) _ (by decide), ?_⟩
  apply Int32.toBitVec_inj.mp
  apply BitVec.eq_of_toNat_eq
  rw [Int32.toBitVec_and, BitVec.toNat_and]
  have h : z.toBitVec.toNat &&& 63 < 64 := Nat.and_lt_two_pow (n := 6) _ (by decide)
  have e : ∀ q, q < 64 → (i3 q).toBitVec.toNat = q := by decide +kernel
  rw [e _ h]
  rfl
theorem B_352 {X : am_Cx} {G : am_Gx} {d e sb x : Nat} {M0 M : am_Hp} {g : md_R} {m i : Nat} {bc bs : Nat} (hX : am_ok X rL_law G (d + 12)) (hM : ∀ {pc : Nat} {lv : List (Nat × Value)} {M : am_Hp} {bc bs : Nat}, decode rL_law.2.1 pc = .ok (.ireturn, 1) → am_J X pc lv [.int (1 : Int32)] M bc bs) (cx : LC G M0 e sb) (hm : m < 4) (hi : i < 64) {c : Nat} {h : Nat → md_R} {u1 u2 : Int32} (hJ : J1 M0 M 223790 x (g, c, h) (i3 1) g u1 u2) (q : 506 ≤ bc) (r : 3604 ≤ bs) : am_J X 352 [(1, .ref x), (3, .int (g 1)), (4, .int (sV g)), (6, .int (i3 (2 + m))), (7, .int (i3 (60 + i)))] [] M bc bs := by
  have cm := cx.ro hJ.2
  refine vL_law_352 hX hM (fun x1 x3 x4 x6 x7 x8 M bc bs => am_J X 361 [(1, .ref x1), (3, .int x3), (4, .int x4), (6, .int x6), (7, .int x7), (8, .ref x8)] [] M bc bs) (fun _ _ _ _ _ _ _ _ _ h => h) ⟨by omega, by omega, fun z hz zz M7 e7 => ⟨by omega, by omega, ?_⟩⟩
  subst e7
  refine am_CT.mono (fun o M' hh => ?_) (i_X6 (d := d + 7) cm.1 (o_at M z 7).1)
  obtain ⟨eo, h', E, L, sc, st, b1, ks, rs, so, b2, hJ', hc, hfr, f1, f2, hf⟩ := hh
  refine ⟨eo, B_361 hX hM cx hm hi ?_ (by omega) (by omega)⟩
  obtain ⟨hg, hx, hS, hT1, hT2, hbb⟩ := hc md_g0 (fun _ => md_g0)
  have ob : ∀ x, hp_T M x ≠ 0 → hp_T (hp_o M z 7) x ≠ 0 := fun x x1 => by rw [(sm_o (ne_fr x1 hz)).1]; exact x1
  have oc : ∀ x, hp_T (hp_o M z 7) x = 0 → hp_T M x = 0 := fun x x1 => Classical.byContradiction (fun y => ob x y x1)
  have F0 : fr (fun _ => False) M M' := fun x x1 _ => (sm_o (ne_fr x1 hz)).tr (hf x (ob x x1) (ne_fr x1 hz))
  refine ⟨c, h, u1, u2, 0, fun _ => md_g0, J1_J2 hJ F0 (S2 := fun x => cS z h' E L sc st ks rs so x ∨ x = b1 ∨ x = b2) ⟨h', E, L, sc, st, b1, 16, ks, rs, so, b2, 16, 0, [], hJ', hg, ⟨hx, hS, hT1, hT2, hbb⟩, gL_f0 (hc (fun _ => -1) (fun _ => md_g0)).1, fun x => Iff.rfl⟩ (fun x hx' => ?_)⟩
  rcases hx' with y | y | y
  · by_cases xa : x = z
    · rw [xa]; exact hz
    · exact oc x (hfr x y xa)
  · rw [y]; exact oc b1 f1
  · rw [y]; exact oc b2 f2
theorem B_324 {X : am_Cx} {G : am_Gx} {d e sb x : Nat} {M0 M : am_Hp} {g : md_R} {bc bs : Nat} (hX : am_ok X rL_law G (d + 12)) (hM : ∀ {pc : Nat} {lv : List (Nat × Value)} {M : am_Hp} {bc bs : Nat}, decode rL_law.2.1 pc = .ok (.ireturn, 1) → am_J X pc lv [.int (1 : Int32)] M bc bs) (cx : LC G M0 e sb) {c : Nat} {h : Nat → md_R} {u1 u2 : Int32} (hJ : J1 M0 M 223790 x (g, c, h) (i3 1) g u1 u2) (q : 506 ≤ bc) (r : 3604 ≤ bs) : am_J X 324 [(0, .ref sb), (1, .ref x), (3, .int (g 1)), (4, .int (sV g))] [] M bc bs := by
  have cm := cx.ro hJ.2
  refine vL_law_324 hX hM (fun x1 x3 x4 x6 x7 M bc bs => am_J X 352 [(1, .ref x1), (3, .int x3), (4, .int x4), (6, .int x6), (7, .int x7)] [] M bc bs) (fun _ _ _ _ _ _ _ _ h => h) (ct_i (w_at (d := d + 10) (k := 13) cm.2.2.2.2.2.2.2.1 cm.2.2.2.2.2.2.2.2 (by omega)) (fun v3 e3 v4 e4 => ?_))
  obtain ⟨m, hm, em⟩ := and3 (sx M sb (i3 13))
  obtain ⟨i, hi, ei⟩ := and63 ((sx M sb (i3 13)) >>> ((2 : Int32) &&& 31))
  rw [em, i3_lit 2, i3_add] at e3
  rw [ei, i3_lit 60, i3_add] at e4
  rw [e3, e4]
  exact B_352 hX hM cx hm hi hJ q r
theorem B_313 {X : am_Cx} {G : am_Gx} {d e sb x : Nat} {M0 M : am_Hp} {g : md_R} {bc bs : Nat} (hX : am_ok X rL_law G (d + 12)) (hM : ∀ {pc : Nat} {lv : List (Nat × Value)} {M : am_Hp} {bc bs : Nat}, decode rL_law.2.1 pc = .ok (.ireturn, 1) → am_J X pc lv [.int (1 : Int32)] M bc bs) (cx : LC G M0 e sb) {c : Nat} {h : Nat → md_R} {u1 u2 : Int32} (hJ : J1 M0 M 223790 x (g, c, h) (i3 1) g u1 u2) (q : 676 ≤ bc) (r : 4804 ≤ bs) : am_J X 313 [(0, .ref sb), (1, .ref x), (3, .int (g 1)), (4, .int (sV g))] [] M bc bs := by
  obtain ⟨S, hO, k⟩ := J1_g hJ
  have cm := cx.ro hJ.2
  exact vL_law_313 hX hM (fun x0 x1 x3 x4 M bc bs => am_J X 324 [(0, .ref x0), (1, .ref x1), (3, .int x3), (4, .int x4)] [] M bc bs) (fun _ _ _ _ _ _ _ h => h) ⟨by omega, by omega, c_state (d := d + 3) cm.2.2.2.2.1 cm.2.2.2.2.2.1 cm.2.2.2.2.2.2.1 hO (fun M1 F => ⟨fun _ => B_324 hX hM cx (J1_fr F hJ) (by omega) (by omega), fun y => absurd rfl y⟩)⟩
theorem B_306 {X : am_Cx} {G : am_Gx} {d e sb x : Nat} {M0 M : am_Hp} {g : md_R} {bc bs : Nat} (hX : am_ok X rL_law G (d + 12)) (hM : ∀ {pc : Nat} {lv : List (Nat × Value)} {M : am_Hp} {bc bs : Nat}, decode rL_law.2.1 pc = .ok (.ireturn, 1) → am_J X pc lv [.int (1 : Int32)] M bc bs) (cx : LC G M0 e sb) {c : Nat} {h : Nat → md_R} {u1 u2 : Int32} (hJ : J1 M0 M 223790 x (g, c, h) (i3 1) g u1 u2) (hu : u2 = i3 0) (q : 677 ≤ bc) (r : 4810 ≤ bs) : am_J X 306 [(0, .ref sb), (1, .ref x), (3, .int (g 1)), (4, .int (sV g))] [] M bc bs := by
  obtain ⟨S, hO, k⟩ := J1_g hJ
  have hs : sq_flag (hp_I M 128 x) = (0, 0) := by
    rw [(ow_e hO).2.1, hu]
    decide
  exact vL_law_306 hX hM (fun x0 x1 x3 x4 M bc bs => am_J X 313 [(0, .ref x0), (1, .ref x1), (3, .int x3), (4, .int x4)] [] M bc bs) (fun _ _ _ _ _ _ _ h => h) ⟨(ow_ta hO).1, by omega, by omega, q_x1 (g_failedCommand (d := d + 10) (ow_ta hO).1) hs ⟨fun _ => B_313 hX hM cx hJ (by omega) (by omega), fun y => absurd rfl y⟩⟩
theorem B_296 {X : am_Cx} {G : am_Gx} {d e sb x : Nat} {M0 M : am_Hp} {g : md_R} {bc bs : Nat} (hX : am_ok X rL_law G (d + 12)) (hM : ∀ {pc : Nat} {lv : List (Nat × Value)} {M : am_Hp} {bc bs : Nat}, decode rL_law.2.1 pc = .ok (.ireturn, 1) → am_J X pc lv [.int (1 : Int32)] M bc bs) (cx : LC G M0 e sb) {c : Nat} {h : Nat → md_R} {u1 u2 : Int32} (hJ : J1 M0 M 223790 x (g, c, h) (i3 1) g u1 u2) (hu : u2 = i3 0) (q : 709 ≤ bc) (r : 7822 ≤ bs) : am_J X 296 [(0, .ref sb), (1, .ref x), (3, .int (g 1)), (4, .int (sV g))] [] M bc bs := by
  obtain ⟨S, hO, k⟩ := J1_g hJ
  have cm := cx.ro hJ.2
  have lc := lF_c 13 (by omega)
  have lp := lF_p 10 (by omega)
  exact vL_law_296 hX hM (fun x0 x1 x3 x4 M bc bs => am_J X 306 [(0, .ref x0), (1, .ref x1), (3, .int x3), (4, .int x4)] [] M bc bs) (fun _ _ _ _ _ _ _ h => h) ⟨by omega, by omega, c_fails (d := d) (tx := []) (k := 0) cm.1 cm.2.1 cm.2.2.1 hO (by omega) (cm.2.2.2.1 13 (by omega)) lc.2 lc.1 lp.1 lp.2 (by omega) (fun M1 G1 => ⟨fun y => absurd y (by decide), fun _ => B_306 hX hM cx (k G1) hu (by omega) (by omega)⟩)⟩
theorem B_285 {X : am_Cx} {G : am_Gx} {d e sb x : Nat} {M0 M : am_Hp} {g : md_R} {bc bs : Nat} (hX : am_ok X rL_law G (d + 12)) (hM : ∀ {pc : Nat} {lv : List (Nat × Value)} {M : am_Hp} {bc bs : Nat}, decode rL_law.2.1 pc = .ok (.ireturn, 1) → am_J X pc lv [.int (1 : Int32)] M bc bs) (cx : LC G M0 e sb) {c : Nat} {h : Nat → md_R} {u1 u2 : Int32} (hJ : J1 M0 M 223790 x (g, c, h) (i3 1) g u1 u2) (hu : u2 = i3 0) (q : 741 ≤ bc) (r : 10834 ≤ bs) : am_J X 285 [(0, .ref sb), (1, .ref x), (3, .int (g 1)), (4, .int (sV g))] [] M bc bs := by
  obtain ⟨S, hO, k⟩ := J1_g hJ
  have cm := cx.ro hJ.2
  have lc := lF_c 12 (by omega)
  have lp := lF_p 9 (by omega)
  exact vL_law_285 hX hM (fun x0 x1 x3 x4 M bc bs => am_J X 296 [(0, .ref x0), (1, .ref x1), (3, .int x3), (4, .int x4)] [] M bc bs) (fun _ _ _ _ _ _ _ h => h) ⟨by omega, by omega, c_fails (d := d) (tx := []) (k := 6) cm.1 cm.2.1 cm.2.2.1 hO (by omega) (cm.2.2.2.1 12 (by omega)) lc.2 lc.1 lp.1 lp.2 (by omega) (fun M1 G1 => ⟨fun y => absurd y (by decide), fun _ => B_296 hX hM cx (k G1) hu (by omega) (by omega)⟩)⟩
theorem B_274 {X : am_Cx} {G : am_Gx} {d e sb x : Nat} {M0 M : am_Hp} {g : md_R} {bc bs : Nat} (hX : am_ok X rL_law G (d + 12)) (hM : ∀ {pc : Nat} {lv : List (Nat × Value)} {M : am_Hp} {bc bs : Nat}, decode rL_law.2.1 pc = .ok (.ireturn, 1) → am_J X pc lv [.int (1 : Int32)] M bc bs) (cx : LC G M0 e sb) {c : Nat} {h : Nat → md_R} {u1 u2 : Int32} (hJ : J1 M0 M 223790 x (g, c, h) (i3 1) g u1 u2) (hu : u2 = i3 0) (q : 773 ≤ bc) (r : 13846 ≤ bs) : am_J X 274 [(0, .ref sb), (1, .ref x), (3, .int (g 1)), (4, .int (sV g))] [] M bc bs := by
  obtain ⟨S, hO, k⟩ := J1_g hJ
  have cm := cx.ro hJ.2
  have lc := lF_c 11 (by omega)
  have lp := lF_p 8 (by omega)
  exact vL_law_274 hX hM (fun x0 x1 x3 x4 M bc bs => am_J X 285 [(0, .ref x0), (1, .ref x1), (3, .int x3), (4, .int x4)] [] M bc bs) (fun _ _ _ _ _ _ _ h => h) ⟨by omega, by omega, c_fails (d := d) (tx := []) (k := 8) cm.1 cm.2.1 cm.2.2.1 hO (by omega) (cm.2.2.2.1 11 (by omega)) lc.2 lc.1 lp.1 lp.2 (by omega) (fun M1 G1 => ⟨fun y => absurd y (by decide), fun _ => B_285 hX hM cx (k G1) hu (by omega) (by omega)⟩)⟩
theorem B_264 {X : am_Cx} {G : am_Gx} {d e sb x : Nat} {M0 M : am_Hp} {g : md_R} {bc bs : Nat} (hX : am_ok X rL_law G (d + 12)) (hM : ∀ {pc : Nat} {lv : List (Nat × Value)} {M : am_Hp} {bc bs : Nat}, decode rL_law.2.1 pc = .ok (.ireturn, 1) → am_J X pc lv [.int (1 : Int32)] M bc bs) (cx : LC G M0 e sb) {c : Nat} {h : Nat → md_R} {u1 u2 : Int32} (hJ : J1 M0 M 223790 x (g, c, h) (i3 1) g u1 u2) (hu : u2 = i3 0) (q : 805 ≤ bc) (r : 16858 ≤ bs) : am_J X 264 [(0, .ref sb), (1, .ref x), (3, .int (g 1)), (4, .int (sV g))] [] M bc bs := by
  obtain ⟨S, hO, k⟩ := J1_g hJ
  have cm := cx.ro hJ.2
  have lc := lF_c 10 (by omega)
  have lp := lF_p 7 (by omega)
  exact vL_law_264 hX hM (fun x0 x1 x3 x4 M bc bs => am_J X 274 [(0, .ref x0), (1, .ref x1), (3, .int x3), (4, .int x4)] [] M bc bs) (fun _ _ _ _ _ _ _ h => h) ⟨by omega, by omega, c_fails (d := d) (tx := []) (k := 1) cm.1 cm.2.1 cm.2.2.1 hO (by omega) (cm.2.2.2.1 10 (by omega)) lc.2 lc.1 lp.1 lp.2 (by omega) (fun M1 G1 => ⟨fun y => absurd y (by decide), fun _ => B_274 hX hM cx (k G1) hu (by omega) (by omega)⟩)⟩
theorem B_253 {X : am_Cx} {G : am_Gx} {d e sb x : Nat} {M0 M : am_Hp} {g : md_R} {bc bs : Nat} (hX : am_ok X rL_law G (d + 12)) (hM : ∀ {pc : Nat} {lv : List (Nat × Value)} {M : am_Hp} {bc bs : Nat}, decode rL_law.2.1 pc = .ok (.ireturn, 1) → am_J X pc lv [.int (1 : Int32)] M bc bs) (cx : LC G M0 e sb) {c : Nat} {h : Nat → md_R} {u1 u2 : Int32} (hJ : J1 M0 M 223790 x (g, c, h) (i3 1) g u1 u2) (hu : u2 = i3 0) (q : 837 ≤ bc) (r : 19870 ≤ bs) : am_J X 253 [(0, .ref sb), (1, .ref x), (3, .int (g 1)), (4, .int (sV g))] [] M bc bs := by
  obtain ⟨S, hO, k⟩ := J1_g hJ
  have cm := cx.ro hJ.2
  have lc := lF_c 9 (by omega)
  have lp := lF_p 6 (by omega)
  exact vL_law_253 hX hM (fun x0 x1 x3 x4 M bc bs => am_J X 264 [(0, .ref x0), (1, .ref x1), (3, .int x3), (4, .int x4)] [] M bc bs) (fun _ _ _ _ _ _ _ h => h) ⟨by omega, by omega, c_fails (d := d) (tx := []) (k := 7) cm.1 cm.2.1 cm.2.2.1 hO (by omega) (cm.2.2.2.1 9 (by omega)) lc.2 lc.1 lp.1 lp.2 (by omega) (fun M1 G1 => ⟨fun y => absurd y (by decide), fun _ => B_264 hX hM cx (k G1) hu (by omega) (by omega)⟩)⟩
theorem B_243 {X : am_Cx} {G : am_Gx} {d e sb x : Nat} {M0 M : am_Hp} {g : md_R} {bc bs : Nat} (hX : am_ok X rL_law G (d + 12)) (hM : ∀ {pc : Nat} {lv : List (Nat × Value)} {M : am_Hp} {bc bs : Nat}, decode rL_law.2.1 pc = .ok (.ireturn, 1) → am_J X pc lv [.int (1 : Int32)] M bc bs) (cx : LC G M0 e sb) {c : Nat} {h : Nat → md_R} {u1 u2 : Int32} (hJ : J1 M0 M 223790 x (g, c, h) (i3 1) g u1 u2) (hu : u2 = i3 0) (q : 869 ≤ bc) (r : 22882 ≤ bs) : am_J X 243 [(0, .ref sb), (1, .ref x), (3, .int (g 1)), (4, .int (sV g))] [] M bc bs := by
  obtain ⟨S, hO, k⟩ := J1_g hJ
  have cm := cx.ro hJ.2
  have lc := lF_c 8 (by omega)
  have lp := lF_p 5 (by omega)
  exact vL_law_243 hX hM (fun x0 x1 x3 x4 M bc bs => am_J X 253 [(0, .ref x0), (1, .ref x1), (3, .int x3), (4, .int x4)] [] M bc bs) (fun _ _ _ _ _ _ _ h => h) ⟨by omega, by omega, c_fails (d := d) (tx := []) (k := 0) cm.1 cm.2.1 cm.2.2.1 hO (by omega) (cm.2.2.2.1 8 (by omega)) lc.2 lc.1 lp.1 lp.2 (by omega) (fun M1 G1 => ⟨fun y => absurd y (by decide), fun _ => B_253 hX hM cx (k G1) hu (by omega) (by omega)⟩)⟩
theorem B_232 {X : am_Cx} {G : am_Gx} {d e sb x : Nat} {M0 M : am_Hp} {g : md_R} {bc bs : Nat} (hX : am_ok X rL_law G (d + 12)) (hM : ∀ {pc : Nat} {lv : List (Nat × Value)} {M : am_Hp} {bc bs : Nat}, decode rL_law.2.1 pc = .ok (.ireturn, 1) → am_J X pc lv [.int (1 : Int32)] M bc bs) (cx : LC G M0 e sb) {c : Nat} {h : Nat → md_R} {u1 u2 : Int32} (hJ : J1 M0 M 223790 x (g, c, h) (i3 1) g u1 u2) (hu : u2 = i3 0) (q : 901 ≤ bc) (r : 25894 ≤ bs) : am_J X 232 [(0, .ref sb), (1, .ref x), (3, .int (g 1)), (4, .int (sV g))] [] M bc bs := by
  obtain ⟨S, hO, k⟩ := J1_g hJ
  have cm := cx.ro hJ.2
  have lc := lF_c 7 (by omega)
  have lp := lF_p 4 (by omega)
  exact vL_law_232 hX hM (fun x0 x1 x3 x4 M bc bs => am_J X 243 [(0, .ref x0), (1, .ref x1), (3, .int x3), (4, .int x4)] [] M bc bs) (fun _ _ _ _ _ _ _ h => h) ⟨by omega, by omega, c_fails (d := d) (tx := []) (k := 11) cm.1 cm.2.1 cm.2.2.1 hO (by omega) (cm.2.2.2.1 7 (by omega)) lc.2 lc.1 lp.1 lp.2 (by omega) (fun M1 G1 => ⟨fun y => absurd y (by decide), fun _ => B_243 hX hM cx (k G1) hu (by omega) (by omega)⟩)⟩
theorem B_221 {X : am_Cx} {G : am_Gx} {d e sb x : Nat} {M0 M : am_Hp} {g : md_R} {bc bs : Nat} (hX : am_ok X rL_law G (d + 12)) (hM : ∀ {pc : Nat} {lv : List (Nat × Value)} {M : am_Hp} {bc bs : Nat}, decode rL_law.2.1 pc = .ok (.ireturn, 1) → am_J X pc lv [.int (1 : Int32)] M bc bs) (cx : LC G M0 e sb) {c : Nat} {h : Nat → md_R} {u1 u2 : Int32} (hJ : J1 M0 M 223790 x (g, c, h) (i3 1) g u1 u2) (hu : u2 = i3 0) (q : 933 ≤ bc) (r : 28906 ≤ bs) : am_J X 221 [(0, .ref sb), (1, .ref x), (3, .int (g 1)), (4, .int (sV g))] [] M bc bs := by
  obtain ⟨S, hO, k⟩ := J1_g hJ
  have cm := cx.ro hJ.2
  have lc := lF_c 6 (by omega)
  have lp := lF_p 3 (by omega)
  exact vL_law_221 hX hM (fun x0 x1 x3 x4 M bc bs => am_J X 232 [(0, .ref x0), (1, .ref x1), (3, .int x3), (4, .int x4)] [] M bc bs) (fun _ _ _ _ _ _ _ h => h) ⟨by omega, by omega, c_fails (d := d) (tx := []) (k := 6) cm.1 cm.2.1 cm.2.2.1 hO (by omega) (cm.2.2.2.1 6 (by omega)) lc.2 lc.1 lp.1 lp.2 (by omega) (fun M1 G1 => ⟨fun y => absurd y (by decide), fun _ => B_232 hX hM cx (k G1) hu (by omega) (by omega)⟩)⟩
theorem B_211 {X : am_Cx} {G : am_Gx} {d e sb x : Nat} {M0 M : am_Hp} {g : md_R} {bc bs : Nat} (hX : am_ok X rL_law G (d + 12)) (hM : ∀ {pc : Nat} {lv : List (Nat × Value)} {M : am_Hp} {bc bs : Nat}, decode rL_law.2.1 pc = .ok (.ireturn, 1) → am_J X pc lv [.int (1 : Int32)] M bc bs) (cx : LC G M0 e sb) {c : Nat} {h : Nat → md_R} {u1 u2 : Int32} (hJ : J1 M0 M 223790 x (g, c, h) (i3 1) g u1 u2) (hu : u2 = i3 0) (q : 965 ≤ bc) (r : 31918 ≤ bs) : am_J X 211 [(0, .ref sb), (1, .ref x), (3, .int (g 1)), (4, .int (sV g))] [] M bc bs := by
  obtain ⟨S, hO, k⟩ := J1_g hJ
  have cm := cx.ro hJ.2
  have lc := lF_c 5 (by omega)
  have lp := lF_p 2 (by omega)
  exact vL_law_211 hX hM (fun x0 x1 x3 x4 M bc bs => am_J X 221 [(0, .ref x0), (1, .ref x1), (3, .int x3), (4, .int x4)] [] M bc bs) (fun _ _ _ _ _ _ _ h => h) ⟨by omega, by omega, c_fails (d := d) (tx := []) (k := 5) cm.1 cm.2.1 cm.2.2.1 hO (by omega) (cm.2.2.2.1 5 (by omega)) lc.2 lc.1 lp.1 lp.2 (by omega) (fun M1 G1 => ⟨fun y => absurd y (by decide), fun _ => B_221 hX hM cx (k G1) hu (by omega) (by omega)⟩)⟩
theorem B_200 {X : am_Cx} {G : am_Gx} {d e sb x : Nat} {M0 M : am_Hp} {g : md_R} {bc bs : Nat} (hX : am_ok X rL_law G (d + 12)) (hM : ∀ {pc : Nat} {lv : List (Nat × Value)} {M : am_Hp} {bc bs : Nat}, decode rL_law.2.1 pc = .ok (.ireturn, 1) → am_J X pc lv [.int (1 : Int32)] M bc bs) (cx : LC G M0 e sb) {c : Nat} {h : Nat → md_R} {u1 u2 : Int32} (hJ : J1 M0 M 223790 x (g, c, h) (i3 1) g u1 u2) (hu : u2 = i3 0) (q : 997 ≤ bc) (r : 34930 ≤ bs) : am_J X 200 [(0, .ref sb), (1, .ref x), (3, .int (g 1)), (4, .int (sV g))] [] M bc bs := by
  obtain ⟨S, hO, k⟩ := J1_g hJ
  have cm := cx.ro hJ.2
  have lc := lF_c 4 (by omega)
  have lp := lF_p 1 (by omega)
  exact vL_law_200 hX hM (fun x0 x1 x3 x4 M bc bs => am_J X 211 [(0, .ref x0), (1, .ref x1), (3, .int x3), (4, .int x4)] [] M bc bs) (fun _ _ _ _ _ _ _ h => h) ⟨by omega, by omega, c_fails (d := d) (tx := []) (k := 8) cm.1 cm.2.1 cm.2.2.1 hO (by omega) (cm.2.2.2.1 4 (by omega)) lc.2 lc.1 lp.1 lp.2 (by omega) (fun M1 G1 => ⟨fun y => absurd y (by decide), fun _ => B_211 hX hM cx (k G1) hu (by omega) (by omega)⟩)⟩
theorem B_190 {X : am_Cx} {G : am_Gx} {d e sb x : Nat} {M0 M : am_Hp} {g : md_R} {bc bs : Nat} (hX : am_ok X rL_law G (d + 12)) (hM : ∀ {pc : Nat} {lv : List (Nat × Value)} {M : am_Hp} {bc bs : Nat}, decode rL_law.2.1 pc = .ok (.ireturn, 1) → am_J X pc lv [.int (1 : Int32)] M bc bs) (cx : LC G M0 e sb) {c : Nat} {h : Nat → md_R} {u1 u2 : Int32} (hJ : J1 M0 M 223790 x (g, c, h) (i3 1) g u1 u2) (hu : u2 = i3 0) (q : 1029 ≤ bc) (r : 37942 ≤ bs) : am_J X 190 [(0, .ref sb), (1, .ref x), (3, .int (g 1)), (4, .int (sV g))] [] M bc bs := by
  obtain ⟨S, hO, k⟩ := J1_g hJ
  have cm := cx.ro hJ.2
  have lc := lF_c 3 (by omega)
  have lp := lF_p 0 (by omega)
  exact vL_law_190 hX hM (fun x0 x1 x3 x4 M bc bs => am_J X 200 [(0, .ref x0), (1, .ref x1), (3, .int x3), (4, .int x4)] [] M bc bs) (fun _ _ _ _ _ _ _ h => h) ⟨by omega, by omega, c_fails (d := d) (tx := []) (k := 2) cm.1 cm.2.1 cm.2.2.1 hO (by omega) (cm.2.2.2.1 3 (by omega)) lc.2 lc.1 lp.1 lp.2 (by omega) (fun M1 G1 => ⟨fun y => absurd y (by decide), fun _ => B_200 hX hM cx (k G1) hu (by omega) (by omega)⟩)⟩
theorem B_179 {X : am_Cx} {G : am_Gx} {d e sb x : Nat} {M0 M : am_Hp} {g : md_R} {bc bs : Nat} (hX : am_ok X rL_law G (d + 12)) (hM : ∀ {pc : Nat} {lv : List (Nat × Value)} {M : am_Hp} {bc bs : Nat}, decode rL_law.2.1 pc = .ok (.ireturn, 1) → am_J X pc lv [.int (1 : Int32)] M bc bs) (cx : LC G M0 e sb) {c : Nat} {h : Nat → md_R} {u1 u2 : Int32} (hJ : J1 M0 M 223790 x (g, c, h) (i3 1) g u1 u2) (hu : u2 = i3 0) (q : 1199 ≤ bc) (r : 39142 ≤ bs) : am_J X 179 [(0, .ref sb), (1, .ref x), (3, .int (g 1)), (4, .int (sV g))] [] M bc bs := by
  obtain ⟨S, hO, k⟩ := J1_g hJ
  have cm := cx.ro hJ.2
  exact vL_law_179 hX hM (fun x0 x1 x3 x4 M bc bs => am_J X 190 [(0, .ref x0), (1, .ref x1), (3, .int x3), (4, .int x4)] [] M bc bs) (fun _ _ _ _ _ _ _ h => h) ⟨by omega, by omega, c_state (d := d + 3) cm.2.2.2.2.1 cm.2.2.2.2.2.1 cm.2.2.2.2.2.2.1 hO (fun M1 F => ⟨fun _ => B_190 hX hM cx (J1_fr F hJ) hu (by omega) (by omega), fun y => absurd rfl y⟩)⟩
theorem B_172 {X : am_Cx} {G : am_Gx} {d e sb x : Nat} {M0 M : am_Hp} {g : md_R} {bc bs : Nat} (hX : am_ok X rL_law G (d + 12)) (hM : ∀ {pc : Nat} {lv : List (Nat × Value)} {M : am_Hp} {bc bs : Nat}, decode rL_law.2.1 pc = .ok (.ireturn, 1) → am_J X pc lv [.int (1 : Int32)] M bc bs) (cx : LC G M0 e sb) {c : Nat} {h : Nat → md_R} {u1 u2 : Int32} (hJ : J1 M0 M 223790 x (g, c, h) (i3 1) g u1 u2) (hu : u2 = i3 0) (q : 1200 ≤ bc) (r : 39148 ≤ bs) : am_J X 172 [(0, .ref sb), (1, .ref x), (3, .int (g 1)), (4, .int (sV g))] [] M bc bs := by
  obtain ⟨S, hO, k⟩ := J1_g hJ
  have hs : sq_flag (hp_I M 128 x) = (0, 0) := by
    rw [(ow_e hO).2.1, hu]
    decide
  exact vL_law_172 hX hM (fun x0 x1 x3 x4 M bc bs => am_J X 179 [(0, .ref x0), (1, .ref x1), (3, .int x3), (4, .int x4)] [] M bc bs) (fun _ _ _ _ _ _ _ h => h) ⟨(ow_ta hO).1, by omega, by omega, q_x1 (g_failedCommand (d := d + 10) (ow_ta hO).1) hs ⟨fun _ => B_179 hX hM cx hJ hu (by omega) (by omega), fun y => absurd rfl y⟩⟩
theorem B_157 {X : am_Cx} {G : am_Gx} {d e sb x : Nat} {M0 M : am_Hp} {g : md_R} {bc bs : Nat} (hX : am_ok X rL_law G (d + 12)) (hM : ∀ {pc : Nat} {lv : List (Nat × Value)} {M : am_Hp} {bc bs : Nat}, decode rL_law.2.1 pc = .ok (.ireturn, 1) → am_J X pc lv [.int (1 : Int32)] M bc bs) (cx : LC G M0 e sb) {c : Nat} {h : Nat → md_R} {u1 u2 : Int32} (hJ : J1 M0 M 223790 x (g, c, h) (i3 1) g u1 u2) (q : 1231 ≤ bc) (r : 42154 ≤ bs) : am_J X 157 [(0, .ref sb), (1, .ref x), (3, .int (g 1)), (4, .int (sV g))] [] M bc bs := by
  obtain ⟨S, hO, k⟩ := J1_g hJ
  have cm := cx.ro hJ.2
  have lc := lF_c 2 (by omega)
  refine vL_law_157 hX hM (fun x0 x1 x3 x4 M bc bs => am_J X 172 [(0, .ref x0), (1, .ref x1), (3, .int x3), (4, .int x4)] [] M bc bs) (fun _ _ _ _ _ _ _ h => h) ⟨by omega, by omega, am_CT.mono (fun o M1 hh => .inl ?_) (w_put (d := d + 4) cm.1 cm.2.1 hO (cm.2.2.2.1 2 (by omega)) lc.2 (by have := lc.1; simp only [List.length_nil]; omega) lc.1)⟩
  obtain ⟨eo, G1⟩ := hh
  have hk1 : stK G M1 := stK_ty cm.2.2.1 (fun x hx => gt_ro hO G1 (by omega))
  obtain ⟨S1, o1, F1, S1f⟩ := G1
  refine ⟨eo, by omega, by omega, am_CT.mono (fun o M2 hh => ?_) (w_runs2 (d := d + 1) (tx := lF 2) cm.1 cm.2.1 hk1 o1 (by omega) (by have := lc.1; omega) lF_10.1 (by rw [lF_10.2]; exact rn_10))⟩
  obtain ⟨v, eo, rfl, G2⟩ := hh
  exact ⟨_, eo, fun _ => B_172 hX hM cx (k (gt_tr F1 S1f G2)) rfl (by omega) (by omega), fun y => absurd rfl y⟩
theorem B_146 {X : am_Cx} {G : am_Gx} {d e sb x : Nat} {M0 M : am_Hp} {g : md_R} {bc bs : Nat} (hX : am_ok X rL_law G (d + 12)) (hM : ∀ {pc : Nat} {lv : List (Nat × Value)} {M : am_Hp} {bc bs : Nat}, decode rL_law.2.1 pc = .ok (.ireturn, 1) → am_J X pc lv [.int (1 : Int32)] M bc bs) (cx : LC G M0 e sb) {c : Nat} {h : Nat → md_R} {u1 u2 : Int32} (hJ : J1 M0 M 223790 x (g, c, h) (i3 1) g u1 u2) (q : 1401 ≤ bc) (r : 43354 ≤ bs) : am_J X 146 [(0, .ref sb), (1, .ref x), (3, .int (g 1)), (4, .int (sV g))] [] M bc bs := by
  obtain ⟨S, hO, k⟩ := J1_g hJ
  have cm := cx.ro hJ.2
  exact vL_law_146 hX hM (fun x0 x1 x3 x4 M bc bs => am_J X 157 [(0, .ref x0), (1, .ref x1), (3, .int x3), (4, .int x4)] [] M bc bs) (fun _ _ _ _ _ _ _ h => h) ⟨by omega, by omega, c_state (d := d + 3) cm.2.2.2.2.1 cm.2.2.2.2.2.1 cm.2.2.2.2.2.2.1 hO (fun M1 F => ⟨fun _ => B_157 hX hM cx (J1_fr F hJ) (by omega) (by omega), fun y => absurd rfl y⟩)⟩
theorem B_138 {X : am_Cx} {G : am_Gx} {d e sb x : Nat} {M0 M : am_Hp} {g : md_R} {bc bs : Nat} (hX : am_ok X rL_law G (d + 12)) (hM : ∀ {pc : Nat} {lv : List (Nat × Value)} {M : am_Hp} {bc bs : Nat}, decode rL_law.2.1 pc = .ok (.ireturn, 1) → am_J X pc lv [.int (1 : Int32)] M bc bs) (cx : LC G M0 e sb) {c : Nat} {h : Nat → md_R} {u1 u2 : Int32} (hJ : J1 M0 M 223790 x (g, c, h) (i3 1) g u1 u2) (hu : u2 = i3 1) (q : 1402 ≤ bc) (r : 43360 ≤ bs) : am_J X 138 [(0, .ref sb), (1, .ref x), (3, .int (g 1)), (4, .int (sV g))] [] M bc bs := by
  obtain ⟨S, hO, k⟩ := J1_g hJ
  have hs : sq_flag (hp_I M 128 x) = (0, 1) := by
    rw [(ow_e hO).2.1, hu]
    decide
  exact vL_law_138 hX hM (fun x0 x1 x3 x4 M bc bs => am_J X 146 [(0, .ref x0), (1, .ref x1), (3, .int x3), (4, .int x4)] [] M bc bs) (fun _ _ _ _ _ _ _ h => h) ⟨(ow_ta hO).1, by omega, by omega, q_x1 (g_failedCommand (d := d + 10) (ow_ta hO).1) hs ⟨fun _ => B_146 hX hM cx hJ (by omega) (by omega), fun y => absurd rfl y⟩⟩
theorem B_123 {X : am_Cx} {G : am_Gx} {d e sb x : Nat} {M0 M : am_Hp} {g : md_R} {bc bs : Nat} (hX : am_ok X rL_law G (d + 12)) (hM : ∀ {pc : Nat} {lv : List (Nat × Value)} {M : am_Hp} {bc bs : Nat}, decode rL_law.2.1 pc = .ok (.ireturn, 1) → am_J X pc lv [.int (1 : Int32)] M bc bs) (cx : LC G M0 e sb) {c : Nat} {h : Nat → md_R} {u1 u2 : Int32} (hJ : J1 M0 M 223790 x (g, c, h) (i3 1) g u1 u2) (q : 1433 ≤ bc) (r : 46366 ≤ bs) : am_J X 123 [(0, .ref sb), (1, .ref x), (3, .int (g 1)), (4, .int (sV g))] [] M bc bs := by
  obtain ⟨S, hO, k⟩ := J1_g hJ
  have cm := cx.ro hJ.2
  have lc := lF_c 1 (by omega)
  refine vL_law_123 hX hM (fun x0 x1 x3 x4 M bc bs => am_J X 138 [(0, .ref x0), (1, .ref x1), (3, .int x3), (4, .int x4)] [] M bc bs) (fun _ _ _ _ _ _ _ h => h) ⟨by omega, by omega, am_CT.mono (fun o M1 hh => .inl ?_) (w_put (d := d + 4) cm.1 cm.2.1 hO (cm.2.2.2.1 1 (by omega)) lc.2 (by have := lc.1; simp only [List.length_nil]; omega) lc.1)⟩
  obtain ⟨eo, G1⟩ := hh
  have hk1 : stK G M1 := stK_ty cm.2.2.1 (fun x hx => gt_ro hO G1 (by omega))
  obtain ⟨S1, o1, F1, S1f⟩ := G1
  refine ⟨eo, by omega, by omega, am_CT.mono (fun o M2 hh => ?_) (w_runs2 (d := d + 1) (tx := lF 1) cm.1 cm.2.1 hk1 o1 (by omega) (by have := lc.1; omega) lF_9.1 (by rw [lF_9.2]; exact rn_9))⟩
  obtain ⟨v, eo, rfl, G2⟩ := hh
  exact ⟨_, eo, fun _ => B_138 hX hM cx (k (gt_tr F1 S1f G2)) rfl (by omega) (by omega), fun y => absurd rfl y⟩
theorem B_112 {X : am_Cx} {G : am_Gx} {d e sb x y : Nat} {M0 M : am_Hp} {g : md_R} {bc bs : Nat} (hX : am_ok X rL_law G (d + 12)) (hM : ∀ {pc : Nat} {lv : List (Nat × Value)} {M : am_Hp} {bc bs : Nat}, decode rL_law.2.1 pc = .ok (.ireturn, 1) → am_J X pc lv [.int (1 : Int32)] M bc bs) (cx : LC G M0 e sb) {c c' : Nat} {h h' : Nat → md_R} (hJ : J2 M0 M 223790 x (g, c, h) (i3 1) g (-1) (-1) 205490 y (g, c', h') 0 md_g0 (-1) (-1)) (q : 1603 ≤ bc) (r : 47566 ≤ bs) : am_J X 112 [(0, .ref sb), (1, .ref x), (2, .ref y), (3, .int (g 1)), (4, .int (sV g))] [] M bc bs := by
  obtain ⟨S, hO, k⟩ := J2_g2 hJ
  have cm := cx.ro (J2_1 hJ).2
  exact vL_law_112 hX hM (fun x0 x1 x3 x4 M bc bs => am_J X 123 [(0, .ref x0), (1, .ref x1), (3, .int x3), (4, .int x4)] [] M bc bs) (fun _ _ _ _ _ _ _ h => h) ⟨by omega, by omega, c_state (d := d + 3) cm.2.2.2.2.1 cm.2.2.2.2.2.1 cm.2.2.2.2.2.2.1 hO (fun M1 F => ⟨fun _ => B_123 hX hM cx (J2_1 (J2_fr F hJ)) (by omega) (by omega), fun y => absurd rfl y⟩)⟩
theorem B_105 {X : am_Cx} {G : am_Gx} {d e sb x y : Nat} {M0 M : am_Hp} {g : md_R} {bc bs : Nat} (hX : am_ok X rL_law G (d + 12)) (hM : ∀ {pc : Nat} {lv : List (Nat × Value)} {M : am_Hp} {bc bs : Nat}, decode rL_law.2.1 pc = .ok (.ireturn, 1) → am_J X pc lv [.int (1 : Int32)] M bc bs) (cx : LC G M0 e sb) {c c' : Nat} {h h' : Nat → md_R} {r9 : md_R} (hk : h' c' = g) (hJ : J2 M0 M 223790 x (g, c, h) (i3 1) g (-1) (-1) 205490 y (r9, c' + 1, h') 0 md_g0 (-1) (-1)) (q : 1604 ≤ bc) (r : 47572 ≤ bs) : am_J X 105 [(0, .ref sb), (1, .ref x), (2, .ref y), (3, .int (g 1)), (4, .int (sV g))] [] M bc bs := by
  obtain ⟨S, hO, k⟩ := J2_g2 hJ
  have c8 := ow_c8 hO
  have ng : ∀ k : Nat, k < 100 → ¬ i3 k < 0 := fun k hk y => by
    have := (i3_lt (a := k) (b := 0) (by omega) (by omega)).mp y
    omega
  exact vL_law_105 hX hM (fun x0 x1 x2 x3 x4 M bc bs => am_J X 112 [(0, .ref x0), (1, .ref x1), (2, .ref x2), (3, .int x3), (4, .int x4)] [] M bc bs) (fun _ _ _ _ _ _ _ _ h => h) ⟨(ow_ta hO).1, by omega, by omega, c_undo (d := d + 7) (c := c' + 0) hO rfl (fun M1 G1 => ⟨fun y => absurd y (ng _ (by have : c' + 0 + 1 ≤ 8 := c8; omega)), fun _ => B_112 hX hM cx (c' := c') (h' := h') (by have z := k G1; rw [show ((r9, c' + 0 + 1, h') : ps).2.2 (c' + 0) = g from hk] at z; exact z) (by omega) (by omega)⟩)⟩
theorem B_98 {X : am_Cx} {G : am_Gx} {d e sb x y : Nat} {M0 M : am_Hp} {g : md_R} {bc bs : Nat} (hX : am_ok X rL_law G (d + 12)) (hM : ∀ {pc : Nat} {lv : List (Nat × Value)} {M : am_Hp} {bc bs : Nat}, decode rL_law.2.1 pc = .ok (.ireturn, 1) → am_J X pc lv [.int (1 : Int32)] M bc bs) (cx : LC G M0 e sb) {c c' : Nat} {h h' : Nat → md_R} {r9 : md_R} (hk : h' c' = g) (hJ : J2 M0 M 223790 x (g, c, h) (i3 1) g (-1) (-1) 205490 y (r9, c' + 2, h') 0 md_g0 (-1) (-1)) (q : 1605 ≤ bc) (r : 47578 ≤ bs) : am_J X 98 [(0, .ref sb), (1, .ref x), (2, .ref y), (3, .int (g 1)), (4, .int (sV g))] [] M bc bs := by
  obtain ⟨S, hO, k⟩ := J2_g2 hJ
  have c8 := ow_c8 hO
  have ng : ∀ k : Nat, k < 100 → ¬ i3 k < 0 := fun k hk y => by
    have := (i3_lt (a := k) (b := 0) (by omega) (by omega)).mp y
    omega
  exact vL_law_98 hX hM (fun x0 x1 x2 x3 x4 M bc bs => am_J X 105 [(0, .ref x0), (1, .ref x1), (2, .ref x2), (3, .int x3), (4, .int x4)] [] M bc bs) (fun _ _ _ _ _ _ _ _ h => h) ⟨(ow_ta hO).1, by omega, by omega, c_undo (d := d + 7) (c := c' + 1) hO rfl (fun M1 G1 => ⟨fun y => absurd y (ng _ (by have : c' + 1 + 1 ≤ 8 := c8; omega)), fun _ => B_105 hX hM cx hk (k G1) (by omega) (by omega)⟩)⟩
theorem B_91 {X : am_Cx} {G : am_Gx} {d e sb x y : Nat} {M0 M : am_Hp} {g : md_R} {bc bs : Nat} (hX : am_ok X rL_law G (d + 12)) (hM : ∀ {pc : Nat} {lv : List (Nat × Value)} {M : am_Hp} {bc bs : Nat}, decode rL_law.2.1 pc = .ok (.ireturn, 1) → am_J X pc lv [.int (1 : Int32)] M bc bs) (cx : LC G M0 e sb) {c c' : Nat} {h h' : Nat → md_R} {r9 : md_R} (hk : h' c' = g) (hJ : J2 M0 M 223790 x (g, c, h) (i3 1) g (-1) (-1) 205490 y (r9, c' + 3, h') 0 md_g0 (-1) (-1)) (q : 1606 ≤ bc) (r : 47584 ≤ bs) : am_J X 91 [(0, .ref sb), (1, .ref x), (2, .ref y), (3, .int (g 1)), (4, .int (sV g))] [] M bc bs := by
  obtain ⟨S, hO, k⟩ := J2_g2 hJ
  have c8 := ow_c8 hO
  have ng : ∀ k : Nat, k < 100 → ¬ i3 k < 0 := fun k hk y => by
    have := (i3_lt (a := k) (b := 0) (by omega) (by omega)).mp y
    omega
  exact vL_law_91 hX hM (fun x0 x1 x2 x3 x4 M bc bs => am_J X 98 [(0, .ref x0), (1, .ref x1), (2, .ref x2), (3, .int x3), (4, .int x4)] [] M bc bs) (fun _ _ _ _ _ _ _ _ h => h) ⟨(ow_ta hO).1, by omega, by omega, c_undo (d := d + 7) (c := c' + 2) hO rfl (fun M1 G1 => ⟨fun y => absurd y (ng _ (by have : c' + 2 + 1 ≤ 8 := c8; omega)), fun _ => B_98 hX hM cx hk (k G1) (by omega) (by omega)⟩)⟩
theorem B_82 {X : am_Cx} {G : am_Gx} {d e sb x y : Nat} {M0 M : am_Hp} {g : md_R} {bc bs : Nat} (hX : am_ok X rL_law G (d + 12)) (hM : ∀ {pc : Nat} {lv : List (Nat × Value)} {M : am_Hp} {bc bs : Nat}, decode rL_law.2.1 pc = .ok (.ireturn, 1) → am_J X pc lv [.int (1 : Int32)] M bc bs) (cx : LC G M0 e sb) {c c' : Nat} {h h' : Nat → md_R} {r9 : md_R} (hk : h' c' = g) (hJ : J2 M0 M 223790 x (g, c, h) (i3 1) g (-1) (-1) 205490 y (r9, c' + 3, h') 0 md_g0 (-1) (-1)) (q : 1776 ≤ bc) (r : 48784 ≤ bs) : am_J X 82 [(0, .ref sb), (1, .ref x), (2, .ref y), (3, .int (g 1)), (4, .int (sV g))] [] M bc bs := by
  obtain ⟨S, hO, k⟩ := J2_g1 hJ
  have cm := cx.ro (J2_1 hJ).2
  exact vL_law_82 hX hM (fun x0 x1 x2 x3 x4 M bc bs => am_J X 91 [(0, .ref x0), (1, .ref x1), (2, .ref x2), (3, .int x3), (4, .int x4)] [] M bc bs) (fun _ _ _ _ _ _ _ _ h => h) ⟨by omega, by omega, c_state (d := d + 3) cm.2.2.2.2.1 cm.2.2.2.2.2.1 cm.2.2.2.2.2.2.1 hO (fun M1 F => ⟨fun _ => B_91 hX hM cx hk (J2_fr F hJ) (by omega) (by omega), fun y => absurd rfl y⟩)⟩
theorem B_75 {X : am_Cx} {G : am_Gx} {d e sb x y : Nat} {M0 M : am_Hp} {g : md_R} {bc bs : Nat} (hX : am_ok X rL_law G (d + 12)) (hM : ∀ {pc : Nat} {lv : List (Nat × Value)} {M : am_Hp} {bc bs : Nat}, decode rL_law.2.1 pc = .ok (.ireturn, 1) → am_J X pc lv [.int (1 : Int32)] M bc bs) (cx : LC G M0 e sb) {c c' : Nat} {h h' : Nat → md_R} {r8 r9 : md_R} (hk : h' c' = g) (hx : h c = g) (hJ : J2 M0 M 223790 x (r8, c + 1, h) (i3 1) g (-1) (-1) 205490 y (r9, c' + 3, h') 0 md_g0 (-1) (-1)) (q : 1777 ≤ bc) (r : 48790 ≤ bs) : am_J X 75 [(0, .ref sb), (1, .ref x), (2, .ref y), (3, .int (g 1)), (4, .int (sV g))] [] M bc bs := by
  obtain ⟨S, hO, k⟩ := J2_g1 hJ
  have c8 := ow_c8 hO
  have ng : ∀ k : Nat, k < 100 → ¬ i3 k < 0 := fun k hk y => by
    have := (i3_lt (a := k) (b := 0) (by omega) (by omega)).mp y
    omega
  exact vL_law_75 hX hM (fun x0 x1 x2 x3 x4 M bc bs => am_J X 82 [(0, .ref x0), (1, .ref x1), (2, .ref x2), (3, .int x3), (4, .int x4)] [] M bc bs) (fun _ _ _ _ _ _ _ _ h => h) ⟨(ow_ta hO).1, by omega, by omega, c_undo (d := d + 7) (c := c) hO rfl (fun M1 G1 => ⟨fun y => absurd y (ng _ (by have : c + 1 ≤ 8 := c8; omega)), fun _ => B_82 hX hM cx (c := c) (h := h) hk (by have z := k G1; rw [show ((r8, c + 1, h) : ps).2.2 c = g from hx] at z; exact z) (by omega) (by omega)⟩)⟩
theorem B_62 {X : am_Cx} {G : am_Gx} {d e sb x y : Nat} {M0 M : am_Hp} {g : md_R} {bc bs : Nat} (hX : am_ok X rL_law G (d + 12)) (hM : ∀ {pc : Nat} {lv : List (Nat × Value)} {M : am_Hp} {bc bs : Nat}, decode rL_law.2.1 pc = .ok (.ireturn, 1) → am_J X pc lv [.int (1 : Int32)] M bc bs) (cx : LC G M0 e sb) {c c' : Nat} {h h' : Nat → md_R} {r8 : md_R} (hk : h' c' = g) (hx : h c = g) (hJ : J2 M0 M 223790 x (r8, c + 1, h) (i3 1) g (-1) (-1) 205490 y (r8, c' + 3, h') 0 md_g0 (-1) (-1)) (q : 2117 ≤ bc) (r : 51190 ≤ bs) : am_J X 62 [(0, .ref sb), (1, .ref x), (2, .ref y), (3, .int (g 1)), (4, .int (sV g))] [] M bc bs := by
  obtain ⟨S, hO, k⟩ := J2_g1 hJ
  have cm := cx.ro (J2_1 hJ).2
  refine vL_law_62 hX hM (fun x0 x1 x2 x3 x4 M bc bs => am_J X 75 [(0, .ref x0), (1, .ref x1), (2, .ref x2), (3, .int x3), (4, .int x4)] [] M bc bs) (fun _ _ _ _ _ _ _ _ h => h) ⟨by omega, by omega, c_state (d := d + 3) cm.2.2.2.2.1 cm.2.2.2.2.2.1 cm.2.2.2.2.2.2.1 hO (fun M1 F => ⟨by omega, by omega, ?_⟩)⟩
  have hJ1 := J2_fr F hJ
  obtain ⟨S', hO', k'⟩ := J2_g2 hJ1
  have cm1 := cx.ro (J2_1 hJ1).2
  exact c_state (d := d + 3) cm1.2.2.2.2.1 cm1.2.2.2.2.2.1 cm1.2.2.2.2.2.2.1 hO' (fun M2 F2 => ⟨fun _ => B_75 hX hM cx hk hx (J2_fr F2 hJ1) (by omega) (by omega), fun y => absurd rfl y⟩)
theorem aC_0 (g' r : md_R) (c : Nat) (h : Nat → md_R) : aC 0 g' (r, c, h) = (g', uC c, yP c r h) := rfl
theorem B_54 {X : am_Cx} {G : am_Gx} {d e sb x y : Nat} {M0 M : am_Hp} {g : md_R} {bc bs : Nat} (hX : am_ok X rL_law G (d + 12)) (hM : ∀ {pc : Nat} {lv : List (Nat × Value)} {M : am_Hp} {bc bs : Nat}, decode rL_law.2.1 pc = .ok (.ireturn, 1) → am_J X pc lv [.int (1 : Int32)] M bc bs) (cx : LC G M0 e sb) {c : Nat} {h : Nat → md_R} (hc : c ≤ 8) (hJ : J2 M0 M 223790 x (gx g, uC c, yP c g h) (i3 1) g (-1) (-1) 203660 y (va_up (md_it g 3) 16 900, uC (uC c), yP (uC c) (md_it g 3) (yP c g h)) 0 md_g0 (-1) (-1)) (q : 2118 ≤ bc) (r : 51196 ≤ bs) : am_J X 54 [(0, .ref sb), (1, .ref x), (2, .ref y), (3, .int (g 1)), (4, .int (sV g))] [] M bc bs := by
  obtain ⟨S, hO, k⟩ := J2_g2 hJ
  obtain ⟨Bq, hB, hw⟩ := ow_gN hO
  obtain ⟨k1, e1, e2⟩ := y_1 (g := g) (H := h) c hc
  obtain ⟨k3, e3, e4⟩ := y_3 (g := g) (a := md_it g 3) (b := va_up (md_it g 3) 16 900) (H := h) c hc
  refine vL_law_54 hX hM (fun x0 x1 x2 x3 x4 M bc bs => am_J X 62 [(0, .ref x0), (1, .ref x1), (2, .ref x2), (3, .int x3), (4, .int x4)] [] M bc bs) (fun _ _ _ _ _ _ _ _ h => h) ⟨hB.1, by omega, by omega, c_adv (d := d + 4) hO (by omega) zq_642 (fun M1 G1 => ⟨fun y => absurd y (trips_0 hw (by rw [c0_1]; omega)), fun _ => ?_⟩)⟩
  rw [c0_1] at G1
  have z : J2 M0 M1 223790 x (gx g, uC c, yP c g h) (i3 1) g (-1) (-1) 205490 y (gx g, uC (uC (uC c)), yP (uC (uC c)) (va_up (md_it g 3) 16 900) (yP (uC c) (md_it g 3) (yP c g h))) 0 md_g0 (-1) (-1) := k G1
  rw [e3] at z
  exact B_62 (c := k1) (c' := k3) hX hM cx e4 e2 (by rw [← e1]; exact z) (by omega) (by omega)
theorem B_43 {X : am_Cx} {G : am_Gx} {d e sb x y : Nat} {M0 M : am_Hp} {g : md_R} {bc bs : Nat} (hX : am_ok X rL_law G (d + 12)) (hM : ∀ {pc : Nat} {lv : List (Nat × Value)} {M : am_Hp} {bc bs : Nat}, decode rL_law.2.1 pc = .ok (.ireturn, 1) → am_J X pc lv [.int (1 : Int32)] M bc bs) (cx : LC G M0 e sb) {c : Nat} {h : Nat → md_R} (hc : c ≤ 8) (hJ : J2 M0 M 223790 x (gx g, uC c, yP c g h) (i3 1) g (-1) (-1) 201830 y (md_it g 3, uC c, yP c g h) 0 md_g0 (-1) (-1)) (q : 2119 ≤ bc) (r : 51202 ≤ bs) : am_J X 43 [(0, .ref sb), (1, .ref x), (2, .ref y), (3, .int (g 1)), (4, .int (sV g))] [] M bc bs := by
  obtain ⟨S, hO, k⟩ := J2_g2 hJ
  obtain ⟨Bq, hB, hw⟩ := ow_gN hO
  refine vL_law_43 hX hM (fun x0 x1 x2 x3 x4 M bc bs => am_J X 54 [(0, .ref x0), (1, .ref x1), (2, .ref x2), (3, .int x3), (4, .int x4)] [] M bc bs) (fun _ _ _ _ _ _ _ _ h => h) ⟨hB.1, by omega, by omega, c_limit (d := d + 4) hO (by omega) (limit_900 (c := 1) hw (by omega)) (fun M1 G1 => ⟨fun y => ?_, fun _ => ?_⟩)⟩
  · rw [c0_1] at y
    exact absurd y (cap_0 (c := 1) hw (by omega))
  · rw [c0_1, aC_0] at G1
    dsimp only at G1
    simp only [Nat.reduceAdd] at G1
    exact B_54 hX hM cx hc (k G1) (by omega) (by omega)
theorem B_35 {X : am_Cx} {G : am_Gx} {d e sb x y : Nat} {M0 M : am_Hp} {g : md_R} {bc bs : Nat} (hX : am_ok X rL_law G (d + 12)) (hM : ∀ {pc : Nat} {lv : List (Nat × Value)} {M : am_Hp} {bc bs : Nat}, decode rL_law.2.1 pc = .ok (.ireturn, 1) → am_J X pc lv [.int (1 : Int32)] M bc bs) (cx : LC G M0 e sb) {c : Nat} {h : Nat → md_R} (hc : c ≤ 8) (hJ : J2 M0 M 223790 x (gx g, uC c, yP c g h) (i3 1) g (-1) (-1) 200000 y (g, c, h) 0 md_g0 (-1) (-1)) (q : 2120 ≤ bc) (r : 51208 ≤ bs) : am_J X 35 [(0, .ref sb), (1, .ref x), (2, .ref y), (3, .int (g 1)), (4, .int (sV g))] [] M bc bs := by
  obtain ⟨S, hO, k⟩ := J2_g2 hJ
  obtain ⟨Bq, hB, hw⟩ := ow_gN hO
  refine vL_law_35 hX hM (fun x0 x1 x2 x3 x4 M bc bs => am_J X 43 [(0, .ref x0), (1, .ref x1), (2, .ref x2), (3, .int x3), (4, .int x4)] [] M bc bs) (fun _ _ _ _ _ _ _ _ h => h) ⟨hB.1, by omega, by omega, c_adv (d := d + 4) hO (by omega) (by decide) (fun M1 G1 => ⟨fun y => absurd y (trips_0 hw (by rw [c0_3]; omega)), fun _ => ?_⟩)⟩
  rw [c0_3] at G1
  exact B_43 hX hM cx hc (k G1) (by omega) (by omega)
theorem B_10 {X : am_Cx} {G : am_Gx} {d e sb x y : Nat} {M0 M : am_Hp} {g : md_R} {bc bs : Nat} (hX : am_ok X rL_law G (d + 12)) (hM : ∀ {pc : Nat} {lv : List (Nat × Value)} {M : am_Hp} {bc bs : Nat}, decode rL_law.2.1 pc = .ok (.ireturn, 1) → am_J X pc lv [.int (1 : Int32)] M bc bs) (cx : LC G M0 e sb) {c : Nat} {h : Nat → md_R} (hJ : J2 M0 M 200000 x (g, c, h) 0 md_g0 (-1) (-1) 200000 y (g, c, h) 0 md_g0 (-1) (-1)) (q : 2321 ≤ bc) (r : 55414 ≤ bs) : am_J X 10 [(0, .ref sb), (1, .ref x), (2, .ref y)] [] M bc bs := by
  obtain ⟨S, hO, k⟩ := J2_g1 hJ
  have hc := ow_c8 hO
  refine vL_law_10 hX hM (fun x0 x1 x2 x3 x4 M bc bs => am_J X 35 [(0, .ref x0), (1, .ref x1), (2, .ref x2), (3, .int x3), (4, .int x4)] [] M bc bs) (fun _ _ _ _ _ _ _ _ h => h) ⟨(ow_ta hO).1, c_save (d := d + 8) hO (fun M1 G1 => ⟨by omega, by omega, ?_⟩)⟩
  have hJ1 : J2 M0 M1 200000 x (g, c, h) (i3 1) g (-1) (-1) 200000 y (g, c, h) 0 md_g0 (-1) (-1) := k G1
  obtain ⟨S1, hO1, k1⟩ := J2_g1 hJ1
  have cm := cx.ro (J2_1 hJ1).2
  refine c_state (d := d + 3) cm.2.2.2.2.1 cm.2.2.2.2.2.1 cm.2.2.2.2.2.2.1 hO1 (fun M2 F => ⟨by omega, by omega, ?_⟩)
  have hJ2 := J2_fr F hJ1
  obtain ⟨S2, hO2, k2⟩ := J2_g1 hJ2
  have cm2 := cx.ro (J2_1 hJ2).2
  obtain ⟨Bq, hB, hw⟩ := ow_gN hO2
  have lc := lF_c 0 (by omega)
  refine am_CT.mono (fun o M3 hh => .inl ?_) (w_put (d := d + 4) cm2.1 cm2.2.1 hO2 (cm2.2.2.2.1 0 (by omega)) lc.2 (by have := lc.1; simp only [List.length_nil]; omega) lc.1)
  obtain ⟨eo, G3⟩ := hh
  have hk3 : stK G M3 := stK_ty cm2.2.2.1 (fun x hx => gt_ro hO2 G3 (by omega))
  obtain ⟨S3, o3, F3, S3f⟩ := G3
  refine ⟨eo, (ow_ta o3).1, by omega, by omega, am_CT.mono (fun o M4 hh => ?_) (c_runScript (d := d + 2) (tx := lF 0) cm2.1 cm2.2.1 hk3 o3 (by omega) (by have := lc.1; omega))⟩
  have er := rn_8 hw (by omega)
  rw [lF_8.1, lF_8.2] at hh
  rcases hh with ⟨z, -⟩ | ⟨i, gg, e, -⟩ | ⟨gg, e, -, eo, G4⟩
  · cases z
  · have e' : rn g [(6, [3]), (5, [1, 900]), (7, [])] 0 = (false, i, gg) := e
    have er' : rn g [(6, [3]), (5, [1, 900]), (7, [])] 0 = (true, 3, gx g) := er
    rw [er'] at e'
    cases e'
  · have e' : rn g [(6, [3]), (5, [1, 900]), (7, [])] 0 = (true, 3, gg) := e
    have er' : rn g [(6, [3]), (5, [1, 900]), (7, [])] 0 = (true, 3, gx g) := er
    rw [er'] at e'
    have e4 : gx g = gg := (Prod.mk.inj (Prod.mk.inj e').2).2
    subst e4
    exact .inl ⟨_, eo, fun _ => B_35 hX hM cx hc (k2 (gt_tr F3 S3f G4)) (by omega) (by omega), fun y => absurd rfl y⟩
theorem L_start {X : am_Cx} {G : am_Gx} {d e sb : Nat} {M0 : am_Hp} {bc bs : Nat} (hX : am_ok X rL_law G (d + 12)) (hM : ∀ {pc : Nat} {lv : List (Nat × Value)} {M : am_Hp} {bc bs : Nat}, decode rL_law.2.1 pc = .ok (.ireturn, 1) → am_J X pc lv [.int (1 : Int32)] M bc bs) (cx : LC G M0 e sb) (q : 3121 ≤ bc) (r : 61414 ≤ bs) : am_J X 0 [(0, .ref sb)] [] M0 bc bs := by
  refine vL_law_0 hX hM (fun x0 x1 x2 M bc bs => am_J X 10 [(0, .ref x0), (1, .ref x1), (2, .ref x2)] [] M bc bs) (fun _ _ _ _ _ _ h => h) ⟨by omega, by omega, am_CT.mono (fun o M1 hh => ?_) (w_build (d := d + 2) cx.1 cx.2.2.2.2.2.2.2.1 cx.2.2.2.2.2.2.2.2)⟩
  obtain ⟨x, eo, S1, h1, h2, h3⟩ := hh
  have r1 : RO M0 M1 := (RO.rf M0).fr h2
  have c1 := cx.ro r1
  refine ⟨x, eo, by omega, by omega, am_CT.mono (fun o M2 hh => ?_) (w_build (d := d + 2) c1.1 c1.2.2.2.2.2.2.2.1 c1.2.2.2.2.2.2.2.2)⟩
  obtain ⟨y, eo, S2, g1, g2, g3⟩ := hh
  rw [RO_sx r1 cx] at g1
  exact ⟨y, eo, B_10 (g := (bZ (sx M0 sb)).1) (c := (bZ (sx M0 sb)).2.1) (h := (bZ (sx M0 sb)).2.2) hX hM cx (J1_J2 ⟨⟨S1, h1⟩, r1⟩ g2 g1 g3) (by omega) (by omega)⟩
