/-! names for what stands on the stack; small rows that the generator's texts use -/
theorem j_nmI {X : am_Cx} {pc bc bs : Nat} {lv : List (Nat × Value)} {rest : List Value} {M : am_Hp} {x : Int32} (k : ∀ y : Int32, y = x → am_J X pc lv (.int y :: rest) M bc bs) : am_J X pc lv (.int x :: rest) M bc bs := k x rfl
theorem j_nmL {X : am_Cx} {pc bc bs : Nat} {lv : List (Nat × Value)} {rest : List Value} {M : am_Hp} {x : Int64} (k : ∀ y : Int64, y = x → am_J X pc lv (.long y :: rest) M bc bs) : am_J X pc lv (.long x :: rest) M bc bs := k x rfl
theorem j_nmF {X : am_Cx} {pc bc bs : Nat} {lv : List (Nat × Value)} {rest : List Value} {M : am_Hp} {x : UInt32} (k : ∀ y : UInt32, y = x → am_J X pc lv (.float y :: rest) M bc bs) : am_J X pc lv (.float x :: rest) M bc bs := k x rfl
theorem j_nmD {X : am_Cx} {pc bc bs : Nat} {lv : List (Nat × Value)} {rest : List Value} {M : am_Hp} {x : UInt64} (k : ∀ y : UInt64, y = x → am_J X pc lv (.double y :: rest) M bc bs) : am_J X pc lv (.double x :: rest) M bc bs := k x rfl
theorem j_nmR {X : am_Cx} {pc bc bs : Nat} {lv : List (Nat × Value)} {rest : List Value} {M : am_Hp} {x : Nat} (k : ∀ y : Nat, y = x → am_J X pc lv (.ref y :: rest) M bc bs) : am_J X pc lv (.ref x :: rest) M bc bs := k x rfl
theorem j_nmM {X : am_Cx} {pc bc bs : Nat} {lv : List (Nat × Value)} {rest : List Value} {M : am_Hp} (k : ∀ M' : am_Hp, M' = M → am_J X pc lv rest M' bc bs) : am_J X pc lv rest M bc bs := k M rfl
def am_bo (x : Int32) : Prop := x = 0 ∨ x = 1
theorem am_bo_n {x : Int32} (h : am_bo x) : narrow .boolean (.int x) = .int x := by rcases h with rfl | rfl <;> decide
theorem am_bo_f {x : Int32} (h : am_bo x) : fits .boolean (.int x) = true := by rcases h with rfl | rfl <;> decide
theorem am_i32 {x k : Int32} {n : Int} (h : x.toInt = n) (hk : k.toInt = n) : x = k := Int32.toInt_inj.mp (h.trans hk.symm)
theorem hp_To {M : am_Hp} {a b t k : Nat} (h0 : hp_T M a = 0) (h : hp_T M b = t) (ht : t ≠ 0) : hp_T (hp_o M a k) b = t := by
  show va_up (hp_T M) a k b = t
  rw [va_up, if_neg (fun z => ht (by rw [← h, z, h0])), h]
theorem hp_Tn {M : am_Hp} {a k : Nat} : hp_T (hp_o M a k) a = k := if_pos rfl
theorem hp_Ta {M : am_Hp} {a b t k n : Nat} (h0 : hp_T M a = 0) (h : hp_T M b = t) (ht : t ≠ 0) : hp_T (hp_a M a k n) b = t := by
  show va_up (hp_T M) a k b = t
  rw [va_up, if_neg (fun z => ht (by rw [← h, z, h0])), h]
theorem hp_Tna {M : am_Hp} {a k n : Nat} : hp_T (hp_a M a k n) a = k := if_pos rfl
/-- the row of the array a is f -/
def hp_sA (M : am_Hp) (a : Nat) (f : Nat → Int32) : am_Hp := (hp_T M, hp_N M, hp_I M, hp_R M, va_up (hp_E M) a f, hp_Q M, hp_L M, hp_D M)
theorem am_rl_sA {cy : Nat → ClassId} {M : am_Hp} {a t : Nat} {f : Nat → Int32} (h : hp_T M a = t) (h1 : 20 ≤ t) (h2 : t < 23) : ∀ b, am_rl cy (hp_sA M a f) b = va_up (am_rl cy M) a (.inl (cy t, hp_N M a, .inl f)) b := by
  intro b
  by_cases hb : b = a
  · subst hb
    rw [va_up, if_pos rfl, am_rl_arr (M := hp_sA M b f) h h1 (by omega)]
    congr 3
    rw [am_ct_i (by omega)]
    simp [hp_sA, hp_E, va_up]
  · rw [va_up, if_neg hb]
    exact am_rl_eq rfl rfl (fun u => rfl) (fun u => rfl) (by simp [hp_sA, hp_E, va_up, hb]) rfl rfl rfl
theorem j_copyi {X : am_Cx} {r : am_Rec} {G : am_Gx} {d : Nat} (hX : am_ok X r G d) {pc bc bs : Nat} {lv : List (Nat × Value)} {rest : List Value} {M : am_Hp} {idx a a0 : Nat} {sp dp n : Int32} (hdg : decode r.2.1 pc = .ok (.invokestatic idx, 3)) (w1 : Cond.methodLink r.1.cls idx arraycopyName ∈ am_gt) (w2 : Cond.native arraycopyName ∈ am_gt) (w3 : Cond.static arraycopyName ∈ am_gt) (w4 : Cond.initialized "java/lang/System" ∈ am_gt) (hT : hp_T M a = 22) (hT0 : hp_T M a0 = 22) (hsp : ¬ sp < 0) (hdp : ¬ dp < 0) (hn : ¬ n < 0) (g1 : sp.toNatClampNeg + n.toNatClampNeg ≤ hp_N M a0) (g2 : dp.toNatClampNeg + n.toNatClampNeg ≤ hp_N M a) (hrest : (rest.map fun v => v.category).sum ≤ 8) (kk : am_J X (pc + 3) lv rest (hp_sA M a (va_cpy (hp_E M a0) (hp_E M a) sp.toNatClampNeg dp.toNatClampNeg n.toNatClampNeg)) bc bs) : am_J X pc lv (.int n :: .int dp :: .ref a :: .int sp :: .ref a0 :: rest) M bc bs := by
  obtain ⟨p, e, R, s, m, args, below, meth, c, Qf, nL, G', mc, ms, d'⟩ := X
  obtain ⟨hx, hb, hml, hown, hts, hU, hlk, htb, hmc, hms, hfr, hlo, hst, hnL, rfl, rfl⟩ := hX
  intro H locs cells slots ls h1 h2 h3 h4 h5
  obtain ⟨L, hP, hD, hPX, hT0', hTX, hXX, hLL, h0⟩ := h1
  have haL : a ∈ L := hT0' a (by omega) (by omega)
  have haL0 : a0 ∈ L := hT0' a0 (by omega) (by omega)
  obtain ⟨j, hj⟩ := va_pl_get (X := []) (f := am_rl (gx_cy G') M) haL
  obtain ⟨j0, hj0⟩ := va_pl_get (X := []) (f := am_rl (gx_cy G') M) haL0
  have hj2 := hj.trans (congrArg (fun e => some (a, e)) (am_rl_arr (cy := gx_cy G') hT (by omega) (by omega)))
  have hj3 := hj0.trans (congrArg (fun e => some (a0, e)) (am_rl_arr (cy := gx_cy G') hT0 (by omega) (by omega)))
  rw [am_ct_i (by omega)] at hj2 hj3
  exact va_copyi (ty := .int) hx hb (by rw [hml]; exact h5.1.symm) hown (hts _ w1) (hts _ w2) (hts _ w3) (hts _ w4) hU.1 hP hD h2 j0 j 2 2 hj3 hj2 rfl rfl rfl hsp hdp hn g1 g2 (fun i hi => rfl) (by omega) (Nat.le_trans (Nat.add_le_add_right hrest _) (Nat.le_trans (show 8 + (nativeFrameWords "java/lang/System" "arraycopy" 5 + 11) ≤ 200 by decide) (by omega))) hdg (fun H1 locs1 hP1 hD1 hS1 => kk H1 locs1 cells slots ls (am_H.put hU.2.1 hD hPX hT0' hTX hXX hLL h0 haL hj (am_rl_sA hT (by omega) (by omega)) (fun _ => rfl) h2 hS1 hP1 hD1) hS1 h3 h4 h5)
theorem j_copyb {X : am_Cx} {r : am_Rec} {G : am_Gx} {d : Nat} (hX : am_ok X r G d) {pc bc bs : Nat} {lv : List (Nat × Value)} {rest : List Value} {M : am_Hp} {idx a a0 : Nat} {sp dp n : Int32} (hdg : decode r.2.1 pc = .ok (.invokestatic idx, 3)) (w1 : Cond.methodLink r.1.cls idx arraycopyName ∈ am_gt) (w2 : Cond.native arraycopyName ∈ am_gt) (w3 : Cond.static arraycopyName ∈ am_gt) (w4 : Cond.initialized "java/lang/System" ∈ am_gt) (hT : hp_T M a = 20) (hT0 : hp_T M a0 = 20) (hsp : ¬ sp < 0) (hdp : ¬ dp < 0) (hn : ¬ n < 0) (g1 : sp.toNatClampNeg + n.toNatClampNeg ≤ hp_N M a0) (g2 : dp.toNatClampNeg + n.toNatClampNeg ≤ hp_N M a) (hfit : ∀ i, i < n.toNatClampNeg → fits .byte (.int (hp_E M a0 (sp.toNatClampNeg + i))) = true) (hrest : (rest.map fun v => v.category).sum ≤ 8) (kk : am_J X (pc + 3) lv rest (hp_sA M a (va_cpy (hp_E M a0) (hp_E M a) sp.toNatClampNeg dp.toNatClampNeg n.toNatClampNeg)) bc bs) : am_J X pc lv (.int n :: .int dp :: .ref a :: .int sp :: .ref a0 :: rest) M bc bs := by
  obtain ⟨p, e, R, s, m, args, below, meth, c, Qf, nL, G', mc, ms, d'⟩ := X
  obtain ⟨hx, hb, hml, hown, hts, hU, hlk, htb, hmc, hms, hfr, hlo, hst, hnL, rfl, rfl⟩ := hX
  intro H locs cells slots ls h1 h2 h3 h4 h5
  obtain ⟨L, hP, hD, hPX, hT0', hTX, hXX, hLL, h0⟩ := h1
  have haL : a ∈ L := hT0' a (by omega) (by omega)
  have haL0 : a0 ∈ L := hT0' a0 (by omega) (by omega)
  obtain ⟨j, hj⟩ := va_pl_get (X := []) (f := am_rl (gx_cy G') M) haL
  obtain ⟨j0, hj0⟩ := va_pl_get (X := []) (f := am_rl (gx_cy G') M) haL0
  have hj2 := hj.trans (congrArg (fun e => some (a, e)) (am_rl_arr (cy := gx_cy G') hT (by omega) (by omega)))
  have hj3 := hj0.trans (congrArg (fun e => some (a0, e)) (am_rl_arr (cy := gx_cy G') hT0 (by omega) (by omega)))
  rw [am_ct_i (by omega)] at hj2 hj3
  exact va_copyi (ty := .byte) hx hb (by rw [hml]; exact h5.1.symm) hown (hts _ w1) (hts _ w2) (hts _ w3) (hts _ w4) hU.1 hP hD h2 j0 j 0 0 hj3 hj2 rfl rfl rfl hsp hdp hn g1 g2 hfit (by omega) (Nat.le_trans (Nat.add_le_add_right hrest _) (Nat.le_trans (show 8 + (nativeFrameWords "java/lang/System" "arraycopy" 5 + 11) ≤ 200 by decide) (by omega))) hdg (fun H1 locs1 hP1 hD1 hS1 => kk H1 locs1 cells slots ls (am_H.put hU.2.1 hD hPX hT0' hTX hXX hLL h0 haL hj (am_rl_sA hT (by omega) (by omega)) (fun _ => rfl) h2 hS1 hP1 hD1) hS1 h3 h4 h5)
theorem j_throwW {X : am_Cx} {r : am_Rec} {G : am_Gx} {d : Nat} (hX : am_ok X r G d) {pc bc bs : Nat} {lv : List (Nat × Value)} {rest : List Value} {M : am_Hp} {Q : am_Q} (hM : am_me X r Q) {cls text : String} {names : List String} {ik is ic : Nat} (d0 : decode r.2.1 pc = .ok (.new ik, 3)) (d3 : decode r.2.1 (pc + 3) = .ok (.dup, 1)) (d4 : decode r.2.1 (pc + 4) = .ok (.ldc_w is, 3)) (d6 : decode r.2.1 (pc + 7) = .ok (.invokespecial ic, 3)) (d9 : decode r.2.1 (pc + 10) = .ok (.athrow, 1)) (hh : r.2.2.2.2 = [])
    (hfit : Bundle.fit cls = true ∧ (∀ n ∈ names, Bundle.fit n = true) ∧ names.length ≤ 3) (hk : Cond.classLink r.1.cls ik cls ∈ am_gt) (hini : Cond.initialized cls ∈ am_gt) (hstr : (r.1.cls, is, text) ∈ am_st) (hat : ∀ w ∈ vx_atS r.1.cls ic cls names, w ∈ am_gt ∨ w ∈ am_nw) (hgood : ∀ w ∈ Cond.classLink r.1.cls ik cls :: Cond.initialized cls :: vx_atS r.1.cls ic cls names, vx_ot w = true) (hr : (rest.map fun v => v.category).sum ≤ 8) (hbc : 1 ≤ bc) (hbs : 6 ≤ bs) (hq : Q (.inr cls) M) : am_J X pc lv rest M bc bs := by
  obtain ⟨p, e, R, s, m, args, below, meth, c, Qf, nL, G', mc, ms, d'⟩ := X
  obtain ⟨hx, hb, hml, hown, hts, hU, hlk, htb, hmc, hms, hfr, hlo, hst, hnL, rfl, rfl⟩ := hX
  intro H locs cells slots ls h1 h2 h3 h4 h5
  obtain ⟨rfl, hr1, -⟩ := hM
  refine vx_throwSW (names := names) (text := text) (sa := gx_s G' r.1.cls is) (A := am_A G') hx hb hst hown hfit.1 hfit.2.1 (hts _ hk) (hts _ hini) (hU.2.2.2.1 _ hstr) (fun w hw => am_word hts hU (hat w hw)) hgood hU.2.2.2.2.2.1 hU.2.2.2.2.2.2.1 h2 (by rw [hml]; exact h5.1) d0 d3 d4 d6 d9 (by rw [htb, hh]; intro x hx9; cases hx9) (by have := hfit.2.2; omega) (by have := hfit.2.2; omega) (by omega) (by omega) hlk (fun t hA hz hq9 => ⟨M, hq, h1.kept hq9, ?_⟩) h2.2.2 (by omega) (by omega)
  exact ⟨Nat.le_trans h2.1 hz, fun q z1 z2 => (hq9 q (Nat.lt_of_lt_of_le z1 h2.1)).trans (h2.2.1 q z1 z2)⟩
theorem am_lk4 {x : Int32} {a b c d : Int × Int} {dflt : Int} : True := trivial
