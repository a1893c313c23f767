/-! the rows of am_J that leave the heap alone (by program: wip/whole/gen/rows.py) -/
theorem j_iconst {X : am_Cx} {r : am_Rec} {G : am_Gx} {d : Nat} (hX : am_ok X r G d) {pc bc bs : Nat} {lv : List (Nat × Value)} {rest : List Value} {M : am_Hp} {n : Int} {v : Int32} (hdg : decode r.2.1 pc = .ok (.iconst n, 1)) (hv : Int32.ofInt n = v) (k : am_J X (pc + 1) lv (.int v :: rest) M bc bs) : am_J X pc lv (rest) M bc bs := by
  obtain ⟨p, e, R, s, m, args, below, meth, c, Qf, nL, G', mc, ms, d'⟩ := X
  obtain ⟨hx, hb, -⟩ := hX
  intro H locs cells slots ls h1 h2 h3 h4 h5
  exact lv_iconst hx hb hdg hv (k H locs cells slots ls h1 h2 h3 h4 h5)
theorem j_bipush {X : am_Cx} {r : am_Rec} {G : am_Gx} {d : Nat} (hX : am_ok X r G d) {pc bc bs : Nat} {lv : List (Nat × Value)} {rest : List Value} {M : am_Hp} {n : Int} {v : Int32} (hdg : decode r.2.1 pc = .ok (.bipush n, 2)) (hv : (Int8.ofInt n).toInt32 = v) (k : am_J X (pc + 2) lv (.int v :: rest) M bc bs) : am_J X pc lv (rest) M bc bs := by
  obtain ⟨p, e, R, s, m, args, below, meth, c, Qf, nL, G', mc, ms, d'⟩ := X
  obtain ⟨hx, hb, -⟩ := hX
  intro H locs cells slots ls h1 h2 h3 h4 h5
  exact lv_bipush hx hb hdg hv (k H locs cells slots ls h1 h2 h3 h4 h5)
theorem j_sipush {X : am_Cx} {r : am_Rec} {G : am_Gx} {d : Nat} (hX : am_ok X r G d) {pc bc bs : Nat} {lv : List (Nat × Value)} {rest : List Value} {M : am_Hp} {n : Int} {v : Int32} (hdg : decode r.2.1 pc = .ok (.sipush n, 3)) (hv : (Int16.ofInt n).toInt32 = v) (k : am_J X (pc + 3) lv (.int v :: rest) M bc bs) : am_J X pc lv (rest) M bc bs := by
  obtain ⟨p, e, R, s, m, args, below, meth, c, Qf, nL, G', mc, ms, d'⟩ := X
  obtain ⟨hx, hb, -⟩ := hX
  intro H locs cells slots ls h1 h2 h3 h4 h5
  exact lv_sipush hx hb hdg hv (k H locs cells slots ls h1 h2 h3 h4 h5)
theorem j_lconst {X : am_Cx} {r : am_Rec} {G : am_Gx} {d : Nat} (hX : am_ok X r G d) {pc bc bs : Nat} {lv : List (Nat × Value)} {rest : List Value} {M : am_Hp} {n : Fin 2} {v : Int64} (hdg : decode r.2.1 pc = .ok (.lconst n, 1)) (hv : Int64.ofNat (n : Nat) = v) (k : am_J X (pc + 1) lv (.long v :: rest) M bc bs) : am_J X pc lv (rest) M bc bs := by
  obtain ⟨p, e, R, s, m, args, below, meth, c, Qf, nL, G', mc, ms, d'⟩ := X
  obtain ⟨hx, hb, -⟩ := hX
  intro H locs cells slots ls h1 h2 h3 h4 h5
  exact lv_lconst hx hb hdg hv (k H locs cells slots ls h1 h2 h3 h4 h5)
theorem j_fconst0 {X : am_Cx} {r : am_Rec} {G : am_Gx} {d : Nat} (hX : am_ok X r G d) {pc bc bs : Nat} {lv : List (Nat × Value)} {rest : List Value} {M : am_Hp}  (hdg : decode r.2.1 pc = .ok (.fconst 0, 1))  (k : am_J X (pc + 1) lv (.float FP.fconst0 :: rest) M bc bs) : am_J X pc lv (rest) M bc bs := by
  obtain ⟨p, e, R, s, m, args, below, meth, c, Qf, nL, G', mc, ms, d'⟩ := X
  obtain ⟨hx, hb, -⟩ := hX
  intro H locs cells slots ls h1 h2 h3 h4 h5
  exact lv_fconst0 hx hb hdg  (k H locs cells slots ls h1 h2 h3 h4 h5)
theorem j_dconst0 {X : am_Cx} {r : am_Rec} {G : am_Gx} {d : Nat} (hX : am_ok X r G d) {pc bc bs : Nat} {lv : List (Nat × Value)} {rest : List Value} {M : am_Hp}  (hdg : decode r.2.1 pc = .ok (.dconst 0, 1))  (k : am_J X (pc + 1) lv (.double FP.dconst0 :: rest) M bc bs) : am_J X pc lv (rest) M bc bs := by
  obtain ⟨p, e, R, s, m, args, below, meth, c, Qf, nL, G', mc, ms, d'⟩ := X
  obtain ⟨hx, hb, -⟩ := hX
  intro H locs cells slots ls h1 h2 h3 h4 h5
  exact lv_dconst0 hx hb hdg  (k H locs cells slots ls h1 h2 h3 h4 h5)
theorem j_iload {X : am_Cx} {r : am_Rec} {G : am_Gx} {d : Nat} (hX : am_ok X r G d) {pc bc bs : Nat} {lv : List (Nat × Value)} {rest : List Value} {M : am_Hp} {i : Nat} {x : Int32} (hdg : decode r.2.1 pc = .ok (.iload i, 2)) (n : Nat) (hl : lv[n]? = some (i, .int x)) (k : am_J X (pc + 2) lv (.int x :: rest) M bc bs) : am_J X pc lv (rest) M bc bs := by
  obtain ⟨p, e, R, s, m, args, below, meth, c, Qf, nL, G', mc, ms, d'⟩ := X
  obtain ⟨hx, hb, -⟩ := hX
  intro H locs cells slots ls h1 h2 h3 h4 h5
  exact lv_iload hx hb hdg (lv_at h5 n hl) (k H locs cells slots ls h1 h2 h3 h4 h5)
theorem j_iload_n {X : am_Cx} {r : am_Rec} {G : am_Gx} {d : Nat} (hX : am_ok X r G d) {pc bc bs : Nat} {lv : List (Nat × Value)} {rest : List Value} {M : am_Hp} {q : Fin 4} {x : Int32} (hdg : decode r.2.1 pc = .ok (.iload_n q, 1)) (n : Nat) (hl : lv[n]? = some ((q : Nat), .int x)) (k : am_J X (pc + 1) lv (.int x :: rest) M bc bs) : am_J X pc lv (rest) M bc bs := by
  obtain ⟨p, e, R, s, m, args, below, meth, c, Qf, nL, G', mc, ms, d'⟩ := X
  obtain ⟨hx, hb, -⟩ := hX
  intro H locs cells slots ls h1 h2 h3 h4 h5
  exact lv_iload_n hx hb hdg rfl (lv_at h5 n hl) (k H locs cells slots ls h1 h2 h3 h4 h5)
theorem j_istore {X : am_Cx} {r : am_Rec} {G : am_Gx} {d : Nat} (hX : am_ok X r G d) {pc bc bs : Nat} {lv : List (Nat × Value)} {rest : List Value} {M : am_Hp} {i : Nat} {x : Int32} {lv' : List (Nat × Value)} (hdg : decode r.2.1 pc = .ok (.istore i, 2)) (hn : i < r.2.2.1) (hl : (i, Value.int x) :: lv.filter (fun q => !(q.1 == i) && !(q.1 + 1 == i && q.2.category == 2)) = lv') (k : am_J X (pc + 2) lv' rest M bc bs) : am_J X pc lv (.int x :: rest) M bc bs := by
  obtain ⟨p, e, R, s, m, args, below, meth, c, Qf, nL, G', mc, ms, d'⟩ := X
  obtain ⟨hx, hb, -, -, -, -, -, -, -, -, -, -, -, rfl, -⟩ := hX
  intro H locs cells slots ls h1 h2 h3 h4 h5
  exact lv_istore hx hb hdg h5 hn hl (fun ls' h6 => k H locs cells slots ls' h1 h2 h3 h4 h6)
theorem j_istore_n {X : am_Cx} {r : am_Rec} {G : am_Gx} {d : Nat} (hX : am_ok X r G d) {pc bc bs : Nat} {lv : List (Nat × Value)} {rest : List Value} {M : am_Hp} {q : Fin 4} {i : Nat} {x : Int32} {lv' : List (Nat × Value)} (hdg : decode r.2.1 pc = .ok (.istore_n q, 1)) (hi : (q : Nat) = i) (hn : i < r.2.2.1) (hl : (i, Value.int x) :: lv.filter (fun q => !(q.1 == i) && !(q.1 + 1 == i && q.2.category == 2)) = lv') (k : am_J X (pc + 1) lv' rest M bc bs) : am_J X pc lv (.int x :: rest) M bc bs := by
  obtain ⟨p, e, R, s, m, args, below, meth, c, Qf, nL, G', mc, ms, d'⟩ := X
  obtain ⟨hx, hb, -, -, -, -, -, -, -, -, -, -, -, rfl, -⟩ := hX
  intro H locs cells slots ls h1 h2 h3 h4 h5
  exact lv_istore_n hx hb hdg hi h5 hn hl (fun ls' h6 => k H locs cells slots ls' h1 h2 h3 h4 h6)
theorem j_lload {X : am_Cx} {r : am_Rec} {G : am_Gx} {d : Nat} (hX : am_ok X r G d) {pc bc bs : Nat} {lv : List (Nat × Value)} {rest : List Value} {M : am_Hp} {i : Nat} {x : Int64} (hdg : decode r.2.1 pc = .ok (.lload i, 2)) (n : Nat) (hl : lv[n]? = some (i, .long x)) (k : am_J X (pc + 2) lv (.long x :: rest) M bc bs) : am_J X pc lv (rest) M bc bs := by
  obtain ⟨p, e, R, s, m, args, below, meth, c, Qf, nL, G', mc, ms, d'⟩ := X
  obtain ⟨hx, hb, -⟩ := hX
  intro H locs cells slots ls h1 h2 h3 h4 h5
  exact lv_lload hx hb hdg (lv_at h5 n hl) (k H locs cells slots ls h1 h2 h3 h4 h5)
theorem j_lload_n {X : am_Cx} {r : am_Rec} {G : am_Gx} {d : Nat} (hX : am_ok X r G d) {pc bc bs : Nat} {lv : List (Nat × Value)} {rest : List Value} {M : am_Hp} {q : Fin 4} {x : Int64} (hdg : decode r.2.1 pc = .ok (.lload_n q, 1)) (n : Nat) (hl : lv[n]? = some ((q : Nat), .long x)) (k : am_J X (pc + 1) lv (.long x :: rest) M bc bs) : am_J X pc lv (rest) M bc bs := by
  obtain ⟨p, e, R, s, m, args, below, meth, c, Qf, nL, G', mc, ms, d'⟩ := X
  obtain ⟨hx, hb, -⟩ := hX
  intro H locs cells slots ls h1 h2 h3 h4 h5
  exact lv_lload_n hx hb hdg rfl (lv_at h5 n hl) (k H locs cells slots ls h1 h2 h3 h4 h5)
theorem j_lstore {X : am_Cx} {r : am_Rec} {G : am_Gx} {d : Nat} (hX : am_ok X r G d) {pc bc bs : Nat} {lv : List (Nat × Value)} {rest : List Value} {M : am_Hp} {i : Nat} {x : Int64} {lv' : List (Nat × Value)} (hdg : decode r.2.1 pc = .ok (.lstore i, 2)) (hn : i + 1 < r.2.2.1) (hl : (i, Value.long x) :: lv.filter (fun q => !(q.1 == i) && (!(q.1 == i + 1) && !(q.1 + 1 == i && q.2.category == 2))) = lv') (k : am_J X (pc + 2) lv' rest M bc bs) : am_J X pc lv (.long x :: rest) M bc bs := by
  obtain ⟨p, e, R, s, m, args, below, meth, c, Qf, nL, G', mc, ms, d'⟩ := X
  obtain ⟨hx, hb, -, -, -, -, -, -, -, -, -, -, -, rfl, -⟩ := hX
  intro H locs cells slots ls h1 h2 h3 h4 h5
  exact lv_lstore hx hb hdg h5 hn hl (fun ls' h6 => k H locs cells slots ls' h1 h2 h3 h4 h6)
theorem j_lstore_n {X : am_Cx} {r : am_Rec} {G : am_Gx} {d : Nat} (hX : am_ok X r G d) {pc bc bs : Nat} {lv : List (Nat × Value)} {rest : List Value} {M : am_Hp} {q : Fin 4} {i : Nat} {x : Int64} {lv' : List (Nat × Value)} (hdg : decode r.2.1 pc = .ok (.lstore_n q, 1)) (hi : (q : Nat) = i) (hn : i + 1 < r.2.2.1) (hl : (i, Value.long x) :: lv.filter (fun q => !(q.1 == i) && (!(q.1 == i + 1) && !(q.1 + 1 == i && q.2.category == 2))) = lv') (k : am_J X (pc + 1) lv' rest M bc bs) : am_J X pc lv (.long x :: rest) M bc bs := by
  obtain ⟨p, e, R, s, m, args, below, meth, c, Qf, nL, G', mc, ms, d'⟩ := X
  obtain ⟨hx, hb, -, -, -, -, -, -, -, -, -, -, -, rfl, -⟩ := hX
  intro H locs cells slots ls h1 h2 h3 h4 h5
  exact lv_lstore_n hx hb hdg hi h5 hn hl (fun ls' h6 => k H locs cells slots ls' h1 h2 h3 h4 h6)
theorem j_fload {X : am_Cx} {r : am_Rec} {G : am_Gx} {d : Nat} (hX : am_ok X r G d) {pc bc bs : Nat} {lv : List (Nat × Value)} {rest : List Value} {M : am_Hp} {i : Nat} {x : UInt32} (hdg : decode r.2.1 pc = .ok (.fload i, 2)) (n : Nat) (hl : lv[n]? = some (i, .float x)) (k : am_J X (pc + 2) lv (.float x :: rest) M bc bs) : am_J X pc lv (rest) M bc bs := by
  obtain ⟨p, e, R, s, m, args, below, meth, c, Qf, nL, G', mc, ms, d'⟩ := X
  obtain ⟨hx, hb, -⟩ := hX
  intro H locs cells slots ls h1 h2 h3 h4 h5
  exact lv_fload hx hb hdg (lv_at h5 n hl) (k H locs cells slots ls h1 h2 h3 h4 h5)
theorem j_fload_n {X : am_Cx} {r : am_Rec} {G : am_Gx} {d : Nat} (hX : am_ok X r G d) {pc bc bs : Nat} {lv : List (Nat × Value)} {rest : List Value} {M : am_Hp} {q : Fin 4} {x : UInt32} (hdg : decode r.2.1 pc = .ok (.fload_n q, 1)) (n : Nat) (hl : lv[n]? = some ((q : Nat), .float x)) (k : am_J X (pc + 1) lv (.float x :: rest) M bc bs) : am_J X pc lv (rest) M bc bs := by
  obtain ⟨p, e, R, s, m, args, below, meth, c, Qf, nL, G', mc, ms, d'⟩ := X
  obtain ⟨hx, hb, -⟩ := hX
  intro H locs cells slots ls h1 h2 h3 h4 h5
  exact lv_fload_n hx hb hdg rfl (lv_at h5 n hl) (k H locs cells slots ls h1 h2 h3 h4 h5)
theorem j_fstore {X : am_Cx} {r : am_Rec} {G : am_Gx} {d : Nat} (hX : am_ok X r G d) {pc bc bs : Nat} {lv : List (Nat × Value)} {rest : List Value} {M : am_Hp} {i : Nat} {x : UInt32} {lv' : List (Nat × Value)} (hdg : decode r.2.1 pc = .ok (.fstore i, 2)) (hn : i < r.2.2.1) (hl : (i, Value.float x) :: lv.filter (fun q => !(q.1 == i) && !(q.1 + 1 == i && q.2.category == 2)) = lv') (k : am_J X (pc + 2) lv' rest M bc bs) : am_J X pc lv (.float x :: rest) M bc bs := by
  obtain ⟨p, e, R, s, m, args, below, meth, c, Qf, nL, G', mc, ms, d'⟩ := X
  obtain ⟨hx, hb, -, -, -, -, -, -, -, -, -, -, -, rfl, -⟩ := hX
  intro H locs cells slots ls h1 h2 h3 h4 h5
  exact lv_fstore hx hb hdg h5 hn hl (fun ls' h6 => k H locs cells slots ls' h1 h2 h3 h4 h6)
theorem j_fstore_n {X : am_Cx} {r : am_Rec} {G : am_Gx} {d : Nat} (hX : am_ok X r G d) {pc bc bs : Nat} {lv : List (Nat × Value)} {rest : List Value} {M : am_Hp} {q : Fin 4} {i : Nat} {x : UInt32} {lv' : List (Nat × Value)} (hdg : decode r.2.1 pc = .ok (.fstore_n q, 1)) (hi : (q : Nat) = i) (hn : i < r.2.2.1) (hl : (i, Value.float x) :: lv.filter (fun q => !(q.1 == i) && !(q.1 + 1 == i && q.2.category == 2)) = lv') (k : am_J X (pc + 1) lv' rest M bc bs) : am_J X pc lv (.float x :: rest) M bc bs := by
  obtain ⟨p, e, R, s, m, args, below, meth, c, Qf, nL, G', mc, ms, d'⟩ := X
  obtain ⟨hx, hb, -, -, -, -, -, -, -, -, -, -, -, rfl, -⟩ := hX
  intro H locs cells slots ls h1 h2 h3 h4 h5
  exact lv_fstore_n hx hb hdg hi h5 hn hl (fun ls' h6 => k H locs cells slots ls' h1 h2 h3 h4 h6)
theorem j_dload {X : am_Cx} {r : am_Rec} {G : am_Gx} {d : Nat} (hX : am_ok X r G d) {pc bc bs : Nat} {lv : List (Nat × Value)} {rest : List Value} {M : am_Hp} {i : Nat} {x : UInt64} (hdg : decode r.2.1 pc = .ok (.dload i, 2)) (n : Nat) (hl : lv[n]? = some (i, .double x)) (k : am_J X (pc + 2) lv (.double x :: rest) M bc bs) : am_J X pc lv (rest) M bc bs := by
  obtain ⟨p, e, R, s, m, args, below, meth, c, Qf, nL, G', mc, ms, d'⟩ := X
  obtain ⟨hx, hb, -⟩ := hX
  intro H locs cells slots ls h1 h2 h3 h4 h5
  exact lv_dload hx hb hdg (lv_at h5 n hl) (k H locs cells slots ls h1 h2 h3 h4 h5)
theorem j_dload_n {X : am_Cx} {r : am_Rec} {G : am_Gx} {d : Nat} (hX : am_ok X r G d) {pc bc bs : Nat} {lv : List (Nat × Value)} {rest : List Value} {M : am_Hp} {q : Fin 4} {x : UInt64} (hdg : decode r.2.1 pc = .ok (.dload_n q, 1)) (n : Nat) (hl : lv[n]? = some ((q : Nat), .double x)) (k : am_J X (pc + 1) lv (.double x :: rest) M bc bs) : am_J X pc lv (rest) M bc bs := by
  obtain ⟨p, e, R, s, m, args, below, meth, c, Qf, nL, G', mc, ms, d'⟩ := X
  obtain ⟨hx, hb, -⟩ := hX
  intro H locs cells slots ls h1 h2 h3 h4 h5
  exact lv_dload_n hx hb hdg rfl (lv_at h5 n hl) (k H locs cells slots ls h1 h2 h3 h4 h5)
theorem j_dstore {X : am_Cx} {r : am_Rec} {G : am_Gx} {d : Nat} (hX : am_ok X r G d) {pc bc bs : Nat} {lv : List (Nat × Value)} {rest : List Value} {M : am_Hp} {i : Nat} {x : UInt64} {lv' : List (Nat × Value)} (hdg : decode r.2.1 pc = .ok (.dstore i, 2)) (hn : i + 1 < r.2.2.1) (hl : (i, Value.double x) :: lv.filter (fun q => !(q.1 == i) && (!(q.1 == i + 1) && !(q.1 + 1 == i && q.2.category == 2))) = lv') (k : am_J X (pc + 2) lv' rest M bc bs) : am_J X pc lv (.double x :: rest) M bc bs := by
  obtain ⟨p, e, R, s, m, args, below, meth, c, Qf, nL, G', mc, ms, d'⟩ := X
  obtain ⟨hx, hb, -, -, -, -, -, -, -, -, -, -, -, rfl, -⟩ := hX
  intro H locs cells slots ls h1 h2 h3 h4 h5
  exact lv_dstore hx hb hdg h5 hn hl (fun ls' h6 => k H locs cells slots ls' h1 h2 h3 h4 h6)
theorem j_dstore_n {X : am_Cx} {r : am_Rec} {G : am_Gx} {d : Nat} (hX : am_ok X r G d) {pc bc bs : Nat} {lv : List (Nat × Value)} {rest : List Value} {M : am_Hp} {q : Fin 4} {i : Nat} {x : UInt64} {lv' : List (Nat × Value)} (hdg : decode r.2.1 pc = .ok (.dstore_n q, 1)) (hi : (q : Nat) = i) (hn : i + 1 < r.2.2.1) (hl : (i, Value.double x) :: lv.filter (fun q => !(q.1 == i) && (!(q.1 == i + 1) && !(q.1 + 1 == i && q.2.category == 2))) = lv') (k : am_J X (pc + 1) lv' rest M bc bs) : am_J X pc lv (.double x :: rest) M bc bs := by
  obtain ⟨p, e, R, s, m, args, below, meth, c, Qf, nL, G', mc, ms, d'⟩ := X
  obtain ⟨hx, hb, -, -, -, -, -, -, -, -, -, -, -, rfl, -⟩ := hX
  intro H locs cells slots ls h1 h2 h3 h4 h5
  exact lv_dstore_n hx hb hdg hi h5 hn hl (fun ls' h6 => k H locs cells slots ls' h1 h2 h3 h4 h6)
theorem j_aload {X : am_Cx} {r : am_Rec} {G : am_Gx} {d : Nat} (hX : am_ok X r G d) {pc bc bs : Nat} {lv : List (Nat × Value)} {rest : List Value} {M : am_Hp} {i : Nat} {x : Nat} (hdg : decode r.2.1 pc = .ok (.aload i, 2)) (n : Nat) (hl : lv[n]? = some (i, .ref x)) (k : am_J X (pc + 2) lv (.ref x :: rest) M bc bs) : am_J X pc lv (rest) M bc bs := by
  obtain ⟨p, e, R, s, m, args, below, meth, c, Qf, nL, G', mc, ms, d'⟩ := X
  obtain ⟨hx, hb, -⟩ := hX
  intro H locs cells slots ls h1 h2 h3 h4 h5
  exact lv_aload hx hb hdg (lv_at h5 n hl) (k H locs cells slots ls h1 h2 h3 h4 h5)
theorem j_aload_n {X : am_Cx} {r : am_Rec} {G : am_Gx} {d : Nat} (hX : am_ok X r G d) {pc bc bs : Nat} {lv : List (Nat × Value)} {rest : List Value} {M : am_Hp} {q : Fin 4} {x : Nat} (hdg : decode r.2.1 pc = .ok (.aload_n q, 1)) (n : Nat) (hl : lv[n]? = some ((q : Nat), .ref x)) (k : am_J X (pc + 1) lv (.ref x :: rest) M bc bs) : am_J X pc lv (rest) M bc bs := by
  obtain ⟨p, e, R, s, m, args, below, meth, c, Qf, nL, G', mc, ms, d'⟩ := X
  obtain ⟨hx, hb, -⟩ := hX
  intro H locs cells slots ls h1 h2 h3 h4 h5
  exact lv_aload_n hx hb hdg rfl (lv_at h5 n hl) (k H locs cells slots ls h1 h2 h3 h4 h5)
theorem j_astore {X : am_Cx} {r : am_Rec} {G : am_Gx} {d : Nat} (hX : am_ok X r G d) {pc bc bs : Nat} {lv : List (Nat × Value)} {rest : List Value} {M : am_Hp} {i : Nat} {x : Nat} {lv' : List (Nat × Value)} (hdg : decode r.2.1 pc = .ok (.astore i, 2)) (hn : i < r.2.2.1) (hl : (i, Value.ref x) :: lv.filter (fun q => !(q.1 == i) && !(q.1 + 1 == i && q.2.category == 2)) = lv') (k : am_J X (pc + 2) lv' rest M bc bs) : am_J X pc lv (.ref x :: rest) M bc bs := by
  obtain ⟨p, e, R, s, m, args, below, meth, c, Qf, nL, G', mc, ms, d'⟩ := X
  obtain ⟨hx, hb, -, -, -, -, -, -, -, -, -, -, -, rfl, -⟩ := hX
  intro H locs cells slots ls h1 h2 h3 h4 h5
  exact lv_astore hx hb hdg h5 hn hl (fun ls' h6 => k H locs cells slots ls' h1 h2 h3 h4 h6)
theorem j_astore_n {X : am_Cx} {r : am_Rec} {G : am_Gx} {d : Nat} (hX : am_ok X r G d) {pc bc bs : Nat} {lv : List (Nat × Value)} {rest : List Value} {M : am_Hp} {q : Fin 4} {i : Nat} {x : Nat} {lv' : List (Nat × Value)} (hdg : decode r.2.1 pc = .ok (.astore_n q, 1)) (hi : (q : Nat) = i) (hn : i < r.2.2.1) (hl : (i, Value.ref x) :: lv.filter (fun q => !(q.1 == i) && !(q.1 + 1 == i && q.2.category == 2)) = lv') (k : am_J X (pc + 1) lv' rest M bc bs) : am_J X pc lv (.ref x :: rest) M bc bs := by
  obtain ⟨p, e, R, s, m, args, below, meth, c, Qf, nL, G', mc, ms, d'⟩ := X
  obtain ⟨hx, hb, -, -, -, -, -, -, -, -, -, -, -, rfl, -⟩ := hX
  intro H locs cells slots ls h1 h2 h3 h4 h5
  exact lv_astore_n hx hb hdg hi h5 hn hl (fun ls' h6 => k H locs cells slots ls' h1 h2 h3 h4 h6)
theorem j_iinc {X : am_Cx} {r : am_Rec} {G : am_Gx} {d : Nat} (hX : am_ok X r G d) {pc bc bs : Nat} {lv : List (Nat × Value)} {rest : List Value} {M : am_Hp} {i : Nat} {n : Int} {x v : Int32} {lv' : List (Nat × Value)} (hdg : decode r.2.1 pc = .ok (.iinc i n, 3)) (z : Nat) (hz : lv[z]? = some (i, .int x)) (hv : x + Int32.ofInt n = v) (hn : i < r.2.2.1) (hl : (i, Value.int v) :: lv.filter (fun q => !(q.1 == i) && !(q.1 + 1 == i && q.2.category == 2)) = lv') (k : am_J X (pc + 3) lv' rest M bc bs) : am_J X pc lv rest M bc bs := by
  obtain ⟨p, e, R, s, m, args, below, meth, c, Qf, nL, G', mc, ms, d'⟩ := X
  obtain ⟨hx, hb, -, -, -, -, -, -, -, -, -, -, -, rfl, -⟩ := hX
  intro H locs cells slots ls h1 h2 h3 h4 h5
  exact lv_iinc hx hb hdg h5 hz hv hn hl (fun ls' h6 => k H locs cells slots ls' h1 h2 h3 h4 h6)
theorem j_iadd {X : am_Cx} {r : am_Rec} {G : am_Gx} {d : Nat} (hX : am_ok X r G d) {pc bc bs : Nat} {lv : List (Nat × Value)} {rest : List Value} {M : am_Hp} {x y : Int32} (hdg : decode r.2.1 pc = .ok (.iadd, 1))  (k : am_J X (pc + 1) lv (.int (x + y) :: rest) M bc bs) : am_J X pc lv (.int y :: .int x :: rest) M bc bs := by
  obtain ⟨p, e, R, s, m, args, below, meth, c, Qf, nL, G', mc, ms, d'⟩ := X
  obtain ⟨hx, hb, -⟩ := hX
  intro H locs cells slots ls h1 h2 h3 h4 h5
  exact lv_iadd hx hb hdg  (k H locs cells slots ls h1 h2 h3 h4 h5)
theorem j_isub {X : am_Cx} {r : am_Rec} {G : am_Gx} {d : Nat} (hX : am_ok X r G d) {pc bc bs : Nat} {lv : List (Nat × Value)} {rest : List Value} {M : am_Hp} {x y : Int32} (hdg : decode r.2.1 pc = .ok (.isub, 1))  (k : am_J X (pc + 1) lv (.int (x - y) :: rest) M bc bs) : am_J X pc lv (.int y :: .int x :: rest) M bc bs := by
  obtain ⟨p, e, R, s, m, args, below, meth, c, Qf, nL, G', mc, ms, d'⟩ := X
  obtain ⟨hx, hb, -⟩ := hX
  intro H locs cells slots ls h1 h2 h3 h4 h5
  exact lv_isub hx hb hdg  (k H locs cells slots ls h1 h2 h3 h4 h5)
theorem j_imul {X : am_Cx} {r : am_Rec} {G : am_Gx} {d : Nat} (hX : am_ok X r G d) {pc bc bs : Nat} {lv : List (Nat × Value)} {rest : List Value} {M : am_Hp} {x y : Int32} (hdg : decode r.2.1 pc = .ok (.imul, 1))  (k : am_J X (pc + 1) lv (.int (x * y) :: rest) M bc bs) : am_J X pc lv (.int y :: .int x :: rest) M bc bs := by
  obtain ⟨p, e, R, s, m, args, below, meth, c, Qf, nL, G', mc, ms, d'⟩ := X
  obtain ⟨hx, hb, -⟩ := hX
  intro H locs cells slots ls h1 h2 h3 h4 h5
  exact lv_imul hx hb hdg  (k H locs cells slots ls h1 h2 h3 h4 h5)
theorem j_iand {X : am_Cx} {r : am_Rec} {G : am_Gx} {d : Nat} (hX : am_ok X r G d) {pc bc bs : Nat} {lv : List (Nat × Value)} {rest : List Value} {M : am_Hp} {x y : Int32} (hdg : decode r.2.1 pc = .ok (.iand, 1))  (k : am_J X (pc + 1) lv (.int (x &&& y) :: rest) M bc bs) : am_J X pc lv (.int y :: .int x :: rest) M bc bs := by
  obtain ⟨p, e, R, s, m, args, below, meth, c, Qf, nL, G', mc, ms, d'⟩ := X
  obtain ⟨hx, hb, -⟩ := hX
  intro H locs cells slots ls h1 h2 h3 h4 h5
  exact lv_iand hx hb hdg  (k H locs cells slots ls h1 h2 h3 h4 h5)
theorem j_ior {X : am_Cx} {r : am_Rec} {G : am_Gx} {d : Nat} (hX : am_ok X r G d) {pc bc bs : Nat} {lv : List (Nat × Value)} {rest : List Value} {M : am_Hp} {x y : Int32} (hdg : decode r.2.1 pc = .ok (.ior, 1))  (k : am_J X (pc + 1) lv (.int (x ||| y) :: rest) M bc bs) : am_J X pc lv (.int y :: .int x :: rest) M bc bs := by
  obtain ⟨p, e, R, s, m, args, below, meth, c, Qf, nL, G', mc, ms, d'⟩ := X
  obtain ⟨hx, hb, -⟩ := hX
  intro H locs cells slots ls h1 h2 h3 h4 h5
  exact lv_ior hx hb hdg  (k H locs cells slots ls h1 h2 h3 h4 h5)
theorem j_ixor {X : am_Cx} {r : am_Rec} {G : am_Gx} {d : Nat} (hX : am_ok X r G d) {pc bc bs : Nat} {lv : List (Nat × Value)} {rest : List Value} {M : am_Hp} {x y : Int32} (hdg : decode r.2.1 pc = .ok (.ixor, 1))  (k : am_J X (pc + 1) lv (.int (x ^^^ y) :: rest) M bc bs) : am_J X pc lv (.int y :: .int x :: rest) M bc bs := by
  obtain ⟨p, e, R, s, m, args, below, meth, c, Qf, nL, G', mc, ms, d'⟩ := X
  obtain ⟨hx, hb, -⟩ := hX
  intro H locs cells slots ls h1 h2 h3 h4 h5
  exact lv_ixor hx hb hdg  (k H locs cells slots ls h1 h2 h3 h4 h5)
theorem j_ishl {X : am_Cx} {r : am_Rec} {G : am_Gx} {d : Nat} (hX : am_ok X r G d) {pc bc bs : Nat} {lv : List (Nat × Value)} {rest : List Value} {M : am_Hp} {x y : Int32} (hdg : decode r.2.1 pc = .ok (.ishl, 1))  (k : am_J X (pc + 1) lv (.int (x <<< (y &&& 31)) :: rest) M bc bs) : am_J X pc lv (.int y :: .int x :: rest) M bc bs := by
  obtain ⟨p, e, R, s, m, args, below, meth, c, Qf, nL, G', mc, ms, d'⟩ := X
  obtain ⟨hx, hb, -⟩ := hX
  intro H locs cells slots ls h1 h2 h3 h4 h5
  exact lv_ishl hx hb hdg  (k H locs cells slots ls h1 h2 h3 h4 h5)
theorem j_ishr {X : am_Cx} {r : am_Rec} {G : am_Gx} {d : Nat} (hX : am_ok X r G d) {pc bc bs : Nat} {lv : List (Nat × Value)} {rest : List Value} {M : am_Hp} {x y : Int32} (hdg : decode r.2.1 pc = .ok (.ishr, 1))  (k : am_J X (pc + 1) lv (.int (x >>> (y &&& 31)) :: rest) M bc bs) : am_J X pc lv (.int y :: .int x :: rest) M bc bs := by
  obtain ⟨p, e, R, s, m, args, below, meth, c, Qf, nL, G', mc, ms, d'⟩ := X
  obtain ⟨hx, hb, -⟩ := hX
  intro H locs cells slots ls h1 h2 h3 h4 h5
  exact lv_ishr hx hb hdg  (k H locs cells slots ls h1 h2 h3 h4 h5)
theorem j_idiv {X : am_Cx} {r : am_Rec} {G : am_Gx} {d : Nat} (hX : am_ok X r G d) {pc bc bs : Nat} {lv : List (Nat × Value)} {rest : List Value} {M : am_Hp} {x y : Int32} (hdg : decode r.2.1 pc = .ok (.idiv, 1)) (hne : ¬ y = 0) (k : am_J X (pc + 1) lv (.int (x / y) :: rest) M bc bs) : am_J X pc lv (.int y :: .int x :: rest) M bc bs := by
  obtain ⟨p, e, R, s, m, args, below, meth, c, Qf, nL, G', mc, ms, d'⟩ := X
  obtain ⟨hx, hb, -⟩ := hX
  intro H locs cells slots ls h1 h2 h3 h4 h5
  exact lv_idiv hx hb hdg hne (k H locs cells slots ls h1 h2 h3 h4 h5)
theorem j_irem {X : am_Cx} {r : am_Rec} {G : am_Gx} {d : Nat} (hX : am_ok X r G d) {pc bc bs : Nat} {lv : List (Nat × Value)} {rest : List Value} {M : am_Hp} {x y : Int32} (hdg : decode r.2.1 pc = .ok (.irem, 1)) (hne : ¬ y = 0) (k : am_J X (pc + 1) lv (.int (x - x / y * y) :: rest) M bc bs) : am_J X pc lv (.int y :: .int x :: rest) M bc bs := by
  obtain ⟨p, e, R, s, m, args, below, meth, c, Qf, nL, G', mc, ms, d'⟩ := X
  obtain ⟨hx, hb, -⟩ := hX
  intro H locs cells slots ls h1 h2 h3 h4 h5
  exact lv_irem hx hb hdg hne (k H locs cells slots ls h1 h2 h3 h4 h5)
theorem j_ineg {X : am_Cx} {r : am_Rec} {G : am_Gx} {d : Nat} (hX : am_ok X r G d) {pc bc bs : Nat} {lv : List (Nat × Value)} {rest : List Value} {M : am_Hp} {x : Int32} (hdg : decode r.2.1 pc = .ok (.ineg, 1))  (k : am_J X (pc + 1) lv (.int (-x) :: rest) M bc bs) : am_J X pc lv (.int x :: rest) M bc bs := by
  obtain ⟨p, e, R, s, m, args, below, meth, c, Qf, nL, G', mc, ms, d'⟩ := X
  obtain ⟨hx, hb, -⟩ := hX
  intro H locs cells slots ls h1 h2 h3 h4 h5
  exact lv_ineg hx hb hdg  (k H locs cells slots ls h1 h2 h3 h4 h5)
theorem j_iushr {X : am_Cx} {r : am_Rec} {G : am_Gx} {d : Nat} (hX : am_ok X r G d) {pc bc bs : Nat} {lv : List (Nat × Value)} {rest : List Value} {M : am_Hp} {x y : Int32} (hdg : decode r.2.1 pc = .ok (.iushr, 1))  (k : am_J X (pc + 1) lv (.int ((x.toUInt32 >>> (y.toUInt32 &&& Int32.toUInt32 31)).toInt32) :: rest) M bc bs) : am_J X pc lv (.int y :: .int x :: rest) M bc bs := by
  obtain ⟨p, e, R, s, m, args, below, meth, c, Qf, nL, G', mc, ms, d'⟩ := X
  obtain ⟨hx, hb, -⟩ := hX
  intro H locs cells slots ls h1 h2 h3 h4 h5
  exact lv_iushr hx hb hdg rfl (k H locs cells slots ls h1 h2 h3 h4 h5)
theorem j_ladd {X : am_Cx} {r : am_Rec} {G : am_Gx} {d : Nat} (hX : am_ok X r G d) {pc bc bs : Nat} {lv : List (Nat × Value)} {rest : List Value} {M : am_Hp} {x y : Int64} (hdg : decode r.2.1 pc = .ok (.ladd, 1))  (k : am_J X (pc + 1) lv (.long (x + y) :: rest) M bc bs) : am_J X pc lv (.long y :: .long x :: rest) M bc bs := by
  obtain ⟨p, e, R, s, m, args, below, meth, c, Qf, nL, G', mc, ms, d'⟩ := X
  obtain ⟨hx, hb, -⟩ := hX
  intro H locs cells slots ls h1 h2 h3 h4 h5
  exact lv_ladd hx hb hdg  (k H locs cells slots ls h1 h2 h3 h4 h5)
theorem j_lsub {X : am_Cx} {r : am_Rec} {G : am_Gx} {d : Nat} (hX : am_ok X r G d) {pc bc bs : Nat} {lv : List (Nat × Value)} {rest : List Value} {M : am_Hp} {x y : Int64} (hdg : decode r.2.1 pc = .ok (.lsub, 1))  (k : am_J X (pc + 1) lv (.long (x - y) :: rest) M bc bs) : am_J X pc lv (.long y :: .long x :: rest) M bc bs := by
  obtain ⟨p, e, R, s, m, args, below, meth, c, Qf, nL, G', mc, ms, d'⟩ := X
  obtain ⟨hx, hb, -⟩ := hX
  intro H locs cells slots ls h1 h2 h3 h4 h5
  exact lv_lsub hx hb hdg  (k H locs cells slots ls h1 h2 h3 h4 h5)
theorem j_lmul {X : am_Cx} {r : am_Rec} {G : am_Gx} {d : Nat} (hX : am_ok X r G d) {pc bc bs : Nat} {lv : List (Nat × Value)} {rest : List Value} {M : am_Hp} {x y : Int64} (hdg : decode r.2.1 pc = .ok (.lmul, 1))  (k : am_J X (pc + 1) lv (.long (x * y) :: rest) M bc bs) : am_J X pc lv (.long y :: .long x :: rest) M bc bs := by
  obtain ⟨p, e, R, s, m, args, below, meth, c, Qf, nL, G', mc, ms, d'⟩ := X
  obtain ⟨hx, hb, -⟩ := hX
  intro H locs cells slots ls h1 h2 h3 h4 h5
  exact lv_lmul hx hb hdg  (k H locs cells slots ls h1 h2 h3 h4 h5)
theorem j_i2l {X : am_Cx} {r : am_Rec} {G : am_Gx} {d : Nat} (hX : am_ok X r G d) {pc bc bs : Nat} {lv : List (Nat × Value)} {rest : List Value} {M : am_Hp} {x : Int32} (hdg : decode r.2.1 pc = .ok (.i2l, 1))  (k : am_J X (pc + 1) lv (.long x.toInt64 :: rest) M bc bs) : am_J X pc lv (.int x :: rest) M bc bs := by
  obtain ⟨p, e, R, s, m, args, below, meth, c, Qf, nL, G', mc, ms, d'⟩ := X
  obtain ⟨hx, hb, -⟩ := hX
  intro H locs cells slots ls h1 h2 h3 h4 h5
  exact lv_i2l hx hb hdg rfl (k H locs cells slots ls h1 h2 h3 h4 h5)
theorem j_i2c {X : am_Cx} {r : am_Rec} {G : am_Gx} {d : Nat} (hX : am_ok X r G d) {pc bc bs : Nat} {lv : List (Nat × Value)} {rest : List Value} {M : am_Hp} {x : Int32} (hdg : decode r.2.1 pc = .ok (.i2c, 1))  (k : am_J X (pc + 1) lv (.int (x.toUInt32 % 65536).toInt32 :: rest) M bc bs) : am_J X pc lv (.int x :: rest) M bc bs := by
  obtain ⟨p, e, R, s, m, args, below, meth, c, Qf, nL, G', mc, ms, d'⟩ := X
  obtain ⟨hx, hb, -⟩ := hX
  intro H locs cells slots ls h1 h2 h3 h4 h5
  exact lv_i2c hx hb hdg rfl (k H locs cells slots ls h1 h2 h3 h4 h5)
theorem j_i2b {X : am_Cx} {r : am_Rec} {G : am_Gx} {d : Nat} (hX : am_ok X r G d) {pc bc bs : Nat} {lv : List (Nat × Value)} {rest : List Value} {M : am_Hp} {x : Int32} (hdg : decode r.2.1 pc = .ok (.i2b, 1))  (k : am_J X (pc + 1) lv (.int x.toInt8.toInt32 :: rest) M bc bs) : am_J X pc lv (.int x :: rest) M bc bs := by
  obtain ⟨p, e, R, s, m, args, below, meth, c, Qf, nL, G', mc, ms, d'⟩ := X
  obtain ⟨hx, hb, -⟩ := hX
  intro H locs cells slots ls h1 h2 h3 h4 h5
  exact lv_i2b hx hb hdg rfl (k H locs cells slots ls h1 h2 h3 h4 h5)
theorem j_i2f {X : am_Cx} {r : am_Rec} {G : am_Gx} {d : Nat} (hX : am_ok X r G d) {pc bc bs : Nat} {lv : List (Nat × Value)} {rest : List Value} {M : am_Hp} {x : Int32} (hdg : decode r.2.1 pc = .ok (.i2f, 1))  (k : am_J X (pc + 1) lv (.float (FP.i2f x) :: rest) M bc bs) : am_J X pc lv (.int x :: rest) M bc bs := by
  obtain ⟨p, e, R, s, m, args, below, meth, c, Qf, nL, G', mc, ms, d'⟩ := X
  obtain ⟨hx, hb, -⟩ := hX
  intro H locs cells slots ls h1 h2 h3 h4 h5
  exact lv_i2f hx hb hdg  (k H locs cells slots ls h1 h2 h3 h4 h5)
theorem j_i2d {X : am_Cx} {r : am_Rec} {G : am_Gx} {d : Nat} (hX : am_ok X r G d) {pc bc bs : Nat} {lv : List (Nat × Value)} {rest : List Value} {M : am_Hp} {x : Int32} (hdg : decode r.2.1 pc = .ok (.i2d, 1))  (k : am_J X (pc + 1) lv (.double (FP.i2d x) :: rest) M bc bs) : am_J X pc lv (.int x :: rest) M bc bs := by
  obtain ⟨p, e, R, s, m, args, below, meth, c, Qf, nL, G', mc, ms, d'⟩ := X
  obtain ⟨hx, hb, -⟩ := hX
  intro H locs cells slots ls h1 h2 h3 h4 h5
  exact lv_i2d hx hb hdg  (k H locs cells slots ls h1 h2 h3 h4 h5)
theorem j_fdiv {X : am_Cx} {r : am_Rec} {G : am_Gx} {d : Nat} (hX : am_ok X r G d) {pc bc bs : Nat} {lv : List (Nat × Value)} {rest : List Value} {M : am_Hp} {x y : UInt32} (hdg : decode r.2.1 pc = .ok (.fdiv, 1)) (hne : vf_n32 (FP.fdiv x y)) (k : am_J X (pc + 1) lv (.float (FP.fdiv x y) :: rest) M bc bs) : am_J X pc lv (.float y :: .float x :: rest) M bc bs := by
  obtain ⟨p, e, R, s, m, args, below, meth, c, Qf, nL, G', mc, ms, d'⟩ := X
  obtain ⟨hx, hb, -⟩ := hX
  intro H locs cells slots ls h1 h2 h3 h4 h5
  exact lv_fdiv hx hb hdg hne (k H locs cells slots ls h1 h2 h3 h4 h5)
theorem j_ddiv {X : am_Cx} {r : am_Rec} {G : am_Gx} {d : Nat} (hX : am_ok X r G d) {pc bc bs : Nat} {lv : List (Nat × Value)} {rest : List Value} {M : am_Hp} {x y : UInt64} (hdg : decode r.2.1 pc = .ok (.ddiv, 1)) (hne : vf_n64 (FP.ddiv x y)) (k : am_J X (pc + 1) lv (.double (FP.ddiv x y) :: rest) M bc bs) : am_J X pc lv (.double y :: .double x :: rest) M bc bs := by
  obtain ⟨p, e, R, s, m, args, below, meth, c, Qf, nL, G', mc, ms, d'⟩ := X
  obtain ⟨hx, hb, -⟩ := hX
  intro H locs cells slots ls h1 h2 h3 h4 h5
  exact lv_ddiv hx hb hdg hne (k H locs cells slots ls h1 h2 h3 h4 h5)
theorem j_f2d {X : am_Cx} {r : am_Rec} {G : am_Gx} {d : Nat} (hX : am_ok X r G d) {pc bc bs : Nat} {lv : List (Nat × Value)} {rest : List Value} {M : am_Hp} {x : UInt32} (hdg : decode r.2.1 pc = .ok (.f2d, 1)) (hne : vf_n64 (FP.f2d x)) (k : am_J X (pc + 1) lv (.double (FP.f2d x) :: rest) M bc bs) : am_J X pc lv (.float x :: rest) M bc bs := by
  obtain ⟨p, e, R, s, m, args, below, meth, c, Qf, nL, G', mc, ms, d'⟩ := X
  obtain ⟨hx, hb, -⟩ := hX
  intro H locs cells slots ls h1 h2 h3 h4 h5
  exact lv_f2d hx hb hdg hne (k H locs cells slots ls h1 h2 h3 h4 h5)
theorem j_fcmp {X : am_Cx} {r : am_Rec} {G : am_Gx} {d : Nat} (hX : am_ok X r G d) {pc bc bs : Nat} {lv : List (Nat × Value)} {rest : List Value} {M : am_Hp} {x y : UInt32} {op : CmpOp} (hdg : decode r.2.1 pc = .ok (.fcmp op, 1))  (k : am_J X (pc + 1) lv (.int (Op.cmpValue (FP.fcmp x y) op) :: rest) M bc bs) : am_J X pc lv (.float y :: .float x :: rest) M bc bs := by
  obtain ⟨p, e, R, s, m, args, below, meth, c, Qf, nL, G', mc, ms, d'⟩ := X
  obtain ⟨hx, hb, -⟩ := hX
  intro H locs cells slots ls h1 h2 h3 h4 h5
  exact lv_fcmp hx hb hdg  (k H locs cells slots ls h1 h2 h3 h4 h5)
theorem j_dcmp {X : am_Cx} {r : am_Rec} {G : am_Gx} {d : Nat} (hX : am_ok X r G d) {pc bc bs : Nat} {lv : List (Nat × Value)} {rest : List Value} {M : am_Hp} {x y : UInt64} {op : CmpOp} (hdg : decode r.2.1 pc = .ok (.dcmp op, 1))  (k : am_J X (pc + 1) lv (.int (Op.cmpValue (FP.dcmp x y) op) :: rest) M bc bs) : am_J X pc lv (.double y :: .double x :: rest) M bc bs := by
  obtain ⟨p, e, R, s, m, args, below, meth, c, Qf, nL, G', mc, ms, d'⟩ := X
  obtain ⟨hx, hb, -⟩ := hX
  intro H locs cells slots ls h1 h2 h3 h4 h5
  exact lv_dcmp hx hb hdg  (k H locs cells slots ls h1 h2 h3 h4 h5)
theorem j_lcmp {X : am_Cx} {r : am_Rec} {G : am_Gx} {d : Nat} (hX : am_ok X r G d) {pc bc bs : Nat} {lv : List (Nat × Value)} {rest : List Value} {M : am_Hp} {x y : Int64} (hdg : decode r.2.1 pc = .ok (.lcmp, 1))  (k : am_J X (pc + 1) lv (.int (lg_cmp x y) :: rest) M bc bs) : am_J X pc lv (.long y :: .long x :: rest) M bc bs := by
  obtain ⟨p, e, R, s, m, args, below, meth, c, Qf, nL, G', mc, ms, d'⟩ := X
  obtain ⟨hx, hb, -⟩ := hX
  intro H locs cells slots ls h1 h2 h3 h4 h5
  exact W.lcmp hx hb hdg  (k H locs cells slots ls h1 h2 h3 h4 h5)
theorem j_dup {X : am_Cx} {r : am_Rec} {G : am_Gx} {d : Nat} (hX : am_ok X r G d) {pc bc bs : Nat} {lv : List (Nat × Value)} {rest : List Value} {M : am_Hp} {a : Value} (hdg : decode r.2.1 pc = .ok (.dup, 1)) (ha : a.category = 1) (k : am_J X (pc + 1) lv (a :: a :: rest) M bc bs) : am_J X pc lv (a :: rest) M bc bs := by
  obtain ⟨p, e, R, s, m, args, below, meth, c, Qf, nL, G', mc, ms, d'⟩ := X
  obtain ⟨hx, hb, -⟩ := hX
  intro H locs cells slots ls h1 h2 h3 h4 h5
  exact lv_dup hx hb hdg ha (k H locs cells slots ls h1 h2 h3 h4 h5)
theorem j_pop {X : am_Cx} {r : am_Rec} {G : am_Gx} {d : Nat} (hX : am_ok X r G d) {pc bc bs : Nat} {lv : List (Nat × Value)} {rest : List Value} {M : am_Hp} {a : Value} (hdg : decode r.2.1 pc = .ok (.pop, 1)) (ha : a.category = 1) (k : am_J X (pc + 1) lv (rest) M bc bs) : am_J X pc lv (a :: rest) M bc bs := by
  obtain ⟨p, e, R, s, m, args, below, meth, c, Qf, nL, G', mc, ms, d'⟩ := X
  obtain ⟨hx, hb, -⟩ := hX
  intro H locs cells slots ls h1 h2 h3 h4 h5
  exact lv_pop hx hb hdg ha (k H locs cells slots ls h1 h2 h3 h4 h5)
theorem j_dup_x1 {X : am_Cx} {r : am_Rec} {G : am_Gx} {d : Nat} (hX : am_ok X r G d) {pc bc bs : Nat} {lv : List (Nat × Value)} {rest : List Value} {M : am_Hp} {a b : Value} (hdg : decode r.2.1 pc = .ok (.dup_x1, 1)) (ha : a.category = 1) (hb9 : b.category = 1) (k : am_J X (pc + 1) lv (a :: b :: a :: rest) M bc bs) : am_J X pc lv (a :: b :: rest) M bc bs := by
  obtain ⟨p, e, R, s, m, args, below, meth, c, Qf, nL, G', mc, ms, d'⟩ := X
  obtain ⟨hx, hb, -⟩ := hX
  intro H locs cells slots ls h1 h2 h3 h4 h5
  exact lv_dup_x1 hx hb hdg ha hb9 (k H locs cells slots ls h1 h2 h3 h4 h5)
theorem j_dup2 {X : am_Cx} {r : am_Rec} {G : am_Gx} {d : Nat} (hX : am_ok X r G d) {pc bc bs : Nat} {lv : List (Nat × Value)} {rest : List Value} {M : am_Hp} {a b : Value} (hdg : decode r.2.1 pc = .ok (.dup2, 1)) (ha : a.category = 1) (hb9 : b.category = 1) (k : am_J X (pc + 1) lv (a :: b :: a :: b :: rest) M bc bs) : am_J X pc lv (a :: b :: rest) M bc bs := by
  obtain ⟨p, e, R, s, m, args, below, meth, c, Qf, nL, G', mc, ms, d'⟩ := X
  obtain ⟨hx, hb, -⟩ := hX
  intro H locs cells slots ls h1 h2 h3 h4 h5
  exact lv_dup2_11 hx hb hdg ha hb9 (k H locs cells slots ls h1 h2 h3 h4 h5)
theorem j_if_eq {X : am_Cx} {r : am_Rec} {G : am_Gx} {d : Nat} (hX : am_ok X r G d) {pc bc bs : Nat} {lv : List (Nat × Value)} {rest : List Value} {M : am_Hp} {x : Int32} {off : Int} (tgt : Nat) (hdg : decode r.2.1 pc = .ok (.ifCond .eq off, 3)) (ht : (pc : Int) + off = (tgt : Int)) (kt : x = 0 → am_J X tgt lv rest M bc bs) (kf : ¬ x = 0 → am_J X (pc + 3) lv rest M bc bs) : am_J X pc lv (.int x :: rest) M bc bs := by
  obtain ⟨p, e, R, s, m, args, below, meth, c, Qf, nL, G', mc, ms, d'⟩ := X
  obtain ⟨hx, hb, -⟩ := hX
  intro H locs cells slots ls h1 h2 h3 h4 h5
  exact lv_if_eq hx hb hdg ht (fun q => kt q H locs cells slots ls h1 h2 h3 h4 h5) (fun q => kf q H locs cells slots ls h1 h2 h3 h4 h5)
theorem j_if_ne {X : am_Cx} {r : am_Rec} {G : am_Gx} {d : Nat} (hX : am_ok X r G d) {pc bc bs : Nat} {lv : List (Nat × Value)} {rest : List Value} {M : am_Hp} {x : Int32} {off : Int} (tgt : Nat) (hdg : decode r.2.1 pc = .ok (.ifCond .ne off, 3)) (ht : (pc : Int) + off = (tgt : Int)) (kt : ¬ x = 0 → am_J X tgt lv rest M bc bs) (kf : x = 0 → am_J X (pc + 3) lv rest M bc bs) : am_J X pc lv (.int x :: rest) M bc bs := by
  obtain ⟨p, e, R, s, m, args, below, meth, c, Qf, nL, G', mc, ms, d'⟩ := X
  obtain ⟨hx, hb, -⟩ := hX
  intro H locs cells slots ls h1 h2 h3 h4 h5
  exact lv_if_ne hx hb hdg ht (fun q => kt q H locs cells slots ls h1 h2 h3 h4 h5) (fun q => kf q H locs cells slots ls h1 h2 h3 h4 h5)
theorem j_if_lt {X : am_Cx} {r : am_Rec} {G : am_Gx} {d : Nat} (hX : am_ok X r G d) {pc bc bs : Nat} {lv : List (Nat × Value)} {rest : List Value} {M : am_Hp} {x : Int32} {off : Int} (tgt : Nat) (hdg : decode r.2.1 pc = .ok (.ifCond .lt off, 3)) (ht : (pc : Int) + off = (tgt : Int)) (kt : x < 0 → am_J X tgt lv rest M bc bs) (kf : ¬ x < 0 → am_J X (pc + 3) lv rest M bc bs) : am_J X pc lv (.int x :: rest) M bc bs := by
  obtain ⟨p, e, R, s, m, args, below, meth, c, Qf, nL, G', mc, ms, d'⟩ := X
  obtain ⟨hx, hb, -⟩ := hX
  intro H locs cells slots ls h1 h2 h3 h4 h5
  exact lv_if_lt hx hb hdg ht (fun q => kt q H locs cells slots ls h1 h2 h3 h4 h5) (fun q => kf q H locs cells slots ls h1 h2 h3 h4 h5)
theorem j_if_ge {X : am_Cx} {r : am_Rec} {G : am_Gx} {d : Nat} (hX : am_ok X r G d) {pc bc bs : Nat} {lv : List (Nat × Value)} {rest : List Value} {M : am_Hp} {x : Int32} {off : Int} (tgt : Nat) (hdg : decode r.2.1 pc = .ok (.ifCond .ge off, 3)) (ht : (pc : Int) + off = (tgt : Int)) (kt : 0 ≤ x → am_J X tgt lv rest M bc bs) (kf : ¬ 0 ≤ x → am_J X (pc + 3) lv rest M bc bs) : am_J X pc lv (.int x :: rest) M bc bs := by
  obtain ⟨p, e, R, s, m, args, below, meth, c, Qf, nL, G', mc, ms, d'⟩ := X
  obtain ⟨hx, hb, -⟩ := hX
  intro H locs cells slots ls h1 h2 h3 h4 h5
  exact lv_if_ge hx hb hdg ht (fun q => kt q H locs cells slots ls h1 h2 h3 h4 h5) (fun q => kf q H locs cells slots ls h1 h2 h3 h4 h5)
theorem j_if_gt {X : am_Cx} {r : am_Rec} {G : am_Gx} {d : Nat} (hX : am_ok X r G d) {pc bc bs : Nat} {lv : List (Nat × Value)} {rest : List Value} {M : am_Hp} {x : Int32} {off : Int} (tgt : Nat) (hdg : decode r.2.1 pc = .ok (.ifCond .gt off, 3)) (ht : (pc : Int) + off = (tgt : Int)) (kt : 0 < x → am_J X tgt lv rest M bc bs) (kf : ¬ 0 < x → am_J X (pc + 3) lv rest M bc bs) : am_J X pc lv (.int x :: rest) M bc bs := by
  obtain ⟨p, e, R, s, m, args, below, meth, c, Qf, nL, G', mc, ms, d'⟩ := X
  obtain ⟨hx, hb, -⟩ := hX
  intro H locs cells slots ls h1 h2 h3 h4 h5
  exact lv_if_gt hx hb hdg ht (fun q => kt q H locs cells slots ls h1 h2 h3 h4 h5) (fun q => kf q H locs cells slots ls h1 h2 h3 h4 h5)
theorem j_if_le {X : am_Cx} {r : am_Rec} {G : am_Gx} {d : Nat} (hX : am_ok X r G d) {pc bc bs : Nat} {lv : List (Nat × Value)} {rest : List Value} {M : am_Hp} {x : Int32} {off : Int} (tgt : Nat) (hdg : decode r.2.1 pc = .ok (.ifCond .le off, 3)) (ht : (pc : Int) + off = (tgt : Int)) (kt : x ≤ 0 → am_J X tgt lv rest M bc bs) (kf : ¬ x ≤ 0 → am_J X (pc + 3) lv rest M bc bs) : am_J X pc lv (.int x :: rest) M bc bs := by
  obtain ⟨p, e, R, s, m, args, below, meth, c, Qf, nL, G', mc, ms, d'⟩ := X
  obtain ⟨hx, hb, -⟩ := hX
  intro H locs cells slots ls h1 h2 h3 h4 h5
  exact lv_if_le hx hb hdg ht (fun q => kt q H locs cells slots ls h1 h2 h3 h4 h5) (fun q => kf q H locs cells slots ls h1 h2 h3 h4 h5)
theorem j_icmp_eq {X : am_Cx} {r : am_Rec} {G : am_Gx} {d : Nat} (hX : am_ok X r G d) {pc bc bs : Nat} {lv : List (Nat × Value)} {rest : List Value} {M : am_Hp} {x y : Int32} {off : Int} (tgt : Nat) (hdg : decode r.2.1 pc = .ok (.if_icmp .eq off, 3)) (ht : (pc : Int) + off = (tgt : Int)) (kt : x = y → am_J X tgt lv rest M bc bs) (kf : ¬ x = y → am_J X (pc + 3) lv rest M bc bs) : am_J X pc lv (.int y :: .int x :: rest) M bc bs := by
  obtain ⟨p, e, R, s, m, args, below, meth, c, Qf, nL, G', mc, ms, d'⟩ := X
  obtain ⟨hx, hb, -⟩ := hX
  intro H locs cells slots ls h1 h2 h3 h4 h5
  exact lv_icmp_eq hx hb hdg ht (fun q => kt q H locs cells slots ls h1 h2 h3 h4 h5) (fun q => kf q H locs cells slots ls h1 h2 h3 h4 h5)
theorem j_icmp_ne {X : am_Cx} {r : am_Rec} {G : am_Gx} {d : Nat} (hX : am_ok X r G d) {pc bc bs : Nat} {lv : List (Nat × Value)} {rest : List Value} {M : am_Hp} {x y : Int32} {off : Int} (tgt : Nat) (hdg : decode r.2.1 pc = .ok (.if_icmp .ne off, 3)) (ht : (pc : Int) + off = (tgt : Int)) (kt : ¬ x = y → am_J X tgt lv rest M bc bs) (kf : x = y → am_J X (pc + 3) lv rest M bc bs) : am_J X pc lv (.int y :: .int x :: rest) M bc bs := by
  obtain ⟨p, e, R, s, m, args, below, meth, c, Qf, nL, G', mc, ms, d'⟩ := X
  obtain ⟨hx, hb, -⟩ := hX
  intro H locs cells slots ls h1 h2 h3 h4 h5
  exact lv_icmp_ne hx hb hdg ht (fun q => kt q H locs cells slots ls h1 h2 h3 h4 h5) (fun q => kf q H locs cells slots ls h1 h2 h3 h4 h5)
theorem j_icmp_lt {X : am_Cx} {r : am_Rec} {G : am_Gx} {d : Nat} (hX : am_ok X r G d) {pc bc bs : Nat} {lv : List (Nat × Value)} {rest : List Value} {M : am_Hp} {x y : Int32} {off : Int} (tgt : Nat) (hdg : decode r.2.1 pc = .ok (.if_icmp .lt off, 3)) (ht : (pc : Int) + off = (tgt : Int)) (kt : x < y → am_J X tgt lv rest M bc bs) (kf : ¬ x < y → am_J X (pc + 3) lv rest M bc bs) : am_J X pc lv (.int y :: .int x :: rest) M bc bs := by
  obtain ⟨p, e, R, s, m, args, below, meth, c, Qf, nL, G', mc, ms, d'⟩ := X
  obtain ⟨hx, hb, -⟩ := hX
  intro H locs cells slots ls h1 h2 h3 h4 h5
  exact lv_icmp_lt hx hb hdg ht (fun q => kt q H locs cells slots ls h1 h2 h3 h4 h5) (fun q => kf q H locs cells slots ls h1 h2 h3 h4 h5)
theorem j_icmp_ge {X : am_Cx} {r : am_Rec} {G : am_Gx} {d : Nat} (hX : am_ok X r G d) {pc bc bs : Nat} {lv : List (Nat × Value)} {rest : List Value} {M : am_Hp} {x y : Int32} {off : Int} (tgt : Nat) (hdg : decode r.2.1 pc = .ok (.if_icmp .ge off, 3)) (ht : (pc : Int) + off = (tgt : Int)) (kt : y ≤ x → am_J X tgt lv rest M bc bs) (kf : ¬ y ≤ x → am_J X (pc + 3) lv rest M bc bs) : am_J X pc lv (.int y :: .int x :: rest) M bc bs := by
  obtain ⟨p, e, R, s, m, args, below, meth, c, Qf, nL, G', mc, ms, d'⟩ := X
  obtain ⟨hx, hb, -⟩ := hX
  intro H locs cells slots ls h1 h2 h3 h4 h5
  exact lv_icmp_ge hx hb hdg ht (fun q => kt q H locs cells slots ls h1 h2 h3 h4 h5) (fun q => kf q H locs cells slots ls h1 h2 h3 h4 h5)
theorem j_icmp_gt {X : am_Cx} {r : am_Rec} {G : am_Gx} {d : Nat} (hX : am_ok X r G d) {pc bc bs : Nat} {lv : List (Nat × Value)} {rest : List Value} {M : am_Hp} {x y : Int32} {off : Int} (tgt : Nat) (hdg : decode r.2.1 pc = .ok (.if_icmp .gt off, 3)) (ht : (pc : Int) + off = (tgt : Int)) (kt : y < x → am_J X tgt lv rest M bc bs) (kf : ¬ y < x → am_J X (pc + 3) lv rest M bc bs) : am_J X pc lv (.int y :: .int x :: rest) M bc bs := by
  obtain ⟨p, e, R, s, m, args, below, meth, c, Qf, nL, G', mc, ms, d'⟩ := X
  obtain ⟨hx, hb, -⟩ := hX
  intro H locs cells slots ls h1 h2 h3 h4 h5
  exact lv_icmp_gt hx hb hdg ht (fun q => kt q H locs cells slots ls h1 h2 h3 h4 h5) (fun q => kf q H locs cells slots ls h1 h2 h3 h4 h5)
theorem j_icmp_le {X : am_Cx} {r : am_Rec} {G : am_Gx} {d : Nat} (hX : am_ok X r G d) {pc bc bs : Nat} {lv : List (Nat × Value)} {rest : List Value} {M : am_Hp} {x y : Int32} {off : Int} (tgt : Nat) (hdg : decode r.2.1 pc = .ok (.if_icmp .le off, 3)) (ht : (pc : Int) + off = (tgt : Int)) (kt : x ≤ y → am_J X tgt lv rest M bc bs) (kf : ¬ x ≤ y → am_J X (pc + 3) lv rest M bc bs) : am_J X pc lv (.int y :: .int x :: rest) M bc bs := by
  obtain ⟨p, e, R, s, m, args, below, meth, c, Qf, nL, G', mc, ms, d'⟩ := X
  obtain ⟨hx, hb, -⟩ := hX
  intro H locs cells slots ls h1 h2 h3 h4 h5
  exact lv_icmp_le hx hb hdg ht (fun q => kt q H locs cells slots ls h1 h2 h3 h4 h5) (fun q => kf q H locs cells slots ls h1 h2 h3 h4 h5)
theorem j_goto {X : am_Cx} {r : am_Rec} {G : am_Gx} {d : Nat} (hX : am_ok X r G d) {pc bc bs : Nat} {lv : List (Nat × Value)} {rest : List Value} {M : am_Hp} {off : Int} (tgt : Nat) (hdg : decode r.2.1 pc = .ok (.goto off, 3)) (ht : (pc : Int) + off = (tgt : Int)) (k : am_J X tgt lv rest M bc bs) : am_J X pc lv rest M bc bs := by
  obtain ⟨p, e, R, s, m, args, below, meth, c, Qf, nL, G', mc, ms, d'⟩ := X
  obtain ⟨hx, hb, -⟩ := hX
  intro H locs cells slots ls h1 h2 h3 h4 h5
  exact lv_goto hx hb hdg ht (k H locs cells slots ls h1 h2 h3 h4 h5)
theorem j_tableOut {X : am_Cx} {r : am_Rec} {G : am_Gx} {d : Nat} (hX : am_ok X r G d) {pc bc bs : Nat} {lv : List (Nat × Value)} {rest : List Value} {M : am_Hp} {dflt lo hi : Int} {offs : Array Int} {len : Nat} {x : Int32} (tgt : Nat) (hdg : decode r.2.1 pc = .ok (.tableswitch dflt lo hi offs, len)) (h : x.toInt < lo ∨ hi < x.toInt) (ht : (pc : Int) + dflt = (tgt : Int)) (k : am_J X tgt lv rest M bc bs) : am_J X pc lv (.int x :: rest) M bc bs := by
  obtain ⟨p, e, R, s, m, args, below, meth, c, Qf, nL, G', mc, ms, d'⟩ := X
  obtain ⟨hx, hb, -⟩ := hX
  intro H locs cells slots ls h1 h2 h3 h4 h5
  exact lv_tableOut hx hb hdg h ht (k H locs cells slots ls h1 h2 h3 h4 h5)
theorem j_tableIn {X : am_Cx} {r : am_Rec} {G : am_Gx} {d : Nat} (hX : am_ok X r G d) {pc bc bs : Nat} {lv : List (Nat × Value)} {rest : List Value} {M : am_Hp} {dflt lo hi : Int} {offs : Array Int} {len : Nat} {x : Int32} {off : Int} (tgt : Nat) (hdg : decode r.2.1 pc = .ok (.tableswitch dflt lo hi offs, len)) (ha : ¬ x.toInt < lo) (hb9 : ¬ hi < x.toInt) (ho : offs[(x.toInt - lo).toNat]? = some off) (ht : (pc : Int) + off = (tgt : Int)) (k : am_J X tgt lv rest M bc bs) : am_J X pc lv (.int x :: rest) M bc bs := by
  obtain ⟨p, e, R, s, m, args, below, meth, c, Qf, nL, G', mc, ms, d'⟩ := X
  obtain ⟨hx, hb, -⟩ := hX
  intro H locs cells slots ls h1 h2 h3 h4 h5
  exact lv_tableIn hx hb hdg ha hb9 ho ht (k H locs cells slots ls h1 h2 h3 h4 h5)
theorem j_lookup {X : am_Cx} {r : am_Rec} {G : am_Gx} {d : Nat} (hX : am_ok X r G d) {pc bc bs : Nat} {lv : List (Nat × Value)} {rest : List Value} {M : am_Hp} {dflt : Int} {ps : Array (Int × Int)} {len : Nat} {x : Int32} {off : Int} (tgt : Nat) (hdg : decode r.2.1 pc = .ok (.lookupswitch dflt ps, len)) (hp : (ps.toList.zip (ps.toList.drop 1)).all (fun (a, next) => a.1 < next.1) = true) (ho : Op.lookupswitch.offset ps.toList dflt x.toInt = off) (ht : (pc : Int) + off = (tgt : Int)) (k : am_J X tgt lv rest M bc bs) : am_J X pc lv (.int x :: rest) M bc bs := by
  obtain ⟨p, e, R, s, m, args, below, meth, c, Qf, nL, G', mc, ms, d'⟩ := X
  obtain ⟨hx, hb, -⟩ := hX
  intro H locs cells slots ls h1 h2 h3 h4 h5
  exact lv_lookup hx hb hdg hp ho ht (k H locs cells slots ls h1 h2 h3 h4 h5)
theorem j_sub {X : am_Cx} {pc bc bs : Nat} {lv lv' : List (Nat × Value)} {rest : List Value} {M : am_Hp} (is : List Nat) (hs : is.filterMap (fun i => lv[i]?) = lv') (k : am_J X pc lv' rest M bc bs) : am_J X pc lv rest M bc bs := by
  obtain ⟨p, e, R, s, m, args, below, meth, c, Qf, nL, G', mc, ms, d'⟩ := X
  intro H locs cells slots ls h1 h2 h3 h4 h5
  exact k H locs cells slots ls h1 h2 h3 h4 (lv_sub h5 is hs)
theorem j_bud {X : am_Cx} {pc bc bs bc' bs' : Nat} {lv : List (Nat × Value)} {rest : List Value} {M : am_Hp} (h1 : bc' ≤ bc) (h2 : bs' ≤ bs) (k : am_J X pc lv rest M bc' bs') : am_J X pc lv rest M bc bs := by
  obtain ⟨p, e, R, s, m, args, below, meth, c, Qf, nL, G', mc, ms, d'⟩ := X
  intro H locs cells slots ls a1 a2 a3 a4 a5
  exact k H locs cells slots ls a1 a2 (Nat.le_trans (Nat.add_le_add_left h1 _) a3) (Nat.le_trans (Nat.add_le_add_left h2 _) a4) a5
