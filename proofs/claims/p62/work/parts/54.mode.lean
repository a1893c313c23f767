/-! THE REFERENCE'S QUERIES: what is thrown (0: nothing) and the answer -/
abbrev md_Sq : Type := Nat × Int32
abbrev qa (s : md_Sq) (M : am_Hp) (A : Nat → Nat) : am_Q := qi s.2 (hp_sI M 153 (A 0) (i3 s.1))
theorem qa_e {s : md_Sq} {M : am_Hp} {A : Nat → Nat} {k : Nat} {v : Int32} (e : s = (k, v)) : qa s M A (.inl (some (.int v))) (hp_sI M 153 (A 0) (i3 k)) := by
  rw [e]
  exact ⟨rfl, rfl⟩
def sq_cell (k : Nat) (g : md_R) (v : Int32) : md_Sq := if md_ic v = true then (0, g (k + v.toNatClampNeg)) else (1, i3 0)
def sq_load (g : md_R) (v : Int32) : md_Sq := if md_ic v = true then (0, md_ld g v.toNatClampNeg) else (1, i3 0)
def sq_riders (g : md_R) (v : Int32) : md_Sq := if md_ic v = true then (0, md_is g v.toNatClampNeg) else (1, i3 0)
def sq_asg (g : md_R) (v : Int32) : md_Sq := if md_ic v = true then (0, md_ca g v.toNatClampNeg) else (1, i3 0)
def sq_serv (g : md_R) (v : Int32) : md_Sq := if md_ic v = true then (0, bI (decide (g (21 + v.toNatClampNeg) = i3 0))) else (1, i3 0)
def sq_stop (g : md_R) (v f : Int32) : md_Sq := if md_ic v = true then (if md_fl f = true then (0, bI (md_st g v.toNatClampNeg f)) else (2, i3 0)) else (1, i3 0)
def md_sc (g : md_R) (c : Nat) : Int32 := md_sum (fun f => bI (md_st g c (i3 f))) 10
def sq_stops (g : md_R) (v : Int32) : md_Sq := if md_ic v = true then (0, md_sc g v.toNatClampNeg) else (1, i3 0)
def md_nx (g : md_R) (c : Nat) : Int32 := if md_st g c (g (9 + c)) = true then g (9 + c) else g (9 + c) + md_ch g c * i3 (md_nr g c (md_ch g c))
def sq_next (g : md_R) (v : Int32) : md_Sq := if md_ic v = true then (if md_sc g v.toNatClampNeg = i3 0 then (2, i3 0) else (0, md_nx g v.toNatClampNeg)) else (1, i3 0)
def sq_pas (k : Nat) (g : md_R) (v : Int32) : md_Sq := if md_ip g v = true then (0, g (k + v.toNatClampNeg)) else (1, i3 0)
def sq_inside (g : md_R) (v : Int32) : md_Sq := if md_ip g v = true then (0, bI (decide (g (99 + v.toNatClampNeg) = i3 1))) else (1, i3 0)
def sq_carOf (g : md_R) (v : Int32) : md_Sq := if md_ip g v = true then (if g (87 + v.toNatClampNeg) = i3 0 then (2, i3 0) else (0, g (87 + v.toNatClampNeg) - i3 1)) else (1, i3 0)
def md_wt (g : md_R) (f : Int32) : Int32 := md_sum (fun p => if g (99 + p) = i3 0 ∧ g (39 + p) = f then (1 : Int32) else 0) (md_n g)
def sq_wait (g : md_R) (f : Int32) : md_Sq := if md_fl f = true then (0, md_wt g f) else (1, i3 0)
def sq_est (g : md_R) (v f : Int32) : md_Sq := if md_ic v = true then (if md_fl f = true then (0, md_es g v.toNatClampNeg f) else (2, i3 0)) else (1, i3 0)
def sq_best (g : md_R) (f w : Int32) : md_Sq := if md_fl f = true then (if md_iw w = true then (if md_be g f w 3 = -1 then (2, i3 0) else (0, md_be g f w 3)) else (1, i3 0)) else (1, i3 0)
