theorem j_ldcIw {X : am_Cx} {r : am_Rec} {G : am_Gx} {d : Nat} (hX : am_ok X r G d) {pc bc bs : Nat} {lv : List (Nat × Value)} {rest : List Value} {M : am_Hp} {idx : Nat} {v : Int32} (hdg : decode r.2.1 pc = .ok (.ldc_w idx, 3)) (hw : Cond.constant r.1.cls idx v ∈ am_gt) (kk : am_J X (pc + 3) lv (.int v :: rest) M bc bs) : am_J X pc lv rest M bc bs := by
  obtain ⟨p, e, R, s, m, args, below, meth, c, Qf, nL, G', mc, ms, d'⟩ := X
  obtain ⟨hx, hb, hml, hown, hts, hU, hlk, htb, hmc, hms, hfr, hlo, hst, hnL, rfl, rfl⟩ := hX
  intro H locs cells slots ls h1 h2 h3 h4 h5
  exact lv_ldcw hx hb hown (hts _ hw) hdg (kk H locs cells slots ls h1 h2 h3 h4 h5)
