/-! .. the class's changes (made by gen/mk/mk79.py) -/
/-- a change: refused (n), or carried out with a result and a new row -/
def qg (n : Nat) (v : Int32) (U : Nat) (M : am_Hp) (a h E c : Nat) (L : Nat → Nat → Nat) (g g' sn : md_R) (hist : Nat → md_R) : am_Q := fun o M' => if n = 0 then o = .inl (some (.int v)) ∧ (∃ n1, gL U M' a h E n1 (if c = 8 then 8 else c + 1) L g' sn (yP c g hist)) ∧ zF h L M M' else o = .inr (xn n) ∧ M' = M
theorem qg_r {n : Nat} {v : Int32} {U : Nat} {M : am_Hp} {a h E c : Nat} {L : Nat → Nat → Nat} {g g' sn : md_R} {hist : Nat → md_R} (hn : n ≠ 0) : qg n v U M a h E c L g g' sn hist (.inr (xn n)) M := by
  unfold qg
  rw [if_neg hn]
  exact ⟨rfl, rfl⟩
theorem qg_o {n n1 : Nat} {v : Int32} {U : Nat} {M M' : am_Hp} {a h E c : Nat} {L : Nat → Nat → Nat} {g g' sn : md_R} {hist : Nat → md_R} (hn : n = 0) (h1 : gL U M' a h E n1 (if c = 8 then 8 else c + 1) L g' sn (yP c g hist)) (h2 : zF h L M M') : qg n v U M a h E c L g g' sn hist (.inl (some (.int v))) M' := by
  unfold qg
  rw [if_pos hn]
  exact ⟨rfl, ⟨n1, h1⟩, h2⟩
theorem rf_add_le {g : md_R} {s e w : Int32} : rf_add g s e w ≤ 4 := by
  unfold rf_add
  repeat' split
  all_goals omega
theorem rf_rem_le {g : md_R} {v : Int32} : rf_rem g v ≤ 4 := by
  unfold rf_rem
  repeat' split
  all_goals omega
theorem rf_hold_le {g : md_R} {v s : Int32} : rf_hold g v s ≤ 4 := by
  unfold rf_hold
  repeat' split
  all_goals omega
theorem rf_stop_le {g : md_R} {v : Int32} : rf_stop g v ≤ 4 := by
  unfold rf_stop
  repeat' split
  all_goals omega
theorem rf_start_le {g : md_R} {v : Int32} : rf_start g v ≤ 4 := by
  unfold rf_start
  repeat' split
  all_goals omega
theorem rf_limit_le {g : md_R} {v k : Int32} : rf_limit g v k ≤ 4 := by
  unfold rf_limit
  repeat' split
  all_goals omega
theorem rf_pass_le {v : Int32} : rf_pass v ≤ 4 := by
  unfold rf_pass
  repeat' split
  all_goals omega
theorem g_addPassenger {G : am_Gx} {d T a h E n c : Nat} {M : am_Hp} {L : Nat → Nat → Nat} {g sn : md_R} {hist : Nat → md_R} {s e w : Int32} (hj : gJ a h E L) (hg : gL T M a h E n c L g sn hist) (hT : T < 90000000) : am_CT G (d + 7) rX6_addPassenger [.ref a, .int s, .int e, .int w] M 1 6 (qg (rf_add g s e w) (i3 (md_n g)) (T + 1830) M a h E c L g (md_ad g s e w) sn hist) := by
  have hg0 := hg
  obtain ⟨ta, ⟨ra, -, -, rh⟩, ⟨hR, hw⟩, -, -, hy, -⟩ := hg
  have ok := md_wf_ok hw
  have h12 := ok.2
  have hT : T < 200000000 := by omega
  have b0 := hR.1.1.1
  have y0 := hR.1.2.2.2.1 0 (by omega)
  have th := hy.1.1
  have j1 := hj.1
  have j2 := hj.2.1
  refine am_intro mkX6_addPassenger rfl (Nat.le_of_ble_eq_true rfl) rfl (fun X hX hM => ?_)
  refine vX6_addPassenger_0 hX hM ?_
  simp only [forall_eq]
  rw [ra]
  refine ⟨ta, y0, b0, ct_i (k_rfAdd hR ok) ⟨by omega, by omega, ct_thr (k_thr rf_add_le) rf_add_le (fun z => ?_) (fun z => qg_r z)⟩⟩
  rw [rh, ra]
  refine ⟨ta, hj.2.2.2.2.2, y0, th, ct_vq (k_remember hy hR hw (fun i x y hi hx hy' => j1 8 i (by omega) (by omega) (by omega) x y hx hy')) (fun M1 W => ?_)⟩
  obtain ⟨W1, W2⟩ := W
  have e1 : hp_R M1 = hp_R M := W2.1.2.2.1
  have e2 : hp_T M1 = hp_T M := W2.1.1
  rw [e1, e2, ra]
  have r1 : bR M1 (L 8) g := bR_ag W2.1 (fun i hi => W2.2 _ (j2 8 i (by omega) hi).2.1 (fun k x hk hx => j1 8 k (by omega) (by omega) (by omega) i x hi hx)) ok hR
  have W : md_wf (T + 1830) (md_ad g s e w) := md_wf_pf (k := 0) (x := fun i => if i = 0 then s else if i = 1 then e else w) hw hT (by omega) z
  have z0 := z
  obtain ⟨f1, f2, f3, f4, f5⟩ := rf_add_0 ok z
  skip
  refine ⟨ta, y0, b0, ct_b (k_add r1 hw f5) (fun M2 r2 f2 => ?_)⟩
  obtain ⟨x1, x2⟩ := gL_after hj hg0 W1 W2 r2 f2 W (by omega)
  exact qg_o z0 x1 x2
theorem g_removePassenger {G : am_Gx} {d T a h E n c : Nat} {M : am_Hp} {L : Nat → Nat → Nat} {g sn : md_R} {hist : Nat → md_R} {s : Int32} (hj : gJ a h E L) (hg : gL T M a h E n c L g sn hist) (hT : T < 90000000) : am_CT G (d + 7) rX6_removePassenger [.ref a, .int s] M 1 6 (qg (rf_rem g s) (g (27 + s.toNatClampNeg)) (T + 1830) M a h E c L g (md_dr g s.toNatClampNeg) sn hist) := by
  have hg0 := hg
  obtain ⟨ta, ⟨ra, -, -, rh⟩, ⟨hR, hw⟩, -, -, hy, -⟩ := hg
  have ok := md_wf_ok hw
  have h12 := ok.2
  have hT : T < 200000000 := by omega
  have b0 := hR.1.1.1
  have y0 := hR.1.2.2.2.1 0 (by omega)
  have th := hy.1.1
  have j1 := hj.1
  have j2 := hj.2.1
  refine am_intro mkX6_removePassenger rfl (Nat.le_of_ble_eq_true rfl) rfl (fun X hX hM => ?_)
  refine vX6_removePassenger_0 hX hM ?_
  simp only [forall_eq]
  rw [ra]
  refine ⟨ta, y0, b0, ct_i (k_rfRem hR ok) ⟨by omega, by omega, ct_thr (k_thr rf_rem_le) rf_rem_le (fun z => ?_) (fun z => qg_r z)⟩⟩
  rw [rh, ra]
  refine ⟨ta, hj.2.2.2.2.2, y0, th, ct_vq (k_remember hy hR hw (fun i x y hi hx hy' => j1 8 i (by omega) (by omega) (by omega) x y hx hy')) (fun M1 W => ?_)⟩
  obtain ⟨W1, W2⟩ := W
  have e1 : hp_R M1 = hp_R M := W2.1.2.2.1
  have e2 : hp_T M1 = hp_T M := W2.1.1
  rw [e1, e2, ra]
  have r1 : bR M1 (L 8) g := bR_ag W2.1 (fun i hi => W2.2 _ (j2 8 i (by omega) hi).2.1 (fun k x hk hx => j1 8 k (by omega) (by omega) (by omega) i x hi hx)) ok hR
  have W : md_wf (T + 1830) (md_dr g s.toNatClampNeg) := md_wf_pf (k := 1) (x := fun i => if i = 0 then s else 0) hw hT (by omega) z
  have z0 := z
  obtain ⟨p, f1, rfl, f2⟩ := rf_rem_0 ok z
  rw [i3_toNat (by omega)] at W ⊢
  refine ⟨ta, y0, b0, ct_b (k_remove r1 ok f1 f2) (fun M2 r2 f2 => ?_)⟩
  obtain ⟨x1, x2⟩ := gL_after hj hg0 W1 W2 r2 f2 W (by omega)
  exact qg_o z0 x1 x2
theorem g_holdDoors {G : am_Gx} {d T a h E n c : Nat} {M : am_Hp} {L : Nat → Nat → Nat} {g sn : md_R} {hist : Nat → md_R} {s e : Int32} (hj : gJ a h E L) (hg : gL T M a h E n c L g sn hist) (hT : T < 90000000) : am_CT G (d + 7) rX6_holdDoors [.ref a, .int s, .int e] M 1 6 (qg (rf_hold g s e) (g (18 + s.toNatClampNeg)) (T + 1830) M a h E c L g (va_up g (18 + s.toNatClampNeg) e) sn hist) := by
  have hg0 := hg
  obtain ⟨ta, ⟨ra, -, -, rh⟩, ⟨hR, hw⟩, -, -, hy, -⟩ := hg
  have ok := md_wf_ok hw
  have h12 := ok.2
  have hT : T < 200000000 := by omega
  have b0 := hR.1.1.1
  have y0 := hR.1.2.2.2.1 0 (by omega)
  have th := hy.1.1
  have j1 := hj.1
  have j2 := hj.2.1
  refine am_intro mkX6_holdDoors rfl (Nat.le_of_ble_eq_true rfl) rfl (fun X hX hM => ?_)
  refine vX6_holdDoors_0 hX hM ?_
  simp only [forall_eq]
  rw [ra]
  refine ⟨ta, y0, b0, ct_i (k_rfHold hR ok) ⟨by omega, by omega, ct_thr (k_thr rf_hold_le) rf_hold_le (fun z => ?_) (fun z => qg_r z)⟩⟩
  rw [rh, ra]
  refine ⟨ta, hj.2.2.2.2.2, y0, th, ct_vq (k_remember hy hR hw (fun i x y hi hx hy' => j1 8 i (by omega) (by omega) (by omega) x y hx hy')) (fun M1 W => ?_)⟩
  obtain ⟨W1, W2⟩ := W
  have e1 : hp_R M1 = hp_R M := W2.1.2.2.1
  have e2 : hp_T M1 = hp_T M := W2.1.1
  rw [e1, e2, ra]
  have r1 : bR M1 (L 8) g := bR_ag W2.1 (fun i hi => W2.2 _ (j2 8 i (by omega) hi).2.1 (fun k x hk hx => j1 8 k (by omega) (by omega) (by omega) i x hi hx)) ok hR
  have W : md_wf (T + 1830) (va_up g (18 + s.toNatClampNeg) e) := md_wf_pf (k := 2) (x := fun i => if i = 0 then s else e) hw hT (by omega) z
  have z0 := z
  obtain ⟨p, f1, rfl, f2, f3⟩ := rf_hold_0 z
  rw [i3_toNat (by omega)] at W ⊢
  refine ⟨ta, y0, b0, ct_b (k_hold r1 ok f1) (fun M2 r2 f2 => ?_)⟩
  obtain ⟨x1, x2⟩ := gL_after hj hg0 W1 W2 r2 f2 W (by omega)
  exact qg_o z0 x1 x2
theorem g_stopCar {G : am_Gx} {d T a h E n c : Nat} {M : am_Hp} {L : Nat → Nat → Nat} {g sn : md_R} {hist : Nat → md_R} {s : Int32} (hj : gJ a h E L) (hg : gL T M a h E n c L g sn hist) (hT : T < 90000000) : am_CT G (d + 7) rX6_stopCar [.ref a, .int s] M 1 6 (qg (rf_stop g s) (md_ca g s.toNatClampNeg) (T + 1830) M a h E c L g (md_so g s.toNatClampNeg) sn hist) := by
  have hg0 := hg
  obtain ⟨ta, ⟨ra, -, -, rh⟩, ⟨hR, hw⟩, -, -, hy, -⟩ := hg
  have ok := md_wf_ok hw
  have h12 := ok.2
  have hT : T < 200000000 := by omega
  have b0 := hR.1.1.1
  have y0 := hR.1.2.2.2.1 0 (by omega)
  have th := hy.1.1
  have j1 := hj.1
  have j2 := hj.2.1
  refine am_intro mkX6_stopCar rfl (Nat.le_of_ble_eq_true rfl) rfl (fun X hX hM => ?_)
  refine vX6_stopCar_0 hX hM ?_
  simp only [forall_eq]
  rw [ra]
  refine ⟨ta, y0, b0, ct_i (k_rfStop hR ok) ⟨by omega, by omega, ct_thr (k_thr rf_stop_le) rf_stop_le (fun z => ?_) (fun z => qg_r z)⟩⟩
  rw [rh, ra]
  refine ⟨ta, hj.2.2.2.2.2, y0, th, ct_vq (k_remember hy hR hw (fun i x y hi hx hy' => j1 8 i (by omega) (by omega) (by omega) x y hx hy')) (fun M1 W => ?_)⟩
  obtain ⟨W1, W2⟩ := W
  have e1 : hp_R M1 = hp_R M := W2.1.2.2.1
  have e2 : hp_T M1 = hp_T M := W2.1.1
  rw [e1, e2, ra]
  have r1 : bR M1 (L 8) g := bR_ag W2.1 (fun i hi => W2.2 _ (j2 8 i (by omega) hi).2.1 (fun k x hk hx => j1 8 k (by omega) (by omega) (by omega) i x hi hx)) ok hR
  have W : md_wf (T + 1830) (md_so g s.toNatClampNeg) := md_wf_pf (k := 3) (x := fun i => if i = 0 then s else 0) hw hT (by omega) z
  have z0 := z
  obtain ⟨p, f1, rfl, f2⟩ := rf_stop_0 z
  rw [i3_toNat (by omega)] at W ⊢
  refine ⟨ta, y0, b0, ct_b (k_takeOut r1 hw f1) (fun M2 r2 f2 => ?_)⟩
  obtain ⟨x1, x2⟩ := gL_after hj hg0 W1 W2 r2 f2 W (by omega)
  exact qg_o z0 x1 x2
theorem g_startCar {G : am_Gx} {d T a h E n c : Nat} {M : am_Hp} {L : Nat → Nat → Nat} {g sn : md_R} {hist : Nat → md_R} {s : Int32} (hj : gJ a h E L) (hg : gL T M a h E n c L g sn hist) (hT : T < 90000000) : am_CT G (d + 7) rX6_startCar [.ref a, .int s] M 1 6 (qg (rf_start g s) (i3 3 - va_up g (21 + s.toNatClampNeg) 0 21 - va_up g (21 + s.toNatClampNeg) 0 22 - va_up g (21 + s.toNatClampNeg) 0 23) (T + 1830) M a h E c L g (va_up g (21 + s.toNatClampNeg) 0) sn hist) := by
  have hg0 := hg
  obtain ⟨ta, ⟨ra, -, -, rh⟩, ⟨hR, hw⟩, -, -, hy, -⟩ := hg
  have ok := md_wf_ok hw
  have h12 := ok.2
  have hT : T < 200000000 := by omega
  have b0 := hR.1.1.1
  have y0 := hR.1.2.2.2.1 0 (by omega)
  have th := hy.1.1
  have j1 := hj.1
  have j2 := hj.2.1
  refine am_intro mkX6_startCar rfl (Nat.le_of_ble_eq_true rfl) rfl (fun X hX hM => ?_)
  refine vX6_startCar_0 hX hM ?_
  simp only [forall_eq]
  rw [ra]
  refine ⟨ta, y0, b0, ct_i (k_rfStart hR ok) ⟨by omega, by omega, ct_thr (k_thr rf_start_le) rf_start_le (fun z => ?_) (fun z => qg_r z)⟩⟩
  rw [rh, ra]
  refine ⟨ta, hj.2.2.2.2.2, y0, th, ct_vq (k_remember hy hR hw (fun i x y hi hx hy' => j1 8 i (by omega) (by omega) (by omega) x y hx hy')) (fun M1 W => ?_)⟩
  obtain ⟨W1, W2⟩ := W
  have e1 : hp_R M1 = hp_R M := W2.1.2.2.1
  have e2 : hp_T M1 = hp_T M := W2.1.1
  rw [e1, e2, ra]
  have r1 : bR M1 (L 8) g := bR_ag W2.1 (fun i hi => W2.2 _ (j2 8 i (by omega) hi).2.1 (fun k x hk hx => j1 8 k (by omega) (by omega) (by omega) i x hi hx)) ok hR
  have W : md_wf (T + 1830) (va_up g (21 + s.toNatClampNeg) 0) := md_wf_pf (k := 4) (x := fun i => if i = 0 then s else 0) hw hT (by omega) z
  have z0 := z
  obtain ⟨p, f1, rfl, f2⟩ := rf_start_0 z
  rw [i3_toNat (by omega)] at W ⊢
  refine ⟨ta, y0, b0, ct_b (k_putIn r1 hw f1) (fun M2 r2 f2 => ?_)⟩
  obtain ⟨x1, x2⟩ := gL_after hj hg0 W1 W2 r2 f2 W (by omega)
  exact qg_o z0 x1 x2
theorem g_setCapacity {G : am_Gx} {d T a h E n c : Nat} {M : am_Hp} {L : Nat → Nat → Nat} {g sn : md_R} {hist : Nat → md_R} {s e : Int32} (hj : gJ a h E L) (hg : gL T M a h E n c L g sn hist) (hT : T < 90000000) : am_CT G (d + 7) rX6_setCapacity [.ref a, .int s, .int e] M 1 6 (qg (rf_limit g s e) (g (15 + s.toNatClampNeg)) (T + 1830) M a h E c L g (va_up g (15 + s.toNatClampNeg) e) sn hist) := by
  have hg0 := hg
  obtain ⟨ta, ⟨ra, -, -, rh⟩, ⟨hR, hw⟩, -, -, hy, -⟩ := hg
  have ok := md_wf_ok hw
  have h12 := ok.2
  have hT : T < 200000000 := by omega
  have b0 := hR.1.1.1
  have y0 := hR.1.2.2.2.1 0 (by omega)
  have th := hy.1.1
  have j1 := hj.1
  have j2 := hj.2.1
  refine am_intro mkX6_setCapacity rfl (Nat.le_of_ble_eq_true rfl) rfl (fun X hX hM => ?_)
  refine vX6_setCapacity_0 hX hM ?_
  simp only [forall_eq]
  rw [ra]
  refine ⟨ta, y0, b0, ct_i (k_rfLimit hR ok) ⟨by omega, by omega, ct_thr (k_thr rf_limit_le) rf_limit_le (fun z => ?_) (fun z => qg_r z)⟩⟩
  rw [rh, ra]
  refine ⟨ta, hj.2.2.2.2.2, y0, th, ct_vq (k_remember hy hR hw (fun i x y hi hx hy' => j1 8 i (by omega) (by omega) (by omega) x y hx hy')) (fun M1 W => ?_)⟩
  obtain ⟨W1, W2⟩ := W
  have e1 : hp_R M1 = hp_R M := W2.1.2.2.1
  have e2 : hp_T M1 = hp_T M := W2.1.1
  rw [e1, e2, ra]
  have r1 : bR M1 (L 8) g := bR_ag W2.1 (fun i hi => W2.2 _ (j2 8 i (by omega) hi).2.1 (fun k x hk hx => j1 8 k (by omega) (by omega) (by omega) i x hi hx)) ok hR
  have W : md_wf (T + 1830) (va_up g (15 + s.toNatClampNeg) e) := md_wf_pf (k := 5) (x := fun i => if i = 0 then s else e) hw hT (by omega) z
  have z0 := z
  obtain ⟨p, f1, rfl, f2, f3⟩ := rf_limit_0 z
  rw [i3_toNat (by omega)] at W ⊢
  refine ⟨ta, y0, b0, ct_b (k_limit r1 ok f1) (fun M2 r2 f2 => ?_)⟩
  obtain ⟨x1, x2⟩ := gL_after hj hg0 W1 W2 r2 f2 W (by omega)
  exact qg_o z0 x1 x2
theorem g_advance {G : am_Gx} {d T a h E n c : Nat} {M : am_Hp} {L : Nat → Nat → Nat} {g sn : md_R} {hist : Nat → md_R} {s : Int32} (hj : gJ a h E L) (hg : gL T M a h E n c L g sn hist) (hT : T < 90000000) : am_CT G (d + 7) rX6_advance [.ref a, .int s] M 1 6 (qg (rf_pass s) (md_it g s.toNatClampNeg 3 - g 3) (T + 1830) M a h E c L g (md_it g s.toNatClampNeg) sn hist) := by
  have hg0 := hg
  obtain ⟨ta, ⟨ra, -, -, rh⟩, ⟨hR, hw⟩, -, -, hy, -⟩ := hg
  have ok := md_wf_ok hw
  have h12 := ok.2
  have hT : T < 200000000 := by omega
  have b0 := hR.1.1.1
  have y0 := hR.1.2.2.2.1 0 (by omega)
  have th := hy.1.1
  have j1 := hj.1
  have j2 := hj.2.1
  refine am_intro mkX6_advance rfl (Nat.le_of_ble_eq_true rfl) rfl (fun X hX hM => ?_)
  refine vX6_advance_0 hX hM ?_
  simp only [forall_eq]
  rw [ra]
  refine ⟨ta, y0, b0, ct_i (k_rfPass) ⟨by omega, by omega, ct_thr (k_thr rf_pass_le) rf_pass_le (fun z => ?_) (fun z => qg_r z)⟩⟩
  rw [rh, ra]
  refine ⟨ta, hj.2.2.2.2.2, y0, th, ct_vq (k_remember hy hR hw (fun i x y hi hx hy' => j1 8 i (by omega) (by omega) (by omega) x y hx hy')) (fun M1 W => ?_)⟩
  obtain ⟨W1, W2⟩ := W
  have e1 : hp_R M1 = hp_R M := W2.1.2.2.1
  have e2 : hp_T M1 = hp_T M := W2.1.1
  rw [e1, e2, ra]
  have r1 : bR M1 (L 8) g := bR_ag W2.1 (fun i hi => W2.2 _ (j2 8 i (by omega) hi).2.1 (fun k x hk hx => j1 8 k (by omega) (by omega) (by omega) i x hi hx)) ok hR
  have W : md_wf (T + 1830) (md_it g s.toNatClampNeg) := md_wf_pf (k := 6) (x := fun i => if i = 0 then s else 0) hw hT (by omega) z
  have z0 := z
  obtain ⟨p, f1, f2, rfl⟩ := rf_pass_0 z
  rw [i3_toNat (by omega)] at W ⊢
  refine ⟨ta, y0, b0, ct_b (k_letPass r1 hw (by omega)) (fun M2 r2 f2 => ?_)⟩
  obtain ⟨x1, x2⟩ := gL_after hj hg0 W1 W2 r2 f2 W (by omega)
  exact qg_o z0 x1 x2
