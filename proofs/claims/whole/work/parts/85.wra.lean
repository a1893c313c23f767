/-! .. the law's wrappers of the queries with one exception (made by gen/mk/mk85.py) -/
/-- a wrapper's answer: the number in the cell, or the exception's number -/
abbrev qr (s : md_Sq) (M : am_Hp) (o : Nat) : am_Q := fun z M' => z = .inl (some (.int (i3 s.1))) ∧ M' = (if s.1 = 0 then hp_sL M o 0 s.2.toInt64 else M)
theorem ct_x1 {G : am_Gx} {d : Nat} {r : am_Rec} {as : List Value} {M : am_Hp} {mc ms : Nat} {s : md_Sq} {N : String} {P : Int32 → am_Hp → Prop} {R : am_Hp → Prop} (h : am_CT G d r as M mc ms (xq [N] s M)) (hs : s.1 ≤ 1) (k0 : s.1 = 0 → P s.2 M) (k1 : s.1 = 1 → R M) : am_CT G d r as M mc ms (fun oz M1 => (∃ v, oz = .inl (some (.int v)) ∧ P v M1) ∨ (oz = .inr N ∧ ∀ _ : Nat, R M1)) := by
  refine am_CT.mono (fun o M' h => ?_) h
  obtain ⟨e1, rfl⟩ := h
  by_cases z : s.1 = 0
  · rw [if_pos z] at e1
    exact .inl ⟨_, e1, k0 z⟩
  · have z1 : s.1 = 1 := by omega
    rw [if_neg z, z1] at e1
    exact .inr ⟨e1, fun _ => k1 z1⟩
theorem qr0 {s : md_Sq} {M : am_Hp} {o : Nat} (h : s.1 = 0) : qr s M o (.inl (some (.int 0))) (hp_sL M o 0 s.2.toInt64) := by
  unfold qr
  rw [h, if_pos rfl]
  exact ⟨rfl, rfl⟩
theorem qr1 {s : md_Sq} {M : am_Hp} {o : Nat} (h : s.1 = 1) : qr s M o (.inl (some (.int 1))) M := by
  unfold qr
  rw [h, if_neg (by omega)]
  exact ⟨rfl, rfl⟩
theorem sq_cell_le1 {k : Nat} {g : md_R} {v : Int32} : (sq_cell k g v).1 ≤ 1 := by
  unfold sq_cell
  repeat' split
  all_goals simp
theorem sq_load_le1 {g : md_R} {v : Int32} : (sq_load g v).1 ≤ 1 := by
  unfold sq_load
  repeat' split
  all_goals simp
theorem sq_riders_le1 {g : md_R} {v : Int32} : (sq_riders g v).1 ≤ 1 := by
  unfold sq_riders
  repeat' split
  all_goals simp
theorem sq_asg_le1 {g : md_R} {v : Int32} : (sq_asg g v).1 ≤ 1 := by
  unfold sq_asg
  repeat' split
  all_goals simp
theorem sq_stops_le1 {g : md_R} {v : Int32} : (sq_stops g v).1 ≤ 1 := by
  unfold sq_stops
  repeat' split
  all_goals simp
theorem sq_pas_le1 {k : Nat} {g : md_R} {v : Int32} : (sq_pas k g v).1 ≤ 1 := by
  unfold sq_pas
  repeat' split
  all_goals simp
theorem sq_wait_le1 {g : md_R} {v : Int32} : (sq_wait g v).1 ≤ 1 := by
  unfold sq_wait
  repeat' split
  all_goals simp
theorem sq_trip_le1 {k : Nat} {g : md_R} {v : Int32} : (sq_trip k g v).1 ≤ 1 := by
  unfold sq_trip
  repeat' split
  all_goals simp
theorem w_floor {G : am_Gx} {d a o : Nat} {M : am_Hp} {B : Nat → Nat} {g : md_R} {v : Int32} (h : gN M a B g) (ok : md_ok g) (t : hp_T M o = 23) (n : hp_N M o = 1) : am_CT G (d + 4) rL_floor [.ref a, .int v, .ref o] M 1 6 (qr (sq_cell 9 g v) M o) := by
  refine am_introH mkL_floor (by decide) (Nat.le_of_ble_eq_true rfl) rfl (fun X hX hM => ?_)
  refine vL_floor_0 hX hM ⟨h.1, by omega, by omega, ct_x1 (g_floor h ok) sq_cell_le1 (fun z => ?_) (fun z => qr1 z)⟩
  simp only [forall_eq]
  exact ⟨t, by rw [n]; exact vp_in_i3 (k := 0) (by omega) (by omega), qr0 z⟩
theorem w_direction {G : am_Gx} {d a o : Nat} {M : am_Hp} {B : Nat → Nat} {g : md_R} {v : Int32} (h : gN M a B g) (ok : md_ok g) (t : hp_T M o = 23) (n : hp_N M o = 1) : am_CT G (d + 4) rL_direction [.ref a, .int v, .ref o] M 1 6 (qr (sq_cell 12 g v) M o) := by
  refine am_introH mkL_direction (by decide) (Nat.le_of_ble_eq_true rfl) rfl (fun X hX hM => ?_)
  refine vL_direction_0 hX hM ⟨h.1, by omega, by omega, ct_x1 (g_direction h ok) sq_cell_le1 (fun z => ?_) (fun z => qr1 z)⟩
  simp only [forall_eq]
  exact ⟨t, by rw [n]; exact vp_in_i3 (k := 0) (by omega) (by omega), qr0 z⟩
theorem w_capacity {G : am_Gx} {d a o : Nat} {M : am_Hp} {B : Nat → Nat} {g : md_R} {v : Int32} (h : gN M a B g) (ok : md_ok g) (t : hp_T M o = 23) (n : hp_N M o = 1) : am_CT G (d + 4) rL_capacity [.ref a, .int v, .ref o] M 1 6 (qr (sq_cell 15 g v) M o) := by
  refine am_introH mkL_capacity (by decide) (Nat.le_of_ble_eq_true rfl) rfl (fun X hX hM => ?_)
  refine vL_capacity_0 hX hM ⟨h.1, by omega, by omega, ct_x1 (g_capacity h ok) sq_cell_le1 (fun z => ?_) (fun z => qr1 z)⟩
  simp only [forall_eq]
  exact ⟨t, by rw [n]; exact vp_in_i3 (k := 0) (by omega) (by omega), qr0 z⟩
theorem w_doorSteps {G : am_Gx} {d a o : Nat} {M : am_Hp} {B : Nat → Nat} {g : md_R} {v : Int32} (h : gN M a B g) (ok : md_ok g) (t : hp_T M o = 23) (n : hp_N M o = 1) : am_CT G (d + 4) rL_doorSteps [.ref a, .int v, .ref o] M 1 6 (qr (sq_cell 18 g v) M o) := by
  refine am_introH mkL_doorSteps (by decide) (Nat.le_of_ble_eq_true rfl) rfl (fun X hX hM => ?_)
  refine vL_doorSteps_0 hX hM ⟨h.1, by omega, by omega, ct_x1 (g_doorSteps h ok) sq_cell_le1 (fun z => ?_) (fun z => qr1 z)⟩
  simp only [forall_eq]
  exact ⟨t, by rw [n]; exact vp_in_i3 (k := 0) (by omega) (by omega), qr0 z⟩
theorem w_energy {G : am_Gx} {d a o : Nat} {M : am_Hp} {B : Nat → Nat} {g : md_R} {v : Int32} (h : gN M a B g) (ok : md_ok g) (t : hp_T M o = 23) (n : hp_N M o = 1) : am_CT G (d + 4) rL_energy [.ref a, .int v, .ref o] M 1 6 (qr (sq_cell 24 g v) M o) := by
  refine am_introH mkL_energy (by decide) (Nat.le_of_ble_eq_true rfl) rfl (fun X hX hM => ?_)
  refine vL_energy_0 hX hM ⟨h.1, by omega, by omega, ct_x1 (g_energy h ok) sq_cell_le1 (fun z => ?_) (fun z => qr1 z)⟩
  simp only [forall_eq]
  exact ⟨t, by rw [n]; exact vp_in_i3 (k := 0) (by omega) (by omega), qr0 z⟩
theorem w_load {G : am_Gx} {d a o : Nat} {M : am_Hp} {B : Nat → Nat} {g : md_R} {v : Int32} (h : gN M a B g) (ok : md_ok g) (t : hp_T M o = 23) (n : hp_N M o = 1) : am_CT G (d + 4) rL_load [.ref a, .int v, .ref o] M 1 6 (qr (sq_load g v) M o) := by
  refine am_introH mkL_load (by decide) (Nat.le_of_ble_eq_true rfl) rfl (fun X hX hM => ?_)
  refine vL_load_0 hX hM ⟨h.1, by omega, by omega, ct_x1 (g_load h ok) sq_load_le1 (fun z => ?_) (fun z => qr1 z)⟩
  simp only [forall_eq]
  exact ⟨t, by rw [n]; exact vp_in_i3 (k := 0) (by omega) (by omega), qr0 z⟩
theorem w_passengersIn {G : am_Gx} {d a o : Nat} {M : am_Hp} {B : Nat → Nat} {g : md_R} {v : Int32} (h : gN M a B g) (ok : md_ok g) (t : hp_T M o = 23) (n : hp_N M o = 1) : am_CT G (d + 4) rL_passengersIn [.ref a, .int v, .ref o] M 1 6 (qr (sq_riders g v) M o) := by
  refine am_introH mkL_passengersIn (by decide) (Nat.le_of_ble_eq_true rfl) rfl (fun X hX hM => ?_)
  refine vL_passengersIn_0 hX hM ⟨h.1, by omega, by omega, ct_x1 (g_passengersIn h ok) sq_riders_le1 (fun z => ?_) (fun z => qr1 z)⟩
  simp only [forall_eq]
  exact ⟨t, by rw [n]; exact vp_in_i3 (k := 0) (by omega) (by omega), qr0 z⟩
theorem w_assignedTo {G : am_Gx} {d a o : Nat} {M : am_Hp} {B : Nat → Nat} {g : md_R} {v : Int32} (h : gN M a B g) (ok : md_ok g) (t : hp_T M o = 23) (n : hp_N M o = 1) : am_CT G (d + 4) rL_assignedTo [.ref a, .int v, .ref o] M 1 6 (qr (sq_asg g v) M o) := by
  refine am_introH mkL_assignedTo (by decide) (Nat.le_of_ble_eq_true rfl) rfl (fun X hX hM => ?_)
  refine vL_assignedTo_0 hX hM ⟨h.1, by omega, by omega, ct_x1 (g_assignedTo h ok) sq_asg_le1 (fun z => ?_) (fun z => qr1 z)⟩
  simp only [forall_eq]
  exact ⟨t, by rw [n]; exact vp_in_i3 (k := 0) (by omega) (by omega), qr0 z⟩
theorem w_stopCount {G : am_Gx} {d a o : Nat} {M : am_Hp} {B : Nat → Nat} {g : md_R} {T : Nat} {v : Int32} (h : gN M a B g) (hw : md_wf T g) (t : hp_T M o = 23) (n : hp_N M o = 1) : am_CT G (d + 4) rL_stopCount [.ref a, .int v, .ref o] M 1 6 (qr (sq_stops g v) M o) := by
  refine am_introH mkL_stopCount (by decide) (Nat.le_of_ble_eq_true rfl) rfl (fun X hX hM => ?_)
  refine vL_stopCount_0 hX hM ⟨h.1, by omega, by omega, ct_x1 (g_stopCount h hw) sq_stops_le1 (fun z => ?_) (fun z => qr1 z)⟩
  simp only [forall_eq]
  exact ⟨t, by rw [n]; exact vp_in_i3 (k := 0) (by omega) (by omega), qr0 z⟩
theorem w_number {G : am_Gx} {d a o : Nat} {M : am_Hp} {B : Nat → Nat} {g : md_R} {v : Int32} (h : gN M a B g) (ok : md_ok g) (t : hp_T M o = 23) (n : hp_N M o = 1) : am_CT G (d + 4) rL_number [.ref a, .int v, .ref o] M 1 6 (qr (sq_pas 27 g v) M o) := by
  refine am_introH mkL_number (by decide) (Nat.le_of_ble_eq_true rfl) rfl (fun X hX hM => ?_)
  refine vL_number_0 hX hM ⟨h.1, by omega, by omega, ct_x1 (g_number h ok) sq_pas_le1 (fun z => ?_) (fun z => qr1 z)⟩
  simp only [forall_eq]
  exact ⟨t, by rw [n]; exact vp_in_i3 (k := 0) (by omega) (by omega), qr0 z⟩
theorem w_start {G : am_Gx} {d a o : Nat} {M : am_Hp} {B : Nat → Nat} {g : md_R} {v : Int32} (h : gN M a B g) (ok : md_ok g) (t : hp_T M o = 23) (n : hp_N M o = 1) : am_CT G (d + 4) rL_start [.ref a, .int v, .ref o] M 1 6 (qr (sq_pas 39 g v) M o) := by
  refine am_introH mkL_start (by decide) (Nat.le_of_ble_eq_true rfl) rfl (fun X hX hM => ?_)
  refine vL_start_0 hX hM ⟨h.1, by omega, by omega, ct_x1 (g_start h ok) sq_pas_le1 (fun z => ?_) (fun z => qr1 z)⟩
  simp only [forall_eq]
  exact ⟨t, by rw [n]; exact vp_in_i3 (k := 0) (by omega) (by omega), qr0 z⟩
theorem w_destination {G : am_Gx} {d a o : Nat} {M : am_Hp} {B : Nat → Nat} {g : md_R} {v : Int32} (h : gN M a B g) (ok : md_ok g) (t : hp_T M o = 23) (n : hp_N M o = 1) : am_CT G (d + 4) rL_destination [.ref a, .int v, .ref o] M 1 6 (qr (sq_pas 51 g v) M o) := by
  refine am_introH mkL_destination (by decide) (Nat.le_of_ble_eq_true rfl) rfl (fun X hX hM => ?_)
  refine vL_destination_0 hX hM ⟨h.1, by omega, by omega, ct_x1 (g_destination h ok) sq_pas_le1 (fun z => ?_) (fun z => qr1 z)⟩
  simp only [forall_eq]
  exact ⟨t, by rw [n]; exact vp_in_i3 (k := 0) (by omega) (by omega), qr0 z⟩
theorem w_weight {G : am_Gx} {d a o : Nat} {M : am_Hp} {B : Nat → Nat} {g : md_R} {v : Int32} (h : gN M a B g) (ok : md_ok g) (t : hp_T M o = 23) (n : hp_N M o = 1) : am_CT G (d + 4) rL_weight [.ref a, .int v, .ref o] M 1 6 (qr (sq_pas 63 g v) M o) := by
  refine am_introH mkL_weight (by decide) (Nat.le_of_ble_eq_true rfl) rfl (fun X hX hM => ?_)
  refine vL_weight_0 hX hM ⟨h.1, by omega, by omega, ct_x1 (g_weight h ok) sq_pas_le1 (fun z => ?_) (fun z => qr1 z)⟩
  simp only [forall_eq]
  exact ⟨t, by rw [n]; exact vp_in_i3 (k := 0) (by omega) (by omega), qr0 z⟩
theorem w_waitingTime {G : am_Gx} {d a o : Nat} {M : am_Hp} {B : Nat → Nat} {g : md_R} {v : Int32} (h : gN M a B g) (ok : md_ok g) (t : hp_T M o = 23) (n : hp_N M o = 1) : am_CT G (d + 4) rL_waitingTime [.ref a, .int v, .ref o] M 1 6 (qr (sq_pas 75 g v) M o) := by
  refine am_introH mkL_waitingTime (by decide) (Nat.le_of_ble_eq_true rfl) rfl (fun X hX hM => ?_)
  refine vL_waitingTime_0 hX hM ⟨h.1, by omega, by omega, ct_x1 (g_waitingTime h ok) sq_pas_le1 (fun z => ?_) (fun z => qr1 z)⟩
  simp only [forall_eq]
  exact ⟨t, by rw [n]; exact vp_in_i3 (k := 0) (by omega) (by omega), qr0 z⟩
theorem w_waitingAt {G : am_Gx} {d a o : Nat} {M : am_Hp} {B : Nat → Nat} {g : md_R} {v : Int32} (h : gN M a B g) (ok : md_ok g) (t : hp_T M o = 23) (n : hp_N M o = 1) : am_CT G (d + 4) rL_waitingAt [.ref a, .int v, .ref o] M 1 6 (qr (sq_wait g v) M o) := by
  refine am_introH mkL_waitingAt (by decide) (Nat.le_of_ble_eq_true rfl) rfl (fun X hX hM => ?_)
  refine vL_waitingAt_0 hX hM ⟨h.1, by omega, by omega, ct_x1 (g_waitingAt h ok) sq_wait_le1 (fun z => ?_) (fun z => qr1 z)⟩
  simp only [forall_eq]
  exact ⟨t, by rw [n]; exact vp_in_i3 (k := 0) (by omega) (by omega), qr0 z⟩
theorem w_tripNumber {G : am_Gx} {d a o : Nat} {M : am_Hp} {B : Nat → Nat} {g : md_R} {T : Nat} {v : Int32} (h : gN M a B g) (hw : md_wf T g) (hT : T < 1000000000) (t : hp_T M o = 23) (n : hp_N M o = 1) : am_CT G (d + 4) rL_tripNumber [.ref a, .int v, .ref o] M 1 6 (qr (sq_trip 111 g v) M o) := by
  refine am_introH mkL_tripNumber (by decide) (Nat.le_of_ble_eq_true rfl) rfl (fun X hX hM => ?_)
  refine vL_tripNumber_0 hX hM ⟨h.1, by omega, by omega, ct_x1 (g_tripNumber h hw hT) sq_trip_le1 (fun z => ?_) (fun z => qr1 z)⟩
  simp only [forall_eq]
  exact ⟨t, by rw [n]; exact vp_in_i3 (k := 0) (by omega) (by omega), qr0 z⟩
theorem w_tripCar {G : am_Gx} {d a o : Nat} {M : am_Hp} {B : Nat → Nat} {g : md_R} {T : Nat} {v : Int32} (h : gN M a B g) (hw : md_wf T g) (hT : T < 1000000000) (t : hp_T M o = 23) (n : hp_N M o = 1) : am_CT G (d + 4) rL_tripCar [.ref a, .int v, .ref o] M 1 6 (qr (sq_trip 121 g v) M o) := by
  refine am_introH mkL_tripCar (by decide) (Nat.le_of_ble_eq_true rfl) rfl (fun X hX hM => ?_)
  refine vL_tripCar_0 hX hM ⟨h.1, by omega, by omega, ct_x1 (g_tripCar h hw hT) sq_trip_le1 (fun z => ?_) (fun z => qr1 z)⟩
  simp only [forall_eq]
  exact ⟨t, by rw [n]; exact vp_in_i3 (k := 0) (by omega) (by omega), qr0 z⟩
theorem w_tripWaiting {G : am_Gx} {d a o : Nat} {M : am_Hp} {B : Nat → Nat} {g : md_R} {T : Nat} {v : Int32} (h : gN M a B g) (hw : md_wf T g) (hT : T < 1000000000) (t : hp_T M o = 23) (n : hp_N M o = 1) : am_CT G (d + 4) rL_tripWaiting [.ref a, .int v, .ref o] M 1 6 (qr (sq_trip 131 g v) M o) := by
  refine am_introH mkL_tripWaiting (by decide) (Nat.le_of_ble_eq_true rfl) rfl (fun X hX hM => ?_)
  refine vL_tripWaiting_0 hX hM ⟨h.1, by omega, by omega, ct_x1 (g_tripWaiting h hw hT) sq_trip_le1 (fun z => ?_) (fun z => qr1 z)⟩
  simp only [forall_eq]
  exact ⟨t, by rw [n]; exact vp_in_i3 (k := 0) (by omega) (by omega), qr0 z⟩
