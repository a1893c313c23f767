/-! .. the law's wrappers of the other queries (made by gen/mk/mk86.py) -/
theorem ct_x2 {G : am_Gx} {d : Nat} {r : am_Rec} {as : List Value} {M : am_Hp} {mc ms : Nat} {s : md_Sq} {N1 N2 : String} {P : Int32 → am_Hp → Prop} {R1 R2 : am_Hp → Prop} (h : am_CT G d r as M mc ms (xq [N1, N2] s M)) (hs : s.1 ≤ 2) (k0 : s.1 = 0 → P s.2 M) (k1 : s.1 = 1 → R1 M) (k2 : s.1 = 2 → R2 M) : am_CT G d r as M mc ms (fun oz M1 => (∃ v, oz = .inl (some (.int v)) ∧ P v M1) ∨ (oz = .inr N1 ∧ ∀ _ : Nat, R1 M1) ∨ (oz = .inr N2 ∧ ∀ _ : Nat, R2 M1)) := by
  refine am_CT.mono (fun o M' h => ?_) h
  obtain ⟨e1, rfl⟩ := h
  by_cases z : s.1 = 0
  · rw [if_pos z] at e1
    exact .inl ⟨_, e1, k0 z⟩
  · by_cases y : s.1 = 1
    · rw [if_neg z, y] at e1
      exact .inr (.inl ⟨e1, fun _ => k1 y⟩)
    · have y2 : s.1 = 2 := by omega
      rw [if_neg z, y2] at e1
      exact .inr (.inr ⟨e1, fun _ => k2 y2⟩)
theorem ct_x2r {G : am_Gx} {d : Nat} {r : am_Rec} {as : List Value} {M : am_Hp} {mc ms : Nat} {s : md_Sq} {N1 N2 : String} {P : Int32 → am_Hp → Prop} {R1 R2 : am_Hp → Prop} (h : am_CT G d r as M mc ms (xq [N2, N1] s M)) (hs : s.1 ≤ 2) (k0 : s.1 = 0 → P s.2 M) (k1 : s.1 = 2 → R1 M) (k2 : s.1 = 1 → R2 M) : am_CT G d r as M mc ms (fun oz M1 => (∃ v, oz = .inl (some (.int v)) ∧ P v M1) ∨ (oz = .inr N1 ∧ ∀ _ : Nat, R1 M1) ∨ (oz = .inr N2 ∧ ∀ _ : Nat, R2 M1)) := by
  refine am_CT.mono (fun o M' h => ?_) (ct_x2 h hs k0 k2 k1)
  rcases h with h | h | h
  · exact .inl h
  · exact .inr (.inr h)
  · exact .inr (.inl h)
theorem qr2 {s : md_Sq} {M : am_Hp} {o : Nat} (h : s.1 = 2) : qr s M o (.inl (some (.int 2))) M := by
  unfold qr
  rw [h, if_neg (by omega)]
  exact ⟨rfl, rfl⟩
theorem qrF {s : md_Sq} {M : am_Hp} {o : Nat} (h : s.1 = 0) (e : s.2 = 0) : qr s M o (.inl (some (.int 0))) (hp_sL M o 0 0) := by
  have := qr0 (M := M) (o := o) h
  rw [e] at this
  exact this
theorem qrT {s : md_Sq} {M : am_Hp} {o : Nat} (h : s.1 = 0) (b : s.2 = 0 ∨ s.2 = 1) (e : ¬ s.2 = 0) : qr s M o (.inl (some (.int 0))) (hp_sL M o 0 1) := by
  have := qr0 (M := M) (o := o) h
  rw [b.resolve_left e] at this
  exact this
theorem sq_flag_le1 {v : Int32} : (sq_flag v).1 ≤ 1 := by
  unfold sq_flag
  repeat' split
  all_goals simp
theorem md_ff_le1 {P : Nat → Bool} : ∀ k j, (md_ff P k j).1 ≤ 1
  | 0, _ => Nat.le_refl _
  | k + 1, j => by
    rw [md_ff]
    split
    · exact Nat.zero_le _
    · exact md_ff_le1 k (j + 1)
theorem sq_pw_le1 {g : md_R} {v : Int32} : (sq_pw g v).1 ≤ 1 := md_ff_le1 _ _
theorem sq_ce_le1 {g : md_R} {v : Int32} : (sq_ce g v).1 ≤ 1 := md_ff_le1 _ _
theorem bI_or (b : Bool) : bI b = 0 ∨ bI b = 1 := by
  cases b
  · exact .inl rfl
  · exact .inr rfl
theorem sq_serv_le1 {g : md_R} {v : Int32} : (sq_serv g v).1 ≤ 1 := by
  unfold sq_serv
  repeat' split
  all_goals simp
theorem sq_inside_le1 {g : md_R} {v : Int32} : (sq_inside g v).1 ≤ 1 := by
  unfold sq_inside
  repeat' split
  all_goals simp
theorem sq_carOf_le2 {g : md_R} {v : Int32} : (sq_carOf g v).1 ≤ 2 := by
  unfold sq_carOf
  repeat' split
  all_goals simp
theorem sq_next_le2 {g : md_R} {v : Int32} : (sq_next g v).1 ≤ 2 := by
  unfold sq_next
  repeat' split
  all_goals simp
theorem sq_est_le2 {g : md_R} {v f : Int32} : (sq_est g v f).1 ≤ 2 := by
  unfold sq_est
  repeat' split
  all_goals simp
theorem sq_stop_le2 {g : md_R} {v f : Int32} : (sq_stop g v f).1 ≤ 2 := by
  unfold sq_stop
  repeat' split
  all_goals simp
theorem sq_best_le2 {g : md_R} {f v : Int32} : (sq_best g f v).1 ≤ 2 := by
  unfold sq_best
  repeat' split
  all_goals simp
theorem sq_serv_b {g : md_R} {v : Int32} : (sq_serv g v).2 = 0 ∨ (sq_serv g v).2 = 1 := by
  unfold sq_serv
  repeat' split
  all_goals first | exact bI_or _ | exact .inl rfl
theorem sq_inside_b {g : md_R} {v : Int32} : (sq_inside g v).2 = 0 ∨ (sq_inside g v).2 = 1 := by
  unfold sq_inside
  repeat' split
  all_goals first | exact bI_or _ | exact .inl rfl
theorem sq_stop_b {g : md_R} {v f : Int32} : (sq_stop g v f).2 = 0 ∨ (sq_stop g v f).2 = 1 := by
  unfold sq_stop
  repeat' split
  all_goals first | exact bI_or _ | exact .inl rfl
theorem w_isInService {G : am_Gx} {d a o : Nat} {M : am_Hp} {B : Nat → Nat} {g : md_R} {v : Int32} (h : gN M a B g) (ok : md_ok g) (t : hp_T M o = 23) (n : hp_N M o = 1) : am_CT G (d + 4) rL_isInService [.ref a, .int v, .ref o] M 1 6 (qr (sq_serv g v) M o) := by
  refine am_introH mkL_isInService (by decide) (Nat.le_of_ble_eq_true rfl) rfl (fun X hX hM => ?_)
  refine vL_isInService_0 hX hM ⟨h.1, by omega, by omega, ct_x1 (g_isInService h ok) sq_serv_le1 (fun z => ?_) (fun z => qr1 z)⟩
  simp only [forall_eq]
  exact ⟨fun y => ⟨t, by rw [n]; exact vp_in_i3 (k := 0) (by omega) (by omega), qrF z y⟩, fun y => ⟨t, by rw [n]; exact vp_in_i3 (k := 0) (by omega) (by omega), qrT z sq_serv_b y⟩⟩
theorem w_isInCar {G : am_Gx} {d a o : Nat} {M : am_Hp} {B : Nat → Nat} {g : md_R} {T : Nat} {v : Int32} (h : gN M a B g) (hw : md_wf T g) (t : hp_T M o = 23) (n : hp_N M o = 1) : am_CT G (d + 4) rL_isInCar [.ref a, .int v, .ref o] M 1 6 (qr (sq_inside g v) M o) := by
  refine am_introH mkL_isInCar (by decide) (Nat.le_of_ble_eq_true rfl) rfl (fun X hX hM => ?_)
  refine vL_isInCar_0 hX hM ⟨h.1, by omega, by omega, ct_x1 (g_isInCar h hw) sq_inside_le1 (fun z => ?_) (fun z => qr1 z)⟩
  simp only [forall_eq]
  exact ⟨fun y => ⟨t, by rw [n]; exact vp_in_i3 (k := 0) (by omega) (by omega), qrF z y⟩, fun y => ⟨t, by rw [n]; exact vp_in_i3 (k := 0) (by omega) (by omega), qrT z sq_inside_b y⟩⟩
theorem w_passengerByWaiting {G : am_Gx} {d a o : Nat} {M : am_Hp} {B : Nat → Nat} {g : md_R} {T : Nat} {v : Int32} (h : gN M a B g) (hw : md_wf T g) (hT : T < 1000000000) (t : hp_T M o = 23) (n : hp_N M o = 1) : am_CT G (d + 5) rL_passengerByWaiting [.ref a, .int v, .ref o] M 1 6 (qr (sq_pw g v) M o) := by
  refine am_introH mkL_passengerByWaiting (by decide) (Nat.le_of_ble_eq_true rfl) rfl (fun X hX hM => ?_)
  refine vL_passengerByWaiting_0 hX hM ⟨h.1, by omega, by omega, ct_x1 (g_passengerByWaiting h hw hT) sq_pw_le1 (fun z => ?_) (fun z => qr1 z)⟩
  simp only [forall_eq]
  exact ⟨t, by rw [n]; exact vp_in_i3 (k := 0) (by omega) (by omega), qr0 z⟩
theorem w_carByEnergy {G : am_Gx} {d a o : Nat} {M : am_Hp} {B : Nat → Nat} {g : md_R} {T : Nat} {v : Int32} (h : gN M a B g) (hw : md_wf T g) (hT : T < 1000000000) (t : hp_T M o = 23) (n : hp_N M o = 1) : am_CT G (d + 5) rL_carByEnergy [.ref a, .int v, .ref o] M 1 6 (qr (sq_ce g v) M o) := by
  refine am_introH mkL_carByEnergy (by decide) (Nat.le_of_ble_eq_true rfl) rfl (fun X hX hM => ?_)
  refine vL_carByEnergy_0 hX hM ⟨h.1, by omega, by omega, ct_x1 (g_carByEnergy h hw hT) sq_ce_le1 (fun z => ?_) (fun z => qr1 z)⟩
  simp only [forall_eq]
  exact ⟨t, by rw [n]; exact vp_in_i3 (k := 0) (by omega) (by omega), qr0 z⟩
theorem w_errorPosition {G : am_Gx} {d a o : Nat} {M : am_Hp} (ta : hp_T M a = 7) (t : hp_T M o = 23) (n : hp_N M o = 1) : am_CT G (d + 2) rL_errorPosition [.ref a, .ref o] M 1 6 (qr (sq_flag (hp_I M 127 a)) M o) := by
  refine am_introH mkL_errorPosition (by decide) (Nat.le_of_ble_eq_true rfl) rfl (fun X hX hM => ?_)
  refine vL_errorPosition_0 hX hM ⟨ta, by omega, by omega, ct_x1 (g_errorPosition ta) sq_flag_le1 (fun z => ?_) (fun z => qr1 z)⟩
  simp only [forall_eq]
  exact ⟨t, by rw [n]; exact vp_in_i3 (k := 0) (by omega) (by omega), qr0 z⟩
theorem w_failedCommand {G : am_Gx} {d a o : Nat} {M : am_Hp} (ta : hp_T M a = 7) (t : hp_T M o = 23) (n : hp_N M o = 1) : am_CT G (d + 2) rL_failedCommand [.ref a, .ref o] M 1 6 (qr (sq_flag (hp_I M 128 a)) M o) := by
  refine am_introH mkL_failedCommand (by decide) (Nat.le_of_ble_eq_true rfl) rfl (fun X hX hM => ?_)
  refine vL_failedCommand_0 hX hM ⟨ta, by omega, by omega, ct_x1 (g_failedCommand ta) sq_flag_le1 (fun z => ?_) (fun z => qr1 z)⟩
  simp only [forall_eq]
  exact ⟨t, by rw [n]; exact vp_in_i3 (k := 0) (by omega) (by omega), qr0 z⟩
theorem w_carOf {G : am_Gx} {d a o : Nat} {M : am_Hp} {B : Nat → Nat} {g : md_R} {T : Nat} {v : Int32} (h : gN M a B g) (hw : md_wf T g) (t : hp_T M o = 23) (n : hp_N M o = 1) : am_CT G (d + 4) rL_carOf [.ref a, .int v, .ref o] M 2 12 (qr (sq_carOf g v) M o) := by
  refine am_introH mkL_carOf (by decide) (Nat.le_of_ble_eq_true rfl) rfl (fun X hX hM => ?_)
  refine vL_carOf_0 hX hM ⟨h.1, by omega, by omega, ct_x2 (g_carOf h hw) sq_carOf_le2 (fun z => ?_) (fun z => qr1 z) (fun z => qr2 z)⟩
  simp only [forall_eq]
  exact ⟨t, by rw [n]; exact vp_in_i3 (k := 0) (by omega) (by omega), qr0 z⟩
theorem w_nextStop {G : am_Gx} {d a o : Nat} {M : am_Hp} {B : Nat → Nat} {g : md_R} {T : Nat} {v : Int32} (h : gN M a B g) (hw : md_wf T g) (t : hp_T M o = 23) (n : hp_N M o = 1) : am_CT G (d + 4) rL_nextStop [.ref a, .int v, .ref o] M 2 12 (qr (sq_next g v) M o) := by
  refine am_introH mkL_nextStop (by decide) (Nat.le_of_ble_eq_true rfl) rfl (fun X hX hM => ?_)
  refine vL_nextStop_0 hX hM ⟨h.1, by omega, by omega, ct_x2 (g_nextStop h hw) sq_next_le2 (fun z => ?_) (fun z => qr1 z) (fun z => qr2 z)⟩
  simp only [forall_eq]
  exact ⟨t, by rw [n]; exact vp_in_i3 (k := 0) (by omega) (by omega), qr0 z⟩
theorem w_estimate {G : am_Gx} {d a o : Nat} {M : am_Hp} {B : Nat → Nat} {g : md_R} {T : Nat} {v f : Int32} (h : gN M a B g) (hw : md_wf T g) (t : hp_T M o = 23) (n : hp_N M o = 1) : am_CT G (d + 4) rL_estimate [.ref a, .int v, .int f, .ref o] M 2 12 (qr (sq_est g v f) M o) := by
  refine am_introH mkL_estimate (by decide) (Nat.le_of_ble_eq_true rfl) rfl (fun X hX hM => ?_)
  refine vL_estimate_0 hX hM ⟨h.1, by omega, by omega, ct_x2r (g_estimate h hw) sq_est_le2 (fun z => ?_) (fun z => qr2 z) (fun z => qr1 z)⟩
  simp only [forall_eq]
  exact ⟨t, by rw [n]; exact vp_in_i3 (k := 0) (by omega) (by omega), qr0 z⟩
theorem w_estimateByWalk {G : am_Gx} {d a o : Nat} {M : am_Hp} {B : Nat → Nat} {g : md_R} {T : Nat} {v f : Int32} (h : gN M a B g) (hw : md_wf T g) (t : hp_T M o = 23) (n : hp_N M o = 1) : am_CT G (d + 4) rL_estimateByWalk [.ref a, .int v, .int f, .ref o] M 2 12 (qr (sq_est g v f) M o) := by
  refine am_introH mkL_estimateByWalk (by decide) (Nat.le_of_ble_eq_true rfl) rfl (fun X hX hM => ?_)
  refine vL_estimateByWalk_0 hX hM ⟨h.1, by omega, by omega, ct_x2r (g_estimateByWalk h hw) sq_est_le2 (fun z => ?_) (fun z => qr2 z) (fun z => qr1 z)⟩
  simp only [forall_eq]
  exact ⟨t, by rw [n]; exact vp_in_i3 (k := 0) (by omega) (by omega), qr0 z⟩
theorem w_isStop {G : am_Gx} {d a o : Nat} {M : am_Hp} {B : Nat → Nat} {g : md_R} {T : Nat} {v f : Int32} (h : gN M a B g) (hw : md_wf T g) (t : hp_T M o = 23) (n : hp_N M o = 1) : am_CT G (d + 4) rL_isStop [.ref a, .int v, .int f, .ref o] M 2 12 (qr (sq_stop g v f) M o) := by
  refine am_introH mkL_isStop (by decide) (Nat.le_of_ble_eq_true rfl) rfl (fun X hX hM => ?_)
  refine vL_isStop_0 hX hM ⟨h.1, by omega, by omega, ct_x2r (g_isStop h hw) sq_stop_le2 (fun z => ?_) (fun z => qr2 z) (fun z => qr1 z)⟩
  simp only [forall_eq]
  exact ⟨fun y => ⟨t, by rw [n]; exact vp_in_i3 (k := 0) (by omega) (by omega), qrF z y⟩, fun y => ⟨t, by rw [n]; exact vp_in_i3 (k := 0) (by omega) (by omega), qrT z sq_stop_b y⟩⟩
theorem w_bestCar {G : am_Gx} {d a o : Nat} {M : am_Hp} {B : Nat → Nat} {g : md_R} {T : Nat} {f v : Int32} (h : gN M a B g) (hw : md_wf T g) (t : hp_T M o = 23) (n : hp_N M o = 1) : am_CT G (d + 5) rL_bestCar [.ref a, .int f, .int v, .ref o] M 2 12 (qr (sq_best g f v) M o) := by
  refine am_introH mkL_bestCar (by decide) (Nat.le_of_ble_eq_true rfl) rfl (fun X hX hM => ?_)
  refine vL_bestCar_0 hX hM ⟨h.1, by omega, by omega, ct_x2 (g_bestCar h hw) sq_best_le2 (fun z => ?_) (fun z => qr1 z) (fun z => qr2 z)⟩
  simp only [forall_eq]
  exact ⟨t, by rw [n]; exact vp_in_i3 (k := 0) (by omega) (by omega), qr0 z⟩
