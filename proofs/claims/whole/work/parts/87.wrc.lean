/-! .. the law's wrappers of the seven changes (made by gen/mk/mk87.py) -/
theorem ct_x5 {G : am_Gx} {d : Nat} {r : am_Rec} {as : List Value} {mc ms : Nat} {n : Nat} {v : Int32} {U : Nat} {M : am_Hp} {a h E c : Nat} {L : Nat → Nat → Nat} {g g' sn : md_R} {hist : Nat → md_R} {P : Int32 → am_Hp → Prop} {A1 A2 A3 A4 : am_Hp → Prop} (hq : am_CT G d r as M mc ms (qg n v U M a h E c L g g' sn hist)) (hn : n ≤ 4) (k0 : n = 0 → ∀ M', (∃ n1, gL U M' a h E n1 (if c = 8 then 8 else c + 1) L g' sn (yP c g hist)) → zF h L M M' → P v M') (k1 : n = 1 → A1 M) (k2 : n = 2 → A2 M) (k3 : n = 3 → A3 M) (k4 : n = 4 → A4 M) : am_CT G d r as M mc ms (fun oz M1 => (∃ v, oz = .inl (some (.int v)) ∧ P v M1) ∨ (oz = .inr "java/lang/IllegalArgumentException" ∧ A2 M1) ∨ (oz = .inr "java/lang/IllegalStateException" ∧ A3 M1) ∨ (oz = .inr "java/lang/IndexOutOfBoundsException" ∧ A1 M1) ∨ (oz = .inr "java/lang/UnsupportedOperationException" ∧ A4 M1)) := by
  refine am_CT.mono (fun o M' h => ?_) hq
  unfold qg at h
  have e5 : n = 0 ∨ n = 1 ∨ n = 2 ∨ n = 3 ∨ n = 4 := by omega
  rcases e5 with rfl | rfl | rfl | rfl | rfl
  · obtain ⟨e1, e2, e3⟩ := h
    exact .inl ⟨_, e1, k0 rfl M' e2 e3⟩
  · obtain ⟨e1, rfl⟩ := h
    exact .inr (.inr (.inr (.inl ⟨e1, k1 rfl⟩)))
  · obtain ⟨e1, rfl⟩ := h
    exact .inr (.inl ⟨e1, k2 rfl⟩)
  · obtain ⟨e1, rfl⟩ := h
    exact .inr (.inr (.inl ⟨e1, k3 rfl⟩))
  · obtain ⟨e1, rfl⟩ := h
    exact .inr (.inr (.inr (.inr ⟨e1, k4 rfl⟩)))
/-- a change through its wrapper -/
def qh (n k : Nat) (v : Int32) (o U : Nat) (M : am_Hp) (a h E c : Nat) (L : Nat → Nat → Nat) (g g' sn : md_R) (hist : Nat → md_R) : am_Q := fun z M' => if n = 0 then z = .inl (some (.int 0)) ∧ ∃ M1, (∃ n1, gL U M1 a h E n1 (if c = 8 then 8 else c + 1) L g' sn (yP c g hist)) ∧ zF h L M M1 ∧ M' = hp_sL M1 o 0 v.toInt64 else z = .inl (some (.int (i3 k))) ∧ M' = M
theorem qh0 {n k : Nat} {v : Int32} {o U : Nat} {M M1 : am_Hp} {a h E c : Nat} {L : Nat → Nat → Nat} {g g' sn : md_R} {hist : Nat → md_R} (hn : n = 0) (h1 : ∃ n1, gL U M1 a h E n1 (if c = 8 then 8 else c + 1) L g' sn (yP c g hist)) (h2 : zF h L M M1) : qh n k v o U M a h E c L g g' sn hist (.inl (some (.int 0))) (hp_sL M1 o 0 v.toInt64) := by
  unfold qh
  rw [if_pos hn]
  exact ⟨rfl, M1, h1, h2, rfl⟩
theorem qhk {n k : Nat} {v w : Int32} {o U : Nat} {M : am_Hp} {a h E c : Nat} {L : Nat → Nat → Nat} {g g' sn : md_R} {hist : Nat → md_R} (hn : n ≠ 0) (e : w = i3 k) : qh n k v o U M a h E c L g g' sn hist (.inl (some (.int w))) M := by
  unfold qh
  rw [if_neg hn, e]
  exact ⟨rfl, rfl⟩
theorem rf_add_v {g : md_R} {s e w : Int32} : rf_add g s e w = 0 ∨ rf_add g s e w = 2 ∨ rf_add g s e w = 3 := by
  unfold rf_add
  repeat' split
  all_goals simp
theorem rf_rem_v {g : md_R} {s : Int32} : rf_rem g s = 0 ∨ rf_rem g s = 1 ∨ rf_rem g s = 3 := by
  unfold rf_rem
  repeat' split
  all_goals simp
theorem rf_hold_v {g : md_R} {s e : Int32} : rf_hold g s e = 0 ∨ rf_hold g s e = 1 ∨ rf_hold g s e = 2 ∨ rf_hold g s e = 3 := by
  unfold rf_hold
  repeat' split
  all_goals simp
theorem rf_stop_v {g : md_R} {s : Int32} : rf_stop g s = 0 ∨ rf_stop g s = 1 ∨ rf_stop g s = 3 := by
  unfold rf_stop
  repeat' split
  all_goals simp
theorem rf_start_v {g : md_R} {s : Int32} : rf_start g s = 0 ∨ rf_start g s = 1 ∨ rf_start g s = 3 := by
  unfold rf_start
  repeat' split
  all_goals simp
theorem rf_limit_v {g : md_R} {s e : Int32} : rf_limit g s e = 0 ∨ rf_limit g s e = 1 ∨ rf_limit g s e = 2 ∨ rf_limit g s e = 4 := by
  unfold rf_limit
  repeat' split
  all_goals simp
theorem rf_pass_v {s : Int32} : rf_pass s = 0 ∨ rf_pass s = 2 := by
  unfold rf_pass
  repeat' split
  all_goals simp
theorem w_addPassenger {G : am_Gx} {d T a h E n c o : Nat} {M : am_Hp} {L : Nat → Nat → Nat} {g sn : md_R} {hist : Nat → md_R} {s e w : Int32} (hj : gJ a h E L) (hg : gL T M a h E n c L g sn hist) (hT : T < 90000000) (t : hp_T M o = 23) (nn : hp_N M o = 1) : am_CT G (d + 8) rL_addPassenger [.ref a, .int s, .int e, .int w, .ref o] M 1 6 (qh (rf_add g s e w) (tn_add (rf_add g s e w)) (i3 (md_n g)) o (T + 1830) M a h E c L g (md_ad g s e w) sn hist) := by
  refine am_introH mkL_addPassenger (by decide) (Nat.le_of_ble_eq_true rfl) rfl (fun X hX hM => ?_)
  refine vL_addPassenger_0 hX hM ⟨hg.1, by omega, by omega, ct_x5 (g_addPassenger hj hg hT) rf_add_le (fun z M1 x1 x2 => ?_) (fun z => absurd rf_add_v (by rw [z]; decide)) (fun z _ => qhk (by omega) (by rw [z]; rfl)) (fun z _ => qhk (by omega) (by rw [z]; rfl)) (fun z => absurd rf_add_v (by rw [z]; decide))⟩
  simp only [forall_eq]
  exact ⟨by rw [x2.1.1]; exact t, by rw [x2.1.2.1, nn]; exact vp_in_i3 (k := 0) (by omega) (by omega), qh0 z x1 x2⟩
theorem w_removePassenger {G : am_Gx} {d T a h E n c o : Nat} {M : am_Hp} {L : Nat → Nat → Nat} {g sn : md_R} {hist : Nat → md_R} {s : Int32} (hj : gJ a h E L) (hg : gL T M a h E n c L g sn hist) (hT : T < 90000000) (t : hp_T M o = 23) (nn : hp_N M o = 1) : am_CT G (d + 8) rL_removePassenger [.ref a, .int s, .ref o] M 1 6 (qh (rf_rem g s) (tn_rem (rf_rem g s)) (g (27 + s.toNatClampNeg)) o (T + 1830) M a h E c L g (md_dr g s.toNatClampNeg) sn hist) := by
  refine am_introH mkL_removePassenger (by decide) (Nat.le_of_ble_eq_true rfl) rfl (fun X hX hM => ?_)
  refine vL_removePassenger_0 hX hM ⟨hg.1, by omega, by omega, ct_x5 (g_removePassenger hj hg hT) rf_rem_le (fun z M1 x1 x2 => ?_) (fun z _ => qhk (by omega) (by rw [z]; rfl)) (fun z => absurd rf_rem_v (by rw [z]; decide)) (fun z _ => qhk (by omega) (by rw [z]; rfl)) (fun z => absurd rf_rem_v (by rw [z]; decide))⟩
  simp only [forall_eq]
  exact ⟨by rw [x2.1.1]; exact t, by rw [x2.1.2.1, nn]; exact vp_in_i3 (k := 0) (by omega) (by omega), qh0 z x1 x2⟩
theorem w_holdDoors {G : am_Gx} {d T a h E n c o : Nat} {M : am_Hp} {L : Nat → Nat → Nat} {g sn : md_R} {hist : Nat → md_R} {s e : Int32} (hj : gJ a h E L) (hg : gL T M a h E n c L g sn hist) (hT : T < 90000000) (t : hp_T M o = 23) (nn : hp_N M o = 1) : am_CT G (d + 8) rL_holdDoors [.ref a, .int s, .int e, .ref o] M 1 6 (qh (rf_hold g s e) (rf_hold g s e) (g (18 + s.toNatClampNeg)) o (T + 1830) M a h E c L g (va_up g (18 + s.toNatClampNeg) e) sn hist) := by
  refine am_introH mkL_holdDoors (by decide) (Nat.le_of_ble_eq_true rfl) rfl (fun X hX hM => ?_)
  refine vL_holdDoors_0 hX hM ⟨hg.1, by omega, by omega, ct_x5 (g_holdDoors hj hg hT) rf_hold_le (fun z M1 x1 x2 => ?_) (fun z _ => qhk (by omega) (by rw [z]; rfl)) (fun z _ => qhk (by omega) (by rw [z]; rfl)) (fun z _ => qhk (by omega) (by rw [z]; rfl)) (fun z => absurd rf_hold_v (by rw [z]; decide))⟩
  simp only [forall_eq]
  exact ⟨by rw [x2.1.1]; exact t, by rw [x2.1.2.1, nn]; exact vp_in_i3 (k := 0) (by omega) (by omega), qh0 z x1 x2⟩
theorem w_stopCar {G : am_Gx} {d T a h E n c o : Nat} {M : am_Hp} {L : Nat → Nat → Nat} {g sn : md_R} {hist : Nat → md_R} {s : Int32} (hj : gJ a h E L) (hg : gL T M a h E n c L g sn hist) (hT : T < 90000000) (t : hp_T M o = 23) (nn : hp_N M o = 1) : am_CT G (d + 8) rL_stopCar [.ref a, .int s, .ref o] M 1 6 (qh (rf_stop g s) (tn_rem (rf_stop g s)) (md_ca g s.toNatClampNeg) o (T + 1830) M a h E c L g (md_so g s.toNatClampNeg) sn hist) := by
  refine am_introH mkL_stopCar (by decide) (Nat.le_of_ble_eq_true rfl) rfl (fun X hX hM => ?_)
  refine vL_stopCar_0 hX hM ⟨hg.1, by omega, by omega, ct_x5 (g_stopCar hj hg hT) rf_stop_le (fun z M1 x1 x2 => ?_) (fun z _ => qhk (by omega) (by rw [z]; rfl)) (fun z => absurd rf_stop_v (by rw [z]; decide)) (fun z _ => qhk (by omega) (by rw [z]; rfl)) (fun z => absurd rf_stop_v (by rw [z]; decide))⟩
  simp only [forall_eq]
  exact ⟨by rw [x2.1.1]; exact t, by rw [x2.1.2.1, nn]; exact vp_in_i3 (k := 0) (by omega) (by omega), qh0 z x1 x2⟩
theorem w_startCar {G : am_Gx} {d T a h E n c o : Nat} {M : am_Hp} {L : Nat → Nat → Nat} {g sn : md_R} {hist : Nat → md_R} {s : Int32} (hj : gJ a h E L) (hg : gL T M a h E n c L g sn hist) (hT : T < 90000000) (t : hp_T M o = 23) (nn : hp_N M o = 1) : am_CT G (d + 8) rL_startCar [.ref a, .int s, .ref o] M 1 6 (qh (rf_start g s) (tn_rem (rf_start g s)) (i3 3 - va_up g (21 + s.toNatClampNeg) 0 21 - va_up g (21 + s.toNatClampNeg) 0 22 - va_up g (21 + s.toNatClampNeg) 0 23) o (T + 1830) M a h E c L g (va_up g (21 + s.toNatClampNeg) 0) sn hist) := by
  refine am_introH mkL_startCar (by decide) (Nat.le_of_ble_eq_true rfl) rfl (fun X hX hM => ?_)
  refine vL_startCar_0 hX hM ⟨hg.1, by omega, by omega, ct_x5 (g_startCar hj hg hT) rf_start_le (fun z M1 x1 x2 => ?_) (fun z _ => qhk (by omega) (by rw [z]; rfl)) (fun z => absurd rf_start_v (by rw [z]; decide)) (fun z _ => qhk (by omega) (by rw [z]; rfl)) (fun z => absurd rf_start_v (by rw [z]; decide))⟩
  simp only [forall_eq]
  exact ⟨by rw [x2.1.1]; exact t, by rw [x2.1.2.1, nn]; exact vp_in_i3 (k := 0) (by omega) (by omega), qh0 z x1 x2⟩
theorem w_setCapacity {G : am_Gx} {d T a h E n c o : Nat} {M : am_Hp} {L : Nat → Nat → Nat} {g sn : md_R} {hist : Nat → md_R} {s e : Int32} (hj : gJ a h E L) (hg : gL T M a h E n c L g sn hist) (hT : T < 90000000) (t : hp_T M o = 23) (nn : hp_N M o = 1) : am_CT G (d + 8) rL_setCapacity [.ref a, .int s, .int e, .ref o] M 1 6 (qh (rf_limit g s e) (tn_lim (rf_limit g s e)) (g (15 + s.toNatClampNeg)) o (T + 1830) M a h E c L g (va_up g (15 + s.toNatClampNeg) e) sn hist) := by
  refine am_introH mkL_setCapacity (by decide) (Nat.le_of_ble_eq_true rfl) rfl (fun X hX hM => ?_)
  refine vL_setCapacity_0 hX hM ⟨hg.1, by omega, by omega, ct_x5 (g_setCapacity hj hg hT) rf_limit_le (fun z M1 x1 x2 => ?_) (fun z _ => qhk (by omega) (by rw [z]; rfl)) (fun z _ => qhk (by omega) (by rw [z]; rfl)) (fun z => absurd rf_limit_v (by rw [z]; decide)) (fun z _ => qhk (by omega) (by rw [z]; rfl))⟩
  simp only [forall_eq]
  exact ⟨by rw [x2.1.1]; exact t, by rw [x2.1.2.1, nn]; exact vp_in_i3 (k := 0) (by omega) (by omega), qh0 z x1 x2⟩
theorem w_advance {G : am_Gx} {d T a h E n c o : Nat} {M : am_Hp} {L : Nat → Nat → Nat} {g sn : md_R} {hist : Nat → md_R} {s : Int32} (hj : gJ a h E L) (hg : gL T M a h E n c L g sn hist) (hT : T < 90000000) (t : hp_T M o = 23) (nn : hp_N M o = 1) : am_CT G (d + 8) rL_advance [.ref a, .int s, .ref o] M 1 6 (qh (rf_pass s) (1) (md_it g s.toNatClampNeg 3 - g 3) o (T + 1830) M a h E c L g (md_it g s.toNatClampNeg) sn hist) := by
  refine am_introH mkL_advance (by decide) (Nat.le_of_ble_eq_true rfl) rfl (fun X hX hM => ?_)
  refine vL_advance_0 hX hM ⟨hg.1, by omega, by omega, ct_x5 (g_advance hj hg hT) rf_pass_le (fun z M1 x1 x2 => ?_) (fun z => absurd rf_pass_v (by rw [z]; decide)) (fun z _ => qhk (by omega) rfl) (fun z => absurd rf_pass_v (by rw [z]; decide)) (fun z => absurd rf_pass_v (by rw [z]; decide))⟩
  simp only [forall_eq]
  exact ⟨by rw [x2.1.1]; exact t, by rw [x2.1.2.1, nn]; exact vp_in_i3 (k := 0) (by omega) (by omega), qh0 z x1 x2⟩
