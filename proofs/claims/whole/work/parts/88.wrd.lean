/-! .. the law's wrappers of predictions, undo, restore, mean and share (made by gen/mk/mk88.py) -/
abbrev qv1 (s : md_Sq) (o T : Nat) (M : am_Hp) (a h E n c : Nat) (L : Nat → Nat → Nat) (g sn : md_R) (hist : Nat → md_R) : am_Q := fun z M' => z = .inl (some (.int (i3 s.1))) ∧ ∃ M1, gL T M1 a h E n c L g sn hist ∧ zF h L M M1 ∧ M' = (if s.1 = 0 then hp_sL M1 o 0 s.2.toInt64 else M1)
theorem qv1k {s : md_Sq} {o T k : Nat} {w : Int32} {M M1 M2 : am_Hp} {a h E n c : Nat} {L : Nat → Nat → Nat} {g sn : md_R} {hist : Nat → md_R} (hk : s.1 = k) (ew : w = i3 k) (h1 : gL T M1 a h E n c L g sn hist) (h2 : zF h L M M1) (e : M2 = (if k = 0 then hp_sL M1 o 0 s.2.toInt64 else M1)) : qv1 s o T M a h E n c L g sn hist (.inl (some (.int w))) M2 := by
  unfold qv1
  rw [hk, ew]
  exact ⟨rfl, M1, h1, h2, e⟩
theorem ct_z2 {G : am_Gx} {d : Nat} {r : am_Rec} {as : List Value} {mc ms : Nat} {s : md_Sq} {N1 N2 : String} {T : Nat} {M : am_Hp} {a h E n c : Nat} {L : Nat → Nat → Nat} {g sn : md_R} {hist : Nat → md_R} {P : Int32 → am_Hp → Prop} {R1 R2 : am_Hp → Prop} (hq : am_CT G d r as M mc ms (qz [N1, N2] s T M a h E n c L g sn hist)) (hs : s.1 ≤ 2) (k0 : s.1 = 0 → ∀ M1, gL T M1 a h E n c L g sn hist → zF h L M M1 → P s.2 M1) (k1 : s.1 = 1 → ∀ M1, gL T M1 a h E n c L g sn hist → zF h L M M1 → R1 M1) (k2 : s.1 = 2 → ∀ M1, gL T M1 a h E n c L g sn hist → zF h L M M1 → R2 M1) : am_CT G d r as M mc ms (fun oz M1 => (∃ v, oz = .inl (some (.int v)) ∧ P v M1) ∨ (oz = .inr N1 ∧ ∀ _ : Nat, R1 M1) ∨ (oz = .inr N2 ∧ ∀ _ : Nat, R2 M1)) := by
  refine am_CT.mono (fun o M' h => ?_) hq
  obtain ⟨e1, x1, x2⟩ := h
  by_cases z : s.1 = 0
  · rw [if_pos z] at e1
    exact .inl ⟨_, e1, k0 z _ x1 x2⟩
  · by_cases y : s.1 = 1
    · rw [if_neg z, y] at e1
      exact .inr (.inl ⟨e1, fun _ => k1 y _ x1 x2⟩)
    · have y2 : s.1 = 2 := by omega
      rw [if_neg z, y2] at e1
      exact .inr (.inr ⟨e1, fun _ => k2 y2 _ x1 x2⟩)
theorem sq_pred_le2 {g : md_R} {v : Int32} {b : Bool} : (sq_pred g v b).1 ≤ 2 := by
  unfold sq_pred
  repeat' split
  all_goals simp
theorem w_stepsUntilBoarding {G : am_Gx} {d T a h E n c o : Nat} {M : am_Hp} {L : Nat → Nat → Nat} {g sn : md_R} {hist : Nat → md_R} {v : Int32} (hj : gJ a h E L) (hg : gL T M a h E n c L g sn hist) (hT : T < 90000000) (hu : ∀ p q, p < md_n g → q < md_n g → g (27 + p) = g (27 + q) → p = q) (t : hp_T M o = 23) (nn : hp_N M o = 1) : am_CT G (d + 7) rL_stepsUntilBoarding [.ref a, .int v, .ref o] M 2 12 (qv1 (sq_pred g v true) o T M a h E n c L g sn hist) := by
  refine am_introH mkL_stepsUntilBoarding (by decide) (Nat.le_of_ble_eq_true rfl) rfl (fun X hX hM => ?_)
  refine vL_stepsUntilBoarding_0 hX hM ⟨hg.1, by omega, by omega, ct_z2 (g_stepsUntilBoarding hj hg hT hu) sq_pred_le2 (fun z M1 x1 x2 => ?_) (fun z M1 x1 x2 => qv1k z rfl x1 x2 rfl) (fun z M1 x1 x2 => qv1k z rfl x1 x2 rfl)⟩
  simp only [forall_eq]
  exact ⟨by rw [x2.1.1]; exact t, by rw [x2.1.2.1, nn]; exact vp_in_i3 (k := 0) (by omega) (by omega), qv1k z rfl x1 x2 rfl⟩
theorem w_stepsUntilArrival {G : am_Gx} {d T a h E n c o : Nat} {M : am_Hp} {L : Nat → Nat → Nat} {g sn : md_R} {hist : Nat → md_R} {v : Int32} (hj : gJ a h E L) (hg : gL T M a h E n c L g sn hist) (hT : T < 90000000) (t : hp_T M o = 23) (nn : hp_N M o = 1) : am_CT G (d + 7) rL_stepsUntilArrival [.ref a, .int v, .ref o] M 2 12 (qv1 (sq_pred g v false) o T M a h E n c L g sn hist) := by
  refine am_introH mkL_stepsUntilArrival (by decide) (Nat.le_of_ble_eq_true rfl) rfl (fun X hX hM => ?_)
  refine vL_stepsUntilArrival_0 hX hM ⟨hg.1, by omega, by omega, ct_z2 (g_stepsUntilArrival hj hg hT) sq_pred_le2 (fun z M1 x1 x2 => ?_) (fun z M1 x1 x2 => qv1k z rfl x1 x2 rfl) (fun z M1 x1 x2 => qv1k z rfl x1 x2 rfl)⟩
  simp only [forall_eq]
  exact ⟨by rw [x2.1.1]; exact t, by rw [x2.1.2.1, nn]; exact vp_in_i3 (k := 0) (by omega) (by omega), qv1k z rfl x1 x2 rfl⟩
theorem w_meanWaiting {G : am_Gx} {d a o : Nat} {M : am_Hp} {B : Nat → Nat} {g : md_R} (h : gN M a B g) (ok : md_ok g) (t : hp_T M o = 24) (n : hp_N M o = 1) : am_CT G (d + 2) rL_meanWaiting [.ref a, .ref o] M 1 6 (fun z M' => z = .inl (some (.int (i3 (sq_mean g).1))) ∧ M' = (if (sq_mean g).1 = 0 then hp_sD M o 0 (sq_mean g).2 else M)) := by
  refine am_introH mkL_meanWaiting (by decide) (Nat.le_of_ble_eq_true rfl) rfl (fun X hX hM => ?_)
  have hs : (sq_mean g).1 ≤ 1 := by
    unfold sq_mean
    split <;> simp
  refine vL_meanWaiting_0 hX hM ⟨h.1, by omega, by omega, am_CT.mono (fun z M' hq => ?_) (g_meanWaiting h ok)⟩
  obtain ⟨e1, rfl⟩ := hq
  by_cases y : (sq_mean g).1 = 0
  · rw [if_pos y] at e1
    refine .inl ⟨_, e1, t, by rw [n]; exact vp_in_i3 (k := 0) (by omega) (by omega), ?_⟩
    rintro _ rfl
    rw [y]
    exact ⟨rfl, rfl⟩
  · have y1 : (sq_mean g).1 = 1 := by omega
    rw [if_neg y, y1] at e1
    refine .inr ⟨e1, fun _ => ?_⟩
    rw [y1]
    exact ⟨rfl, rfl⟩
