/-! .. the class's refusals and the reference's answers are the same -/
/-- the thrown number of a change, from the class's refusal -/
def tn_add (n : Nat) : Nat := if n = 2 then 1 else 2
def tn_rem (n : Nat) : Nat := if n = 1 then 1 else 2
def tn_lim (n : Nat) : Nat := if n = 4 then 3 else n
theorem sp_add_rf {g : md_R} {s e w : Int32} : sp_add g s e w = if rf_add g s e w = 0 then (0, i3 (md_n g), md_ad g s e w) else (tn_add (rf_add g s e w), i3 0, g) := by
  unfold sp_add rf_add
  by_cases h : md_fl s = true ∧ md_fl e = true ∧ s ≠ e ∧ md_iw w = true
  · rw [if_pos h, if_pos h]
    by_cases z : md_n g = 12
    · rw [if_pos z, if_pos z, if_neg (by omega)]
      rfl
    · rw [if_neg z, if_neg z, if_pos rfl]
  · rw [if_neg h, if_neg h, if_neg (by omega)]
    rfl
theorem sp_rem_rf {T : Nat} {g : md_R} {v : Int32} (hw : md_wf T g) : sp_rem g v = if rf_rem g v = 0 then (0, g (27 + v.toNatClampNeg), md_dr g v.toNatClampNeg) else (tn_rem (rf_rem g v), i3 0, g) := by
  have ok := md_wf_ok hw
  have h12 := ok.2
  unfold sp_rem rf_rem
  by_cases h : md_ip g v = true
  · rw [if_pos h, if_pos h]
    obtain ⟨p, hp, rfl⟩ := (md_ip_iff ok).mp h
    rw [i3_toNat (by omega)]
    rcases (hw.2.2.1 p hp).2.2.2.2.2.1 with z | z
    · rw [z, if_neg (show ¬ (0 : Int32) = i3 1 by decide), if_pos (show (0 : Int32) = i3 0 from rfl), if_pos rfl]
    · rw [z, if_pos (show (1 : Int32) = i3 1 from rfl), if_neg (show ¬ (1 : Int32) = i3 0 by decide), if_neg (by omega)]
      rfl
  · rw [if_neg h, if_neg h, if_neg (by omega)]
    rfl
theorem sp_hold_rf {T : Nat} {g : md_R} {v s : Int32} (hw : md_wf T g) : sp_hold g v s = if rf_hold g v s = 0 then (0, g (18 + v.toNatClampNeg), va_up g (18 + v.toNatClampNeg) s) else (rf_hold g v s, i3 0, g) := by
  unfold sp_hold rf_hold md_bt
  by_cases h : md_ic v = true
  · rw [if_pos h, if_pos h]
    obtain ⟨c, hc, rfl⟩ := md_ic_iff.mp h
    rw [i3_toNat (by omega)]
    obtain ⟨q, q1, q2⟩ := (hw.2.1 c hc).2.2.2.1
    by_cases z : (decide (i3 1 ≤ s) && decide (s ≤ i3 3)) = true
    · rw [if_pos z, if_pos z, q2]
      by_cases y : q = 0
      · rw [y, if_pos rfl, if_pos (Int32.le_refl _), if_neg (by omega)]
      · rw [if_neg (show ¬ i3 q = i3 0 from fun e => y ((i3_eq (by omega) (by omega)).mp e)), if_neg (show ¬ i3 q ≤ i3 0 from fun e => absurd ((i3_le (by omega) (by omega)).mp e) (by omega)), if_pos rfl]
    · rw [if_neg z, if_neg z, if_neg (by omega)]
  · rw [if_neg h, if_neg h, if_neg (by omega)]
theorem sp_stop_rf {T : Nat} {g : md_R} {v : Int32} (hw : md_wf T g) : sp_stop g v = if rf_stop g v = 0 then (0, md_ca g v.toNatClampNeg, md_so g v.toNatClampNeg) else (tn_rem (rf_stop g v), i3 0, g) := by
  unfold sp_stop rf_stop
  by_cases h : md_ic v = true
  · rw [if_pos h, if_pos h]
    obtain ⟨c, hc, rfl⟩ := md_ic_iff.mp h
    rw [i3_toNat (by omega)]
    rcases (hw.2.1 c hc).2.2.2.2.1 with z | z
    · rw [z, if_neg (show ¬ (0 : Int32) = i3 1 by decide), if_pos (show (0 : Int32) = i3 0 from rfl), if_pos rfl]
    · rw [z, if_pos (show (1 : Int32) = i3 1 from rfl), if_neg (show ¬ (1 : Int32) = i3 0 by decide), if_neg (by omega)]
      rfl
  · rw [if_neg h, if_neg h, if_neg (by omega)]
    rfl
theorem sp_start_rf {g : md_R} {v : Int32} : sp_start g v = if rf_start g v = 0 then (0, i3 3 - va_up g (21 + v.toNatClampNeg) 0 21 - va_up g (21 + v.toNatClampNeg) 0 22 - va_up g (21 + v.toNatClampNeg) 0 23, va_up g (21 + v.toNatClampNeg) 0) else (tn_rem (rf_start g v), i3 0, g) := by
  unfold sp_start rf_start
  by_cases h : md_ic v = true
  · rw [if_pos h, if_pos h]
    by_cases z : g (21 + v.toNatClampNeg) = i3 0
    · rw [if_pos z, if_pos z, if_neg (by omega)]
      rfl
    · rw [if_neg z, if_neg z, if_pos rfl]
  · rw [if_neg h, if_neg h, if_neg (by omega)]
    rfl
theorem sp_limit_rf {g : md_R} {v k : Int32} : sp_limit g v k = if rf_limit g v k = 0 then (0, g (15 + v.toNatClampNeg), va_up g (15 + v.toNatClampNeg) k) else (tn_lim (rf_limit g v k), i3 0, g) := by
  unfold sp_limit rf_limit md_bt
  by_cases h : md_ic v = true
  · rw [if_pos h, if_pos h]
    by_cases y : (decide (i3 100 ≤ k) && decide (k ≤ i3 900)) = true
    · rw [if_pos y, if_pos y]
      by_cases z : md_ld g v.toNatClampNeg ≤ k
      · rw [if_pos z, if_pos z, if_pos rfl]
      · rw [if_neg z, if_neg z, if_neg (by omega)]
        rfl
    · rw [if_neg y, if_neg y, if_neg (by omega)]
      rfl
  · rw [if_neg h, if_neg h, if_neg (by omega)]
    rfl
theorem sp_adv_rf {g : md_R} {v : Int32} : sp_adv g v = if rf_pass v = 0 then (0, md_it g v.toNatClampNeg 3 - g 3, md_it g v.toNatClampNeg) else (1, i3 0, g) := by
  unfold sp_adv rf_pass md_bt
  by_cases h : (decide (i3 1 ≤ v) && decide (v ≤ i3 30)) = true
  · rw [if_pos h, if_pos h, if_pos rfl]
  · rw [if_neg h, if_neg h, if_neg (by omega)]
