/-! .. a command: what refuses it, what it does -/
def rf_k (g : md_R) (k : Nat) (x : md_R) : Nat := if k = 0 then rf_add g (x 0) (x 1) (x 2) else if k = 1 then rf_rem g (x 0) else if k = 2 then rf_hold g (x 0) (x 1) else if k = 3 then rf_stop g (x 0) else if k = 4 then rf_start g (x 0) else if k = 5 then rf_limit g (x 0) (x 1) else if k = 6 then rf_pass (x 0) else 0
def pf_k (g : md_R) (k : Nat) (x : md_R) : md_R := if k = 0 then md_ad g (x 0) (x 1) (x 2) else if k = 1 then md_dr g (x 0).toNatClampNeg else if k = 2 then va_up g (18 + (x 0).toNatClampNeg) (x 1) else if k = 3 then md_so g (x 0).toNatClampNeg else if k = 4 then va_up g (21 + (x 0).toNatClampNeg) 0 else if k = 5 then va_up g (15 + (x 0).toNatClampNeg) (x 1) else if k = 6 then md_it g (x 0).toNatClampNeg else md_it g 1
abbrev qy (B : Nat → Nat) (M : am_Hp) (g' : md_R) : am_Q := fun o M' => ∃ v, o = .inl (some (.int v)) ∧ bR M' B g' ∧ bF B M M'
theorem rf_add_0 {g : md_R} {s e w : Int32} (ok : md_ok g) (h : rf_add g s e w = 0) : md_fl s = true ∧ md_fl e = true ∧ s ≠ e ∧ md_iw w = true ∧ md_n g < 12 := by
  have h12 := ok.2
  unfold rf_add at h
  by_cases z : md_fl s = true ∧ md_fl e = true ∧ s ≠ e ∧ md_iw w = true
  · rw [if_pos z] at h
    refine ⟨z.1, z.2.1, z.2.2.1, z.2.2.2, ?_⟩
    by_cases y : md_n g = 12
    · rw [if_pos y] at h
      exact absurd h (by omega)
    · omega
  · rw [if_neg z] at h
    exact absurd h (by omega)
theorem rf_rem_0 {g : md_R} {v : Int32} (ok : md_ok g) (h : rf_rem g v = 0) : ∃ p, p < md_n g ∧ v = i3 p ∧ g (99 + p) = 0 := by
  unfold rf_rem at h
  by_cases z : md_ip g v = true
  · rw [if_pos z] at h
    obtain ⟨p, hp, rfl⟩ := (md_ip_iff ok).mp z
    have := ok.2
    rw [i3_toNat (by omega)] at h
    by_cases y : g (99 + p) = i3 0
    · exact ⟨p, hp, rfl, y⟩
    · rw [if_neg y] at h
      exact absurd h (by omega)
  · rw [if_neg z] at h
    exact absurd h (by omega)
theorem rf_hold_0 {g : md_R} {v s : Int32} (h : rf_hold g v s = 0) : ∃ c, c < 3 ∧ v = i3 c ∧ md_bt (i3 1) s (i3 3) = true ∧ ¬ g (18 + c) ≤ i3 0 := by
  unfold rf_hold at h
  by_cases z : md_ic v = true
  · rw [if_pos z] at h
    obtain ⟨p, hp, rfl⟩ := md_ic_iff.mp z
    rw [i3_toNat (by omega)] at h
    by_cases y : md_bt (i3 1) s (i3 3) = true
    · rw [if_pos y] at h
      by_cases w : g (18 + p) ≤ i3 0
      · rw [if_pos w] at h
        exact absurd h (by omega)
      · exact ⟨p, hp, rfl, y, w⟩
    · rw [if_neg y] at h
      exact absurd h (by omega)
  · rw [if_neg z] at h
    exact absurd h (by omega)
theorem rf_stop_0 {g : md_R} {v : Int32} (h : rf_stop g v = 0) : ∃ c, c < 3 ∧ v = i3 c ∧ g (21 + c) = i3 0 := by
  unfold rf_stop at h
  by_cases z : md_ic v = true
  · rw [if_pos z] at h
    obtain ⟨p, hp, rfl⟩ := md_ic_iff.mp z
    rw [i3_toNat (by omega)] at h
    by_cases y : g (21 + p) = i3 0
    · exact ⟨p, hp, rfl, y⟩
    · rw [if_neg y] at h
      exact absurd h (by omega)
  · rw [if_neg z] at h
    exact absurd h (by omega)
theorem rf_start_0 {g : md_R} {v : Int32} (h : rf_start g v = 0) : ∃ c, c < 3 ∧ v = i3 c ∧ g (21 + c) ≠ i3 0 := by
  unfold rf_start at h
  by_cases z : md_ic v = true
  · rw [if_pos z] at h
    obtain ⟨p, hp, rfl⟩ := md_ic_iff.mp z
    rw [i3_toNat (by omega)] at h
    by_cases y : g (21 + p) = i3 0
    · rw [if_pos y] at h
      exact absurd h (by omega)
    · exact ⟨p, hp, rfl, y⟩
  · rw [if_neg z] at h
    exact absurd h (by omega)
theorem rf_limit_0 {g : md_R} {v k : Int32} (h : rf_limit g v k = 0) : ∃ c, c < 3 ∧ v = i3 c ∧ md_bt (i3 100) k (i3 900) = true ∧ md_ld g c ≤ k := by
  unfold rf_limit at h
  by_cases z : md_ic v = true
  · rw [if_pos z] at h
    obtain ⟨p, hp, rfl⟩ := md_ic_iff.mp z
    rw [i3_toNat (by omega)] at h
    by_cases y : md_bt (i3 100) k (i3 900) = true
    · rw [if_pos y] at h
      by_cases w : md_ld g p ≤ k
      · exact ⟨p, hp, rfl, y, w⟩
      · rw [if_neg w] at h
        exact absurd h (by omega)
    · rw [if_neg y] at h
      exact absurd h (by omega)
  · rw [if_neg z] at h
    exact absurd h (by omega)
theorem md_bt_i3 {a b : Nat} {v : Int32} (hb : b < 2147483647) (h : md_bt (i3 a) v (i3 b) = true) (ha : a < 2147483648) : ∃ k, a ≤ k ∧ k ≤ b ∧ v = i3 k := by
  obtain ⟨h1, h2⟩ := md_bt_iff.mp h
  rw [Int32.le_iff_toInt_le, i3_toInt ha] at h1
  rw [Int32.le_iff_toInt_le, i3_toInt (by omega)] at h2
  have e : v = i3 v.toInt.toNat := by
    rw [← Int32.toInt_inj, i3_toInt (by omega)]
    omega
  exact ⟨v.toInt.toNat, by omega, by omega, e⟩
theorem rf_pass_0 {v : Int32} (h : rf_pass v = 0) : ∃ n, 1 ≤ n ∧ n ≤ 30 ∧ v = i3 n := by
  unfold rf_pass at h
  by_cases z : md_bt (i3 1) v (i3 30) = true
  · exact md_bt_i3 (by omega) z (by omega)
  · rw [if_neg z] at h
    exact absurd h (by omega)
theorem k_refusal {G : am_Gx} {d a k : Nat} {M : am_Hp} {B : Nat → Nat} {g : md_R} (hR : bR M B g) (ok : md_ok g) (ta : hp_T M a = 22) (na : hp_N M a = 3) (hk : k < 8) : am_CT G (d + 3) rX0_refusalToPerform [.ref (B 0), .int (i3 k), .ref a] M 0 0 (qi (i3 (rf_k g k (hp_E M a))) M) := by
  have b0 := hR.1.1.1
  have p0 : vp_in (0 : Int32) (hp_N M a) := by rw [na]; exact vp_in_i3 (k := 0) (by omega) (by omega)
  have p1 : vp_in (1 : Int32) (hp_N M a) := by rw [na]; exact vp_in_i3 (k := 1) (by omega) (by omega)
  have p2 : vp_in (2 : Int32) (hp_N M a) := by rw [na]; exact vp_in_i3 (k := 2) (by omega) (by omega)
  refine am_intro mkX0_refusalToPerform rfl (Nat.le_of_ble_eq_true rfl) rfl (fun X hX hM => ?_)
  refine vX0_refusalToPerform_0 hX hM ⟨fun z => ?_, fun z => ?_, fun z => ?_, fun z => ?_, fun z => ?_, fun z => ?_, fun z => ?_, fun z => ?_⟩
  · rw [i3_toInt (by omega)] at z
    have e : k = 7 := by omega
    subst e
    exact ⟨rfl, rfl⟩
  · have e : k = 0 := (i3_eq (b := 0) (by omega) (by omega)).mp z
    subst e
    exact ⟨ta, p0, p1, p2, b0, ct_i (k_rfAdd hR ok) ⟨rfl, rfl⟩⟩
  · have e : k = 1 := (i3_eq (b := 1) (by omega) (by omega)).mp z
    subst e
    exact ⟨ta, p0, b0, ct_i (k_rfRem hR ok) ⟨rfl, rfl⟩⟩
  · have e : k = 2 := (i3_eq (b := 2) (by omega) (by omega)).mp z
    subst e
    exact ⟨ta, p0, p1, b0, ct_i (k_rfHold hR ok) ⟨rfl, rfl⟩⟩
  · have e : k = 3 := (i3_eq (b := 3) (by omega) (by omega)).mp z
    subst e
    exact ⟨ta, p0, b0, ct_i (k_rfStop hR ok) ⟨rfl, rfl⟩⟩
  · have e : k = 4 := (i3_eq (b := 4) (by omega) (by omega)).mp z
    subst e
    exact ⟨ta, p0, b0, ct_i (k_rfStart hR ok) ⟨rfl, rfl⟩⟩
  · have e : k = 5 := (i3_eq (b := 5) (by omega) (by omega)).mp z
    subst e
    exact ⟨ta, p0, p1, b0, ct_i (k_rfLimit hR ok) ⟨rfl, rfl⟩⟩
  · have e : k = 6 := (i3_eq (b := 6) (by omega) (by omega)).mp z
    subst e
    exact ⟨ta, p0, b0, ct_i k_rfPass ⟨rfl, rfl⟩⟩
theorem k_perform {G : am_Gx} {d T a k : Nat} {M : am_Hp} {B : Nat → Nat} {g : md_R} (hR : bR M B g) (hw : md_wf T g) (hT : T < 90000000) (ta : hp_T M a = 22) (na : hp_N M a = 3) (hk : k < 8) (h0 : rf_k g k (hp_E M a) = 0) : am_CT G (d + 6) rX0_perform [.ref (B 0), .int (i3 k), .ref a] M 0 0 (qy B M (pf_k g k (hp_E M a))) := by
  have ok := md_wf_ok hw
  have b0 := hR.1.1.1
  have p0 : vp_in (0 : Int32) (hp_N M a) := by rw [na]; exact vp_in_i3 (k := 0) (by omega) (by omega)
  have p1 : vp_in (1 : Int32) (hp_N M a) := by rw [na]; exact vp_in_i3 (k := 1) (by omega) (by omega)
  have p2 : vp_in (2 : Int32) (hp_N M a) := by rw [na]; exact vp_in_i3 (k := 2) (by omega) (by omega)
  generalize hx : hp_E M a = x at h0 ⊢
  refine am_intro mkX0_perform rfl (Nat.le_of_ble_eq_true rfl) rfl (fun X hX hM => ?_)
  refine vX0_perform_0 hX hM ?_
  rw [hx]
  refine ⟨fun z => ?_, fun z => ?_, fun z => ?_, fun z => ?_, fun z => ?_, fun z => ?_, fun z => ?_, fun z => ?_⟩
  · rw [i3_toInt (by omega)] at z
    have e : k = 7 := by omega
    subst e
    exact ⟨b0, ct_b (k_letPass (n := 1) hR hw (by omega)) (fun M' r1 r2 => ⟨_, rfl, r1, r2⟩)⟩
  · have e : k = 0 := (i3_eq (b := 0) (by omega) (by omega)).mp z
    subst e
    obtain ⟨-, -, -, -, n12⟩ := rf_add_0 ok h0
    exact ⟨ta, p0, p1, p2, b0, ct_b (k_add hR hw n12) (fun M' r1 r2 => ⟨_, rfl, r1, r2⟩)⟩
  · have e : k = 1 := (i3_eq (b := 1) (by omega) (by omega)).mp z
    subst e
    obtain ⟨p, hp, e1, e2⟩ := rf_rem_0 ok h0
    have hp2 := ok.2
    refine ⟨ta, p0, b0, ?_⟩
    rw [show pf_k g 1 x = md_dr g (x 0).toNatClampNeg from rfl]
    rw [show x ((0 : Int32)).toNatClampNeg = i3 p from e1, e1, i3_toNat (by omega)]
    exact ct_b (k_remove hR ok hp e2) (fun M' r1 r2 => ⟨_, rfl, r1, r2⟩)
  · have e : k = 2 := (i3_eq (b := 2) (by omega) (by omega)).mp z
    subst e
    obtain ⟨c, hc, e1, -⟩ := rf_hold_0 h0
    refine ⟨ta, p0, p1, b0, ?_⟩
    rw [show pf_k g 2 x = va_up g (18 + (x 0).toNatClampNeg) (x 1) from rfl]
    rw [show x ((0 : Int32)).toNatClampNeg = i3 c from e1, e1, i3_toNat (by omega)]
    exact ct_b (k_hold hR ok hc) (fun M' r1 r2 => ⟨_, rfl, r1, r2⟩)
  · have e : k = 3 := (i3_eq (b := 3) (by omega) (by omega)).mp z
    subst e
    obtain ⟨c, hc, e1, -⟩ := rf_stop_0 h0
    refine ⟨ta, p0, b0, ?_⟩
    rw [show pf_k g 3 x = md_so g (x 0).toNatClampNeg from rfl]
    rw [show x ((0 : Int32)).toNatClampNeg = i3 c from e1, e1, i3_toNat (by omega)]
    exact ct_b (k_takeOut hR hw hc) (fun M' r1 r2 => ⟨_, rfl, r1, r2⟩)
  · have e : k = 4 := (i3_eq (b := 4) (by omega) (by omega)).mp z
    subst e
    obtain ⟨c, hc, e1, -⟩ := rf_start_0 h0
    refine ⟨ta, p0, b0, ?_⟩
    rw [show pf_k g 4 x = va_up g (21 + (x 0).toNatClampNeg) 0 from rfl]
    rw [show x ((0 : Int32)).toNatClampNeg = i3 c from e1, e1, i3_toNat (by omega)]
    exact ct_b (k_putIn hR hw hc) (fun M' r1 r2 => ⟨_, rfl, r1, r2⟩)
  · have e : k = 5 := (i3_eq (b := 5) (by omega) (by omega)).mp z
    subst e
    obtain ⟨c, hc, e1, -⟩ := rf_limit_0 h0
    refine ⟨ta, p0, p1, b0, ?_⟩
    rw [show pf_k g 5 x = va_up g (15 + (x 0).toNatClampNeg) (x 1) from rfl]
    rw [show x ((0 : Int32)).toNatClampNeg = i3 c from e1, e1, i3_toNat (by omega)]
    exact ct_b (k_limit hR ok hc) (fun M' r1 r2 => ⟨_, rfl, r1, r2⟩)
  · have e : k = 6 := (i3_eq (b := 6) (by omega) (by omega)).mp z
    subst e
    obtain ⟨n, n1, n2, e1⟩ := rf_pass_0 h0
    refine ⟨ta, p0, b0, ?_⟩
    rw [show pf_k g 6 x = md_it g (x 0).toNatClampNeg from rfl]
    rw [show x ((0 : Int32)).toNatClampNeg = i3 n from e1, e1, i3_toNat (by omega)]
    exact ct_b (k_letPass hR hw (by omega)) (fun M' r1 r2 => ⟨_, rfl, r1, r2⟩)
