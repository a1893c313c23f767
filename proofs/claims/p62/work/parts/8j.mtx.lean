/-! .. what the reference writes (made by gen/mk/mk8j.py) -/
/-- the reference's letters hold l -/
def wT (M : am_Hp) (A : Nat → Nat) (l : List Nat) : Prop := hp_I M 152 (A 0) = i3 l.length ∧ l.length ≤ 60 ∧ ∀ i, i < l.length → l.getD i 0 < 128 ∧ hp_E M (A 7) i = i3 (l.getD i 0)
def wF (M M' : am_Hp) (A : Nat → Nat) : Prop := ∃ f v, M' = hp_sI (hp_sA M (A 7) f) 152 (A 0) v
def wN (M M' : am_Hp) (A : Nat → Nat) (l : List Nat) : Prop := wT M' A l ∧ wF M M' A
theorem wF.tr {M M1 M2 : am_Hp} {A : Nat → Nat} (h : wF M M1 A) (k : wF M1 M2 A) : wF M M2 A := by
  obtain ⟨f, v, rfl⟩ := h
  obtain ⟨f2, v2, rfl⟩ := k
  exact ⟨f2, v2, by rw [hp_sA_sI, hp_sA_sA, hp_sI_sI]⟩
theorem wN.tr {M M1 M2 : am_Hp} {A : Nat → Nat} {l l' : List Nat} (h : wN M M1 A l) (k : wN M1 M2 A l') : wN M M2 A l' := ⟨k.1, h.2.tr k.2⟩
theorem wN_f {M M1 : am_Hp} {A : Nat → Nat} {l : List Nat} (h : mL M A) (w : wN M M1 A l) : mL M1 A ∧ hp_E M1 (A 1) = hp_E M (A 1) ∧ hp_T M1 (A 0) = 8 ∧ hp_R M1 140 (A 0) = A 1 ∧ hp_T M1 (A 1) = 22 ∧ hp_N M1 (A 1) = 141 ∧ hp_I M1 152 (A 0) = i3 l.length := by
  obtain ⟨w1, f, v, rfl⟩ := w
  have h1 : mL (hp_sI (hp_sA M (A 7) f) 152 (A 0) v) A := h
  have h2 := h1
  obtain ⟨t0, r1, r2, r3, r4, r5, r6, r7, r8, t1, t2, t3, t4, t5, t6, t7, t8, n1, n2, n3, n4, n5, n6, n7, n8, z1, z2, z3, z4, z5, z6, z7, z8, hJ⟩ := h2
  exact ⟨h1, mL_E (i := 7) (j := 1) h (by omega) (by omega) (by omega), t0, r1, t1, n1, w1.1⟩
theorem ch16 {c : Nat} (h : c < 128) : (((i3 c).toUInt32 % 65536).toInt32) = i3 c := by
  have : ∀ k : Fin 128, (((i3 k.1).toUInt32 % 65536).toInt32) = i3 k.1 := by decide +kernel
  exact this ⟨c, h⟩
theorem narc {c : Nat} (h : c < 128) : vp_nar .char (i3 c) = i3 c := by
  have : ∀ k : Fin 128, vp_nar .char (i3 k.1) = i3 k.1 := by decide +kernel
  exact this ⟨c, h⟩
theorem w_dig {k u : Nat} (hk : k < 1000) (hu : 0 < u) (hu2 : u ≤ 100) : (48 : Int32) + ((i3 k / i3 u) - (i3 k / i3 u) / (10 : Int32) * (10 : Int32)) = i3 (48 + k / u % 10) := by
  have h1 : k / u ≤ k := Nat.div_le_self _ _
  rw [i3_div (by omega) (by omega)]
  have h2 := i3_mod (a := k / u) (b := 10) (by omega) (by omega)
  rw [show ((10 : Int32)) = i3 10 from rfl, h2]
  exact i3_add 48 _
theorem ct_wn {G : am_Gx} {d : Nat} {r : am_Rec} {as : List Value} {M M1 : am_Hp} {A : Nat → Nat} {l : List Nat} {P : am_Hp → Prop} (h : am_CT G d r as M1 0 0 (fun o M' => o = .inl none ∧ wN M M' A l)) (k : ∀ M2, wN M M2 A l → P M2) : am_CT G d r as M1 0 0 (fun o M2 => o = .inl none ∧ P M2) :=
  am_CT.mono (fun _ M' h => ⟨h.1, k M' h.2⟩) h
theorem wN_0 {M : am_Hp} {A : Nat → Nat} : wN M (hp_sI M 152 (A 0) 0) A [] := ⟨⟨hp_I_sI _ _ _ _, Nat.zero_le _, fun i hi => absurd hi (Nat.not_lt_zero _)⟩, hp_E M (A 7), 0, by rw [hp_sA_id]⟩
/-- after a rendering: the text l stands, nothing was thrown -/
def wR (M M' : am_Hp) (A : Nat → Nat) (l : List Nat) : Prop := ∃ M1, wN M M1 A l ∧ M' = hp_sI M1 153 (A 0) (i3 0)
theorem nc128 {k : Nat} (h : k < 128) : narrow .char (.int (i3 k)) = .int (i3 k) := nc_i3 h
/-- the reference's typed text is l -/
def yT (M : am_Hp) (A : Nat → Nat) (l : List Nat) : Prop := hp_I M 148 (A 0) = i3 l.length ∧ l.length ≤ 60 ∧ ∀ i, i < l.length → l.getD i 0 < 128 ∧ 32 ≤ l.getD i 0 ∧ hp_E M (A 6) i = i3 (l.getD i 0)
