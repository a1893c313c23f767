/-! helpers of the contracts -/
theorem vp_in_i3 {k n : Nat} (h : k < n) (hk : k < 2147483648) : vp_in (i3 k) n := by
  unfold vp_in
  rw [i3_toNat hk, show (0 : Int32) = i3 0 from rfl, i3_lt hk (by omega)]
  omega
abbrev qi (v : Int32) (M1 : am_Hp) : am_Q := fun o M' => o = .inl (some (.int v)) ∧ M' = M1
abbrev qv (M1 : am_Hp) : am_Q := fun o M' => o = .inl none ∧ M' = M1
theorem ct_i {G : am_Gx} {d : Nat} {r : am_Rec} {as : List Value} {M M1 : am_Hp} {mc ms : Nat} {v : Int32} {P : Int32 → am_Hp → Prop} (h : am_CT G d r as M mc ms (qi v M1)) (k : P v M1) : am_CT G d r as M mc ms (fun o M' => ∃ v, o = .inl (some (.int v)) ∧ P v M') :=
  am_CT.mono (fun o M' ⟨e1, e2⟩ => ⟨v, e1, e2 ▸ k⟩) h
theorem ct_v {G : am_Gx} {d : Nat} {r : am_Rec} {as : List Value} {M M1 : am_Hp} {mc ms : Nat} {P : am_Hp → Prop} (h : am_CT G d r as M mc ms (qv M1)) (k : P M1) : am_CT G d r as M mc ms (fun o M' => o = .inl none ∧ P M') :=
  am_CT.mono (fun o M' ⟨e1, e2⟩ => ⟨e1, e2 ▸ k⟩) h
theorem ct_iq {G : am_Gx} {d : Nat} {r : am_Rec} {as : List Value} {M : am_Hp} {mc ms : Nat} {W P : Int32 → am_Hp → Prop} (h : am_CT G d r as M mc ms (fun o M' => ∃ v, o = .inl (some (.int v)) ∧ W v M')) (k : ∀ v M', W v M' → P v M') : am_CT G d r as M mc ms (fun o M' => ∃ v, o = .inl (some (.int v)) ∧ P v M') :=
  am_CT.mono (fun o M' ⟨v, e1, e2⟩ => ⟨v, e1, k v M' e2⟩) h
theorem ct_vq {G : am_Gx} {d : Nat} {r : am_Rec} {as : List Value} {M : am_Hp} {mc ms : Nat} {W P : am_Hp → Prop} (h : am_CT G d r as M mc ms (fun o M' => o = .inl none ∧ W M')) (k : ∀ M', W M' → P M') : am_CT G d r as M mc ms (fun o M' => o = .inl none ∧ P M') :=
  am_CT.mono (fun o M' ⟨e1, e2⟩ => ⟨e1, k M' e2⟩) h
/-- induction over a loop's measure -/
theorem lp_ind {α : Type} {J : α → Prop} (I : Nat → α → Prop) (step : ∀ n a, I n a → (∀ m a', m < n → I m a' → J a') → J a) (n : Nat) (a : α) (h : I n a) : J a := by
  induction n using Nat.strongRecOn generalizing a with
  | ind n ih => exact step n a h (fun m a' hm ha' => ih m hm a' ha')
/-! the heap's algebra -/
theorem hp_sE_sA (M : am_Hp) (a k : Nat) (v : Int32) : hp_sE M a k v = hp_sA M a (va_up (hp_E M a) k v) := by
  have : hp_u (hp_E M) a k v = va_up (hp_E M) a (va_up (hp_E M a) k v) := by
    funext x y
    unfold hp_u va_up
    by_cases h : x = a
    · subst h; by_cases h2 : y = k <;> simp [h2]
    · simp [h]
  unfold hp_sE hp_sA
  rw [this]
theorem hp_sA_sA (M : am_Hp) (a : Nat) (f g : md_R) : hp_sA (hp_sA M a f) a g = hp_sA M a g := by
  unfold hp_sA
  show (_, _, _, _, va_up (va_up (hp_E M) a f) a g, _) = _
  rw [up_up]
  rfl
theorem hp_sA_id (M : am_Hp) (a : Nat) : hp_sA M a (hp_E M a) = M := by
  unfold hp_sA
  rw [up_id]
  rfl
theorem hp_E_sA (M : am_Hp) (a : Nat) (f : md_R) : hp_E (hp_sA M a f) a = f := up_e _ _ _
theorem hp_E_sA' (M : am_Hp) {a b : Nat} (f : md_R) (h : b ≠ a) : hp_E (hp_sA M a f) b = hp_E M b := up_n _ _ h
theorem hp_T_sA (M : am_Hp) (a : Nat) (f : md_R) : hp_T (hp_sA M a f) = hp_T M := rfl
theorem hp_N_sA (M : am_Hp) (a : Nat) (f : md_R) : hp_N (hp_sA M a f) = hp_N M := rfl
theorem hp_R_sA (M : am_Hp) (a : Nat) (f : md_R) : hp_R (hp_sA M a f) = hp_R M := rfl
theorem hp_I_sA (M : am_Hp) (a : Nat) (f : md_R) : hp_I (hp_sA M a f) = hp_I M := rfl
theorem hp_Q_sA (M : am_Hp) (a : Nat) (f : md_R) : hp_Q (hp_sA M a f) = hp_Q M := rfl
theorem hp_L_sA (M : am_Hp) (a : Nat) (f : md_R) : hp_L (hp_sA M a f) = hp_L M := rfl
theorem hp_D_sA (M : am_Hp) (a : Nat) (f : md_R) : hp_D (hp_sA M a f) = hp_D M := rfl
theorem hp_T_sI (M : am_Hp) (u a : Nat) (v : Int32) : hp_T (hp_sI M u a v) = hp_T M := rfl
theorem hp_N_sI (M : am_Hp) (u a : Nat) (v : Int32) : hp_N (hp_sI M u a v) = hp_N M := rfl
theorem hp_R_sI (M : am_Hp) (u a : Nat) (v : Int32) : hp_R (hp_sI M u a v) = hp_R M := rfl
theorem hp_E_sI (M : am_Hp) (u a : Nat) (v : Int32) : hp_E (hp_sI M u a v) = hp_E M := rfl
theorem hp_Q_sI (M : am_Hp) (u a : Nat) (v : Int32) : hp_Q (hp_sI M u a v) = hp_Q M := rfl
theorem hp_L_sI (M : am_Hp) (u a : Nat) (v : Int32) : hp_L (hp_sI M u a v) = hp_L M := rfl
theorem hp_D_sI (M : am_Hp) (u a : Nat) (v : Int32) : hp_D (hp_sI M u a v) = hp_D M := rfl
theorem hp_I_sI (M : am_Hp) (u a : Nat) (v : Int32) : hp_I (hp_sI M u a v) u a = v := if_pos ⟨rfl, rfl⟩
theorem hp_I_sIu (M : am_Hp) {u u' : Nat} (a a' : Nat) (v : Int32) (h : u' ≠ u) : hp_I (hp_sI M u a v) u' a' = hp_I M u' a' := if_neg (fun h' => h h'.1)
theorem hp_I_sIa (M : am_Hp) (u u' : Nat) {a a' : Nat} (v : Int32) (h : a' ≠ a) : hp_I (hp_sI M u a v) u' a' = hp_I M u' a' := if_neg (fun h' => h h'.2)
theorem hp_T_sE (M : am_Hp) (a k : Nat) (v : Int32) : hp_T (hp_sE M a k v) = hp_T M := rfl
theorem hp_N_sE (M : am_Hp) (a k : Nat) (v : Int32) : hp_N (hp_sE M a k v) = hp_N M := rfl
theorem hp_R_sE (M : am_Hp) (a k : Nat) (v : Int32) : hp_R (hp_sE M a k v) = hp_R M := rfl
theorem hp_I_sE (M : am_Hp) (a k : Nat) (v : Int32) : hp_I (hp_sE M a k v) = hp_I M := rfl
theorem hp_Q_sE (M : am_Hp) (a k : Nat) (v : Int32) : hp_Q (hp_sE M a k v) = hp_Q M := rfl
theorem hp_sA_sI (M : am_Hp) (a : Nat) (f : md_R) (u b : Nat) (v : Int32) : hp_sA (hp_sI M u b v) a f = hp_sI (hp_sA M a f) u b v := rfl
theorem hp_sI_sI (M : am_Hp) (u a : Nat) (v w : Int32) : hp_sI (hp_sI M u a v) u a w = hp_sI M u a w := by
  have : hp_u (hp_u (hp_I M) u a v) u a w = hp_u (hp_I M) u a w := by
    funext x y
    unfold hp_u
    split <;> rfl
  unfold hp_sI
  show (_, _, hp_u (hp_u (hp_I M) u a v) u a w, _) = _
  rw [this]
  rfl
