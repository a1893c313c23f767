/-! .. outputAt of the class -/
theorem g_outputAt {G : am_Gx} {d a s b m n : Nat} {M : am_Hp} {ch : Nat → Nat} {v : Int32} (hp : sio G) (ta : hp_T M a = 7) (r : hp_R M 125 a = s) (hs : s ≠ 0) (h : sR M s b m n ch) : am_CT G (d + 5) rX6_outputAt [.ref a, .int v] M 1 6 (fun o M' => o = (if 0 ≤ v ∧ v < i3 n then .inl (some (.int (i3 (ch v.toNatClampNeg)))) else .inr "java/lang/IndexOutOfBoundsException") ∧ M' = M) := by
  have h0 := h
  obtain ⟨t, -, -, -, -, -, -, hnm, hm, hc⟩ := h
  refine am_intro mkX6_outputAt rfl (Nat.le_of_ble_eq_true rfl) rfl (fun X hX hM => ?_)
  refine vX6_outputAt_0 hX hM ⟨fun a1 => ⟨by omega, by omega, ?_, rfl⟩, fun a1 => ?_⟩
  · rw [if_neg (fun z => absurd z.1 (Int32.not_le.mpr a1))]
  · simp only [forall_eq]
    rw [r]
    refine ⟨ta, hs, t, ct_i (k_len h0) ⟨fun a2 => ?_, fun a2 => ⟨by omega, by omega, ?_, rfl⟩⟩⟩
    · have c : 0 ≤ v ∧ v < i3 n := ⟨Int32.not_lt.mp a1, a2⟩
      obtain ⟨i, hi, rfl⟩ := i3_of (n := n) c.1 c.2 (by omega)
      rw [r]
      refine ⟨ta, hs, t, ct_i (k_charAt hp h0 hi) ⟨nc_i3 (hc i hi).1, ?_, rfl⟩⟩
      rw [if_pos c, i3_toNat (by omega)]
    · rw [if_neg (fun z => a2 z.2)]
