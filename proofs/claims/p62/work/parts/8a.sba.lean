/-! .. a text buffer: length, charAt -/
/-- the builder s with the array b of m cells holds the n characters ch, all below 128 -/
def sR (M : am_Hp) (s b m n : Nat) (ch : Nat → Nat) : Prop := hp_T M s = 9 ∧ hp_R M 160 s = b ∧ b ≠ 0 ∧ hp_T M b = 20 ∧ hp_N M b = m ∧ hp_I M 161 s = 0 ∧ hp_I M 163 s = i3 n ∧ n ≤ m ∧ m < 100000 ∧ ∀ i, i < n → ch i < 128 ∧ hp_E M b i = i3 (ch i)
theorem k_isLatin1 {G : am_Gx} {d s b m n : Nat} {M : am_Hp} {ch : Nat → Nat} (hz : ("java/lang/String", "COMPACT_STRINGS", "Z", Value.int 1) ∈ gx_z G) (h : sR M s b m n ch) : am_CT G (d + 1) rJ5_isLatin1_aae02 [.ref s] M 0 0 (qi 1 M) := by
  obtain ⟨t, -, -, -, -, c, -⟩ := h
  refine am_intro mkJ5_isLatin1_aae02 rfl (Nat.le_of_ble_eq_true rfl) rfl (fun X hX hM => ?_)
  exact vJ5_isLatin1_aae02_0 hX hM ⟨hz, fun z => absurd z (by decide), fun _ => ⟨t, fun _ => ⟨rfl, rfl⟩, fun z => absurd c z⟩⟩
theorem k_canEncode {G : am_Gx} {d k : Nat} {M : am_Hp} (hk : k < 128) : am_CT G (d + 1) rJ1_canEncode_fc78d [.int (i3 k)] M 0 0 (qi 1 M) := by
  refine am_intro mkJ1_canEncode_fc78d rfl (Nat.le_of_ble_eq_true rfl) rfl (fun X hX hM => ?_)
  exact vJ1_canEncode_fc78d_0 hX hM ⟨fun z => absurd ((i3_lt (a := 255) (by omega) (by omega)).mp z) (by omega), fun _ => ⟨rfl, rfl⟩⟩
theorem eJ5_length_0 : decode rJ5_length_8abf5.2.1 0 = .ok (.aload_n 0, 1) := by decide +kernel
theorem eJ5_length_1 : decode rJ5_length_8abf5.2.1 1 = .ok (.getfield 79, 3) := by decide +kernel
theorem eJ5_length_4 : decode rJ5_length_8abf5.2.1 4 = .ok (.ireturn, 1) := by decide +kernel
/-- the generator has no formula for AbstractStringBuilder.length: by hand -/
theorem k_len5 {G : am_Gx} {d s b m n : Nat} {M : am_Hp} {ch : Nat → Nat} (h : sR M s b m n ch) : am_CT G (d + 1) rJ5_length_8abf5 [.ref s] M 0 0 (qi (i3 n) M) := by
  obtain ⟨t, -, -, -, -, -, c, -⟩ := h
  refine am_intro mkJ5_length_8abf5 rfl (Nat.le_of_ble_eq_true rfl) rfl (fun X hX hM => ?_)
  refine j_aload_n hX eJ5_length_0 0 rfl ?_
  refine j_getI hX eJ5_length_1 ff_java_lang_AbstractStringBuilder_79 rfl t (by decide) ?_
  exact j_iret hX hM eJ5_length_4 rfl ⟨by rw [c], rfl⟩
theorem k_len {G : am_Gx} {d s b m n : Nat} {M : am_Hp} {ch : Nat → Nat} (h : sR M s b m n ch) : am_CT G (d + 2) rJ4_length_8abf5 [.ref s] M 0 0 (qi (i3 n) M) := by
  have h0 := h
  obtain ⟨t, -⟩ := h
  refine am_intro mkJ4_length_8abf5 rfl (Nat.le_of_ble_eq_true rfl) rfl (fun X hX hM => ?_)
  exact vJ4_length_8abf5_0 hX hM ⟨t, ct_i (k_len5 h0) ⟨rfl, rfl⟩⟩
theorem i3_sh0 (x : Int32) : x >>> ((0 : Int32) &&& 31) = x := by
  rw [show (0 : Int32) &&& 31 = 0 from rfl]
  simp
theorem ch_i3 {k : Nat} (h : k < 128) : (((i3 k &&& (255 : Int32))).toUInt32 % 65536).toInt32 = i3 k := by
  have : ∀ k : Fin 128, (((i3 k.1 &&& (255 : Int32))).toUInt32 % 65536).toInt32 = i3 k.1 := by decide +kernel
  exact this ⟨k, h⟩
theorem nc_i3 {k : Nat} (h : k < 128) : narrow .char (.int (i3 k)) = .int (i3 k) := by
  have : ∀ k : Fin 128, narrow .char (.int (i3 k.1)) = .int (i3 k.1) := by decide +kernel
  exact this ⟨k, h⟩
/-- the formatter of an index's exception, which no call comes to: any reference, or null -/
def sio (G : am_Gx) : Prop := (∃ p2 : Nat, ("jdk/internal/util/Preconditions", "SIOOBE_FORMATTER", "Ljava/util/function/BiFunction;", Value.ref p2) ∈ gx_z G) ∨ ("jdk/internal/util/Preconditions", "SIOOBE_FORMATTER", "Ljava/util/function/BiFunction;", Value.null) ∈ gx_z G
theorem k_check3n {G : am_Gx} {d i n : Nat} {M : am_Hp} (h : i < n) (hn : n < 100000) : am_CT G (d + 1) rJ3_checkIndex_8e157 [.int (i3 i), .int (i3 n), .null] M 0 0 (qi (i3 i) M) := by
  refine am_intro mkJ3_checkIndex_8e157 rfl (Nat.le_of_ble_eq_true rfl) rfl (fun X hX hM => ?_)
  exact vJ3_checkIndexN_0 hX hM ⟨fun z => absurd ((i3_lt (b := 0) (by omega) (by omega)).mp z) (by omega), fun _ => ⟨fun _ => ⟨rfl, rfl⟩, fun z => absurd ((i3_lt (by omega) (by omega)).mpr h) z⟩⟩
theorem k_check3 {G : am_Gx} {d p i n : Nat} {M : am_Hp} (h : i < n) (hn : n < 100000) : am_CT G (d + 1) rJ3_checkIndex_8e157 [.int (i3 i), .int (i3 n), .ref p] M 0 0 (qi (i3 i) M) := by
  refine am_intro mkJ3_checkIndex_8e157 rfl (Nat.le_of_ble_eq_true rfl) rfl (fun X hX hM => ?_)
  exact vJ3_checkIndex_8e157_0 hX hM ⟨fun z => absurd ((i3_lt (b := 0) (by omega) (by omega)).mp z) (by omega), fun _ => ⟨fun _ => ⟨rfl, rfl⟩, fun z => absurd ((i3_lt (by omega) (by omega)).mpr h) z⟩⟩
theorem k_check0 {G : am_Gx} {d i n : Nat} {M : am_Hp} (hp : sio G) (h : i < n) (hn : n < 100000) : am_CT G (d + 2) rJ0_checkIndex_df160 [.int (i3 i), .int (i3 n)] M 0 0 (qv M) := by
  refine am_intro mkJ0_checkIndex_df160 rfl (Nat.le_of_ble_eq_true rfl) rfl (fun X hX hM => ?_)
  rcases hp with ⟨p, hp⟩ | hp
  · exact vJ0_checkIndex_df160_0 hX hM ⟨p, hp, ct_i (k_check3 h hn) ⟨rfl, rfl⟩⟩
  · exact vJ0_checkIndexN_0 hX hM ⟨hp, ct_i (k_check3n h hn) ⟨rfl, rfl⟩⟩
theorem k_charAt5 {G : am_Gx} {d s b m n i : Nat} {M : am_Hp} {ch : Nat → Nat} (hp : sio G) (h : sR M s b m n ch) (hi : i < n) : am_CT G (d + 3) rJ5_charAt_5068e [.ref s, .int (i3 i)] M 0 0 (qi (i3 (ch i)) M) := by
  obtain ⟨t, r, z0, tb, nb, c0, c3, hnm, hm, hc⟩ := h
  obtain ⟨c1, c2⟩ := hc i hi
  refine am_intro mkJ5_charAt_5068e rfl (Nat.le_of_ble_eq_true rfl) rfl (fun X hX hM => ?_)
  refine vJ5_charAt_5068e_0 hX hM ?_
  simp only [forall_eq]
  rw [c0, c3, r, nb, i3_sh0]
  have e : (if Int32.ofNat m < i3 n then Int32.ofNat m else i3 n) = i3 n := if_neg (fun z => absurd ((i3_lt (a := m) (by omega) (by omega)).mp z) (by omega))
  rw [e]
  refine ⟨t, z0, tb, ct_v (k_check0 hp hi (by omega)) ⟨fun _ => ?_, fun z => absurd rfl z⟩⟩
  rw [i3_toNat (by omega), nb, c2, ch_i3 c1]
  exact ⟨tb, vp_in_i3 (by omega) (by omega), nc_i3 c1, rfl, rfl⟩
theorem k_charAt {G : am_Gx} {d s b m n i : Nat} {M : am_Hp} {ch : Nat → Nat} (hp : sio G) (h : sR M s b m n ch) (hi : i < n) : am_CT G (d + 4) rJ4_charAt_5068e [.ref s, .int (i3 i)] M 0 0 (qi (i3 (ch i)) M) := by
  have h0 := h
  obtain ⟨t, -, -, -, -, -, -, -, -, hc⟩ := h
  refine am_intro mkJ4_charAt_5068e rfl (Nat.le_of_ble_eq_true rfl) rfl (fun X hX hM => ?_)
  exact vJ4_charAt_5068e_0 hX hM ⟨t, ct_i (k_charAt5 hp h0 hi) ⟨nc_i3 (hc i hi).1, rfl, rfl⟩⟩
