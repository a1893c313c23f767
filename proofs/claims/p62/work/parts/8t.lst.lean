/-! .. lists: an ArrayList of int[], its iterator -/
theorem sm_sQA {M : am_Hp} {a x : Nat} {f : Nat → Nat} (h : x ≠ a) : sm M (hp_sQA M a f) x := ⟨rfl, rfl, fun _ => rfl, fun _ => rfl, rfl, by simp [hp_sQA, hp_Q, va_up, h], rfl, rfl⟩
theorem Q_at (M : am_Hp) (a : Nat) (f : Nat → Nat) : hp_Q (hp_sQA M a f) a = f := by simp [hp_sQA, hp_Q, va_up]
theorem k_AC {G : am_Gx} {d a : Nat} {M : am_Hp} : am_CT G (d + 1) rJxa1e45_init_da8c8 [.ref a] M 0 0 (qv M) := by
  refine am_intro mkJxa1e45_init_da8c8 rfl (Nat.le_of_ble_eq_true rfl) rfl (fun X hX hM => ?_)
  exact vJxa1e45_init_da8c8_0 hX hM ⟨rfl, rfl⟩
theorem k_AB {G : am_Gx} {d a : Nat} {M : am_Hp} (t : hp_T M a = 8) : am_CT G (d + 2) rJxc12de_init_da8c8 [.ref a] M 0 0 (qv (hp_sI M 140 a 0)) := by
  refine am_intro mkJxc12de_init_da8c8 rfl (Nat.le_of_ble_eq_true rfl) rfl (fun X hX hM => ?_)
  refine vJxc12de_init_da8c8_0 hX hM (ct_v k_AC ⟨t, fun M4 e => ?_⟩)
  rw [e]
  exact ⟨rfl, rfl⟩
/-- the empty array that lists begin with -/
def em (G : am_Gx) (e : Nat) : Prop := ("java/util/ArrayList", "DEFAULTCAPACITY_EMPTY_ELEMENTDATA", "[Ljava/lang/Object;", Value.ref e) ∈ gx_z G
theorem k_AI {G : am_Gx} {d a e : Nat} {M : am_Hp} (he : em G e) (t : hp_T M a = 8) : am_CT G (d + 3) rJx4a65c_init_da8c8 [.ref a] M 0 0 (qv (hp_sR (hp_sI M 140 a 0) 141 a (e + 1))) := by
  refine am_intro mkJx4a65c_init_da8c8 rfl (Nat.le_of_ble_eq_true rfl) rfl (fun X hX hM => ?_)
  refine vJx4a65c_init_da8c8_0 hX hM (ct_v (k_AB t) ⟨e, he, t, fun M6 e6 => ?_⟩)
  rw [e6]
  exact ⟨rfl, rfl⟩
theorem k_II {G : am_Gx} {d p a : Nat} {M : am_Hp} (t : hp_T M p = 11) (ta : hp_T M a = 8) (za : a ≠ 0) : am_CT G (d + 1) rJx35411_init_45d68 [.ref p, .ref a] M 0 0 (qv (hp_sI (hp_sI (hp_sR M 203 p a) 201 p (-1)) 202 p (hp_I M 140 a))) := by
  refine am_intro mkJx35411_init_45d68 rfl (Nat.le_of_ble_eq_true rfl) rfl (fun X hX hM => ?_)
  refine vJx35411_init_45d68_0 hX hM ⟨t, za, ?_⟩
  simp only [forall_eq]
  have e : hp_R (hp_sI (hp_sR M 203 p a) 201 p (-1 : Int32)) 203 p = a := R_at M 203 p a
  rw [e]
  refine ⟨za, ta, rfl, ?_⟩
  rw [show hp_I (hp_sI (hp_sR M 203 p a) 201 p (-1 : Int32)) 140 a = hp_I M 140 a from hp_I_sIu _ _ _ _ (by decide)]
/-- an iterator that begins -/
theorem k_It {G : am_Gx} {d a : Nat} {M : am_Hp} (ta : hp_T M a = 8) (za : a ≠ 0) : am_CT G (d + 2) rJx4a65c_iterator_32c93 [.ref a] M 1 4 (fun o M' => ∃ p, o = .inl (some (.ref p)) ∧ hp_T M p = 0 ∧ p ≠ 0 ∧ hp_T M' p = 11 ∧ hp_R M' 203 p = a ∧ hp_I M' 200 p = 0 ∧ hp_I M' 202 p = hp_I M 140 a ∧ ∀ x, x ≠ p → sm M M' x) := by
  refine am_intro mkJx4a65c_iterator_32c93 rfl (Nat.le_of_ble_eq_true rfl) rfl (fun X hX hM => ?_)
  refine vJx4a65c_iterator_32c93_0 hX hM ⟨Nat.le_refl _, Nat.le_refl _, fun p hp zp => ?_⟩
  simp only [forall_eq]
  have ap := ne_fresh ta hp
  obtain ⟨o1, o2, -⟩ := o_at M p 11
  have sa := sm_o (M := M) (t := 11) ap
  refine ct_v (k_II o1 (sa.1.trans ta) za) ⟨p, rfl, hp, zp, o1, R_at _ 203 p a, ?_, ?_, fun x hx => ?_⟩
  · rw [hp_I_sIu _ _ _ _ (by decide), hp_I_sIu _ _ _ _ (by decide)]
    exact o2 200
  · rw [hp_I_sI]
    exact sa.2.2.1 140
  · exact (((sm_o hx).tr (sm_sR hx)).tr (sm_sI hx)).tr (sm_sI hx)
theorem k_hasNext {G : am_Gx} {d p a : Nat} {M : am_Hp} (t : hp_T M p = 11) (r : hp_R M 203 p = a) (ta : hp_T M a = 8) (za : a ≠ 0) : am_CT G (d + 1) rJx35411_hasNext_aae02 [.ref p] M 0 0 (qi (if hp_I M 200 p = hp_I M 142 a then 0 else 1) M) := by
  refine am_intro mkJx35411_hasNext_aae02 rfl (Nat.le_of_ble_eq_true rfl) rfl (fun X hX hM => ?_)
  refine vJx35411_hasNext_aae02_0 hX hM ⟨t, ?_⟩
  simp only [forall_eq]
  rw [r]
  refine ⟨za, ta, fun e => ?_, fun e => ?_⟩
  · rw [if_pos e]
    exact ⟨rfl, rfl⟩
  · rw [if_neg e]
    exact ⟨rfl, rfl⟩
theorem k_cfc {G : am_Gx} {d p a : Nat} {M : am_Hp} (t : hp_T M p = 11) (r : hp_R M 203 p = a) (ta : hp_T M a = 8) (za : a ≠ 0) (h : hp_I M 140 a = hp_I M 202 p) : am_CT G (d + 1) rJx35411_checkForComodification_da8c8 [.ref p] M 0 0 (qv M) := by
  refine am_intro mkJx35411_checkForComodification_da8c8 rfl (Nat.le_of_ble_eq_true rfl) rfl (fun X hX hM => ?_)
  refine vJx35411_checkForComodification_da8c8_0 hX hM ⟨t, ?_⟩
  simp only [forall_eq]
  rw [r]
  exact ⟨za, ta, fun _ => ⟨rfl, rfl⟩, fun e => absurd h e⟩
theorem k_next {G : am_Gx} {d p a E i n cap : Nat} {M : am_Hp} (t : hp_T M p = 11) (r : hp_R M 203 p = a) (ta : hp_T M a = 8) (za : a ≠ 0) (h : hp_I M 140 a = hp_I M 202 p) (hi : hp_I M 200 p = i3 i) (hn : hp_I M 142 a = i3 n) (hin : i < n) (hE : hp_R M 141 a = E + 1) (tE : hp_T M E = 29) (nE : hp_N M E = cap) (hc : n ≤ cap) (hcap : cap < 100) (hz : hp_Q M E i ≠ 0) : am_CT G (d + 2) rJx35411_next_0502b [.ref p] M 0 0 (fun o M' => o = .inl (some (.ref (hp_Q M E i))) ∧ M' = hp_sI (hp_sI M 200 p (i3 i + 1)) 201 p (i3 i)) := by
  refine am_intro mkJx35411_next_0502b rfl (Nat.le_of_ble_eq_true rfl) rfl (fun X hX hM => ?_)
  refine vJx35411_next_0502b_0 hX hM ⟨t, ct_v (k_cfc t r ta za h) ?_⟩
  simp only [forall_eq]
  rw [r, hi, hn, hE, Nat.add_sub_cancel, i3_toNat (show i < 2147483648 by omega)]
  refine ⟨t, za, ta, fun _ => ⟨za, ta, by omega, tE, fun _ => ⟨?_, hz, rfl, rfl⟩, fun e => e ?_⟩, fun e => e ((i3_lt (by omega) (by omega)).mpr hin)⟩
  · show vp_in (i3 i) (hp_N M E)
    rw [nE]
    exact vp_in_i3 (by omega) (by omega)
  · rw [nE]
    exact (i3_lt (by omega) (by omega)).mpr (by omega)
/-- ten places made fifteen -/
theorem k_cp3 {G : am_Gx} {d E : Nat} {M : am_Hp} (t : hp_T M E = 29) (hn : hp_N M E = 10) (hq : ∀ i, i < 10 → hp_Q M E i = 0 ∨ hp_T M (hp_Q M E i) = 22) : am_CT G (d + 1) rJ7_copyOf_6403c [.ref E, .int (i3 15), .ref (gx_s G "" 0)] M 1 15 (fun o M' => ∃ p, o = .inl (some (.ref p)) ∧ hp_T M p = 0 ∧ p ≠ 0 ∧ hp_T M' p = 29 ∧ hp_N M' p = 15 ∧ (∀ j, j < 10 → hp_Q M' p j = hp_Q M E j) ∧ ∀ x, x ≠ p → sm M M' x) := by
  refine am_intro mkJ7_copyOf_6403c rfl (Nat.le_of_ble_eq_true rfl) rfl (fun X hX hM => ?_)
  have e15 : (i3 15).toNatClampNeg = 15 := by decide
  refine vJ7_copyOf_6403c_0 hX hM ⟨fun _ => ⟨by decide, by decide, Nat.le_refl _, by decide, fun p hp zp => ?_⟩, fun e => absurd rfl e⟩
  simp only [forall_eq]
  rw [e15]
  have pE := ne_fresh t hp
  have sE := sm_a (M := M) (a := p) (x := E) (t := 29) (n := 15) pE
  obtain ⟨a1, a2, -, a4⟩ := a_at M p 29 15
  have ev : (if i3 15 < Int32.ofNat (hp_N (hp_a M p 29 15) E) then i3 15 else Int32.ofNat (hp_N (hp_a M p 29 15) E)) = i3 10 := by
    rw [sE.2.1, hn]
    decide
  rw [ev, show ((0 : Int32)).toNatClampNeg = 0 by decide, show (i3 10).toNatClampNeg = 10 by decide]
  refine ⟨sE.1.trans t, by decide, by decide, by decide, by rw [sE.2.1, hn]; decide, by rw [a2]; decide, fun i hi => ?_, p, rfl, hp, zp, a1, a2, fun j hj => ?_, fun x hx => (sm_a hx).tr (sm_sQA hx)⟩
  · rw [Nat.zero_add, sE.2.2.2.2.2.1]
    rcases hq i hi with z | z
    · exact .inl z
    · exact .inr ((sm_a (ne_fresh z hp)).1.trans z)
  · rw [Q_at, sE.2.2.2.2.2.1]
    unfold va_cpy
    rw [if_pos (by omega)]
    congr 1
    omega
theorem k_cp2 {G : am_Gx} {d E : Nat} {M : am_Hp} (t : hp_T M E = 29) (hn : hp_N M E = 10) (hq : ∀ i, i < 10 → hp_Q M E i = 0 ∨ hp_T M (hp_Q M E i) = 22) : am_CT G (d + 2) rJ7_copyOf_1904c [.ref E, .int (i3 15)] M 1 15 (fun o M' => ∃ p, o = .inl (some (.ref p)) ∧ hp_T M p = 0 ∧ p ≠ 0 ∧ hp_T M' p = 29 ∧ hp_N M' p = 15 ∧ (∀ j, j < 10 → hp_Q M' p j = hp_Q M E j) ∧ ∀ x, x ≠ p → sm M M' x) := by
  refine am_intro mkJ7_copyOf_1904c rfl (Nat.le_of_ble_eq_true rfl) rfl (fun X hX hM => ?_)
  refine vJ7_copyOf_1904c_0 hX hM ⟨t, Nat.le_refl _, Nat.le_refl _, am_CT.mono (fun o M' h => ?_) (k_cp3 (d := d) t hn hq)⟩
  obtain ⟨p, e, h⟩ := h
  exact ⟨p, e, p, rfl, h⟩
theorem k_nl15 {G : am_Gx} {d : Nat} {M : am_Hp} : am_CT G (d + 1) rJ8_newLength_cabcc [.int (i3 10), .int (i3 1), .int (i3 5)] M 0 0 (qi (i3 15) M) := by
  refine am_intro mkJ8_newLength_cabcc rfl (Nat.le_of_ble_eq_true rfl) rfl (fun X hX hM => ?_)
  refine vJ8_newLength_cabcc_0 hX hM ?_
  simp only [forall_eq]
  rw [show (i3 10 + if i3 1 < i3 5 then i3 5 else i3 1) = i3 15 by decide]
  exact ⟨fun e => absurd e (by decide), fun _ => ⟨fun e => absurd e (by decide), fun _ => ⟨rfl, rfl⟩⟩⟩
/-- what a list's array is: the empty one, or one of its own, not there in M0 -/
def lsR (M0 M : am_Hp) (a e n : Nat) (r : Nat → Nat) : Prop := hp_T M a = 8 ∧ hp_I M 142 a = i3 n ∧ ((n = 0 ∧ hp_R M 141 a = e + 1 ∧ hp_T M e = 43 ∧ hp_N M e = 0) ∨ ∃ E cap, 0 < n ∧ hp_T M0 E = 0 ∧ hp_R M 141 a = E + 1 ∧ hp_T M E = 29 ∧ hp_N M E = cap ∧ n ≤ cap ∧ (cap = 10 ∨ cap = 15) ∧ ∀ j, j < n → hp_Q M E j = r j ∧ r j ≠ 0 ∧ hp_T M (r j) = 22)
/-- what growing leaves -/
def gw (M0 M M' : am_Hp) (a n : Nat) (r : Nat → Nat) (p : Nat) : Prop := hp_T M p = 0 ∧ p ≠ 0 ∧ hp_T M' p = 29 ∧ (∃ cap, hp_N M' p = cap ∧ n + 1 ≤ cap ∧ (cap = 10 ∨ cap = 15)) ∧ (∀ j, j < n → hp_Q M' p j = r j) ∧ hp_R M' 141 a = p + 1 ∧ hp_T M' a = 8 ∧ (∀ u, hp_I M' u a = hp_I M u a) ∧ ∀ x, x ≠ p → x ≠ a → sm M M' x
theorem k_gr1 {G : am_Gx} {d a e n : Nat} {M0 M : am_Hp} {r : Nat → Nat} (he : em G e) (h : lsR M0 M a e n r) (hn : n = 0 ∨ n = 10 ∧ ∃ E, hp_R M 141 a = E + 1 ∧ hp_N M E = 10) : am_CT G (d + 3) rJx4a65c_grow_92f84 [.ref a, .int (i3 (n + 1))] M 1 15 (fun o M' => ∃ p, o = .inl (some (.ref p)) ∧ gw M0 M M' a n r p) := by
  refine am_intro mkJx4a65c_grow_92f84 rfl (Nat.le_of_ble_eq_true rfl) rfl (fun X hX hM => ?_)
  obtain ⟨ta, i142, h | ⟨E, cap, n0, f0, hE, tE, nE, ncap, hcap, hr⟩⟩ := h
  · obtain ⟨rfl, hR, te, ne⟩ := h
    refine vJx4a65c_grow_92f84_0 hX hM ⟨ta, ?_⟩
    simp only [forall_eq]
    rw [hR, Nat.add_sub_cancel, ne]
    refine ⟨by omega, .inr te, fun z => absurd z (by decide), fun _ => ⟨by omega, e, he, fun _ => ?_, fun z => absurd rfl z⟩⟩
    rw [show (if (10 : Int32) < i3 (0 + 1) then i3 (0 + 1) else (10 : Int32)) = i3 10 by decide, show (i3 10).toNatClampNeg = 10 by decide]
    refine ⟨by decide, by decide, Nat.le_refl _, by decide, fun p hp zp => ?_⟩
    have ap := ne_fresh ta hp
    obtain ⟨a1, a2, -, a4⟩ := a_at M p 29 10
    have sa := sm_a (M := M) (a := p) (x := a) (t := 29) (n := 10) ap
    exact ⟨p, rfl, hp, zp, a1, ⟨10, a2, by omega, .inl rfl⟩, fun j hj => absurd hj (Nat.not_lt_zero _), R_at _ _ _ _, sa.1.trans ta, fun u => sa.2.2.1 u, fun x x1 x2 => (sm_a x1).tr (sm_sR x2)⟩
  · rcases hn with rfl | ⟨rfl, E2, hE2, nE2⟩
    · exact absurd n0 (Nat.lt_irrefl _)
    · have eE : E2 = E := by rw [hE] at hE2; omega
      rw [eE] at nE2
      refine vJx4a65c_grow_92f84_0 hX hM ⟨ta, ?_⟩
      simp only [forall_eq]
      rw [hE, Nat.add_sub_cancel, nE2]
      refine ⟨by omega, .inl tE, fun _ => ?_, fun z => absurd (by decide) z⟩
      rw [show (Int32.ofNat 10 : Int32) = i3 10 from rfl, show i3 (10 + 1) - i3 10 = i3 1 by decide, show i3 10 >>> ((1 : Int32) &&& 31) = i3 5 by decide]
      refine ct_i k_nl15 ⟨ta, ?_⟩
      rw [hE, Nat.add_sub_cancel]
      refine ⟨by omega, Nat.le_refl _, Nat.le_refl _, am_CT.mono (fun o M' h => ?_) (k_cp2 (d := d) tE nE2 (fun i hi => .inr (by rw [(hr i hi).1]; exact (hr i hi).2.2)))⟩
      obtain ⟨p, e1, hp, zp, tp, np, hq, hf⟩ := h
      have ap := ne_fresh ta hp
      have sa := hf a ap
      refine ⟨p, e1, sa.1.trans ta, ?_⟩
      exact ⟨p, rfl, hp, zp, tp, ⟨15, np, by omega, .inr rfl⟩, fun j hj => (hq j hj).trans (hr j hj).1, R_at _ _ _ _, sa.1.trans ta, fun u => sa.2.2.1 u, fun x x1 x2 => (hf x x1).tr (sm_sR x2)⟩
theorem k_gr0 {G : am_Gx} {d a e n : Nat} {M0 M : am_Hp} {r : Nat → Nat} (he : em G e) (h : lsR M0 M a e n r) (hn : n = 0 ∨ n = 10 ∧ ∃ E, hp_R M 141 a = E + 1 ∧ hp_N M E = 10) : am_CT G (d + 4) rJx4a65c_grow_d5877 [.ref a] M 1 15 (fun o M' => ∃ p, o = .inl (some (.ref p)) ∧ gw M0 M M' a n r p) := by
  refine am_intro mkJx4a65c_grow_d5877 rfl (Nat.le_of_ble_eq_true rfl) rfl (fun X hX hM => ?_)
  refine vJx4a65c_grow_d5877_0 hX hM ⟨h.1, Nat.le_refl _, Nat.le_refl _, ?_⟩
  rw [h.2.1, i3_one]
  refine am_CT.mono (fun o M' h => ?_) (k_gr1 (d := d) he h hn)
  obtain ⟨p, e, h⟩ := h
  exact ⟨p, e, p, rfl, h⟩
/-- .. adding -/
def ad (M0 M M' : am_Hp) (a e n : Nat) (r : Nat → Nat) (v : Nat) : Prop := lsR M0 M' a e (n + 1) (va_up r n v) ∧ (∀ x, hp_T M x ≠ 0 → x ≠ a → hp_T M x ≠ 29 → sm M M' x) ∧ (∀ x, hp_T M x ≠ 0 → hp_T M0 x ≠ 0 → x ≠ a → sm M M' x)
theorem k_ad3 {G : am_Gx} {d a e n v A : Nat} {M0 M : am_Hp} {r : Nat → Nat} (he : em G e) (h : lsR M0 M a e n r) (hf0 : ∀ x, hp_T M x = 0 → hp_T M0 x = 0) (hn : n < 12) (hA : hp_R M 141 a = A + 1) (tv : hp_T M v = 22) (zv : v ≠ 0) : am_CT G (d + 5) rJx4a65c_add_72be8 [.ref a, .ref v, .ref A, .int (i3 n)] M 1 15 (fun o M' => o = .inl none ∧ ad M0 M M' a e n r v) := by
  refine am_intro mkJx4a65c_add_72be8 rfl (Nat.le_of_ble_eq_true rfl) rfl (fun X hX hM => ?_)
  have ta := h.1
  have av : v ≠ a := fun z => by rw [z, ta] at tv; omega
  have tA : hp_T M A = 29 ∨ hp_T M A = 43 := by
    rcases h.2.2 with ⟨-, hR, te, -⟩ | ⟨E, cap, -, -, hE, tE, -⟩
    · rw [hR] at hA; rw [show A = e by omega]; exact .inr te
    · rw [hE] at hA; rw [show A = E by omega]; exact .inl tE
  refine vJx4a65c_add_72be8_0 hX hM ⟨tA, fun eq => ⟨ta, Nat.le_refl _, Nat.le_refl _, am_CT.mono (fun o M' hh => ?_) (k_gr0 (d := d) he h ?_)⟩, fun neq => ?_⟩
  · obtain ⟨p, e1, hp, zp, tp, ⟨cap, np, ncap, hcap⟩, hq, hR, ta', hI, hf⟩ := hh
    have pv : v ≠ p := ne_fresh tv hp
    have tv' := (hf v pv av).1.trans tv
    have pa : p ≠ a := fun z => by rw [z, ta] at hp; omega
    refine ⟨p, e1, tp, tv', zv, by rw [np]; exact vp_in_i3 (by omega) (by omega), ?_⟩
    simp only [forall_eq]
    rw [i3_toNat (by omega)]
    have s9 : ∀ x, x ≠ p → x ≠ a → sm M (hp_sI (hp_sQ M' p n v) 142 a (i3 n + 1)) x := fun x x1 x2 => ((hf x x1 x2).tr (sm_sQ x1)).tr (sm_sI x2)
    refine ⟨ta', trivial, ⟨ta', by rw [hp_I_sI, i3_one], .inr ⟨p, cap, by omega, hf0 p hp, hR, tp, np, ncap, hcap, fun j hj => ?_⟩⟩, fun x x1 x2 x3 => s9 x (ne_fr x1 hp) x2, fun x x1 x2 x3 => s9 x (ne_fr x1 hp) x3⟩
    by_cases jn : j = n
    · subst jn
      rw [up_e]
      exact ⟨by simp [hp_sI, hp_sQ, hp_Q, hp_u], zv, tv'⟩
    · rw [up_n _ _ jn]
      rcases h.2.2 with ⟨n0, -⟩ | ⟨E, cap2, -, -, hE, tE, -, -, -, hr⟩
      · omega
      · obtain ⟨r1, r2, r3⟩ := hr j (by omega)
        exact ⟨(show hp_Q (hp_sQ M' p n v) p j = hp_Q M' p j by simp [hp_sQ, hp_Q, hp_u, jn]).trans (hq j (by omega)), r2, (hf (r j) (ne_fresh r3 hp) (fun z => by rw [z, ta] at r3; omega)).1.trans r3⟩
  · rcases h.2.2 with ⟨n0, -⟩ | ⟨E, cap, n0, -, hE, tE, nE, ncap, hcap, hr⟩
    · exact .inl n0
    · have eE : A = E := by rw [hE] at hA; omega
      rw [eE, nE] at eq
      have := (i3_eq (a := n) (b := cap) (by omega) (by omega)).mp eq
      rcases hcap with c | c
      · exact .inr ⟨by omega, E, hE, by omega⟩
      · omega
  · rcases h.2.2 with ⟨n0, hR, te, ne⟩ | ⟨E, cap, n0, f0, hE, tE, nE, ncap, hcap, hr⟩
    · exfalso
      apply neq
      rw [hR] at hA
      rw [show A = e by omega, ne, n0]
      rfl
    · have eE : A = E := by rw [hE] at hA; omega
      subst eE
      have nc : n < cap := by
        rcases Nat.lt_or_ge n cap with y | y
        · exact y
        · exact absurd (by rw [nE, show cap = n by omega]; rfl) neq
      have aE : A ≠ a := fun z => by rw [z, ta] at tE; omega
      refine ⟨tE, tv, zv, by rw [nE]; exact vp_in_i3 nc (by omega), ?_⟩
      simp only [forall_eq]
      rw [i3_toNat (by omega)]
      have s9 : ∀ x, x ≠ A → x ≠ a → sm M (hp_sI (hp_sQ M A n v) 142 a (i3 n + 1)) x := fun x x1 x2 => (sm_sQ x1).tr (sm_sI x2)
      refine ⟨ta, trivial, ⟨ta, by rw [hp_I_sI, i3_one], .inr ⟨A, cap, by omega, f0, hE, tE, nE, nc, hcap, fun j hj => ?_⟩⟩, fun x x1 x2 x3 => s9 x (fun z => x3 (by rw [z]; exact tE)) x2, fun x x1 x2 x3 => s9 x (fun z => x2 (by rw [z]; exact f0)) x3⟩
      by_cases jn : j = n
      · subst jn
        rw [up_e]
        exact ⟨by simp [hp_sI, hp_sQ, hp_Q, hp_u], zv, tv⟩
      · rw [up_n _ _ jn]
        obtain ⟨r1, r2, r3⟩ := hr j (by omega)
        exact ⟨(show hp_Q (hp_sQ M A n v) A j = hp_Q M A j by simp [hp_sQ, hp_Q, hp_u, jn]).trans r1, r2, r3⟩
theorem k_ad {G : am_Gx} {d a e n v : Nat} {M0 M : am_Hp} {r : Nat → Nat} (he : em G e) (h : lsR M0 M a e n r) (hf0 : ∀ x, hp_T M x = 0 → hp_T M0 x = 0) (hn : n < 12) (tv : hp_T M v = 22) (zv : v ≠ 0) : am_CT G (d + 6) rJx4a65c_add_9ea2d [.ref a, .ref v] M 1 15 (fun o M' => ∃ w : Int32, o = .inl (some (.int w)) ∧ ad M0 M M' a e n r v) := by
  refine am_intro mkJx4a65c_add_9ea2d rfl (Nat.le_of_ble_eq_true rfl) rfl (fun X hX hM => ?_)
  refine vJx4a65c_add_9ea2d_0 hX hM ⟨h.1, ?_⟩
  simp only [forall_eq]
  have hR : ∃ A, hp_R M 141 a = A + 1 := by
    rcases h.2.2 with ⟨-, hR, -⟩ | ⟨E, cap, -, -, hE, -⟩
    · exact ⟨_, hR⟩
    · exact ⟨_, hE⟩
  obtain ⟨A, hA⟩ := hR
  have h1 : lsR M0 (hp_sI M 140 a (hp_I M 140 a + 1)) a e n r := ⟨h.1, (hp_I_sIu _ _ _ _ (by decide)).trans h.2.1, h.2.2⟩
  rw [show hp_R (hp_sI M 140 a (hp_I M 140 a + 1)) 141 a = A + 1 from hA, Nat.add_sub_cancel, h1.2.1]
  refine ⟨by omega, Nat.le_refl _, Nat.le_refl _, am_CT.mono (fun o M' hh => ?_) (k_ad3 (d := d) (M := hp_sI M 140 a (hp_I M 140 a + 1)) he h1 hf0 hn hA tv zv)⟩
  obtain ⟨e1, g1, g2, g3⟩ := hh
  exact ⟨e1, _, rfl, g1, fun x x1 x2 x3 => (sm_sI x2).tr (g2 x x1 x2 x3), fun x x1 x2 x3 => (sm_sI x3).tr (g3 x x1 x2 x3)⟩
