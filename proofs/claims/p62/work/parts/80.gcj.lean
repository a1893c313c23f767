/-! .. save, restore, undo, tripsWithin of the class -/
theorem ag_sI {M : am_Hp} {u a x : Nat} {v : Int32} (h : x ≠ a) : ag M (hp_sI M u a v) x := ⟨fun u' => hp_I_sIa M u u' v h, rfl, rfl⟩
theorem sk_sI {M : am_Hp} {u a : Nat} {v : Int32} : sk M (hp_sI M u a v) := ⟨rfl, rfl, rfl, rfl, rfl⟩
theorem bL_ag {M M' : am_Hp} {C : Nat → Nat} (hs : sk M M') (hc : ∀ i, i < 22 → ag M M' (C i)) (h : bL M C ∧ bQ M C) : bL M' C ∧ bQ M' C := ⟨bL_sk h.1 hs, bQ_fr (hc 1 (by omega)).2.2 (hc 2 (by omega)).2.2 h.2⟩
/-- the state after a call that leaves now and the history alone -/
theorem gL_side {T : Nat} {M M' : am_Hp} {a h E n c : Nat} {L : Nat → Nat → Nat} {g sn sn' : md_R} {hist : Nat → md_R} (hg : gL T M a h E n c L g sn hist) (hs : sk M M') (ah : ag M M' h) (aE : ag M M' E) (aL : ∀ i j, i < 9 → j < 22 → ag M M' (L i j)) (t : bL M' (L 9) ∧ bQ M' (L 9)) (s : bL M' (L 10) ∧ bQ M' (L 10)) (hsn : hp_I M' 126 a = i3 0 ∨ (hp_I M' 126 a = i3 1 ∧ bR M' (L 10) sn' ∧ md_wf T sn')) : gL T M' a h E n c L g sn' hist := by
  obtain ⟨ta, ⟨r0, r1, r2, r3⟩, ⟨q1, q2⟩, -, -, hy, -⟩ := hg
  exact ⟨by rw [hs.1]; exact ta, ⟨by rw [hs.2.2.1]; exact r0, by rw [hs.2.2.1]; exact r1, by rw [hs.2.2.1]; exact r2, by rw [hs.2.2.1]; exact r3⟩, ⟨bR_ag hs (fun i hi => aL 8 i (by omega) hi) (md_wf_ok q2) q1, q2⟩, t, s, yR_ag hs (Nat.le_refl _) ah aE (fun i j hi hj => aL i j (by omega) hj) hy, hsn⟩
/-- frame of a call that may touch its own cell u too -/
def zG (u a h : Nat) (L : Nat → Nat → Nat) (M M' : am_Hp) : Prop := sk M M' ∧ (∀ x, x ≠ a → x ≠ h → (∀ i j, i < 11 → j < 22 → x ≠ L i j) → ag M M' x) ∧ ∀ w, w ≠ u → hp_I M' w a = hp_I M w a
theorem g_save {G : am_Gx} {d T a h E n c : Nat} {M : am_Hp} {L : Nat → Nat → Nat} {g sn : md_R} {hist : Nat → md_R} (hj : gJ a h E L) (hg : gL T M a h E n c L g sn hist) : am_CT G (d + 3) rX6_save [.ref a] M 0 0 (fun o M' => o = .inl (some (.int (g 1))) ∧ gL T M' a h E n c L g g hist ∧ zG 126 a h L M M') := by
  have hg0 := hg
  obtain ⟨ta, ⟨ra, -, rs, rh⟩, ⟨hR, hw⟩, ht, ⟨s1, s2⟩, hy, -⟩ := hg
  have b0 := hR.1.1.1
  have y0 := hR.1.2.2.2.1 0 (by omega)
  have z0 := s1.2.2.2.1 0 (by omega)
  have zb := s1.1.1
  have i31 := hR.2.2.1.1
  have j1 := hj.1
  have j2 := hj.2.1
  refine am_intro mkX6_save rfl (Nat.le_of_ble_eq_true rfl) rfl (fun X hX hM => ?_)
  refine vX6_save_0 hX hM ?_
  simp only [forall_eq]
  rw [ra, rs]
  refine ⟨ta, z0, y0, zb, ct_w (k_copy s1 s2 (fun i j hi hj' => j1 8 10 (by omega) (by omega) (by omega) i j hi hj') hR hw) (fun M6 r6 f6 => ?_)⟩
  have e1 : hp_R M6 = hp_R M := f6.1.2.2.1
  have e2 : hp_T M6 = hp_T M := f6.1.1
  have A6 : ∀ x, (∀ j, j < 22 → x ≠ L 10 j) → x ≠ a → ag M (hp_sI M6 126 a 1) x := fun x x1 x2 => ag.tr (f6.2 x x1) (ag_sI x2)
  have hs : sk M (hp_sI M6 126 a 1) := f6.1.trans sk_sI
  have o8 : ∀ i j, i < 10 → j < 22 → ag M (hp_sI M6 126 a 1) (L i j) := fun i j hi hj' => A6 _ (fun k hk => j1 i 10 (by omega) (by omega) (by omega) j k hj' hk) (j2 i j (by omega) hj').1
  have i3' : hp_I (hp_sI M6 126 a 1) 3 (L 8 0) = g 1 := by rw [(o8 8 0 (by omega) (by omega)).1, i31]
  refine ⟨by rw [e2]; exact ta, .inr rfl, ?_⟩
  rw [show hp_R (hp_sI M6 126 a 1) = hp_R M from hs.2.2.1, show hp_T (hp_sI M6 126 a 1) = hp_T M from hs.1, ra]
  have a10 : ∀ i, i < 22 → ag M6 (hp_sI M6 126 a 1) (L 10 i) := fun i hi => ag_sI (j2 10 i (by omega) hi).1
  refine ⟨y0, b0, by rw [i3'], ?_, hs, fun x x1 x2 x3 => A6 x (fun j hj' => x3 10 j (by omega) hj') x1, fun w hw' => ?_⟩
  · exact gL_side hg0 hs (A6 h (fun j hj' z => (j2 10 j (by omega) hj').2.1 z.symm) hj.2.2.1.symm) (A6 E (fun j hj' z => (j2 10 j (by omega) hj').2.2 z.symm) hj.2.2.2.1.symm) (fun i j hi hj' => o8 i j (by omega) hj') (bL_ag hs (fun i hi => o8 9 i (by omega) hi) ht) (bL_ag (sk_sI) a10 ⟨r6.1, r6.2.1⟩) (.inr ⟨hp_I_sI _ _ _ _, bR_ag sk_sI a10 (md_wf_ok hw) r6, hw⟩)
  · rw [hp_I_sIu _ _ _ _ hw', (f6.2 a (fun j hj' z => (j2 10 j (by omega) hj').1 z.symm)).1]
theorem g_undo0 {G : am_Gx} {d T a h E n : Nat} {M : am_Hp} {L : Nat → Nat → Nat} {g sn : md_R} {hist : Nat → md_R} (hj : gJ a h E L) (hg : gL T M a h E n 0 L g sn hist) : am_CT G (d + 4) rX6_undo [.ref a] M 1 6 (fun o M' => o = .inr "java/lang/IllegalStateException" ∧ M' = M) := by
  obtain ⟨ta, ⟨ra, -, -, rh⟩, -, -, -, hy, -⟩ := hg
  refine am_intro mkX6_undo rfl (Nat.le_of_ble_eq_true rfl) rfl (fun X hX hM => ?_)
  refine vX6_undo_0 hX hM ?_
  simp only [forall_eq]
  rw [rh, hy.1.2.2.2.2.2.1]
  exact ⟨ta, hj.2.2.2.2.2, hy.1.1, fun _ => ⟨by omega, by omega, by simp⟩, fun z => absurd rfl z⟩
theorem g_undo1 {G : am_Gx} {d T a h E n c : Nat} {M : am_Hp} {L : Nat → Nat → Nat} {g sn : md_R} {hist : Nat → md_R} (hj : gJ a h E L) (hg : gL T M a h E n (c + 1) L g sn hist) : am_CT G (d + 4) rX6_undo [.ref a] M 1 6 (fun o M' => o = .inl (some (.int (i3 c))) ∧ (∃ n1, gL T M' a h E n1 c L (hist c) sn hist) ∧ zF h L M M') := by
  obtain ⟨ta, ⟨ra, rt, rs, rh⟩, ⟨hR, hw⟩, ht, hs10, hy, hsn⟩ := hg
  have b0 := hR.1.1.1
  have y0 := hR.1.2.2.2.1 0 (by omega)
  have j1 := hj.1
  have j2 := hj.2.1
  have hc8 := hy.1.2.2.2.2.2.2.2.2
  have hwc := (hy.2.2.2.2.2 c (by omega)).2
  have c0 : ¬ i3 (c + 1) = 0 := fun z => absurd ((i3_eq (b := 0) (by omega) (by omega)).mp z) (by omega)
  refine am_intro mkX6_undo rfl (Nat.le_of_ble_eq_true rfl) rfl (fun X hX hM => ?_)
  refine vX6_undo_0 hX hM ?_
  simp only [forall_eq]
  rw [rh, hy.1.2.2.2.2.2.1, ra]
  refine ⟨ta, hj.2.2.2.2.2, hy.1.1, fun z => absurd z c0, fun _ => ⟨hj.2.2.2.2.2, y0, hy.1.1, ct_vq (k_takeBack hy hR.1 hR.2.1 (fun i x y hi hx hy' => j1 8 i (by omega) (by omega) (by omega) x y hx hy') (fun i hi => ⟨(j2 8 i (by omega) hi).2.1, (j2 8 i (by omega) hi).2.2⟩)) (fun M1 W => ?_)⟩⟩
  obtain ⟨r1, y1, hs, hA⟩ := W
  rw [show hp_R M1 = hp_R M from hs.2.2.1, show hp_T M1 = hp_T M from hs.1, rh, y1.1.2.2.2.2.2.1]
  have A : ∀ x, x ≠ h → (∀ i, i < 22 → x ≠ L 8 i) → ag M M1 x := hA
  have o9 : ∀ k, 8 < k → k < 11 → ∀ i, i < 22 → ag M M1 (L k i) := fun k k1 k2 i hi => A _ (j2 k i (by omega) hi).2.1 (fun j hj' => j1 k 8 (by omega) (by omega) (by omega) i j hi hj')
  have aa : ag M M1 a := A a hj.2.2.1 (fun j hj' z => (j2 8 j (by omega) hj').1 z.symm)
  refine ⟨ta, hj.2.2.2.2.2, hy.1.1, rfl, ⟨_, by rw [hs.1]; exact ta, ⟨by rw [hs.2.2.1]; exact ra, by rw [hs.2.2.1]; exact rt, by rw [hs.2.2.1]; exact rs, by rw [hs.2.2.1]; exact rh⟩, ⟨r1, hwc⟩, bL_ag hs (o9 9 (by omega) (by omega)) ht, bL_ag hs (o9 10 (by omega) (by omega)) hs10, y1, ?_⟩, hs, fun x x1 x2 => A x x1 (fun i hi => x2 8 i (by omega) hi)⟩
  rw [aa.1]
  rcases hsn with z | ⟨z1, z2, z3⟩
  · exact .inl z
  · exact .inr ⟨z1, bR_ag hs (o9 10 (by omega) (by omega)) (md_wf_ok z3) z2, z3⟩
theorem gL_trial {T : Nat} {M M' : am_Hp} {a h E n c : Nat} {L : Nat → Nat → Nat} {g sn : md_R} {hist : Nat → md_R} (hj : gJ a h E L) (hg : gL T M a h E n c L g sn hist) (f : bF (L 9) M M') (t : bL M' (L 9) ∧ bQ M' (L 9)) : gL T M' a h E n c L g sn hist ∧ zF h L M M' := by
  have hg0 := hg
  obtain ⟨ta, -, -, -, hs10, -, hsn⟩ := hg
  have j1 := hj.1
  have j2 := hj.2.1
  have o : ∀ k, k ≠ 9 → k < 11 → ∀ i, i < 22 → ag M M' (L k i) := fun k k1 k2 i hi => f.2 _ (fun j hj' => j1 k 9 (by omega) (by omega) (by omega) i j hi hj')
  have aa : ag M M' a := f.2 a (fun j hj' z => (j2 9 j (by omega) hj').1 z.symm)
  refine ⟨gL_side hg0 f.1 (f.2 h (fun j hj' z => (j2 9 j (by omega) hj').2.1 z.symm)) (f.2 E (fun j hj' z => (j2 9 j (by omega) hj').2.2 z.symm)) (fun i j hi hj' => o i (by omega) (by omega) j hj') t (bL_ag f.1 (o 10 (by omega) (by omega)) hs10) ?_, f.1, fun x x1 x2 => f.2 x (fun i hi => x2 9 i (by omega) hi)⟩
  rw [aa.1]
  rcases hsn with z | ⟨z1, z2, z3⟩
  · exact .inl z
  · exact .inr ⟨z1, bR_ag f.1 (o 10 (by omega) (by omega)) (md_wf_ok z3) z2, z3⟩
theorem g_tripsWithin {G : am_Gx} {d T a h E n c : Nat} {M : am_Hp} {L : Nat → Nat → Nat} {g sn : md_R} {hist : Nat → md_R} {v : Int32} (hj : gJ a h E L) (hg : gL T M a h E n c L g sn hist) (hT : T < 90000000) : am_CT G (d + 7) rX6_tripsWithin [.ref a, .int v] M 1 6 (fun o M' => o = (if (sq_trips g v).1 = 0 then .inl (some (.int (sq_trips g v).2)) else .inr "java/lang/IllegalArgumentException") ∧ gL T M' a h E n c L g sn hist ∧ zF h L M M') := by
  have hg0 := hg
  obtain ⟨ta, ⟨ra, rt, rs, rh⟩, ⟨hR, hw⟩, ht, hs10, hy, hsn⟩ := hg
  have b0 := hR.1.1.1
  have y0 := hR.1.2.2.2.1 0 (by omega)
  have z9 := ht.1.2.2.2.1 0 (by omega)
  have t9 := ht.1.1.1
  have j1 := hj.1
  have j2 := hj.2.1
  have zr : zF h L M M := ⟨sk.rf M, fun x _ _ => ⟨fun _ => rfl, rfl, rfl⟩⟩
  refine am_intro mkX6_tripsWithin rfl (Nat.le_of_ble_eq_true rfl) rfl (fun X hX hM => ?_)
  refine vX6_tripsWithin_0 hX hM ?_
  simp only [forall_eq]
  rw [ra, rt]
  refine ⟨fun a1 => ⟨by omega, by omega, ?_, hg0, zr⟩, fun a1 => ⟨fun a2 => ?_, fun a2 => ⟨by omega, by omega, ?_, hg0, zr⟩⟩⟩
  · unfold sq_trips
    rw [if_neg (show ¬ md_bt (i3 0) v (i3 90) = true from fun z => absurd (md_bt_iff.mp z).1 (Int32.not_le.mpr a1))]
    rfl
  · have hb : md_bt (i3 0) v (i3 90) = true := md_bt_iff.mpr ⟨Int32.not_lt.mp a1, a2⟩
    obtain ⟨k, k1, k2, rfl⟩ := md_bt_i3 (by omega) hb (by omega)
    refine ⟨ta, z9, y0, t9, ct_w (k_copy ht.1 ht.2 (fun i j hi hj' => j1 8 9 (by omega) (by omega) (by omega) i j hi hj') hR hw) (fun M8 r8 f8 => ?_)⟩
    rw [show hp_R M8 = hp_R M from f8.1.2.2.1, show hp_T M8 = hp_T M from f8.1.1, rt]
    refine ⟨ta, z9, t9, ct_b (k_letPass r8 hw (by omega)) (fun M2 r2 f2 => ?_)⟩
    have F := f8.trans f2
    obtain ⟨x1, x2⟩ := gL_trial hj hg0 F ⟨r2.1, r2.2.1⟩
    refine ⟨?_, x1, x2⟩
    unfold sq_trips
    rw [if_pos hb, i3_toNat (by omega)]
    rfl
  · unfold sq_trips
    rw [if_neg (show ¬ md_bt (i3 0) v (i3 90) = true from fun z => a2 (md_bt_iff.mp z).2)]
    rfl
theorem g_restore0 {G : am_Gx} {d T a h E n c : Nat} {M : am_Hp} {L : Nat → Nat → Nat} {g sn : md_R} {hist : Nat → md_R} (hg : gL T M a h E n c L g sn hist) (h0 : hp_I M 126 a = i3 0) : am_CT G (d + 3) rX6_restore [.ref a] M 1 6 (fun o M' => o = .inr "java/lang/IllegalStateException" ∧ M' = M) := by
  obtain ⟨ta, -⟩ := hg
  refine am_intro mkX6_restore rfl (Nat.le_of_ble_eq_true rfl) rfl (fun X hX hM => ?_)
  exact vX6_restore_0 hX hM ⟨ta, fun _ => ⟨by omega, by omega, rfl, rfl⟩, fun z => absurd h0 z⟩
theorem g_restore1 {G : am_Gx} {d T a h E n c : Nat} {M : am_Hp} {L : Nat → Nat → Nat} {g sn : md_R} {hist : Nat → md_R} (hj : gJ a h E L) (hg : gL T M a h E n c L g sn hist) (h1 : hp_I M 126 a = i3 1) : am_CT G (d + 3) rX6_restore [.ref a] M 1 6 (fun o M' => o = .inl (some (.int (sn 1))) ∧ gL T M' a h E n 0 L sn sn hist ∧ zF h L M M') := by
  obtain ⟨ta, ⟨ra, rt, rs, rh⟩, ⟨hR, hw⟩, ht, hs10, hy, hsn⟩ := hg
  have b0 := hR.1.1.1
  have y0 := hR.1.2.2.2.1 0 (by omega)
  have z10 := hs10.1.2.2.2.1 0 (by omega)
  have j1 := hj.1
  have j2 := hj.2.1
  obtain ⟨-, x2, x3⟩ : hp_I M 126 a = i3 1 ∧ bR M (L 10) sn ∧ md_wf T sn := by
    rcases hsn with z | z
    · rw [h1] at z
      exact absurd z (by decide)
    · exact z
  refine am_intro mkX6_restore rfl (Nat.le_of_ble_eq_true rfl) rfl (fun X hX hM => ?_)
  refine vX6_restore_0 hX hM ?_
  simp only [forall_eq]
  rw [ra, rs, h1]
  refine ⟨ta, fun z => absurd z (by decide), fun _ => ⟨y0, z10, b0, ct_w (k_copy hR.1 hR.2.1 (fun i j hi hj' => j1 10 8 (by omega) (by omega) (by omega) i j hi hj') x2 x3) (fun M1 r1 f1 => ?_)⟩⟩
  rw [show hp_R M1 = hp_R M from f1.1.2.2.1, show hp_T M1 = hp_T M from f1.1.1, rh]
  have hs : sk M (hp_sI M1 41 h 0) := f1.1.trans sk_sI
  have A : ∀ x, x ≠ h → (∀ i, i < 22 → x ≠ L 8 i) → ag M (hp_sI M1 41 h 0) x := fun x e1 e2 => ag.tr (f1.2 x e2) (ag_sI e1)
  have o : ∀ k, k ≠ 8 → k < 11 → ∀ i, i < 22 → ag M (hp_sI M1 41 h 0) (L k i) := fun k k1 k2 i hi => A _ (j2 k i (by omega) hi).2.1 (fun j hj' => j1 k 8 (by omega) (by omega) (by omega) i j hi hj')
  have o8 : ∀ i, i < 22 → ag M1 (hp_sI M1 41 h 0) (L 8 i) := fun i hi => ag_sI (j2 8 i (by omega) hi).2.1
  have r2 : bR (hp_sI M1 41 h 0) (L 8) sn := bR_ag sk_sI o8 (md_wf_ok x3) r1
  have aa : ag M (hp_sI M1 41 h 0) a := A a hj.2.2.1 (fun j hj' z => (j2 8 j (by omega) hj').1 z.symm)
  have aE : ag M (hp_sI M1 41 h 0) E := A E hj.2.2.2.2.1.symm (fun j hj' z => (j2 8 j (by omega) hj').2.2 z.symm)
  obtain ⟨⟨t0, q0, tE, nE, zE, i41, i42, hn, hc⟩, hH, hJ, hO, hhE, hX0⟩ := hy
  have e42 : hp_I (hp_sI M1 41 h 0) 42 h = i3 n := by rw [hp_I_sIu _ _ _ _ (by omega), (f1.2 h (fun j hj' z => (j2 8 j (by omega) hj').2.1 z.symm)).1, i42]
  refine ⟨ta, hj.2.2.2.2.2, t0, ?_⟩
  rw [show hp_R (hp_sI M1 41 h 0) = hp_R M from hs.2.2.1, show hp_T (hp_sI M1 41 h 0) = hp_T M from hs.1, ra]
  refine ⟨y0, b0, by rw [r2.2.2.1.1], ⟨by rw [hs.1]; exact ta, ⟨by rw [hs.2.2.1]; exact ra, by rw [hs.2.2.1]; exact rt, by rw [hs.2.2.1]; exact rs, by rw [hs.2.2.1]; exact rh⟩, ⟨r2, x3⟩, bL_ag hs (o 9 (by omega) (by omega)) ht, bL_ag hs (o 10 (by omega) (by omega)) hs10, ⟨⟨by rw [hs.1]; exact t0, by rw [hs.2.2.1]; exact q0, by rw [hs.1]; exact tE, by rw [hs.2.1]; exact nE, zE, hp_I_sI _ _ _ _, e42, hn, by omega⟩, fun i hi => ?_, hJ, hO, hhE, fun j hj' => absurd hj' (by omega)⟩, .inr ⟨by rw [aa.1, h1], bR_ag hs (o 10 (by omega) (by omega)) (md_wf_ok x3) x2, x3⟩⟩, hs, fun x e1 e2 => A x e1 (fun i hi => e2 8 i (by omega) hi)⟩
  obtain ⟨w1, w2, w3⟩ := hH i hi
  exact ⟨by rw [aE.2.2]; exact w1, bL_ag hs (o i (by omega) (by omega)) ⟨w2, w3⟩⟩
