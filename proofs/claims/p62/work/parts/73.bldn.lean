/-! .. a command keeps a row well formed; the log's places; the history of the class -/
theorem md_iw_i3 {w : Int32} (h : md_iw w = true) : ∃ k, 10 ≤ k ∧ k ≤ 150 ∧ w = i3 k := by
  refine md_bt_i3 (by omega) ?_ (by omega)
  exact h
theorem md_wf_pf {T k : Nat} {g x : md_R} (hw : md_wf T g) (hT : T < 200000000) (hk : k < 8) (h0 : rf_k g k x = 0) : md_wf (T + 1830) (pf_k g k x) := by
  have ok := md_wf_ok hw
  have e8 : k = 0 ∨ k = 1 ∨ k = 2 ∨ k = 3 ∨ k = 4 ∨ k = 5 ∨ k = 6 ∨ k = 7 := by omega
  rcases e8 with rfl | rfl | rfl | rfl | rfl | rfl | rfl | rfl
  · obtain ⟨a1, a2, -, a3, a4⟩ := rf_add_0 ok h0
    obtain ⟨s, hs, e1⟩ := md_fl_iff.mp a1
    obtain ⟨t, ht, e2⟩ := md_fl_iff.mp a2
    obtain ⟨w, w1, w2, e3⟩ := md_iw_i3 a3
    rw [show pf_k g 0 x = md_ad g (x 0) (x 1) (x 2) from rfl, e1, e2, e3]
    exact md_wf_mono (by omega) (md_wf_ad hw a4 hs ht w1 w2)
  · obtain ⟨p, hp, e1, -⟩ := rf_rem_0 ok h0
    have := ok.2
    rw [show pf_k g 1 x = md_dr g (x 0).toNatClampNeg from rfl, e1, i3_toNat (by omega)]
    exact md_wf_mono (by omega) (md_wf_dr hp hw)
  · obtain ⟨c, hc, e1, e2, -⟩ := rf_hold_0 h0
    obtain ⟨q, q1, q2, e3⟩ := md_bt_i3 (by omega) e2 (by omega)
    rw [show pf_k g 2 x = va_up g (18 + (x 0).toNatClampNeg) (x 1) from rfl, e1, e3, i3_toNat (by omega)]
    exact md_wf_mono (by omega) (md_wf_doors hw hc q2)
  · obtain ⟨c, hc, e1, -⟩ := rf_stop_0 h0
    rw [show pf_k g 3 x = md_so g (x 0).toNatClampNeg from rfl, e1, i3_toNat (by omega)]
    exact md_wf_mono (by omega) (md_wf_so hw hc)
  · obtain ⟨c, hc, e1, -⟩ := rf_start_0 h0
    rw [show pf_k g 4 x = va_up g (21 + (x 0).toNatClampNeg) 0 from rfl, e1, i3_toNat (by omega)]
    exact md_wf_mono (by omega) (md_wf_si hw hc)
  · obtain ⟨c, hc, e1, e2, e4⟩ := rf_limit_0 h0
    obtain ⟨q, q1, q2, e3⟩ := md_bt_i3 (by omega) e2 (by omega)
    rw [show pf_k g 5 x = va_up g (15 + (x 0).toNatClampNeg) (x 1) from rfl, e1, e3, i3_toNat (by omega)]
    have n12 := ok.2
    have l1 := md_lN_le (c := c) hw.2.2.1
    rw [e3, md_ld_N hw.2.2.1, i3_le (by omega) (by omega)] at e4
    exact md_wf_mono (by omega) (md_wf_cap hw hc q1 q2 e4)
  · obtain ⟨n, n1, n2, e1⟩ := rf_pass_0 h0
    rw [show pf_k g 6 x = md_it g (x 0).toNatClampNeg from rfl, e1, i3_toNat (by omega)]
    exact md_wf_mono (by omega) (md_wf_it hw n (by omega))
  · exact md_wf_mono (by omega) (md_wf_it hw 1 (by omega))
def md_rm (g : md_R) (v : Int32) : Bool := decide (0 ≤ v) && (decide (v < g 3) && decide (v < 10))
theorem k_remembers {G : am_Gx} {d : Nat} {M : am_Hp} {B : Nat → Nat} {g : md_R} {v : Int32} (hR : bR M B g) : am_CT G (d + 1) rX5_remembers [.ref (B 3), .int v] M 0 0 (qi (bI (md_rm g v)) M) := by
  have t3 := hR.1.1.2.2.2.2.2.2.2.2.1
  have l3 := hR.2.2.2.2.2.1
  refine am_intro mkX5_remembers rfl (Nat.le_of_ble_eq_true rfl) rfl (fun X hX hM => ?_)
  refine vX5_remembers_0 hX hM ?_
  rw [l3]
  unfold md_rm
  refine ⟨fun a1 => qF ?_, fun a1 => ⟨t3, fun a2 => qF ?_, fun a2 => ⟨fun a3 => qF ?_, fun a3 => qT ?_⟩⟩⟩
  · rw [decide_eq_false (Int32.not_le.mpr a1)]
    simp
  · rw [decide_eq_false (Int32.not_lt.mpr a2)]
    simp
  · rw [decide_eq_false (Int32.not_lt.mpr a3)]
    simp
  · rw [decide_eq_true (Int32.not_lt.mp a1), decide_eq_true (Int32.not_le.mp a2), decide_eq_true (Int32.not_le.mp a3)]
    rfl
theorem k_placeOf {G : am_Gx} {d t r : Nat} {M : am_Hp} {B : Nat → Nat} {g : md_R} (hR : bR M B g) (h3 : g 3 = i3 t) (hr : r < t) (ht : t < 2147483648) : am_CT G (d + 1) rX5_placeOf [.ref (B 3), .int (i3 r)] M 0 0 (qi (i3 ((t - 1 - r) % 10)) M) := by
  have t3 := hR.1.1.2.2.2.2.2.2.2.2.1
  have l3 := hR.2.2.2.2.2.1
  refine am_intro mkX5_placeOf rfl (Nat.le_of_ble_eq_true rfl) rfl (fun X hX hM => ?_)
  refine vX5_placeOf_0 hX hM ⟨t3, ?_, rfl⟩
  rw [l3, h3, show (1 : Int32) = i3 1 from rfl, i3_sub' (by omega), i3_sub' (by omega), show (10 : Int32) = i3 10 from rfl, i3_mod (by omega) (by omega)]
def yR (T : Nat) (M : am_Hp) (h E : Nat) (H : Nat → Nat → Nat) (n c : Nat) (hist : Nat → md_R) : Prop := (hp_T M h = 3 ∧ hp_R M 40 h = E ∧ hp_T M E = 25 ∧ hp_N M E = 8 ∧ E ≠ 0 ∧ hp_I M 41 h = i3 c ∧ hp_I M 42 h = i3 n ∧ n < 8 ∧ c ≤ 8) ∧ (∀ i, i < 8 → hp_Q M E i = H i 0 ∧ bL M (H i) ∧ bQ M (H i)) ∧ (∀ i j, i < 8 → j < 8 → i ≠ j → ∀ a b, a < 22 → b < 22 → H i a ≠ H j b) ∧ (∀ i a, i < 8 → a < 22 → H i a ≠ h ∧ H i a ≠ E) ∧ h ≠ E ∧ ∀ j, j < c → bR M (H ((n + 8 - c + j) % 8)) (hist j) ∧ md_wf T (hist j)
def yP (c : Nat) (g : md_R) (hist : Nat → md_R) : Nat → md_R := fun j => if c = 8 then (if j = 7 then g else hist (j + 1)) else if j = c then g else hist j
theorem bL_fr {M M' : am_Hp} {C : Nat → Nat} (hs : sk M M') (h : bL M C) : bL M' C := bL_sk h hs
theorem bQ_fr {M M' : am_Hp} {C : Nat → Nat} (h1 : hp_Q M' (C 1) = hp_Q M (C 1)) (h2 : hp_Q M' (C 2) = hp_Q M (C 2)) (h : bQ M C) : bQ M' C := by
  unfold bQ at h ⊢
  rw [h1, h2]
  exact h
def yF (h : Nat) (H : Nat → Nat → Nat) (M M' : am_Hp) : Prop := sk M M' ∧ ∀ a, a ≠ h → (∀ i j, i < 8 → j < 22 → a ≠ H i j) → (∀ u, hp_I M' u a = hp_I M u a) ∧ hp_E M' a = hp_E M a ∧ hp_Q M' a = hp_Q M a
theorem k_remember {G : am_Gx} {d T h E n c : Nat} {M : am_Hp} {C : Nat → Nat} {H : Nat → Nat → Nat} {g : md_R} {hist : Nat → md_R} (hy : yR T M h E H n c hist) (hR : bR M C g) (hw : md_wf T g) (hd : ∀ i a b, i < 8 → a < 22 → b < 22 → C a ≠ H i b) : am_CT G (d + 3) rX2_remember [.ref h, .ref (C 0)] M 0 0 (fun o M' => o = .inl none ∧ yR T M' h E H ((n + 1) % 8) (if c = 8 then 8 else c + 1) (yP c g hist) ∧ yF h H M M') := by
  obtain ⟨⟨t0, r0, tE, nE, zE, i41, i42, hn, hc⟩, hH, hJ, hO, hhE, hX0⟩ := hy
  obtain ⟨qn, ln, bn⟩ := hH n hn
  have hz := ln.2.2.2.1 0 (by omega)
  have tb := ln.1.1
  refine am_intro mkX2_remember rfl (Nat.le_of_ble_eq_true rfl) rfl (fun X hX hM => ?_)
  refine vX2_remember_0 hX hM ?_
  rw [i42, r0, i3_toNat (by omega)]
  simp only [forall_eq]
  rw [nE, qn]
  refine ⟨t0, zE, tE, vp_in_i3 hn (by omega), hz, tb, ct_w (k_copy ln bn (fun i j hi hj => hd n i j hn hi hj) hR hw) (fun M8 r8 f8 => ?_)⟩
  have hh : ∀ i, i < 22 → h ≠ H n i := fun i hi z => (hO n i hn hi).1 z.symm
  have hE : ∀ i, i < 22 → E ≠ H n i := fun i hi z => (hO n i hn hi).2 z.symm
  have fh := f8.2 h hh
  have fE := f8.2 E hE
  have e42 : (i3 n + 1) - (i3 n + 1) / 8 * 8 = i3 ((n + 1) % 8) := by
    rw [i3_one, show (8 : Int32) = i3 8 from rfl, i3_mod (by omega) (by omega)]
  have e41 : (if (8 : Int32) < i3 c + 1 then (8 : Int32) else i3 c + 1) = i3 (if c = 8 then 8 else c + 1) := by
    rw [i3_one]
    by_cases z : c = 8
    · rw [if_pos z, if_pos (show (8 : Int32) < i3 (c + 1) from (i3_lt (a := 8) (by omega) (by omega)).mpr (by omega))]
      rfl
    · rw [if_neg z, if_neg (show ¬ (8 : Int32) < i3 (c + 1) from fun y => absurd ((i3_lt (a := 8) (by omega) (by omega)).mp y) (by omega))]
  rw [fh.1 42, i42, hp_I_sIu _ _ _ _ (by omega), fh.1 41, i41, e42, e41]
  refine ⟨by rw [f8.1.1]; exact t0, trivial, ?_⟩
  have F2 : bF (fun _ => h) M8 (hp_sI (hp_sI M8 42 h (i3 ((n + 1) % 8))) 41 h (i3 (if c = 8 then 8 else c + 1))) := (bF_sI (i := 0) (by omega) rfl).trans (bF_sI (i := 0) (by omega) rfl)
  generalize hM9 : hp_sI (hp_sI M8 42 h (i3 ((n + 1) % 8))) 41 h (i3 (if c = 8 then 8 else c + 1)) = M9 at F2 ⊢
  have j41 : hp_I M9 41 h = i3 (if c = 8 then 8 else c + 1) := by rw [← hM9, hp_I_sI]
  have j42 : hp_I M9 42 h = i3 ((n + 1) % 8) := by rw [← hM9, hp_I_sIu _ _ _ _ (by omega), hp_I_sI]
  have hs := f8.1.trans F2.1
  have own : ∀ i, i < 8 → ∀ a, a < 22 → H i a ≠ h := fun i hi a ha => (hO i a hi ha).1
  have KP : ∀ i g', i < 8 → i ≠ n → md_ok g' → bR M (H i) g' → bR M9 (H i) g' := fun i g' hi hne ok r =>
    bR_frame (fun a _ ha _ => own i hi a ha) F2 ok (bR_frame (fun a b ha hb => hJ i n hi hn hne a b ha hb) f8 ok r)
  have KN : bR M9 (H n) g := bR_frame (fun a _ ha _ => own n hn a ha) F2 (md_wf_ok hw) r8
  refine ⟨⟨⟨by rw [hs.1]; exact t0, by rw [hs.2.2.1]; exact r0, by rw [hs.1]; exact tE, by rw [hs.2.1]; exact nE, zE, j41, j42, by omega, by split <;> omega⟩, fun i hi => ?_, hJ, hO, hhE, fun j hj => ?_⟩, hs, fun a ha hb => ?_⟩
  · obtain ⟨x1, x2, x3⟩ := hH i hi
    refine ⟨by rw [(F2.2 E (fun _ _ z => hhE z.symm)).2.2, fE.2.2]; exact x1, bL_sk x2 hs, ?_⟩
    by_cases z : i = n
    · rw [z]
      exact KN.2.1
    · refine bQ_fr ?_ ?_ x3
      · rw [(F2.2 _ (fun _ _ => own i hi 1 (by omega))).2.2, (f8.2 _ (fun b hb => hJ i n hi hn z 1 b (by omega) hb)).2.2]
      · rw [(F2.2 _ (fun _ _ => own i hi 2 (by omega))).2.2, (f8.2 _ (fun b hb => hJ i n hi hn z 2 b (by omega) hb)).2.2]
  · unfold yP
    by_cases z : c = 8
    · rw [if_pos z] at hj ⊢
      rw [if_pos z]
      by_cases y : j = 7
      · rw [if_pos y, show ((n + 1) % 8 + 8 - 8 + j) % 8 = n by omega]
        exact ⟨KN, hw⟩
      · obtain ⟨x1, x2⟩ := hX0 (j + 1) (by omega)
        rw [if_neg y, show ((n + 1) % 8 + 8 - 8 + j) % 8 = (n + 8 - c + (j + 1)) % 8 by omega]
        exact ⟨KP _ _ (by omega) (by omega) (md_wf_ok x2) x1, x2⟩
    · rw [if_neg z] at hj ⊢
      rw [if_neg z]
      by_cases y : j = c
      · rw [if_pos y, show ((n + 1) % 8 + 8 - (c + 1) + j) % 8 = n by omega]
        exact ⟨KN, hw⟩
      · obtain ⟨x1, x2⟩ := hX0 j (by omega)
        rw [if_neg y, show ((n + 1) % 8 + 8 - (c + 1) + j) % 8 = (n + 8 - c + j) % 8 by omega]
        exact ⟨KP _ _ (by omega) (by omega) (md_wf_ok x2) x1, x2⟩
  · obtain ⟨x1, x2, x3⟩ := F2.2 a (fun _ _ => ha)
    obtain ⟨y1, y2, y3⟩ := f8.2 a (fun i hi => hb n i hn hi)
    exact ⟨fun u => (x1 u).trans (y1 u), x2.trans y2, x3.trans y3⟩
theorem k_takeBack {G : am_Gx} {d T h E n c : Nat} {M : am_Hp} {C : Nat → Nat} {H : Nat → Nat → Nat} {hist : Nat → md_R} (hy : yR T M h E H n (c + 1) hist) (lC : bL M C) (qC : bQ M C) (hd : ∀ i a b, i < 8 → a < 22 → b < 22 → C a ≠ H i b) (hCh : ∀ i, i < 22 → C i ≠ h ∧ C i ≠ E) : am_CT G (d + 3) rX2_takeBack [.ref h, .ref (C 0)] M 0 0 (fun o M' => o = .inl none ∧ bR M' C (hist c) ∧ yR T M' h E H ((n + 7) % 8) c hist ∧ sk M M' ∧ ∀ a, a ≠ h → (∀ i, i < 22 → a ≠ C i) → (∀ u, hp_I M' u a = hp_I M u a) ∧ hp_E M' a = hp_E M a ∧ hp_Q M' a = hp_Q M a) := by
  obtain ⟨⟨t0, r0, tE, nE, zE, i41, i42, hn, hc⟩, hH, hJ, hO, hhE, hX0⟩ := hy
  have e42 : (i3 n + 8 - 1) - (i3 n + 8 - 1) / 8 * 8 = i3 ((n + 7) % 8) := by
    rw [show (8 : Int32) = i3 8 from rfl, i3_add, show (1 : Int32) = i3 1 from rfl, i3_sub' (by omega), i3_mod (by omega) (by omega), show n + 8 - 1 = n + 7 by omega]
  have e41 : i3 (c + 1) - 1 = i3 c := by rw [show (1 : Int32) = i3 1 from rfl, i3_sub' (by omega), Nat.add_sub_cancel]
  refine am_intro mkX2_takeBack rfl (Nat.le_of_ble_eq_true rfl) rfl (fun X hX hM => ?_)
  refine vX2_takeBack_0 hX hM ?_
  simp only [forall_eq]
  rw [i42, e42, hp_I_sIu _ _ _ _ (by omega), i41, e41]
  have F1 : bF (fun _ => h) M (hp_sI (hp_sI M 42 h (i3 ((n + 7) % 8))) 41 h (i3 c)) := (bF_sI (i := 0) (by omega) rfl).trans (bF_sI (i := 0) (by omega) rfl)
  generalize hM4 : hp_sI (hp_sI M 42 h (i3 ((n + 7) % 8))) 41 h (i3 c) = M4 at F1 ⊢
  have j41 : hp_I M4 41 h = i3 c := by rw [← hM4, hp_I_sI]
  have j42 : hp_I M4 42 h = i3 ((n + 7) % 8) := by rw [← hM4, hp_I_sIu _ _ _ _ (by omega), hp_I_sI]
  have s1 := F1.1
  have hm : (n + 7) % 8 < 8 := by omega
  have q4 : hp_Q M4 E = hp_Q M E := (F1.2 E (fun _ _ z => hhE z.symm)).2.2
  obtain ⟨qn, ln, bn⟩ := hH _ hm
  obtain ⟨xr, xw⟩ := hX0 c (by omega)
  rw [show (n + 8 - (c + 1) + c) % 8 = (n + 7) % 8 by omega] at xr
  have own : ∀ i, i < 8 → ∀ a, a < 22 → H i a ≠ h := fun i hi a ha => (hO i a hi ha).1
  have r4 : bR M4 (H ((n + 7) % 8)) (hist c) := bR_frame (fun a _ ha _ => own _ hm a ha) F1 (md_wf_ok xw) xr
  have l4 : bL M4 C := bL_sk lC s1
  have b4 : bQ M4 C := bQ_fr (F1.2 _ (fun _ _ => (hCh 1 (by omega)).1)).2.2 (F1.2 _ (fun _ _ => (hCh 2 (by omega)).1)).2.2 qC
  rw [show hp_R M4 = hp_R M from s1.2.2.1, r0, j42, i3_toNat (by omega), q4, qn, show hp_T M4 = hp_T M from s1.1, show hp_N M4 = hp_N M from s1.2.1, nE]
  refine ⟨t0, zE, tE, vp_in_i3 hm (by omega), ln.2.2.2.1 0 (by omega), lC.1.1, ct_w (k_copy l4 b4 (fun i j hi hj z => hd _ j i hm hj hi z.symm) r4 xw) (fun M8 r8 f8 => ?_)⟩
  have fh := f8.2 h (fun i hi z => (hCh i hi).1 z.symm)
  have fE := f8.2 E (fun i hi z => (hCh i hi).2 z.symm)
  have hs := s1.trans f8.1
  have KP : ∀ i g', i < 8 → md_ok g' → bR M (H i) g' → bR M8 (H i) g' := fun i g' hi ok r =>
    bR_frame (fun a b ha hb z => hd i b a hi hb ha z.symm) f8 ok (bR_frame (fun a _ ha _ => own i hi a ha) F1 ok r)
  refine ⟨trivial, r8, ⟨⟨by rw [hs.1]; exact t0, by rw [hs.2.2.1]; exact r0, by rw [hs.1]; exact tE, by rw [hs.2.1]; exact nE, zE, by rw [fh.1, j41], by rw [fh.1, j42], hm, by omega⟩, fun i hi => ?_, hJ, hO, hhE, fun j hj => ?_⟩, hs, fun a ha hb => ?_⟩
  · obtain ⟨x1, x2, x3⟩ := hH i hi
    refine ⟨by rw [fE.2.2, q4]; exact x1, bL_sk x2 hs, ?_⟩
    refine bQ_fr ?_ ?_ x3
    · rw [(f8.2 _ (fun b hb z => hd i b 1 hi hb (by omega) z.symm)).2.2, (F1.2 _ (fun _ _ => own i hi 1 (by omega))).2.2]
    · rw [(f8.2 _ (fun b hb z => hd i b 2 hi hb (by omega) z.symm)).2.2, (F1.2 _ (fun _ _ => own i hi 2 (by omega))).2.2]
  · obtain ⟨x1, x2⟩ := hX0 j (by omega)
    rw [show ((n + 7) % 8 + 8 - c + j) % 8 = (n + 8 - (c + 1) + j) % 8 by omega]
    exact ⟨KP _ _ (by omega) (md_wf_ok x2) x1, x2⟩
  · obtain ⟨x1, x2, x3⟩ := F1.2 a (fun _ _ => ha)
    obtain ⟨y1, y2, y3⟩ := f8.2 a (fun i hi => hb i hi)
    exact ⟨fun u => (y1 u).trans (x1 u), y2.trans x2, y3.trans x3⟩
