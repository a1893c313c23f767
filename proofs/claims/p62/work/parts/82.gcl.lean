/-! .. a waiting passenger never disappears in one step; stepsUntilBoarding of the class -/
def pz (N : Int32) (c : Nat) (g : md_R) : Prop := ∃ q, q < md_n g ∧ g (27 + q) = N ∧ (g (99 + q) = 0 ∨ ∃ b, b < c ∧ g (87 + q) = i3 (b + 1))
theorem pz.up {N : Int32} {c : Nat} {g : md_R} (h : pz N c g) : pz N (c + 1) g := by
  obtain ⟨q, h1, h2, h3⟩ := h
  refine ⟨q, h1, h2, ?_⟩
  rcases h3 with z | ⟨b, b1, b2⟩
  · exact .inl z
  · exact .inr ⟨b, by omega, b2⟩
theorem pz_cg {N : Int32} {c : Nat} {g g' : md_R} (h12 : md_n g ≤ 12) (e1 : g' 1 = g 1) (e : ∀ k, (27 ≤ k ∧ k < 39) ∨ (87 ≤ k ∧ k < 111) → g' k = g k) (h : pz N c g) : pz N c g' := by
  obtain ⟨q, h1, h2, h3⟩ := h
  refine ⟨q, by rw [md_n_eq e1]; exact h1, by rw [e _ (by omega)]; exact h2, ?_⟩
  rw [e (99 + q) (by omega), e (87 + q) (by omega)]
  exact h3
theorem fw_far {g : md_R} : ∀ k, k ≤ 12 → ∀ j, (j < 75 ∨ 87 ≤ j) → md_fo md_w1 g k j = g j
  | 0, _, _, _ => rfl
  | k + 1, hk, j, hj => by
    rw [md_fo]
    unfold md_w1
    rw [up_n _ _ (by omega)]
    exact fw_far k (by omega) j hj
theorem fa_far {g : md_R} : ∀ k, k ≤ 12 → ∀ j, (j < 87 ∨ 99 ≤ j) → md_fo md_a1 g k j = g j
  | 0, _, _, _ => rfl
  | k + 1, hk, j, hj => by
    rw [md_fo]
    unfold md_a1
    split
    · unfold md_as
      rw [up_n _ _ (by omega)]
      exact fa_far k (by omega) j hj
    · exact fa_far k (by omega) j hj
theorem pz_pre {N : Int32} {g : md_R} (h12 : md_n g ≤ 12) (h : pz N 0 g) : pz N 0 (md_pre g) := by
  obtain ⟨q, h1, h2, h3⟩ := h
  have e : ∀ j, 0 < j → (j < 75 ∨ 99 ≤ j) → md_pre g j = g j := fun j j0 hj => by
    unfold md_pre
    rw [fw_far _ h12 j (by omega), fa_far _ h12 j (by omega), up_n _ _ (by omega)]
  refine ⟨q, by rw [md_n_eq (e 1 (by omega) (by omega))]; exact h1, by rw [e _ (by omega) (by omega)]; exact h2, .inl ?_⟩
  rw [e _ (by omega) (by omega)]
  rcases h3 with z | ⟨b, b1, -⟩
  · exact z
  · omega
theorem pz_dr {N : Int32} {c p n : Nat} {g : md_R} (hc3 : c < 3) (hn : g 1 = i3 (n + 1)) (h12 : n + 1 ≤ 12) (hp : p < n + 1) (hi : md_in g p c = true) (h : pz N c g) : pz N c (md_dr g p) := by
  obtain ⟨q, h1, h2, h3⟩ := h
  have en : md_n g = n + 1 := by unfold md_n; rw [hn, i3_toNat (by omega)]
  have en' : md_n (md_dr g p) = n := by unfold md_n; rw [md_dr_n hn, i3_toNat (by omega)]
  obtain ⟨i1, i2⟩ := md_in_iff.mp hi
  have hqp : q ≠ p := by
    rintro rfl
    rcases h3 with z | ⟨b, b1, b2⟩
    · rw [i1] at z
      exact absurd z (by decide)
    · rw [i2] at b2
      have := (i3_eq (by omega) (by omega)).mp b2
      omega
  have r0 : ∀ r, r < 7 → md_dr g p (27 + 12 * r + (if q < p then q else q - 1)) = g (27 + 12 * r + q) := fun r hr => by
    by_cases z : q < p
    · rw [if_pos z, md_dr_row hr (by omega), if_pos z]
    · rw [if_neg z, md_dr_row hr (by omega), if_neg (by omega), Nat.sub_add_cancel (by omega)]
  have a0 := r0 0 (by omega)
  have a5 := r0 5 (by omega)
  have a6 := r0 6 (by omega)
  refine ⟨if q < p then q else q - 1, by rw [en']; split <;> omega, a0.trans h2, ?_⟩
  rw [show 99 = 27 + 12 * 6 from rfl, show 87 = 27 + 12 * 5 from rfl, a6, a5]
  exact h3
theorem pz_al {N : Int32} {c : Nat} (hc3 : c < 3) : ∀ (k p : Nat) (g : md_R), g 1 = i3 (p + k) → p + k ≤ 12 → pz N c g → pz N c (md_al c k p g) ∧ ∃ n, n ≤ 12 ∧ md_al c k p g 1 = i3 n
  | 0, p, g, h1, h2, h => ⟨h, p, by omega, h1⟩
  | k + 1, p, g, h1, h2, h => by
    rw [md_al]
    split
    · rename_i z
      rw [Bool.and_eq_true] at z
      have l1 : md_lg g p c 1 = i3 (p + k + 1) := by
        rw [md_lg_far g p c 1 (by omega), h1, Nat.add_assoc]
      have n12 : md_n g ≤ 12 := by unfold md_n; rw [h1, i3_toNat (by omega)]; exact h2
      have l2 : pz N c (md_lg g p c) := pz_cg n12 (md_lg_far g p c 1 (by omega)) (fun k hk => md_lg_far g p c k (by omega)) h
      have l3 : md_in (md_lg g p c) p c = true := by
        obtain ⟨y1, y2⟩ := md_in_iff.mp z.1
        exact md_in_iff.mpr ⟨by rw [md_lg_far g p c _ (by omega)]; exact y1, by rw [md_lg_far g p c _ (by omega)]; exact y2⟩
      exact pz_al hc3 k p _ (md_dr_n l1) (by omega) (pz_dr hc3 l1 (by omega) (by omega) l3 l2)
    · exact pz_al hc3 k (p + 1) g (by rw [h1]; congr 1; omega) (by omega) h
theorem pz_bd {N : Int32} {c k : Nat} {h : md_R} (hk : k < 12) (h12 : md_n h ≤ 12) (hz : pz N (c + 1) h) : pz N (c + 1) (md_bd c h k) ∧ md_bd c h k 1 = h 1 := by
  unfold md_bd
  split
  · split
    · refine ⟨?_, by rw [up_n _ _ (by omega), up_n _ _ (by omega)]⟩
      obtain ⟨q, h1, h2, h3⟩ := hz
      refine ⟨q, by rw [md_n_eq (by rw [up_n _ _ (by omega), up_n _ _ (by omega)])]; exact h1, by rw [up_n _ _ (by omega), up_n _ _ (by omega)]; exact h2, ?_⟩
      by_cases e : q = k
      · rw [e]
        exact .inr ⟨c, by omega, by rw [up_e, i3_one]⟩
      · rw [up_n _ _ (by omega), up_n _ _ (by omega), up_n _ _ (by omega), up_n _ _ (by omega)]
        exact h3
    · refine ⟨?_, by rw [up_n _ _ (by omega), up_n _ _ (by omega)]⟩
      obtain ⟨q, h1, h2, h3⟩ := hz
      refine ⟨q, by rw [md_n_eq (by rw [up_n _ _ (by omega), up_n _ _ (by omega)])]; exact h1, by rw [up_n _ _ (by omega), up_n _ _ (by omega)]; exact h2, ?_⟩
      by_cases e : q = k
      · rw [e]
        exact .inl (by rw [up_n _ _ (by omega), up_e])
      · rw [up_n _ _ (by omega), up_n _ _ (by omega), up_n _ _ (by omega), up_n _ _ (by omega)]
        exact h3
  · exact ⟨hz, rfl⟩
theorem pz_bo {N : Int32} {c : Nat} {g : md_R} (h12 : md_n g ≤ 12) (hz : pz N (c + 1) g) : ∀ k, k ≤ 12 → pz N (c + 1) (md_fo (md_bd c) g k) ∧ md_fo (md_bd c) g k 1 = g 1
  | 0, _ => ⟨hz, rfl⟩
  | k + 1, hk => by
    obtain ⟨i1, i2⟩ := pz_bo h12 hz k (by omega)
    rw [md_fo]
    obtain ⟨x1, x2⟩ := pz_bd (c := c) (k := k) (by omega) (by rw [md_n_eq i2]; exact h12) i1
    exact ⟨x1, x2.trans i2⟩
theorem pz_c1 {N : Int32} {T c : Nat} {g : md_R} (hc : c < 3) (hw : md_wf T g) (h : pz N c g) : pz N (c + 1) (md_c1 g c) := by
  have ok := md_wf_ok hw
  have h12 := ok.2
  unfold md_c1
  split
  · unfold md_ac
    split
    · exact (pz_cg h12 (up_n _ _ (by omega)) (fun k hk => up_n _ _ (by omega)) h).up
    · split
      · have e1 : md_op g c 1 = g 1 := by
          unfold md_op
          rw [up_n _ _ (by omega), up_n _ _ (by omega), up_n _ _ (by omega)]
        have o1 : pz N c (md_op g c) := pz_cg h12 e1 (fun k hk => by
          unfold md_op
          rw [up_n _ _ (by omega), up_n _ _ (by omega), up_n _ _ (by omega)]) h
        obtain ⟨a1, n, a2, a3⟩ := pz_al hc (md_n g) 0 (md_op g c) (by rw [e1, Nat.zero_add]; exact ok.1) (by omega) o1
        have n12 : md_n (md_al c (md_n g) 0 (md_op g c)) ≤ 12 := by rw [md_n_of a3 a2]; exact a2
        exact (pz_bo n12 a1.up _ n12).1
      · refine (pz_cg h12 ?_ (fun k hk => ?_) h).up
        · unfold md_mv
          split
          · rw [up_n _ _ (by omega), up_n _ _ (by omega), up_n _ _ (by omega), up_n _ _ (by omega), up_n _ _ (by omega)]
          · split
            · rw [up_n _ _ (by omega), up_n _ _ (by omega), up_n _ _ (by omega), up_n _ _ (by omega)]
            · rw [up_n _ _ (by omega), up_n _ _ (by omega)]
        · unfold md_mv
          split
          · rw [up_n _ _ (by omega), up_n _ _ (by omega), up_n _ _ (by omega), up_n _ _ (by omega), up_n _ _ (by omega)]
          · split
            · rw [up_n _ _ (by omega), up_n _ _ (by omega), up_n _ _ (by omega), up_n _ _ (by omega)]
            · rw [up_n _ _ (by omega), up_n _ _ (by omega)]
  · exact h.up
theorem pz_step {N : Int32} {T : Nat} {g : md_R} (hw : md_wf T g) (hT : T < 200000000) (h : pz N 0 g) : ∃ q, q < md_n (md_step g) ∧ md_step g (27 + q) = N := by
  rw [md_step_eq hw]
  have w0 := md_wf_pre hw
  have w1 := md_wf_c1 (c := 0) w0 (by omega) (by omega)
  have w2 := md_wf_c1 (c := 1) w1 (by omega) (by omega)
  obtain ⟨q, h1, h2, -⟩ := pz_c1 (by omega) w2 (pz_c1 (by omega) w1 (pz_c1 (by omega) w0 (pz_pre (md_wf_n hw) h)))
  exact ⟨q, h1, h2⟩
/-- not reached: there, and waiting -/
theorem rc_pz {T : Nat} {N : Int32} {g : md_R} (hw : md_wf T g) (h : md_rc g N true = false) : pz N 0 g := by
  have h12 := md_wf_n hw
  unfold md_rc at h
  rw [Bool.or_eq_false_iff, Bool.true_and] at h
  obtain ⟨h1, h2⟩ := h
  rcases md_ix_val g N (md_n g) 0 with z | ⟨p, -, p1, p2, p3⟩
  · rw [z] at h1
    exact absurd h1 (by decide)
  · rw [p2, i3_toNat (by omega)] at h2
    refine ⟨p, by omega, p3, .inl ?_⟩
    rcases (hw.2.2.1 p (by omega)).2.2.2.2.2.1 with y | y
    · exact y
    · rw [y] at h2
      exact absurd h2 (by decide)
theorem rd_rc {T : Nat} {N : Int32} {g : md_R} (hw : md_wf T g) (hT : T < 200000000) (h : md_rc g N true = false) : md_rd (md_step g) N = md_rc (md_step g) N true := by
  obtain ⟨q, q1, q2⟩ := pz_step hw hT (rc_pz hw h)
  have n12 := md_wf_n (md_wf_step hw (by omega))
  have e := md_ix_has q1 n12 q2
  unfold md_rd md_rc
  rw [beq_eq_false_iff_ne.mpr e]
  simp
theorem rc_own {g : md_R} {p : Nat} (h12 : md_n g ≤ 12) (hp : p < md_n g) (hu : ∀ p q, p < md_n g → q < md_n g → g (27 + p) = g (27 + q) → p = q) : md_rc g (g (27 + p)) true = (g (99 + p) == i3 1) := by
  have e := md_ix_has hp h12 rfl
  rcases md_ix_val g (g (27 + p)) (md_n g) 0 with z | ⟨q, -, q1, q2, q3⟩
  · exact absurd z e
  · have eq : q = p := hu q p (by omega) hp q3
    unfold md_rc
    rw [beq_eq_false_iff_ne.mpr e, q2, i3_toNat (by omega), eq]
    simp
theorem g_stepsUntilBoarding {G : am_Gx} {d T a h E n c : Nat} {M : am_Hp} {L : Nat → Nat → Nat} {g sn : md_R} {hist : Nat → md_R} {v : Int32} (hj : gJ a h E L) (hg : gL T M a h E n c L g sn hist) (hT : T < 90000000) (hu : ∀ p q, p < md_n g → q < md_n g → g (27 + p) = g (27 + q) → p = q) : am_CT G (d + 6) rX6_stepsUntilBoarding [.ref a, .int v] M 2 12 (qz ["java/lang/IndexOutOfBoundsException", "java/util/NoSuchElementException"] (sq_pred g v true) T M a h E n c L g sn hist) := by
  have hg0 := hg
  obtain ⟨ta, ⟨ra, rt, rs, rh⟩, ⟨hR, hw⟩, ht, hs10, hy, hsn⟩ := hg
  have ok := md_wf_ok hw
  have h12 := ok.2
  have ok0 := ok
  have hR0 := hR
  have z9 := ht.1.2.2.2.1 0 (by omega)
  have t9 := ht.1.1.1
  have j1 := hj.1
  obtain ⟨b0, u0, u1, u2, s1, m1, s2, m2, s3, u4, u5, u6, s4, s5, s6, m4, m5, m6, y0, y1, y2, y3, y4, y5, y6, qc, tc, zc, tp, zp, i3_, i4_, i5_, i6_, i7_, i8_, i9_, f20, f21, f22, f23, f24, f25, f26, f27, e60, e61, e62, e63, e64, e65, e66, l3_, l4_, lx, ly, lz⟩ := bR_f hR ok
  refine am_intro mkX6_stepsUntilBoarding rfl (Nat.le_of_ble_eq_true rfl) rfl (fun X hX hM => ?_)
  refine vX6_stepsUntilBoarding_0 hX hM (fun x0 x2 x3 M bc bs => am_J X 48 [(0, .ref x0), (2, .int x2), (3, .int x3)] [] M bc bs) (fun _ _ _ _ _ _ h => h) ⟨ta, by omega, by omega, ct_k (k_ckPas ⟨ta, ra, hR0⟩ ok0) (fun c1 => ?_) (fun c1 => ⟨by unfold sq_pred; rw [c1]; rfl, hg0, zF.rf⟩)⟩
  obtain ⟨p, hp, rfl⟩ := (md_ip_iff ok0).mp c1
  have eN : (i3 p).toNatClampNeg = p := i3_toNat (by omega)
  have hrc := rc_own h12 hp hu
  have K : ∀ k j Mx, j + 1 + k = 91 → bR Mx (L 9) (md_it g j) → bF (L 9) M Mx → md_rc (md_it g j) (g (27 + p)) true = false → md_su g (g (27 + p)) true = md_fs (fun s => md_rc (md_it g s) (g (27 + p)) true) k (j + 1) → am_J X 48 [(0, .ref a), (2, .int (g (27 + p))), (3, .int (i3 (j + 1)))] [] Mx 1 6 := by
    intro k
    induction k with
    | zero =>
      intro j Mx hjk r f hn e
      obtain ⟨x1, x2⟩ := gL_trial hj hg0 f ⟨r.1, r.2.1⟩
      refine vX6_stepsUntilBoarding_48 hX hM (fun x0 x2 x3 M bc bs => am_J X 48 [(0, .ref x0), (2, .int x2), (3, .int x3)] [] M bc bs) (fun _ _ _ _ _ _ h => h) ⟨fun _ => ⟨by omega, by omega, ?_, x1, x2⟩, fun z => absurd ((i3_lt (a := 90) (by omega) (by omega)).mpr (by omega)) z⟩
      unfold sq_pred
      rw [if_pos c1, eN, e]
      rfl
    | succ k ih =>
      intro j Mx hjk r f hn e
      rw [md_fs] at e
      have hwj := md_wf_it hw j (by omega)
      have hw6 := md_wf_it hw (j + 1) (by omega)
      refine vX6_stepsUntilBoarding_48 hX hM (fun x0 x2 x3 M bc bs => am_J X 48 [(0, .ref x0), (2, .int x2), (3, .int x3)] [] M bc bs) (fun _ _ _ _ _ _ h => h) ?_
      simp only [forall_eq]
      rw [show hp_R Mx = hp_R M from f.1.2.2.1, show hp_T Mx = hp_T M from f.1.1, rt]
      refine ⟨fun z => absurd ((i3_lt (a := 90) (by omega) (by omega)).mp z) (by omega), fun _ => ⟨ta, z9, t9, ct_w (k_step r hwj (by omega)) (fun M5 r5 f5 => ?_)⟩⟩
      have F := f.trans f5
      rw [show hp_R M5 = hp_R M from F.1.2.2.1, show hp_T M5 = hp_T M from F.1.1, rt]
      have r6 : bR M5 (L 9) (md_it g (j + 1)) := r5
      have q6 : md_rd (md_it g (j + 1)) (g (27 + p)) = md_rc (md_it g (j + 1)) (g (27 + p)) true := rd_rc hwj (by omega) hn
      refine ⟨ta, z9, t9, ct_i (k_isRiding r6 hw6) ?_⟩
      rw [q6]
      cases hq : md_rc (md_it g (j + 1)) (g (27 + p)) true with
      | false =>
        rw [if_neg (by rw [hq]; decide)] at e
        refine ⟨fun _ => ?_, fun z => absurd rfl z⟩
        rw [i3_one]
        exact ih (j + 1) M5 (by omega) r6 F hq e
      | true =>
        rw [if_pos hq] at e
        obtain ⟨x1, x2⟩ := gL_trial hj hg0 F ⟨r6.1, r6.2.1⟩
        refine ⟨fun z => absurd z (by decide), fun _ => ⟨?_, x1, x2⟩⟩
        unfold sq_pred
        rw [if_pos c1, eN, e, if_neg (i3_nm1 (show j + 1 < 2147483648 by omega))]
        rfl
  simp (disch := omega) only [ta, ra, rt, y0, b0, u1, y2, s2, m2, zp, tp, vpt, i3_toNat, forall_eq, ne_eq, not_false_eq_true, true_and, e60, e66]
  refine ⟨fun a1 => ⟨z9, t9, ct_w (k_copy ht.1 ht.2 (fun i j hi hj' => j1 8 9 (by omega) (by omega) (by omega) i j hi hj') hR0 hw) (fun M1 r1 f1 => ?_)⟩, fun a1 => ?_⟩
  · have h0 : md_rc (md_it g 0) (g (27 + p)) true = false := by
      show md_rc g (g (27 + p)) true = false
      rw [hrc, a1]
      decide
    refine K 90 0 M1 (by omega) r1 f1 h0 ?_
    unfold md_su
    rw [md_fs, if_neg (by rw [h0]; decide)]
  · have h1 : md_rc (md_it g 0) (g (27 + p)) true = true := by
      show md_rc g (g (27 + p)) true = true
      rw [hrc]
      rcases (hw.2.2.1 p hp).2.2.2.2.2.1 with y | y
      · exact absurd y a1
      · rw [y]
        decide
    have h2 : md_su g (g (27 + p)) true = i3 0 := by
      unfold md_su
      rw [md_fs, if_pos h1]
    refine ⟨?_, hg0, zF.rf⟩
    unfold sq_pred
    rw [if_pos c1, eN, h2, if_neg (i3_nm1 (show 0 < 2147483648 by omega))]
    rfl
