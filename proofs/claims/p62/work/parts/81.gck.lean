/-! .. stepsUntilArrival of the class -/
theorem i3_nm1 {p : Nat} (h : p < 2147483648) : i3 p ≠ -1 := fun z => by
  have q := congrArg Int32.toInt z
  rw [i3_toInt h] at q
  have e1 : (-1 : Int32).toInt = -1 := rfl
  omega
theorem md_ix_hasj {g : md_R} {N : Int32} {p : Nat} (e : g (27 + p) = N) : ∀ k j, j ≤ p → p < j + k → j + k < 1000 → md_ix g N k j ≠ -1
  | 0, j, h1, h2, _ => by omega
  | k + 1, j, h1, h2, h3 => by
    rw [md_ix]
    by_cases z : g (27 + j) = N
    · rw [if_pos z]
      exact i3_nm1 (by omega)
    · rw [if_neg z]
      by_cases y : j = p
      · rw [y] at z
        exact absurd e z
      · exact md_ix_hasj e k (j + 1) (by omega) (by omega) (by omega)
theorem md_ix_has {g : md_R} {N : Int32} {p : Nat} (hp : p < md_n g) (hn : md_n g ≤ 12) (e : g (27 + p) = N) : md_ix g N (md_n g) 0 ≠ -1 := md_ix_hasj e (md_n g) 0 (by omega) (by omega) (by omega)
abbrev qz (ns : List String) (s : md_Sq) (T : Nat) (M : am_Hp) (a h E n c : Nat) (L : Nat → Nat → Nat) (g sn : md_R) (hist : Nat → md_R) : am_Q := fun o M' => o = (if s.1 = 0 then .inl (some (.int s.2)) else .inr (ns.getD (s.1 - 1) "")) ∧ gL T M' a h E n c L g sn hist ∧ zF h L M M'
theorem zF.rf {h : Nat} {L : Nat → Nat → Nat} {M : am_Hp} : zF h L M M := ⟨sk.rf M, fun x _ _ => ⟨fun _ => rfl, rfl, rfl⟩⟩
theorem g_stepsUntilArrival {G : am_Gx} {d T a h E n c : Nat} {M : am_Hp} {L : Nat → Nat → Nat} {g sn : md_R} {hist : Nat → md_R} {v : Int32} (hj : gJ a h E L) (hg : gL T M a h E n c L g sn hist) (hT : T < 90000000) : am_CT G (d + 6) rX6_stepsUntilArrival [.ref a, .int v] M 2 12 (qz ["java/lang/IndexOutOfBoundsException", "java/util/NoSuchElementException"] (sq_pred g v false) T M a h E n c L g sn hist) := by
  have hg0 := hg
  obtain ⟨ta, ⟨ra, rt, rs, rh⟩, ⟨hR, hw⟩, ht, hs10, hy, hsn⟩ := hg
  have ok := md_wf_ok hw
  have h12 := ok.2
  have ok0 := ok
  have hR0 := hR
  have z9 := ht.1.2.2.2.1 0 (by omega)
  have t9 := ht.1.1.1
  have j1 := hj.1
  obtain ⟨b0, u0, u1, u2, s1, m1, s2, m2, s3, u4, u5, u6, s4, s5, s6, m4, m5, m6, y0, y1, y2, y3, y4, y5, y6, qc, tc, zc, tp, zp, i3_, i4_, i5_, i6_, i7_, i8_, i9_, f20, f21, f22, f23, f24, f25, f26, f27, e60, e61, e62, e63, e64, e65, e66, l3_, l4_, lx, ly, lz⟩ := bR_f hR ok
  refine am_intro mkX6_stepsUntilArrival rfl (Nat.le_of_ble_eq_true rfl) rfl (fun X hX hM => ?_)
  refine vX6_stepsUntilArrival_0 hX hM (fun x0 x2 x3 M bc bs => am_J X 31 [(0, .ref x0), (2, .int x2), (3, .int x3)] [] M bc bs) (fun _ _ _ _ _ _ h => h) ⟨ta, by omega, by omega, ct_k (k_ckPas ⟨ta, ra, hR0⟩ ok0) (fun c1 => ?_) (fun c1 => ⟨by unfold sq_pred; rw [c1]; rfl, hg0, zF.rf⟩)⟩
  obtain ⟨p, hp, rfl⟩ := (md_ip_iff ok0).mp c1
  have eN : (i3 p).toNatClampNeg = p := i3_toNat (by omega)
  have hN : md_rc (md_it g 0) (g (27 + p)) false = false := by
    unfold md_rc
    rw [show md_it g 0 = g from rfl, Bool.false_and, Bool.or_false]
    exact beq_eq_false_iff_ne.mpr (md_ix_has hp (by omega) rfl)
  have K : ∀ k j Mx, j + 1 + k = 91 → bR Mx (L 9) (md_it g j) → bF (L 9) M Mx → md_su g (g (27 + p)) false = md_fs (fun s => md_rc (md_it g s) (g (27 + p)) false) k (j + 1) → am_J X 31 [(0, .ref a), (2, .int (g (27 + p))), (3, .int (i3 (j + 1)))] [] Mx 1 6 := by
    intro k
    induction k with
    | zero =>
      intro j Mx hjk r f e
      obtain ⟨x1, x2⟩ := gL_trial hj hg0 f ⟨r.1, r.2.1⟩
      refine vX6_stepsUntilArrival_31 hX hM (fun x0 x2 x3 M bc bs => am_J X 31 [(0, .ref x0), (2, .int x2), (3, .int x3)] [] M bc bs) (fun _ _ _ _ _ _ h => h) ⟨fun _ => ⟨by omega, by omega, ?_, x1, x2⟩, fun z => absurd ((i3_lt (a := 90) (by omega) (by omega)).mpr (by omega)) z⟩
      unfold sq_pred
      rw [if_pos c1, eN, e]
      rfl
    | succ k ih =>
      intro j Mx hjk r f e
      rw [md_fs] at e
      have hwj := md_wf_it hw j (by omega)
      refine vX6_stepsUntilArrival_31 hX hM (fun x0 x2 x3 M bc bs => am_J X 31 [(0, .ref x0), (2, .int x2), (3, .int x3)] [] M bc bs) (fun _ _ _ _ _ _ h => h) ?_
      simp only [forall_eq]
      rw [show hp_R Mx = hp_R M from f.1.2.2.1, show hp_T Mx = hp_T M from f.1.1, rt]
      refine ⟨fun z => absurd ((i3_lt (a := 90) (by omega) (by omega)).mp z) (by omega), fun _ => ⟨ta, z9, t9, ct_w (k_step r hwj (by omega)) (fun M5 r5 f5 => ?_)⟩⟩
      have F := f.trans f5
      rw [show hp_R M5 = hp_R M from F.1.2.2.1, show hp_T M5 = hp_T M from F.1.1, rt]
      have r6 : bR M5 (L 9) (md_it g (j + 1)) := r5
      have ok6 := md_wf_ok (md_wf_it hw (j + 1) (by omega))
      refine ⟨ta, z9, t9, ct_i (k_indexOf r6 ok6) ⟨fun a1 => ?_, fun a1 => ?_⟩⟩
      · obtain ⟨x1, x2⟩ := gL_trial hj hg0 F ⟨r6.1, r6.2.1⟩
        have : md_rc (md_it g (j + 1)) (g (27 + p)) false = true := by
          unfold md_rc
          rw [a1]
          rfl
        rw [if_pos this] at e
        refine ⟨?_, x1, x2⟩
        unfold sq_pred
        have hne : ¬ i3 (j + 1) = -1 := fun z => by
          have q := congrArg Int32.toInt z
          rw [i3_toInt (by omega)] at q
          have e1 : (-1 : Int32).toInt = -1 := rfl
          omega
        rw [if_pos c1, eN, e, if_neg hne]
        rfl
      · have : md_rc (md_it g (j + 1)) (g (27 + p)) false = false := by
          unfold md_rc
          rw [beq_eq_false_iff_ne.mpr a1]
          rfl
        rw [if_neg (by rw [this]; decide)] at e
        rw [i3_one]
        exact ih (j + 1) M5 (by omega) r6 F e
  simp (disch := omega) only [ta, ra, rt, y0, b0, u1, y2, s2, m2, zp, tp, vpt, i3_toNat, forall_eq, ne_eq, not_false_eq_true, true_and, e60]
  refine ⟨z9, t9, ct_w (k_copy ht.1 ht.2 (fun i j hi hj' => j1 8 9 (by omega) (by omega) (by omega) i j hi hj') hR0 hw) (fun M1 r1 f1 => ?_)⟩
  refine K 90 0 M1 (by omega) r1 f1 ?_
  unfold md_su
  rw [md_fs, if_neg (by rw [hN]; decide)]
