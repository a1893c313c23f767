/-! .. the next stop, searches, changes and the history, undo, snapshots -/
theorem md_ch_dir {T : Nat} {g : md_R} {c : Nat} (hw : md_wf T g) (hc : c < 3) : md_ch g c = 0 ∨ md_ch g c = 1 ∨ md_ch g c = -1 := by
  have hd := (hw.2.1 c hc).2.1
  unfold md_ch
  split
  · split
    · exact .inr (.inl rfl)
    · split
      · exact .inr (.inr rfl)
      · exact .inl rfl
  · split
    · rename_i z
      rcases hd with q | q | q
      · exact absurd q z
      · exact .inr (.inl q)
      · exact .inr (.inr q)
    · split
      · exact .inr (.inl rfl)
      · exact .inr (.inr rfl)
theorem md_sum_nn {f : Nat → Bool} : ∀ n, n < 1000 → ∃ s, s ≤ n ∧ md_sum (fun i => bI (f i)) n = i3 s ∧ (s = 0 → ∀ i, i < n → f i = false)
  | 0, _ => ⟨0, Nat.le_refl _, rfl, fun _ i hi => absurd hi (Nat.not_lt_zero i)⟩
  | n + 1, hn => by
    obtain ⟨s, h1, h2, h3⟩ := md_sum_nn (f := f) n (by omega)
    cases hf : f n with
    | false =>
      refine ⟨s, by omega, ?_, fun z i hi => ?_⟩
      · rw [md_sum_s, h2, hf]; exact Int32.add_zero _
      · by_cases e : i = n
        · rw [e]; exact hf
        · exact h3 z i (by omega)
    | true =>
      refine ⟨s + 1, by omega, ?_, fun z => absurd z (by omega)⟩
      rw [md_sum_s, h2, hf]
      exact i3_add s 1
/-- where a car has a stop and stands at none, it chooses a direction -/
theorem md_ch_some {T : Nat} {g : md_R} {c : Nat} (hw : md_wf T g) (hc : c < 3) (hs : md_st g c (g (9 + c)) = false) (h : ¬ md_sc g c = i3 0) : md_ch g c = 1 ∨ md_ch g c = -1 := by
  obtain ⟨f, hf9, hf⟩ := md_wf_fl hw hc
  rcases md_ch_dir hw hc with z | z | z
  · exfalso
    have b : ∀ r, md_nr g c r < 10 := fun r => by
      rcases md_go_le (md_hit g c r) 9 1 with q | ⟨-, q, -⟩
      · unfold md_nr; omega
      · unfold md_nr; omega
    apply h
    have none : md_nr g c 1 = 0 ∧ md_nr g c (-1) = 0 := by
      unfold md_ch at z
      split at z
      · split at z
        · exact absurd z (by decide)
        · split at z
          · exact absurd z (by decide)
          · omega
      · split at z
        · rename_i q; exact absurd z q
        · split at z
          · exact absurd z (by decide)
          · exact absurd z (by decide)
    have hall : ∀ k, k < 10 → md_st g c (i3 k) = false := fun k hk => by
      rcases Nat.lt_trichotomy k f with hq | hq | hq
      · have h3 := md_go_zero 9 1 (by omega) none.2 (f - k) (by omega) (by omega)
        unfold md_hit at h3
        rw [hf, (md_fl_dn hf9 (by omega)).2, (md_fl_dn hf9 (by omega)).1 (by omega), decide_eq_true (by omega), show f - (f - k) = k by omega] at h3
        exact h3
      · rw [hq, ← hf]; exact hs
      · have h3 := md_go_zero 9 1 (by omega) none.1 (k - f) (by omega) (by omega)
        unfold md_hit at h3
        rw [hf, (md_fl_up hf9 (by omega)).2, (md_fl_up hf9 (by omega)).1, decide_eq_true (by omega), show f + (k - f) = k by omega] at h3
        exact h3
    unfold md_sc
    have : ∀ n, n ≤ 10 → md_sum (fun f => bI (md_st g c (i3 f))) n = i3 0 := by
      intro n
      induction n with
      | zero => intro _; rfl
      | succ n ih => intro hn; rw [md_sum_s, ih (by omega), hall n (by omega)]; rfl
    exact this 10 (Nat.le_refl _)
  · exact .inl z
  · exact .inr z
/-- the first passenger with a number, or -1 -/
def md_ix (g : md_R) (N : Int32) : Nat → Nat → Int32
  | 0, _ => -1
  | k + 1, j => if g (27 + j) = N then i3 j else md_ix g N k (j + 1)
theorem md_ix_val (g : md_R) (N : Int32) : ∀ k j, md_ix g N k j = -1 ∨ ∃ p, j ≤ p ∧ p < j + k ∧ md_ix g N k j = i3 p ∧ g (27 + p) = N
  | 0, _ => .inl rfl
  | k + 1, j => by
    rw [md_ix]
    split
    · exact .inr ⟨j, Nat.le_refl _, by omega, rfl, by assumption⟩
    · rcases md_ix_val g N k (j + 1) with h | ⟨p, h1, h2, h3, h4⟩
      · exact .inl h
      · exact .inr ⟨p, by omega, by omega, h3, h4⟩
def md_rc (g : md_R) (N : Int32) (b : Bool) : Bool := md_ix g N (md_n g) 0 == -1 || (b && g (99 + (md_ix g N (md_n g) 0).toNatClampNeg) == i3 1)
/-- the history with a row more -/
def md_sf (j : Nat) (hist : md_R) : md_R := fun k => if k < j then hist (k + 141) else hist k
theorem md_sf_0 (hist : md_R) : md_sf 0 hist = hist := by
  funext k
  unfold md_sf
  rw [if_neg (by omega)]
theorem md_sf_s (j : Nat) (hist : md_R) : va_up (md_sf j hist) j (hist (j + 141)) = md_sf (j + 1) hist := by
  funext k
  unfold va_up md_sf
  by_cases e : k = j
  · subst e; rw [if_pos rfl, if_pos (by omega)]
  · rw [if_neg e]
    by_cases h2 : k < j
    · rw [if_pos h2, if_pos (by omega)]
    · rw [if_neg h2, if_neg (by omega)]
theorem md_sf_out {j k : Nat} (hist : md_R) (h : j ≤ k) : md_sf j hist k = hist k := by
  unfold md_sf
  rw [if_neg (by omega)]
def md_hp (c : Nat) (b hist : md_R) : md_R := if c = 8 then md_cq 0 987 141 b (md_sf 987 hist) else md_cq 0 (141 * c) 141 b hist
theorem md_cq_back (g x : md_R) : md_cq 0 0 141 (md_cq 0 0 141 g x) g = g := by
  funext k
  unfold md_cq
  by_cases h : k < 141
  · simp [h]
  · simp [h]
/-- a command's change as the callers see it -/
def mC (M : am_Hp) (A : Nat → Nat) (g : md_R) (c : Nat) (sp : md_Sp) : am_Hp :=
  let M1 := hp_sA M (A 2) (md_cq 0 0 141 g (hp_E M (A 2)))
  if sp.1 = 0 then hp_sI (hp_sA (hp_sI (hp_sA M1 (A 1) sp.2.2) 153 (A 0) (i3 0)) (A 4) (md_hp c (md_cq 0 0 141 g (hp_E M (A 2))) (hp_E M (A 4)))) 144 (A 0) (i3 (if c = 8 then 8 else c + 1)) else hp_sI M1 153 (A 0) (i3 sp.1)
def spF (g : md_R) (sp : md_Sp) : Prop := sp.1 ≤ 3 ∧ (sp.1 ≠ 0 → sp.2.2 = g ∧ sp.2.1 = i3 0)
theorem spF_add (g : md_R) (s e w : Int32) : spF g (sp_add g s e w) := by
  unfold sp_add spF
  repeat' split
  all_goals exact ⟨Nat.le_of_ble_eq_true rfl, fun z => by first | exact ⟨rfl, rfl⟩ | exact absurd rfl z⟩
theorem spF_rem (g : md_R) (v : Int32) : spF g (sp_rem g v) := by
  unfold sp_rem spF
  repeat' split
  all_goals exact ⟨Nat.le_of_ble_eq_true rfl, fun z => by first | exact ⟨rfl, rfl⟩ | exact absurd rfl z⟩
theorem spF_hold (g : md_R) (v s : Int32) : spF g (sp_hold g v s) := by
  unfold sp_hold spF
  repeat' split
  all_goals exact ⟨Nat.le_of_ble_eq_true rfl, fun z => by first | exact ⟨rfl, rfl⟩ | exact absurd rfl z⟩
theorem spF_stop (g : md_R) (v : Int32) : spF g (sp_stop g v) := by
  unfold sp_stop spF
  repeat' split
  all_goals exact ⟨Nat.le_of_ble_eq_true rfl, fun z => by first | exact ⟨rfl, rfl⟩ | exact absurd rfl z⟩
theorem spF_start (g : md_R) (v : Int32) : spF g (sp_start g v) := by
  unfold sp_start spF
  repeat' split
  all_goals exact ⟨Nat.le_of_ble_eq_true rfl, fun z => by first | exact ⟨rfl, rfl⟩ | exact absurd rfl z⟩
theorem spF_limit (g : md_R) (v k : Int32) : spF g (sp_limit g v k) := by
  unfold sp_limit spF
  repeat' split
  all_goals exact ⟨Nat.le_of_ble_eq_true rfl, fun z => by first | exact ⟨rfl, rfl⟩ | exact absurd rfl z⟩
theorem spF_adv (g : md_R) (v : Int32) : spF g (sp_adv g v) := by
  unfold sp_adv spF
  repeat' split
  all_goals exact ⟨Nat.le_of_ble_eq_true rfl, fun z => by first | exact ⟨rfl, rfl⟩ | exact absurd rfl z⟩
