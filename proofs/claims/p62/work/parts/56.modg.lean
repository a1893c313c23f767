/-! .. undo, snapshots, predictions, ranks, the log, totals -/
theorem ct_l {G : am_Gx} {d : Nat} {r : am_Rec} {as : List Value} {M M1 : am_Hp} {mc ms : Nat} {v : Int64} {P : Int64 → am_Hp → Prop} (h : am_CT G d r as M mc ms (fun o M' => o = .inl (some (.long v)) ∧ M' = M1)) (k : P v M1) : am_CT G d r as M mc ms (fun o M' => ∃ v, o = .inl (some (.long v)) ∧ P v M') :=
  am_CT.mono (fun o M' ⟨e1, e2⟩ => ⟨v, e1, e2 ▸ k⟩) h
abbrev ql (v : Int64) (M1 : am_Hp) : am_Q := fun o M' => o = .inl (some (.long v)) ∧ M' = M1
def sq_flag (v : Int32) : md_Sq := if v = -1 then (1, i3 0) else (0, v)
/-- the first number of steps from s on, at most k more, with P -/
def md_fs (P : Nat → Bool) : Nat → Nat → Int32
  | 0, _ => -1
  | k + 1, s => if P s = true then i3 s else md_fs P k (s + 1)
theorem md_fs_val (P : Nat → Bool) : ∀ k s, md_fs P k s = -1 ∨ ∃ p, s ≤ p ∧ p < s + k ∧ md_fs P k s = i3 p
  | 0, _ => .inl rfl
  | k + 1, s => by
    rw [md_fs]
    split
    · exact .inr ⟨s, Nat.le_refl _, by omega, rfl⟩
    · rcases md_fs_val P k (s + 1) with h | ⟨p, h1, h2, h3⟩
      · exact .inl h
      · exact .inr ⟨p, by omega, by omega, h3⟩
def md_su (g : md_R) (N : Int32) (b : Bool) : Int32 := md_fs (fun s => md_rc (md_it g s) N b) 91 0
/-- a prediction leaves the row as it was, as far as it goes -/
abbrev qp (v : Int32) (M : am_Hp) (A : Nat → Nat) (g : md_R) (k : Nat) : am_Q := fun o M' => o = .inl (some (.int v)) ∧ ∃ x y : md_R, (∀ j, j < 141 → x j = g j) ∧ M' = hp_sI (hp_sA (hp_sA M (A 3) y) (A 1) x) 153 (A 0) (i3 k)
abbrev qp0 (v : Int32) (M : am_Hp) (A : Nat → Nat) (g : md_R) : am_Q := fun o M' => o = .inl (some (.int v)) ∧ ∃ x y : md_R, (∀ j, j < 141 → x j = g j) ∧ M' = hp_sA (hp_sA M (A 3) y) (A 1) x
theorem md_cq_lo (g y x : md_R) {k : Nat} (hk : k < 141) : md_cq 0 0 141 (md_cq 0 0 141 g y) x k = g k := by
  unfold md_cq
  simp [hk]
theorem ct_p {G : am_Gx} {d : Nat} {r : am_Rec} {as : List Value} {M N : am_Hp} {A : Nat → Nat} {g : md_R} {mc ms : Nat} {v : Int32} {P : Int32 → am_Hp → Prop} (h : am_CT G d r as M mc ms (qp0 v N A g)) (k : ∀ x y : md_R, (∀ j, j < 141 → x j = g j) → P v (hp_sA (hp_sA N (A 3) y) (A 1) x)) : am_CT G d r as M mc ms (fun o M' => ∃ v, o = .inl (some (.int v)) ∧ P v M') :=
  am_CT.mono (fun o M' ⟨e1, x, y, e2, e3⟩ => ⟨v, e1, e3 ▸ k x y e2⟩) h
theorem qp_e {s : md_Sq} {M : am_Hp} {A : Nat → Nat} {g x y : md_R} {k : Nat} {v : Int32} (e : s = (k, v)) (hx : ∀ j, j < 141 → x j = g j) : qp s.2 M A g s.1 (.inl (some (.int v))) (hp_sI (hp_sA (hp_sA M (A 3) y) (A 1) x) 153 (A 0) (i3 k)) := by
  rw [e]
  exact ⟨rfl, x, y, hx, rfl⟩
theorem qp_f {s : md_Sq} {M : am_Hp} {A : Nat → Nat} {g : md_R} {k : Nat} {v : Int32} (hg : hp_E M (A 1) = g) (e : s = (k, v)) : qp s.2 M A g s.1 (.inl (some (.int v))) (hp_sI M 153 (A 0) (i3 k)) := by
  rw [e]
  refine ⟨rfl, g, hp_E M (A 3), fun _ _ => rfl, ?_⟩
  rw [hp_sA_id, hp_sA_nd hg]
def sq_pred (g : md_R) (v : Int32) (b : Bool) : md_Sq := if md_ip g v = true then (if md_su g (g (27 + v.toNatClampNeg)) b = -1 then (2, i3 0) else (0, md_su g (g (27 + v.toNatClampNeg)) b)) else (1, i3 0)
def sq_trips (g : md_R) (v : Int32) : md_Sq := if md_bt (i3 0) v (i3 90) = true then (0, md_it g v.toNatClampNeg 3 - g 3) else (1, i3 0)
