/-! .. the parser as a function of the text -/
/-- the code at a place; 1000 behind the end -/
def tk (l : List Nat) (i : Nat) : Nat := if i < l.length then l.getD i 0 else 1000
def dE (l : List Nat) : Nat → Nat → Nat
  | 0, a => a
  | m + 1, a => if 48 ≤ tk l a ∧ tk l a ≤ 57 then dE l m (a + 1) else a
def dV (l : List Nat) : Nat → Nat → Nat → Nat
  | 0, _, v => v
  | n + 1, a, v => dV l n (a + 1) (10 * v + (tk l a - 48))
/-- reading by a form: 48 stands for a digit, 78 for a number: (fits, where it ends or breaks, the arguments) -/
def fR (l : List Nat) : List Nat → Nat → List Nat → Bool × Nat × List Nat
  | [], a, args => (true, a, args)
  | w :: ps, a, args => if w = 48 ∨ w = 78 then (if dE l (if w = 48 then 1 else 3) a = a then (false, a, args) else fR l ps (dE l (if w = 48 then 1 else 3) a) (args ++ [dV l (dE l (if w = 48 then 1 else 3) a - a) a 0])) else if tk l a = w then fR l ps (a + 1) args else (false, a, args)
def fmt : Nat → List Nat
  | 0 => [99, 97, 108, 108, 32, 48, 32, 48, 32, 78]
  | 1 => [108, 101, 97, 118, 101, 32, 78]
  | 2 => [104, 111, 108, 100, 32, 48, 32, 48]
  | 3 => [115, 116, 111, 112, 32, 48]
  | 4 => [115, 116, 97, 114, 116, 32, 48]
  | 5 => [108, 105, 109, 105, 116, 32, 48, 32, 78]
  | 6 => [115, 116, 101, 112, 32, 78]
  | 7 => [115, 116, 101, 112]
  | _ => [200]
/-- .. to the end of a command -/
def fE (l : List Nat) (k p : Nat) : Bool × Nat × List Nat := if (fR l (fmt k) p []).1 = true then (if (fR l (fmt k) p []).2.1 < l.length ∧ tk l (fR l (fmt k) p []).2.1 ≠ 59 then (false, (fR l (fmt k) p []).2) else (true, (fR l (fmt k) p []).2)) else (false, (fR l (fmt k) p []).2)
theorem fE_2 (l : List Nat) (k p : Nat) : (fE l k p).2 = (fR l (fmt k) p []).2 := by
  unfold fE
  split
  · split <;> rfl
  · rfl
theorem fE_f {l : List Nat} {k p : Nat} (h : (fR l (fmt k) p []).1 = false) : fE l k p = (false, (fR l (fmt k) p []).2) := by
  unfold fE
  rw [if_neg (by rw [h]; decide)]
/-- the class's search: the forms from k on, j of them; err the farthest break -/
def cE (l : List Nat) (p : Nat) : Nat → Nat → Nat → Bool × Nat × Nat × List Nat
  | 0, _, err => (false, err, 0, [])
  | j + 1, k, err => if (fE l k p).1 = true then (true, (fE l k p).2.1, k, (fE l k p).2.2) else cE l p j (k + 1) (if err < (fE l k p).2.1 then (fE l k p).2.1 else err)
/-- the form that the letters choose -/
def sel (l : List Nat) (p : Nat) : Nat := if tk l p = 99 then 0 else if tk l p = 108 then (if tk l (p + 1) = 105 then 5 else 1) else if tk l p = 104 then 2 else if tk l p = 115 then (if tk l (p + 1) = 116 ∧ tk l (p + 2) = 111 then 3 else if tk l (p + 1) = 116 ∧ tk l (p + 2) = 97 then 4 else if tk l (p + 1) = 116 ∧ tk l (p + 2) = 101 ∧ tk l (p + 3) = 112 ∧ tk l (p + 4) = 32 then 6 else 7) else 8
theorem dE_ge (l : List Nat) : ∀ m a, a ≤ dE l m a
  | 0, _ => Nat.le_refl _
  | m + 1, a => by
    rw [dE]
    split
    · exact Nat.le_trans (Nat.le_succ a) (dE_ge l m (a + 1))
    · exact Nat.le_refl _
theorem fR_ge (l : List Nat) : ∀ ps a args, a ≤ (fR l ps a args).2.1
  | [], _, _ => Nat.le_refl _
  | w :: ps, a, args => by
    rw [fR]
    by_cases c1 : w = 48 ∨ w = 78
    · rw [if_pos c1]
      by_cases c2 : dE l (if w = 48 then 1 else 3) a = a
      · rw [if_pos c2]; exact Nat.le_refl _
      · rw [if_neg c2]; exact Nat.le_trans (dE_ge l _ a) (fR_ge l ps _ _)
    · rw [if_neg c1]
      split
      · exact Nat.le_trans (Nat.le_succ a) (fR_ge l ps _ _)
      · exact Nat.le_refl _
theorem fR_y {l : List Nat} {w a : Nat} {ps args : List Nat} (h1 : w ≠ 48) (h2 : w ≠ 78) (h : tk l a = w) : fR l (w :: ps) a args = fR l ps (a + 1) args := by
  rw [fR, if_neg (by omega), if_pos h]
theorem fR_n {l : List Nat} {w a : Nat} {ps args : List Nat} (h1 : w ≠ 48) (h2 : w ≠ 78) (h : tk l a ≠ w) : fR l (w :: ps) a args = (false, a, args) := by
  rw [fR, if_neg (by omega), if_neg h]
theorem fE_ge (l : List Nat) (k p : Nat) : p ≤ (fE l k p).2.1 := by
  rw [fE_2]
  exact fR_ge l _ p []
/-- a form whose first letter is another -/
theorem fE_0 {l : List Nat} {k p w : Nat} {ps : List Nat} (e : fmt k = w :: ps) (h1 : w ≠ 48) (h2 : w ≠ 78) (h : tk l p ≠ w) : (fE l k p).1 = false ∧ (fE l k p).2.1 = p := by
  have : fR l (fmt k) p [] = (false, p, []) := by rw [e, fR_n h1 h2 h]
  rw [fE_f (by rw [this]), this]
  exact ⟨rfl, rfl⟩
theorem fE_1 {l : List Nat} {k p w w1 : Nat} {ps : List Nat} (e : fmt k = w :: w1 :: ps) (h1 : w ≠ 48 ∧ w1 ≠ 48) (h2 : w ≠ 78 ∧ w1 ≠ 78) (h : tk l p = w) (h' : tk l (p + 1) ≠ w1) : (fE l k p).1 = false ∧ (fE l k p).2.1 = p + 1 := by
  have : fR l (fmt k) p [] = (false, p + 1, []) := by rw [e, fR_y h1.1 h2.1 h, fR_n h1.2 h2.2 h']
  rw [fE_f (by rw [this]), this]
  exact ⟨rfl, rfl⟩
theorem fE_2n {l : List Nat} {k p w w1 w2 : Nat} {ps : List Nat} (e : fmt k = w :: w1 :: w2 :: ps) (h1 : w ≠ 48 ∧ w1 ≠ 48 ∧ w2 ≠ 48) (h2 : w ≠ 78 ∧ w1 ≠ 78 ∧ w2 ≠ 78) (h : tk l p = w) (h' : tk l (p + 1) = w1) (h'' : tk l (p + 2) ≠ w2) : (fE l k p).1 = false ∧ (fE l k p).2.1 = p + 2 := by
  have : fR l (fmt k) p [] = (false, p + 2, []) := by rw [e, fR_y h1.1 h2.1 h, fR_y h1.2.1 h2.2.1 h', fR_n h1.2.2 h2.2.2 h'']
  rw [fE_f (by rw [this]), this]
  exact ⟨rfl, rfl⟩
theorem fE_g1 {l : List Nat} {k p w : Nat} {ps : List Nat} (e : fmt k = w :: ps) (h1 : w ≠ 48) (h2 : w ≠ 78) (h : tk l p = w) : p + 1 ≤ (fE l k p).2.1 := by
  rw [fE_2, e, fR_y h1 h2 h]
  exact fR_ge l _ _ []
theorem fE_g2 {l : List Nat} {k p w w1 : Nat} {ps : List Nat} (e : fmt k = w :: w1 :: ps) (h1 : w ≠ 48 ∧ w1 ≠ 48) (h2 : w ≠ 78 ∧ w1 ≠ 78) (h : tk l p = w) (h' : tk l (p + 1) = w1) : p + 2 ≤ (fE l k p).2.1 := by
  rw [fE_2, e, fR_y h1.1 h2.1 h, fR_y h1.2 h2.2 h']
  exact fR_ge l _ _ []
/-- all forms but the chosen one break off, and not behind it -/
theorem fE_oth (l : List Nat) (p k : Nat) (hk : k < 8) (hs : k ≠ sel l p) : (fE l k p).1 = false ∧ (fE l k p).2.1 ≤ (fE l (sel l p) p).2.1 := by
  have F : ∀ w ps, fmt k = w :: ps → w ≠ 48 → w ≠ 78 → tk l p ≠ w → (fE l k p).1 = false ∧ (fE l k p).2.1 ≤ (fE l (sel l p) p).2.1 := fun w ps e h1 h2 h => by
    obtain ⟨a, b⟩ := fE_0 e h1 h2 h
    exact ⟨a, by rw [b]; exact fE_ge l _ p⟩
  by_cases c99 : tk l p = 99
  · have hsel : sel l p = 0 := by unfold sel; rw [if_pos c99]
    rw [hsel] at hs
    rcases (by omega : k = 1 ∨ k = 2 ∨ k = 3 ∨ k = 4 ∨ k = 5 ∨ k = 6 ∨ k = 7) with rfl | rfl | rfl | rfl | rfl | rfl | rfl <;> exact F _ _ rfl (by decide) (by decide) (by rw [c99]; decide)
  · by_cases c108 : tk l p = 108
    · by_cases c105 : tk l (p + 1) = 105
      · have hsel : sel l p = 5 := by unfold sel; rw [if_neg c99, if_pos c108, if_pos c105]
        have g := fE_g1 (l := l) (k := 5) (p := p) rfl (by decide) (by decide) c108
        rw [hsel] at hs
        rcases (by omega : k = 0 ∨ k = 1 ∨ k = 2 ∨ k = 3 ∨ k = 4 ∨ k = 6 ∨ k = 7) with rfl | rfl | rfl | rfl | rfl | rfl | rfl
        · exact F _ _ rfl (by decide) (by decide) (by rw [c108]; decide)
        · obtain ⟨a, b⟩ := fE_1 (l := l) (k := 1) (p := p) rfl (by decide) (by decide) c108 (by rw [c105]; decide)
          exact ⟨a, by rw [b, hsel]; exact g⟩
        all_goals exact F _ _ rfl (by decide) (by decide) (by rw [c108]; decide)
      · have hsel : sel l p = 1 := by unfold sel; rw [if_neg c99, if_pos c108, if_neg c105]
        have g := fE_g1 (l := l) (k := 1) (p := p) rfl (by decide) (by decide) c108
        rw [hsel] at hs
        rcases (by omega : k = 5 ∨ k = 0 ∨ k = 2 ∨ k = 3 ∨ k = 4 ∨ k = 6 ∨ k = 7) with rfl | rfl | rfl | rfl | rfl | rfl | rfl
        · obtain ⟨a, b⟩ := fE_1 (l := l) (k := 5) (p := p) rfl (by decide) (by decide) c108 c105
          exact ⟨a, by rw [b, hsel]; exact g⟩
        all_goals exact F _ _ rfl (by decide) (by decide) (by rw [c108]; decide)
    · by_cases c104 : tk l p = 104
      · have hsel : sel l p = 2 := by unfold sel; rw [if_neg c99, if_neg c108, if_pos c104]
        rw [hsel] at hs
        rcases (by omega : k = 1 ∨ k = 0 ∨ k = 3 ∨ k = 4 ∨ k = 5 ∨ k = 6 ∨ k = 7) with rfl | rfl | rfl | rfl | rfl | rfl | rfl <;> exact F _ _ rfl (by decide) (by decide) (by rw [c104]; decide)
      · by_cases c115 : tk l p = 115
        · have F2 : k = 0 ∨ k = 1 ∨ k = 2 ∨ k = 5 → (fE l k p).1 = false ∧ (fE l k p).2.1 ≤ (fE l (sel l p) p).2.1 := fun h => by
            rcases h with rfl | rfl | rfl | rfl <;> exact F _ _ rfl (by decide) (by decide) (by rw [c115]; decide)
          by_cases c116 : tk l (p + 1) = 116
          · by_cases c111 : tk l (p + 2) = 111
            · have hsel : sel l p = 3 := by unfold sel; rw [if_neg c99, if_neg c108, if_neg c104, if_pos c115, if_pos ⟨c116, c111⟩]
              have g := fE_g2 (l := l) (k := 3) (p := p) rfl (by decide) (by decide) c115 c116
              rw [hsel] at hs
              by_cases q : k = 0 ∨ k = 1 ∨ k = 2 ∨ k = 5
              · exact F2 q
              · rcases (by omega : k = 4 ∨ k = 6 ∨ k = 7) with rfl | rfl | rfl
                · obtain ⟨a, b⟩ := fE_2n (l := l) (k := 4) (p := p) rfl (by decide) (by decide) c115 c116 (by rw [c111]; decide)
                  exact ⟨a, by rw [b, hsel]; exact g⟩
                · obtain ⟨a, b⟩ := fE_2n (l := l) (k := 6) (p := p) rfl (by decide) (by decide) c115 c116 (by rw [c111]; decide)
                  exact ⟨a, by rw [b, hsel]; exact g⟩
                · obtain ⟨a, b⟩ := fE_2n (l := l) (k := 7) (p := p) rfl (by decide) (by decide) c115 c116 (by rw [c111]; decide)
                  exact ⟨a, by rw [b, hsel]; exact g⟩
            · by_cases c97 : tk l (p + 2) = 97
              · have hsel : sel l p = 4 := by unfold sel; rw [if_neg c99, if_neg c108, if_neg c104, if_pos c115, if_neg (fun z => c111 z.2), if_pos ⟨c116, c97⟩]
                have g := fE_g2 (l := l) (k := 4) (p := p) rfl (by decide) (by decide) c115 c116
                rw [hsel] at hs
                by_cases q : k = 0 ∨ k = 1 ∨ k = 2 ∨ k = 5
                · exact F2 q
                · rcases (by omega : k = 3 ∨ k = 6 ∨ k = 7) with rfl | rfl | rfl
                  · obtain ⟨a, b⟩ := fE_2n (l := l) (k := 3) (p := p) rfl (by decide) (by decide) c115 c116 c111
                    exact ⟨a, by rw [b, hsel]; exact g⟩
                  · obtain ⟨a, b⟩ := fE_2n (l := l) (k := 6) (p := p) rfl (by decide) (by decide) c115 c116 (by rw [c97]; decide)
                    exact ⟨a, by rw [b, hsel]; exact g⟩
                  · obtain ⟨a, b⟩ := fE_2n (l := l) (k := 7) (p := p) rfl (by decide) (by decide) c115 c116 (by rw [c97]; decide)
                    exact ⟨a, by rw [b, hsel]; exact g⟩
              · -- step
                have F34 : ∀ s, (s = 6 ∨ s = 7) → k = 3 ∨ k = 4 → (fE l k p).1 = false ∧ (fE l k p).2.1 ≤ (fE l s p).2.1 := fun s h6 h => by
                  have g : p + 2 ≤ (fE l s p).2.1 := by
                    rcases h6 with rfl | rfl
                    · exact fE_g2 (l := l) (k := 6) (p := p) rfl (by decide) (by decide) c115 c116
                    · exact fE_g2 (l := l) (k := 7) (p := p) rfl (by decide) (by decide) c115 c116
                  rcases h with rfl | rfl
                  · obtain ⟨a, b⟩ := fE_2n (l := l) (k := 3) (p := p) rfl (by decide) (by decide) c115 c116 c111
                    exact ⟨a, by rw [b]; exact g⟩
                  · obtain ⟨a, b⟩ := fE_2n (l := l) (k := 4) (p := p) rfl (by decide) (by decide) c115 c116 c97
                    exact ⟨a, by rw [b]; exact g⟩
                by_cases c32 : tk l (p + 1) = 116 ∧ tk l (p + 2) = 101 ∧ tk l (p + 3) = 112 ∧ tk l (p + 4) = 32
                · have hsel : sel l p = 6 := by unfold sel; rw [if_neg c99, if_neg c108, if_neg c104, if_pos c115, if_neg (fun z => c111 z.2), if_neg (fun z => c97 z.2), if_pos c32]
                  rw [hsel] at hs ⊢
                  by_cases q : k = 0 ∨ k = 1 ∨ k = 2 ∨ k = 5
                  · have := F2 q; rw [hsel] at this; exact this
                  · by_cases q2 : k = 3 ∨ k = 4
                    · exact F34 6 (.inl rfl) q2
                    · obtain rfl : k = 7 := by omega
                      have e7 : fR l (fmt 7) p [] = (true, p + 4, []) := by
                        show fR l [115, 116, 101, 112] p [] = _
                        rw [fR_y (by decide) (by decide) c115, fR_y (by decide) (by decide) c32.1, fR_y (by decide) (by decide) c32.2.1, fR_y (by decide) (by decide) c32.2.2.1]
                        rfl
                      have lt : p + 4 < l.length := Classical.byContradiction (fun z => by
                        have := c32.2.2.2
                        rw [tk, if_neg z] at this
                        exact absurd this (by decide))
                      have e6 : p + 4 ≤ (fE l 6 p).2.1 := by
                        rw [fE_2]
                        show p + 4 ≤ (fR l [115, 116, 101, 112, 32, 78] p []).2.1
                        rw [fR_y (by decide) (by decide) c115, fR_y (by decide) (by decide) c32.1, fR_y (by decide) (by decide) c32.2.1, fR_y (by decide) (by decide) c32.2.2.1]
                        exact fR_ge l _ _ []
                      refine ⟨?_, by rw [fE_2, e7]; exact e6⟩
                      unfold fE
                      rw [e7, if_pos rfl, if_pos ⟨lt, by rw [c32.2.2.2]; decide⟩]
                · have hsel : sel l p = 7 := by unfold sel; rw [if_neg c99, if_neg c108, if_neg c104, if_pos c115, if_neg (fun z => c111 z.2), if_neg (fun z => c97 z.2), if_neg c32]
                  rw [hsel] at hs ⊢
                  by_cases q : k = 0 ∨ k = 1 ∨ k = 2 ∨ k = 5
                  · have := F2 q; rw [hsel] at this; exact this
                  · by_cases q2 : k = 3 ∨ k = 4
                    · exact F34 7 (.inr rfl) q2
                    · obtain rfl : k = 6 := by omega
                      by_cases c101 : tk l (p + 2) = 101
                      · by_cases c112 : tk l (p + 3) = 112
                        · have c0 : tk l (p + 4) ≠ 32 := fun z => c32 ⟨c116, c101, c112, z⟩
                          have e6 : fR l (fmt 6) p [] = (false, p + 4, []) := by
                            show fR l [115, 116, 101, 112, 32, 78] p [] = _
                            rw [fR_y (by decide) (by decide) c115, fR_y (by decide) (by decide) c116, fR_y (by decide) (by decide) c101, fR_y (by decide) (by decide) c112, fR_n (by decide) (by decide) c0]
                          have e7 : fR l (fmt 7) p [] = (true, p + 4, []) := by
                            show fR l [115, 116, 101, 112] p [] = _
                            rw [fR_y (by decide) (by decide) c115, fR_y (by decide) (by decide) c116, fR_y (by decide) (by decide) c101, fR_y (by decide) (by decide) c112]
                            rfl
                          refine ⟨by rw [fE_f (by rw [e6])], ?_⟩
                          rw [fE_2, fE_2, e6, e7]
                          exact Nat.le_refl _
                        · have e6 : fR l (fmt 6) p [] = (false, p + 3, []) := by
                            show fR l [115, 116, 101, 112, 32, 78] p [] = _
                            rw [fR_y (by decide) (by decide) c115, fR_y (by decide) (by decide) c116, fR_y (by decide) (by decide) c101, fR_n (by decide) (by decide) c112]
                          have e7 : fR l (fmt 7) p [] = (false, p + 3, []) := by
                            show fR l [115, 116, 101, 112] p [] = _
                            rw [fR_y (by decide) (by decide) c115, fR_y (by decide) (by decide) c116, fR_y (by decide) (by decide) c101, fR_n (by decide) (by decide) c112]
                          refine ⟨by rw [fE_f (by rw [e6])], ?_⟩
                          rw [fE_2, fE_2, e6, e7]
                          exact Nat.le_refl _
                      · obtain ⟨a, b⟩ := fE_2n (l := l) (k := 6) (p := p) rfl (by decide) (by decide) c115 c116 c101
                        obtain ⟨a', b'⟩ := fE_2n (l := l) (k := 7) (p := p) rfl (by decide) (by decide) c115 c116 c101
                        exact ⟨a, by rw [b, b']; exact Nat.le_refl _⟩
          · have hsel : sel l p = 7 := by unfold sel; rw [if_neg c99, if_neg c108, if_neg c104, if_pos c115, if_neg (fun z => c116 z.1), if_neg (fun z => c116 z.1), if_neg (fun z => c116 z.1)]
            rw [hsel] at hs
            obtain ⟨a', b'⟩ := fE_1 (l := l) (k := 7) (p := p) rfl (by decide) (by decide) c115 c116
            by_cases q : k = 0 ∨ k = 1 ∨ k = 2 ∨ k = 5
            · exact F2 q
            · rw [hsel]
              rcases (by omega : k = 3 ∨ k = 4 ∨ k = 6) with rfl | rfl | rfl
              · obtain ⟨a, b⟩ := fE_1 (l := l) (k := 3) (p := p) rfl (by decide) (by decide) c115 c116
                exact ⟨a, by rw [b, b']; exact Nat.le_refl _⟩
              · obtain ⟨a, b⟩ := fE_1 (l := l) (k := 4) (p := p) rfl (by decide) (by decide) c115 c116
                exact ⟨a, by rw [b, b']; exact Nat.le_refl _⟩
              · obtain ⟨a, b⟩ := fE_1 (l := l) (k := 6) (p := p) rfl (by decide) (by decide) c115 c116
                exact ⟨a, by rw [b, b']; exact Nat.le_refl _⟩
        · rcases (by omega : k = 0 ∨ k = 1 ∨ k = 2 ∨ k = 3 ∨ k = 4 ∨ k = 5 ∨ k = 6 ∨ k = 7) with rfl | rfl | rfl | rfl | rfl | rfl | rfl | rfl
          · exact F _ _ rfl (by decide) (by decide) c99
          · exact F _ _ rfl (by decide) (by decide) c108
          · exact F _ _ rfl (by decide) (by decide) c104
          · exact F _ _ rfl (by decide) (by decide) c115
          · exact F _ _ rfl (by decide) (by decide) c115
          · exact F _ _ rfl (by decide) (by decide) c108
          · exact F _ _ rfl (by decide) (by decide) c115
          · exact F _ _ rfl (by decide) (by decide) c115
theorem sel_le (l : List Nat) (p : Nat) : sel l p ≤ 8 := by
  unfold sel
  split
  · omega
  · split
    · split <;> omega
    · split
      · omega
      · split
        · split
          · omega
          · split
            · omega
            · split <;> omega
        · omega
theorem cE_ok {l : List Nat} {p s : Nat} (ho : ∀ i, i < 8 → i ≠ s → (fE l i p).1 = false) (hs : (fE l s p).1 = true) : ∀ j k err, k ≤ s → s < k + j → k + j ≤ 8 → cE l p j k err = (true, (fE l s p).2.1, s, (fE l s p).2.2)
  | 0, k, err, h1, h2, _ => by omega
  | j + 1, k, err, h1, h2, h3 => by
    rw [cE]
    by_cases c : k = s
    · rw [c, if_pos hs]
    · rw [if_neg (by rw [ho k (by omega) c]; decide)]
      exact cE_ok ho hs j (k + 1) _ (by omega) (by omega) (by omega)
theorem cE_no {l : List Nat} {p b : Nat} (ho : ∀ i, i < 8 → (fE l i p).1 = false ∧ (fE l i p).2.1 ≤ b) : ∀ j k err, k + j ≤ 8 → err ≤ b → (err = b ∨ ∃ i, k ≤ i ∧ i < k + j ∧ (fE l i p).2.1 = b) → cE l p j k err = (false, b, 0, [])
  | 0, k, err, _, h2, h3 => by
    rcases h3 with h | ⟨i, h1, h2, -⟩
    · rw [cE, h]
    · omega
  | j + 1, k, err, h1, h2, h3 => by
    obtain ⟨a, b'⟩ := ho k (by omega)
    rw [cE, if_neg (by rw [a]; decide)]
    refine cE_no ho j (k + 1) _ (by omega) ?_ ?_
    · split <;> omega
    · rcases h3 with h | ⟨i, g1, g2, g3⟩
      · left
        rw [if_neg (by omega)]
        exact h
      · by_cases c : i = k
        · left
          rw [c] at g3
          rw [g3]
          split
          · rfl
          · omega
        · exact .inr ⟨i, by omega, by omega, g3⟩
/-- what the class's search finds -/
theorem cE_sel (l : List Nat) (p : Nat) (h128 : ∀ i, i < l.length → l.getD i 0 < 128) : (cE l p 8 0 p).1 = (fE l (sel l p) p).1 ∧ (cE l p 8 0 p).2.1 = (fE l (sel l p) p).2.1 ∧ ((fE l (sel l p) p).1 = true → (cE l p 8 0 p).2.2 = (sel l p, (fE l (sel l p) p).2.2) ∧ sel l p < 8) := by
  have h8 : sel l p = 8 → (fE l (sel l p) p).1 = false ∧ (fE l (sel l p) p).2.1 = p := fun h => by
    rw [h]
    refine fE_0 (w := 200) (ps := []) rfl (by decide) (by decide) (fun z => ?_)
    unfold tk at z
    split at z
    · rename_i hp
      have := h128 p hp
      omega
    · exact absurd z (by decide)
  by_cases c : (fE l (sel l p) p).1 = true
  · have hlt : sel l p < 8 := by
      have := sel_le l p
      by_cases h : sel l p = 8
      · rw [(h8 h).1] at c; exact absurd c (by decide)
      · omega
    rw [cE_ok (fun i hi hn => (fE_oth l p i hi hn).1) c 8 0 p (Nat.zero_le _) (by omega) (by omega)]
    exact ⟨c.symm, rfl, fun _ => ⟨rfl, hlt⟩⟩
  · have c' : (fE l (sel l p) p).1 = false := by cases h : (fE l (sel l p) p).1 <;> simp_all
    rw [cE_no (b := (fE l (sel l p) p).2.1) (fun i hi => by
      by_cases e : i = sel l p
      · rw [e]; exact ⟨c', Nat.le_refl _⟩
      · exact fE_oth l p i hi e) 8 0 p (by omega) (fE_ge l _ p) (by
      by_cases h : sel l p = 8
      · exact .inl (h8 h).2.symm
      · exact .inr ⟨sel l p, Nat.zero_le _, by have := sel_le l p; omega, rfl⟩)]
    exact ⟨c'.symm, rfl, fun z => absurd z c⟩
