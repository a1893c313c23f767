/-! THE ABSTRACT HEAP: what the cells hold, by field number and address: hp_T tags (0: nothing; 1..11 objects of am_cl (8: an ArrayList, 11: its Itr; 29: Object[], 43: the empty Object[] that is only read); 20.. arrays; from 40 on: what is only read), hp_N lengths, hp_I, hp_R fields (numbers, references: 0 is null), hp_E, hp_Q, hp_L, hp_D elements. -/
abbrev am_Hp : Type := (Nat → Nat) × (Nat → Nat) × (Nat → Nat → Int32) × (Nat → Nat → Nat) × (Nat → Nat → Int32) × (Nat → Nat → Nat) × (Nat → Nat → Int64) × (Nat → Nat → UInt64)
def hp_T (M : am_Hp) : Nat → Nat := M.1
def hp_N (M : am_Hp) : Nat → Nat := M.2.1
def hp_I (M : am_Hp) : Nat → Nat → Int32 := M.2.2.1
def hp_R (M : am_Hp) : Nat → Nat → Nat := M.2.2.2.1
def hp_E (M : am_Hp) : Nat → Nat → Int32 := M.2.2.2.2.1
def hp_Q (M : am_Hp) : Nat → Nat → Nat := M.2.2.2.2.2.1
def hp_L (M : am_Hp) : Nat → Nat → Int64 := M.2.2.2.2.2.2.1
def hp_D (M : am_Hp) : Nat → Nat → UInt64 := M.2.2.2.2.2.2.2
def hp_u {α : Type} (f : Nat → Nat → α) (i j : Nat) (v : α) : Nat → Nat → α := fun x y => if x = i ∧ y = j then v else f x y
def hp_sI (M : am_Hp) (u a : Nat) (v : Int32) : am_Hp := (hp_T M, hp_N M, hp_u (hp_I M) u a v, hp_R M, hp_E M, hp_Q M, hp_L M, hp_D M)
def hp_sR (M : am_Hp) (u a : Nat) (v : Nat) : am_Hp := (hp_T M, hp_N M, hp_I M, hp_u (hp_R M) u a v, hp_E M, hp_Q M, hp_L M, hp_D M)
def hp_sE (M : am_Hp) (a k : Nat) (v : Int32) : am_Hp := (hp_T M, hp_N M, hp_I M, hp_R M, hp_u (hp_E M) a k v, hp_Q M, hp_L M, hp_D M)
def hp_sQ (M : am_Hp) (a k : Nat) (v : Nat) : am_Hp := (hp_T M, hp_N M, hp_I M, hp_R M, hp_E M, hp_u (hp_Q M) a k v, hp_L M, hp_D M)
def hp_sL (M : am_Hp) (a k : Nat) (v : Int64) : am_Hp := (hp_T M, hp_N M, hp_I M, hp_R M, hp_E M, hp_Q M, hp_u (hp_L M) a k v, hp_D M)
def hp_sD (M : am_Hp) (a k : Nat) (v : UInt64) : am_Hp := (hp_T M, hp_N M, hp_I M, hp_R M, hp_E M, hp_Q M, hp_L M, hp_u (hp_D M) a k v)
/-- a new object of tag t at a -/
def hp_o (M : am_Hp) (a t : Nat) : am_Hp := (va_up (hp_T M) a t, hp_N M, fun u x => if x = a then 0 else hp_I M u x, fun u x => if x = a then 0 else hp_R M u x, hp_E M, hp_Q M, hp_L M, hp_D M)
/-- a new array of tag t and length n at a -/
def hp_a (M : am_Hp) (a t n : Nat) : am_Hp := (va_up (hp_T M) a t, va_up (hp_N M) a n, hp_I M, hp_R M, fun x k => if x = a then 0 else hp_E M x k, fun x k => if x = a then 0 else hp_Q M x k, fun x k => if x = a then 0 else hp_L M x k, fun x k => if x = a then 0 else hp_D M x k)
abbrev am_cl : List vw_C := [(RX0, TX0, 10), (RX1, TX1, 8), (RX2, TX2, 3), (RX3, TX3, 7), (RX4, TX4, 5), (RX5, TX5, 5), (RX6, TX6, 9), (RJx4a65c, TJx4a65c, 3), (RJ4, TJ4, 4), (RJ0, TJ0, 4), (RJx35411, TJx35411, 4)]
/-- which fields are references -/
def am_kd : Nat → List Bool := fun ci => match ci with
  | 0 => [true, true, true, false, false, false, false, false, false, false]
  | 1 => [false, false, false, false, false, false, false, false]
  | 2 => [true, false, false]
  | 3 => [false, false, false, false, false, false, false]
  | 4 => [true, true, true, false, false]
  | 5 => [true, true, true, false, false]
  | 6 => [true, true, true, true, true, true, false, false, false]
  | 7 => [false, true, false]
  | 8 => [true, false, false, false]
  | 9 => [true, false, false, false]
  | 10 => [false, false, false, true]
  | _ => []
def am_rv (n : Nat) : Value := if n = 0 then .null else .ref n
/-- a list's own array (field 141) may lie at address 0: its place in the picture is the address and one -/
def am_rw (u n : Nat) : Value := if u = 141 then (if n = 0 then .null else .ref (n - 1)) else am_rv n
theorem am_rw_ne {u n : Nat} (h : u ≠ 141) : am_rw u n = am_rv n := if_neg h
def am_o (n : Nat) : Option Nat := if n = 0 then none else some n
theorem am_rf (n : Nat) : va_rf (am_o n) = am_rv n := by
  unfold am_o am_rv
  split <;> rfl
def am_fv (b : Bool) (u a : Nat) (M : am_Hp) : Value := match b with
  | true => am_rw u (hp_R M u a)
  | false => .int (hp_I M u a)
def am_go (M : am_Hp) (a : Nat) : Nat → List Bool → List Value
  | _, [] => []
  | u, b :: bs => am_fv b u a M :: am_go M a (u + 1) bs
def am_fs (ci : Nat) (M : am_Hp) (a : Nat) : List Value := am_go M a (20 * ci) (am_kd ci)
def am_ct (t : Nat) (M : am_Hp) (a : Nat) : ((Nat → Int32) ⊕ (Nat → Int64) ⊕ (Nat → UInt32) ⊕ (Nat → UInt64) ⊕ (Nat → Option Nat)) :=
  if t = 23 then .inr (.inl (hp_L M a)) else if t = 24 then .inr (.inr (.inr (.inl (hp_D M a)))) else if 25 ≤ t ∧ t ≤ 29 then .inr (.inr (.inr (.inr (fun k => am_o (hp_Q M a k))))) else .inl (hp_E M a)
def am_rl (cy : Nat → ClassId) (M : am_Hp) (a : Nat) : va_E :=
  if hp_T M a < 20 then .inr (hp_T M a - 1, am_fs (hp_T M a - 1) M a)
  else if hp_T M a = 40 then .inr (9, am_fs 9 M a)
  else .inl (cy (hp_T M a), hp_N M a, am_ct (hp_T M a) M a)
def am_tys (cy : Nat → ClassId) : List (ClassId × FieldType) := [(cy 20, .byte), (cy 22, .int), (cy 22, .int), (cy 22, .int), (cy 22, .int), (cy 25, .object RX0), (cy 26, .object RX1), (cy 27, .object RX3), (cy 28, .array .int), (cy 41, .byte), (cy 42, .int), (cy 29, .object "java/lang/Object")]
/-! what a field's change does to the picture -/
theorem am_go_get (M : am_Hp) (a : Nat) : ∀ (l : List Bool) (u k : Nat), (am_go M a u l)[k]? = (l[k]?).map (fun b => am_fv b (u + k) a M)
  | [], u, k => rfl
  | b :: bs, u, 0 => rfl
  | b :: bs, u, k + 1 => by
    show (am_go M a (u + 1) bs)[k]? = (bs[k]?).map _
    rw [am_go_get M a bs (u + 1) k]
    congr 1
    funext c
    rw [show u + 1 + k = u + (k + 1) by omega]
theorem am_go_len (M : am_Hp) (a : Nat) : ∀ (l : List Bool) (u : Nat), (am_go M a u l).length = l.length
  | [], u => rfl
  | b :: bs, u => congrArg (· + 1) (am_go_len M a bs (u + 1))
theorem am_go_set {M M' : am_Hp} {a k : Nat} {l : List Bool} {u : Nat} {b : Bool} {v : Value} (hk : l[k]? = some b) (hv : am_fv b (u + k) a M' = v) (hn : ∀ (c : Bool) (w : Nat), w ≠ u + k → am_fv c w a M' = am_fv c w a M) : am_go M' a u l = (am_go M a u l).set k v := by
  have hl : k < l.length := (List.getElem?_eq_some_iff.mp hk).1
  apply List.ext_getElem?
  intro j
  rw [am_go_get]
  by_cases hj : j = k
  · subst hj
    rw [List.getElem?_set_self (by rw [am_go_len]; exact hl), hk]
    exact congrArg some hv
  · rw [List.getElem?_set_ne (Ne.symm hj), am_go_get]
    cases l[j]? with
    | none => rfl
    | some c => exact congrArg some (hn c (u + j) (by omega))
theorem am_go_eq {M M' : am_Hp} {a : Nat} (hn : ∀ (c : Bool) (w : Nat), am_fv c w a M' = am_fv c w a M) : ∀ (l : List Bool) (u : Nat), am_go M' a u l = am_go M a u l
  | [], u => rfl
  | b :: bs, u => by
    show am_fv b u a M' :: _ = am_fv b u a M :: _
    rw [hn, am_go_eq hn bs (u + 1)]
theorem am_rl_eq {cy : Nat → ClassId} {M M' : am_Hp} {a : Nat} (hT : hp_T M' a = hp_T M a) (hN : hp_N M' a = hp_N M a) (hI : ∀ u, hp_I M' u a = hp_I M u a) (hR : ∀ u, hp_R M' u a = hp_R M u a) (hE : hp_E M' a = hp_E M a) (hQ : hp_Q M' a = hp_Q M a) (hL : hp_L M' a = hp_L M a) (hD : hp_D M' a = hp_D M a) : am_rl cy M' a = am_rl cy M a := by
  have hn : ∀ (c : Bool) (w : Nat), am_fv c w a M' = am_fv c w a M := fun c w => by cases c <;> simp [am_fv, hI, hR]
  unfold am_rl am_fs am_ct
  rw [hT, hN, hE, hQ, hL, hD, am_go_eq hn, am_go_eq hn]
theorem am_rl_obj {cy : Nat → ClassId} {M : am_Hp} {a ci : Nat} (h : hp_T M a = ci + 1) (hc : ci < 19) : am_rl cy M a = .inr (ci, am_fs ci M a) := by
  unfold am_rl
  rw [h, if_pos (by omega)]
  rfl
theorem am_rl_str {cy : Nat → ClassId} {M : am_Hp} {a : Nat} (h : hp_T M a = 40) : am_rl cy M a = .inr (9, am_fs 9 M a) := by
  unfold am_rl
  rw [h, if_neg (by omega), if_pos rfl]
theorem am_rl_arr {cy : Nat → ClassId} {M : am_Hp} {a t : Nat} (h : hp_T M a = t) (h1 : 20 ≤ t) (h2 : t ≠ 40) : am_rl cy M a = .inl (cy t, hp_N M a, am_ct t M a) := by
  unfold am_rl
  rw [h, if_neg (by omega), if_neg h2]
theorem am_rl_sI {cy : Nat → ClassId} {M : am_Hp} {a ci k : Nat} {x : Int32} (h : hp_T M a = ci + 1) (hc : ci < 19) (hk : (am_kd ci)[k]? = some false) : ∀ b, am_rl cy (hp_sI M (20 * ci + k) a x) b = va_up (am_rl cy M) a (.inr (ci, (am_fs ci M a).set k (.int x))) b := by
  intro b
  by_cases hb : b = a
  · subst hb
    rw [va_up, if_pos rfl, am_rl_obj (M := hp_sI M (20 * ci + k) b x) h hc]
    congr 2
    exact am_go_set hk (by simp [am_fv, hp_sI, hp_I, hp_u]) (fun c w hw => by cases c <;> simp [am_fv, hp_sI, hp_I, hp_R, hp_u, hw])
  · rw [va_up, if_neg hb]
    exact am_rl_eq rfl rfl (fun u => by simp [hp_sI, hp_I, hp_u, hb]) (fun u => rfl) rfl rfl rfl rfl
theorem am_rl_sR {cy : Nat → ClassId} {M : am_Hp} {a ci k : Nat} {x : Nat} (h : hp_T M a = ci + 1) (hc : ci < 19) (hk : (am_kd ci)[k]? = some true) : ∀ b, am_rl cy (hp_sR M (20 * ci + k) a x) b = va_up (am_rl cy M) a (.inr (ci, (am_fs ci M a).set k (am_rw (20 * ci + k) x))) b := by
  intro b
  by_cases hb : b = a
  · subst hb
    rw [va_up, if_pos rfl, am_rl_obj (M := hp_sR M (20 * ci + k) b x) h hc]
    congr 2
    exact am_go_set hk (by simp [am_fv, hp_sR, hp_R, hp_u]) (fun c w hw => by cases c <;> simp [am_fv, hp_sR, hp_I, hp_R, hp_u, hw])
  · rw [va_up, if_neg hb]
    exact am_rl_eq rfl rfl (fun u => rfl) (fun u => by simp [hp_sR, hp_R, hp_u, hb]) rfl rfl rfl rfl
theorem hp_u_row {α : Type} (f : Nat → Nat → α) (a k : Nat) (v : α) : hp_u f a k v a = va_up (f a) k v := by
  funext j
  simp [hp_u, va_up]
theorem hp_u_row' {α : Type} (f : Nat → Nat → α) {a b k : Nat} (v : α) (h : b ≠ a) : hp_u f a k v b = f b := by
  funext j
  simp [hp_u, h]
theorem am_upd (f : Nat → Int32) (k : Nat) (v : Int32) : va_up f k v = upd f k v := by
  funext j
  simp [va_up, upd]
theorem am_updL (f : Nat → Int64) (k : Nat) (v : Int64) : va_up f k v = vp_updL f k v := by
  funext j
  simp [va_up, vp_updL]
theorem am_rl_sE {cy : Nat → ClassId} {M : am_Hp} {a k t : Nat} {x : Int32} (h : hp_T M a = t) (h1 : 20 ≤ t) (h2 : t < 23) : ∀ b, am_rl cy (hp_sE M a k x) b = va_up (am_rl cy M) a (.inl (cy t, hp_N M a, .inl (upd (hp_E M a) k x))) b := by
  intro b
  by_cases hb : b = a
  · subst hb
    rw [va_up, if_pos rfl, am_rl_arr (M := hp_sE M b k x) h h1 (by omega)]
    congr 3
    unfold am_ct
    rw [if_neg (by omega), if_neg (by omega), if_neg (by omega), ← am_upd]
    exact congrArg _ (hp_u_row _ _ _ _)
  · rw [va_up, if_neg hb]
    exact am_rl_eq rfl rfl (fun u => rfl) (fun u => rfl) (hp_u_row' _ _ hb) rfl rfl rfl
theorem am_rl_sL {cy : Nat → ClassId} {M : am_Hp} {a k : Nat} {x : Int64} (h : hp_T M a = 23) : ∀ b, am_rl cy (hp_sL M a k x) b = va_up (am_rl cy M) a (.inl (cy 23, hp_N M a, .inr (.inl (vp_updL (hp_L M a) k x)))) b := by
  intro b
  by_cases hb : b = a
  · subst hb
    rw [va_up, if_pos rfl, am_rl_arr (M := hp_sL M b k x) h (by omega) (by omega)]
    congr 3
    unfold am_ct
    rw [if_pos rfl, ← am_updL]
    exact congrArg (fun z => Sum.inr (Sum.inl z)) (hp_u_row _ _ _ _)
  · rw [va_up, if_neg hb]
    exact am_rl_eq rfl rfl (fun u => rfl) (fun u => rfl) rfl rfl (hp_u_row' _ _ hb) rfl
theorem am_rl_sD {cy : Nat → ClassId} {M : am_Hp} {a k : Nat} {x : UInt64} (h : hp_T M a = 24) : ∀ b, am_rl cy (hp_sD M a k x) b = va_up (am_rl cy M) a (.inl (cy 24, hp_N M a, .inr (.inr (.inr (.inl (va_up (hp_D M a) k x)))))) b := by
  intro b
  by_cases hb : b = a
  · subst hb
    rw [va_up, if_pos rfl, am_rl_arr (M := hp_sD M b k x) h (by omega) (by omega)]
    congr 3
    unfold am_ct
    rw [if_neg (by omega), if_pos rfl]
    exact congrArg (fun z => Sum.inr (Sum.inr (Sum.inr (Sum.inl z)))) (hp_u_row _ _ _ _)
  · rw [va_up, if_neg hb]
    exact am_rl_eq rfl rfl (fun u => rfl) (fun u => rfl) rfl rfl rfl (hp_u_row' _ _ hb)
theorem am_rl_sQ {cy : Nat → ClassId} {M : am_Hp} {a k t : Nat} {x : Nat} (h : hp_T M a = t) (h1 : 25 ≤ t) (h2 : t ≤ 29) (hx : x ≠ 0) : ∀ b, am_rl cy (hp_sQ M a k x) b = va_up (am_rl cy M) a (.inl (cy t, hp_N M a, .inr (.inr (.inr (.inr (va_up (fun j => am_o (hp_Q M a j)) k (some x))))))) b := by
  intro b
  by_cases hb : b = a
  · subst hb
    rw [va_up, if_pos rfl, am_rl_arr (M := hp_sQ M b k x) h (by omega) (by omega)]
    congr 3
    unfold am_ct
    rw [if_neg (by omega), if_neg (by omega), if_pos ⟨h1, h2⟩]
    refine congrArg (fun z => Sum.inr (Sum.inr (Sum.inr (Sum.inr z)))) ?_
    funext j
    show am_o (hp_u (hp_Q M) b k x b j) = _
    rw [hp_u_row]
    unfold va_up
    split
    · simp [am_o, hx]
    · rfl
  · rw [va_up, if_neg hb]
    exact am_rl_eq rfl rfl (fun u => rfl) (fun u => rfl) rfl (hp_u_row' _ _ hb) rfl rfl
