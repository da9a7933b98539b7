-- FUNCTIONS OF THE MEMORY: rows for all
theorem ck_t {α : Type} {b : Prop} [Decidable b] {x : Option α} (h : b) : ck b x = x := if_pos h
theorem bd_s {α β : Type} (y : β) (k : β → Option α) : bd (some y) k = k y := rfl
theorem wr_e {α : Type} (M : Mm) (k : Mm → Option α) : wr M k = k M := rfl
theorem nm_x {α β : Type} (x : β) (k : β → Option α) : nm x k = k x := rfl
theorem mI (M : Mm) (a k : Nat) (x : Int32) (b j : Nat) : (wI M a k x).1 b j = if b = a ∧ j = k then x else M.1 b j := by
  by_cases h : b = a
  · subst h
    rw [wI_row]
    by_cases h2 : j = k
    · simp [upd, h2]
    · simp [upd, h2]
  · rw [wI_ne h]
    simp [h]
theorem mIs (M : Mm) (a k : Nat) (x : Int32) : (wI M a k x).1 a k = x := by rw [mI]; simp
theorem mIn {M : Mm} {a k : Nat} {x : Int32} {b j : Nat} (h : ¬ (b = a ∧ j = k)) : (wI M a k x).1 b j = M.1 b j := by rw [mI, if_neg h]
theorem mF (M : Mm) (a n : Nat) (x : Int32) (b j : Nat) : (fillI M a n x).1 b j = if b = a ∧ j < n then x else M.1 b j := by
  unfold fillI
  by_cases h : b = a
  · subst h
    rw [wR_row]
    by_cases h2 : j < n <;> simp [h2]
  · rw [wR_ne h]
    simp [h]
theorem mC (M : Mm) (a c n : Nat) (b j : Nat) : (wR M a (va_cpy (M.1 c) (M.1 a) 0 0 n)).1 b j = if b = a ∧ j < n then M.1 c j else M.1 b j := by
  by_cases h : b = a
  · subst h
    rw [wR_row]
    unfold va_cpy
    by_cases h2 : j < n <;> simp [h2]
  · rw [wR_ne h]
    simp [h]
/-- a truth as 0, 1 -/
def b2 (p : Prop) [Decidable p] : Int32 := if p then 1 else 0
theorem b2_t {p : Prop} [Decidable p] (h : p) : b2 p = 1 := if_pos h
theorem b2_f {p : Prop} [Decidable p] (h : ¬ p) : b2 p = 0 := if_neg h
theorem b2_0 {p : Prop} [Decidable p] : b2 p = 0 ↔ ¬ p := by
  unfold b2
  by_cases h : p <;> simp [h]
theorem b2_1 {p : Prop} [Decidable p] : b2 p = 1 ↔ p := by
  unfold b2
  by_cases h : p <;> simp [h]
theorem b2_B {p : Prop} [Decidable p] : isB (b2 p) := by
  unfold b2
  by_cases h : p
  · rw [if_pos h]; exact Or.inr rfl
  · rw [if_neg h]; exact Or.inl rfl
theorem ck_B {α : Type} {p : Prop} [Decidable p] {x : Option α} : ck (isB (b2 p)) x = x := ck_t b2_B
abbrev inR (v x y : Int32) : Prop := x ≤ v ∧ v ≤ y
theorem litI (k : Nat) : (OfNat.ofNat k : Int32) = nI k := rfl
theorem e_isAmong (v x y : Int32) : f_X11_isAmong v x y = some (b2 (inR v x y)) := by
  unfold f_X11_isAmong f_X11_isAmong_14 f_X11_isAmong_15
  by_cases h1 : v < x
  · rw [if_pos h1, ck_t (by decide), b2_f (fun h => absurd h.1 (by simpa using h1))]
  · rw [if_neg h1]
    by_cases h2 : y < v
    · rw [if_pos h2, ck_t (by decide), b2_f (fun h => absurd h.2 (by simpa using h2))]
    · rw [if_neg h2, ck_t (by decide), b2_t ⟨by simpa using h1, by simpa using h2⟩]
theorem e_in (v x y : Int64) : f_X12_in v x y = some (b2 (x ≤ v ∧ v ≤ y)) := by
  unfold f_X12_in f_X12_in_17 f_X12_in_18
  simp only [lg_cmp_lt, lg_cmp_gt]
  by_cases h1 : v < x
  · rw [if_pos h1, ck_t (by decide), b2_f (fun h => absurd h.1 (by simpa using h1))]
  · rw [if_neg h1]
    by_cases h2 : y < v
    · rw [if_pos h2, ck_t (by decide), b2_f (fun h => absurd h.2 (by simpa using h2))]
    · rw [if_neg h2, ck_t (by decide), b2_t ⟨by simpa using h1, by simpa using h2⟩]
theorem b2_c {p q : Prop} [Decidable p] [Decidable q] (h : p ↔ q) : b2 p = b2 q := by
  unfold b2
  by_cases hq : q
  · rw [if_pos hq, if_pos (h.mpr hq)]
  · rw [if_neg hq, if_neg (fun z => hq (h.mp z))]
/-- 'in' of the reference, asked of ints -/
theorem e_inI (v x y : Int32) : f_X12_in v.toInt64 x.toInt64 y.toInt64 = some (b2 (inR v x y)) := by
  rw [e_in]
  exact congrArg some (b2_c (by simp [inR]))
theorem e_isSide (x : Int32) : f_X11_isSide x = some (b2 (inR x 0 1)) := by
  unfold f_X11_isSide
  rw [e_isAmong, bd_s, ck_B]
theorem e_isHour (x : Int32) : f_X11_isHour x = some (b2 (inR x 0 11)) := by
  unfold f_X11_isHour
  rw [e_isAmong, bd_s, ck_B]
theorem e_isSheet (x : Int32) : f_X11_isSheet x = some (b2 (inR x 0 3)) := by
  unfold f_X11_isSheet
  rw [e_isAmong, bd_s, ck_B]
theorem e_isFurlong (M : Mm) (x : Int32) : f_X11_isFurlong M x = some (b2 (inR x 0 (M.1 (ld (M.1 0 9)) 0 - 1))) := by
  unfold f_X11_isFurlong
  rw [e_isAmong, bd_s, ck_B]
theorem e_isBrazier (M : Mm) (x : Int32) : f_X11_isBrazier M x = some (b2 (inR x 0 (M.1 (ld (M.1 0 9) + 5 + 6) 0 - 1))) := by
  unfold f_X11_isBrazier
  rw [e_isAmong, bd_s, ck_B]
theorem e_isFromNow (M : Mm) (x : Int32) : f_X11_isFromNow M x = some (b2 (inR x (M.1 (ld (M.1 0 9) + 5) 0) 12)) := by
  unfold f_X11_isFromNow
  rw [e_isAmong, bd_s, ck_B]
theorem e_ySide (x : Int32) : f_X12_isSide x = some (b2 (inR x 0 1)) := by
  unfold f_X12_isSide
  rw [show ((0 : Int64)) = (0 : Int32).toInt64 from rfl, show ((1 : Int64)) = (1 : Int32).toInt64 from rfl, e_inI, bd_s, ck_B]
theorem e_yHour (x : Int32) : f_X12_isHour x = some (b2 (inR x 0 11)) := by
  unfold f_X12_isHour
  rw [show ((0 : Int64)) = (0 : Int32).toInt64 from rfl, show ((11 : Int64)) = (11 : Int32).toInt64 from rfl, e_inI, bd_s, ck_B]
theorem e_yFurlong (M : Mm) (x : Int32) : f_X12_isFurlong M x = some (b2 (inR x 0 (M.1 0 1 - 1))) := by
  unfold f_X12_isFurlong
  rw [show ((0 : Int64)) = (0 : Int32).toInt64 from rfl, e_inI, bd_s, ck_B]
theorem e_yAhead (M : Mm) (x : Int32) : f_X12_isAhead M x = some (b2 (inR x (M.1 1 170) 12)) := by
  unfold f_X12_isAhead f_X12_hourNow
  rw [bd_s, show ((12 : Int64)) = (12 : Int32).toInt64 from rfl, e_inI, bd_s, ck_B]
  rfl
theorem ck_n {α : Type} {n N : Nat} {x : Option α} (h : n < N) (hN : N < 2 ^ 31) : ck (inn (nI n) N) x = x := ck_t (nI_in h hN)
/-- an int between 0 and a small number -/
theorem inR_n {v : Int32} {n : Nat} (hn : n < 2 ^ 31) (h : inR v 0 (nI n)) : ∃ j, j ≤ n ∧ v = nI j := by
  obtain ⟨j, hj, rfl⟩ := nI_of (x := v) (by simpa using h.1)
  exact ⟨j, (nI_leI hj hn).mp h.2, rfl⟩
theorem inR_i {j n : Nat} (hn : n < 2 ^ 31) (h : j ≤ n) : inR (nI j) 0 (nI n) := ⟨nI_pos' (by omega), nI_le h hn⟩
