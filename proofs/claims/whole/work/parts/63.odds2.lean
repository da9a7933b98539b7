-- the class's cases
theorem mJ (M : Mm) (a k : Nat) (x : Int64) (j : Nat) : (wJ M a k x).2 a j = if j = k then x else M.2 a j := by
  rw [wJ_row]
  by_cases e : j = k
  · subst e
    rw [pk_uLs, if_pos rfl]
  · rw [pk_uLn e, if_neg e]
theorem wJ_1 (M : Mm) (a k : Nat) (x : Int64) : (wJ M a k x).1 = M.1 := rfl
def pr (A f : Nat → Nat) : Nat := sg (fun v => A v * f v) 100
def up (A : Nat → Nat) (k y : Nat) : Nat → Nat := fun v => if v = k then y else A v
def CA (M : Mm) (A : Nat → Nat) : Prop := ∀ v, v < 100 → M.2 129 v = lN (A v)
theorem CA.w {M : Mm} {A : Nat → Nat} (h : CA M A) (k y : Nat) : CA (wJ M 129 k (lN y)) (up A k y) := fun v hv => by
  rw [mJ]
  unfold up
  by_cases e : v = k
  · rw [if_pos e, if_pos e]
  · rw [if_neg e, if_neg e]
    exact h v hv
theorem pr_up {A f : Nat → Nat} {k y : Nat} (hk : k < 100) : pr (up A k y) f + A k * f k = pr A f + y * f k := sg_upd hk
def fp (c la lb : Nat) (f : Nat → Nat) : Nat → Nat := fun v => (10 - c) * f (v - la) + c * f (v - lb)
theorem pass_loop {M : Mm} {C : Nat → Nat} {c la lb : Nat} (hc : c ≤ 10) (ha : la ≤ 1000) (hb : lb ≤ 1000) : ∀ n u A Mi, u ≤ 100 → 100 < u + n → Mi.1 = M.1 → CA Mi A → (∀ v, u ≤ v → v < 100 → A v = C v) → (∀ f, pr A f + sg (fun v => C v * f v) u = pr C f + sg (fun v => C v * fp c la lb f v) u) →
    ∃ M2 A2, f_X3_pass_3 (nI la) (nI lb) (nI c) n Mi (nI u) = some M2 ∧ M2.1 = M.1 ∧ CA M2 A2 ∧ ∀ f, pr A2 f = pr C (fp c la lb f) := by
  intro n
  induction n with
  | zero => intro u A Mi q1 q2; omega
  | succ n ih =>
    intro u A Mi q1 q2 hM hA hC hP
    have st : f_X3_pass_3 (nI la) (nI lb) (nI c) (n + 1) Mi (nI u) = b_X3_pass_3 (fun M x4 => f_X3_pass_3 (nI la) (nI lb) (nI c) n M x4) (nI la) (nI lb) (nI c) Mi (nI u) := rfl
    rw [st]
    unfold b_X3_pass_3
    by_cases e : u = 100
    · subst e
      rw [if_pos (by decide)]
      refine ⟨Mi, A, rfl, hM, hA, fun f => ?_⟩
      have := hP f
      unfold pr at *
      omega
    · rw [if_neg (show ¬ (99 : Int32) < nI u from nI_nlt (a := 99) (by omega) (by omega)), ck_n (show u < 100 by omega) (by omega)]
      simp only [iMax_n (show u < 2 ^ 30 by omega) (show la < 2 ^ 30 by omega), iMax_n (show u < 2 ^ 30 by omega) (show lb < 2 ^ 30 by omega), wr_e, nm_x]
      rw [ck_n (show u - la < 100 by omega) (by omega), ck_n (show u - lb < 100 by omega) (by omega), nI_clamp (show u < 2 ^ 31 by omega), nI_clamp (show u - la < 2 ^ 31 by omega), nI_clamp (show u - lb < 2 ^ 31 by omega), hA u (by omega), show (10 : Int32) - nI c = nI (10 - c) from pk_sub (a := 10) hc, nI_l (by omega), nI_l (by omega)]
      have h1 : CA (wJ Mi 129 u 0) (up A u 0) := hA.w u 0
      rw [h1 (u - la) (by omega), lN_mul, lN_add]
      have h2 := h1.w (u - la) (up A u 0 (u - la) + A u * (10 - c))
      rw [h2 (u - lb) (by omega), lN_mul, lN_add, n1]
      have h3 := h2.w (u - lb) (up (up A u 0) (u - la) (up A u 0 (u - la) + A u * (10 - c)) (u - lb) + A u * c)
      refine ih (u + 1) _ _ (by omega) (by omega) hM h3 (fun v g1 g2 => ?_) (fun f => ?_)
      · unfold up
        rw [if_neg (by omega), if_neg (by omega), if_neg (by omega)]
        exact hC v (by omega) g2
      · have p1 := pr_up (A := A) (f := f) (k := u) (y := 0) (by omega)
        have p2 := pr_up (A := up A u 0) (f := f) (k := u - la) (y := up A u 0 (u - la) + A u * (10 - c)) (by omega)
        have p3 := pr_up (A := up (up A u 0) (u - la) (up A u 0 (u - la) + A u * (10 - c))) (f := f) (k := u - lb) (y := up (up A u 0) (u - la) (up A u 0 (u - la) + A u * (10 - c)) (u - lb) + A u * c) (by omega)
        have p4 := hP f
        have s1 : sg (fun v => C v * f v) (u + 1) = sg (fun v => C v * f v) u + C u * f u := rfl
        have s2 : sg (fun v => C v * fp c la lb f v) (u + 1) = sg (fun v => C v * fp c la lb f v) u + C u * ((10 - c) * f (u - la) + c * f (u - lb)) := rfl
        have hu : A u = C u := hC u (Nat.le_refl _) (by omega)
        rw [s1, s2, ← hu]
        rw [Nat.add_mul] at p2 p3
        rw [Nat.mul_add, ← Nat.mul_assoc, ← Nat.mul_assoc]
        omega
theorem e_pass {M : Mm} {C : Nat → Nat} {c la lb : Nat} (hc : c ≤ 10) (ha : la ≤ 1000) (hb : lb ≤ 1000) (hA : CA M C) : ∃ M2 A2, f_X3_pass M (nI la) (nI lb) (nI c) = some M2 ∧ M2.1 = M.1 ∧ CA M2 A2 ∧ ∀ f, pr A2 f = pr C (fp c la lb f) :=
  pass_loop hc ha hb FU 0 C M (by omega) (by decide) rfl hA (fun _ _ _ => rfl) (fun _ => rfl)
theorem e_below {M : Mm} {A : Nat → Nat} {T : Nat} (hT : T ≤ 99) (hA : CA M A) : f_X3_casesBelow M (nI T) = some (lN (sg A T)) := by
  have loop : ∀ n j, j ≤ T → T < j + n → f_X3_casesBelow_5 M (nI T) n (lN (sg A j)) (nI j) = some (lN (sg A T)) := by
    intro n
    induction n with
    | zero => intro j h1 h2; omega
    | succ n ih =>
      intro j h1 h2
      have st : f_X3_casesBelow_5 M (nI T) (n + 1) (lN (sg A j)) (nI j) = b_X3_casesBelow_5 (fun j2 x4 => f_X3_casesBelow_5 M (nI T) n j2 x4) M (nI T) (lN (sg A j)) (nI j) := rfl
      rw [st]
      unfold b_X3_casesBelow_5 f_X3_casesBelow_34
      by_cases e : j = T
      · subst e
        rw [if_pos (nI_le (Nat.le_refl _) (by omega))]
      · rw [if_neg (nI_ge (by omega) (by omega)), if_neg (show ¬ (99 : Int32) < nI j from nI_nlt (a := 99) (by omega) (by omega)), ck_n (show j < 100 by omega) (by omega), nI_clamp (by omega), hA j (by omega), lN_add, nm_x, n1]
        exact ih (j + 1) (by omega) (by omega)
  exact loop FU 0 (by omega) (by show T < 0 + 5000; omega)
theorem lg0 {a : Nat} (h : a < 2 ^ 63) : (lg_cmp (lN a) 0 = 0 ↔ a = 0) ∧ (lg_cmp (lN a) 0 ≤ 0 ↔ a = 0) := by
  unfold lg_cmp
  by_cases e : a = 0
  · subst e
    decide
  · have h1 : lN a > 0 := (pk_lLT (a := 0) (by omega) h).mpr (by omega)
    rw [if_pos h1]
    exact ⟨⟨fun z => absurd z (by decide), fun z => absurd z e⟩, ⟨fun z => absurd z (by decide), fun z => absurd z e⟩⟩
theorem lN_n0 {a : Nat} (h : a < 2 ^ 63) (h0 : 0 < a) : ¬ lN a = 0 := fun z => absurd ((pk_lEQ (b := 0) h (by omega)).mp z) (by omega)
theorem redX {M : Mm} {num den : Nat} (h1 : num < 2 ^ 63) (h2 : den < 2 ^ 63) (h3 : 0 < den) : ∀ k n a b c, b ≤ a → a < 2 ^ 63 → a * b < 2 ^ k → k < n → c + k < 200 → Nat.gcd a b = Nat.gcd num den →
    f_X3_reduce_9 M (lN num) (lN den) n (lN a) (lN b) (nI c) = some (wJ (wJ M 128 0 (lN (num / Nat.gcd num den))) 128 1 (lN (den / Nat.gcd num den))) := by
  intro k
  have g0 : 0 < Nat.gcd num den := Nat.gcd_pos_of_pos_right _ h3
  have fin : f_X3_reduce_45 M (lN num) (lN den) (lN (Nat.gcd num den)) = some (wJ (wJ M 128 0 (lN (num / Nat.gcd num den))) 128 1 (lN (den / Nat.gcd num den))) := by
    have g1 : Nat.gcd num den < 2 ^ 63 := Nat.lt_of_le_of_lt (Nat.gcd_le_right _ h3) h2
    unfold f_X3_reduce_45 f_X3_reduce_68
    rw [if_neg (fun z => absurd ((lg0 g1).2.mp z) (by omega)), ck_t (lN_n0 g1 g0), wr_e, ck_t (lN_n0 g1 g0), wr_e, pk_lDiv h1 g0 g1, pk_lDiv h2 g0 g1]
  induction k with
  | zero =>
    intro n a b c q1 q2 q3 q4 q5 q6
    obtain ⟨n, rfl⟩ : ∃ m, n = m + 1 := ⟨n - 1, by omega⟩
    have st : f_X3_reduce_9 M (lN num) (lN den) (n + 1) (lN a) (lN b) (nI c) = b_X3_reduce_9 (fun j5 j7 x9 => f_X3_reduce_9 M (lN num) (lN den) n j5 j7 x9) M (lN num) (lN den) (lN a) (lN b) (nI c) := rfl
    rw [st]
    unfold b_X3_reduce_9
    have hb : b = 0 := by
      have : b * b ≤ a * b := Nat.mul_le_mul_right b q1
      have : b * b = 0 := by omega
      rcases Nat.mul_eq_zero.mp this with z | z <;> exact z
    subst hb
    rw [Nat.gcd_zero_right] at q6
    rw [if_neg (show ¬ (200 : Int32) ≤ nI c from nI_ge (b := 200) (by omega) (by omega)), if_pos ((lg0 (by omega)).1.mpr rfl), q6]
    exact fin
  | succ k ih =>
    intro n a b c q1 q2 q3 q4 q5 q6
    obtain ⟨n, rfl⟩ : ∃ m, n = m + 1 := ⟨n - 1, by omega⟩
    have st : f_X3_reduce_9 M (lN num) (lN den) (n + 1) (lN a) (lN b) (nI c) = b_X3_reduce_9 (fun j5 j7 x9 => f_X3_reduce_9 M (lN num) (lN den) n j5 j7 x9) M (lN num) (lN den) (lN a) (lN b) (nI c) := rfl
    rw [st]
    unfold b_X3_reduce_9
    rw [if_neg (show ¬ (200 : Int32) ≤ nI c from nI_ge (b := 200) (by omega) (by omega))]
    by_cases hb : b = 0
    · subst hb
      rw [Nat.gcd_zero_right] at q6
      rw [if_pos ((lg0 (by omega)).1.mpr rfl), q6]
      exact fin
    · rw [if_neg (fun z => hb ((lg0 (by omega)).1.mp z)), ck_t (lN_n0 (by omega) (by omega)), pk_lRem (by omega) (by omega) (by omega), nm_x, n1]
      exact ih n b (a % b) (c + 1) (Nat.le_of_lt (Nat.mod_lt _ (by omega))) (by omega) (gcd_step (by omega) q1 q3) (by omega) (by omega) (by rw [← q6, Nat.gcd_comm a b, Nat.gcd_rec b a, Nat.gcd_comm])
theorem e_reduce {M : Mm} {num den : Nat} (h1 : num ≤ den) (h2 : den ≤ 10 ^ 12) (h3 : 0 < den) : f_X3_reduce M (lN num) (lN den) = some (wJ (wJ M 128 0 (lN (num / Nat.gcd num den))) 128 1 (lN (den / Nat.gcd num den))) := by
  unfold f_X3_reduce
  have := Nat.mul_le_mul h2 (Nat.le_trans h1 h2)
  exact redX (by omega) (by omega) h3 80 FU den num 0 h1 (by omega) (by omega) (by decide) (by omega) (Nat.gcd_comm _ _)
