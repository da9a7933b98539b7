-- SETS OF FURLONGS, THE CHEAPEST FIRST
def pB (S : Nat → Bool) : Nat → Nat
  | 0 => 0
  | n + 1 => pB S n + (S n).toNat
def vB (W : Nat → Nat) (S : Nat → Bool) : Nat → Nat
  | 0 => 0
  | n + 1 => vB W S n + (S n).toNat * W n
theorem pB_c {S S' : Nat → Bool} : ∀ n, (∀ i, i < n → S i = S' i) → pB S n = pB S' n := by
  intro n
  induction n with
  | zero => intro _; rfl
  | succ n ih =>
    intro h
    show pB S n + (S n).toNat = pB S' n + (S' n).toNat
    rw [ih (fun i hi => h i (by omega)), h n (by omega)]
theorem vB_c {W : Nat → Nat} {S S' : Nat → Bool} : ∀ n, (∀ i, i < n → S i = S' i) → vB W S n = vB W S' n := by
  intro n
  induction n with
  | zero => intro _; rfl
  | succ n ih =>
    intro h
    show vB W S n + (S n).toNat * W n = vB W S' n + (S' n).toNat * W n
    rw [ih (fun i hi => h i (by omega)), h n (by omega)]
def rmv (S : Nat → Bool) (s : Nat) : Nat → Bool := fun i => S i && !(decide (i = s))
theorem rmv_ne {S : Nat → Bool} {s i : Nat} (h : i ≠ s) : rmv S s i = S i := by simp [rmv, h]
theorem rmv_eq (S : Nat → Bool) (s : Nat) : rmv S s s = false := by simp [rmv]
theorem rmv_sum {W : Nat → Nat} {S : Nat → Bool} {s : Nat} (hs : S s = true) : ∀ n, s < n → pB S n = pB (rmv S s) n + 1 ∧ vB W S n = vB W (rmv S s) n + W s := by
  intro n
  induction n with
  | zero => intro h; omega
  | succ n ih =>
    intro h
    show pB S n + (S n).toNat = pB (rmv S s) n + (rmv S s n).toNat + 1 ∧ vB W S n + (S n).toNat * W n = vB W (rmv S s) n + (rmv S s n).toNat * W n + W s
    by_cases e : s = n
    · subst e
      rw [rmv_eq, hs, pB_c (S := rmv S s) (S' := S) s (fun i hi => rmv_ne (by omega)), vB_c (S := rmv S s) (S' := S) s (fun i hi => rmv_ne (by omega))]
      simp
    · obtain ⟨h1, h2⟩ := ih (by omega)
      rw [rmv_ne (by omega), h1, h2]
      omega
theorem pB_le {S G : Nat → Bool} : ∀ n, (∀ i, i < n → S i = true → G i = true) → pB S n ≤ pB G n := by
  intro n
  induction n with
  | zero => intro _; exact Nat.le_refl _
  | succ n ih =>
    intro h
    show pB S n + (S n).toNat ≤ pB G n + (G n).toNat
    have := ih (fun i hi => h i (by omega))
    by_cases g : S n = true
    · rw [g, h n (by omega) g]
      omega
    · rw [show S n = false by simpa using g]
      simp
      omega
theorem pB_ex {S G : Nat → Bool} {n : Nat} (h : pB G n < pB S n) : ∃ s, s < n ∧ S s = true ∧ G s = false := by
  apply Classical.byContradiction
  intro hc
  have := pB_le (S := S) (G := G) n (fun i hi hS => by
    apply Classical.byContradiction
    intro hG
    exact hc ⟨i, hi, hS, by simpa using hG⟩)
  omega
/-- no set of so many of them weighs less -/
def Opt (W : Nat → Nat) (C : Nat → Prop) (F : Nat) (G : Nat → Bool) (j : Nat) : Prop := pB G F = j ∧ (∀ i, i < F → G i = true → C i) ∧ ∀ S : Nat → Bool, (∀ i, i < F → S i = true → C i) → pB S F = j → vB W G F ≤ vB W S F
theorem Opt.step {W : Nat → Nat} {C : Nat → Prop} {F j g : Nat} {G G' : Nat → Bool} (H : Opt W C F G j) (hg : g < F) (hC : C g) (hG : G g = false) (hmin : ∀ i, i < F → C i → G i = false → W g ≤ W i) (hG' : ∀ i, i < F → G' i = (G i || decide (i = g))) : Opt W C F G' (j + 1) := by
  have hg' : G' g = true := by rw [hG' g hg]; simp
  have hr : ∀ i, i < F → rmv G' g i = G i := fun i hi => by
    by_cases e : i = g
    · subst e
      rw [rmv_eq, hG]
    · rw [rmv_ne e, hG' i hi]
      simp [e]
  obtain ⟨a1, a2⟩ := rmv_sum (W := W) hg' F hg
  rw [pB_c F hr] at a1
  rw [vB_c F hr] at a2
  refine ⟨by rw [a1, H.1], fun i hi h => ?_, fun S hS hp => ?_⟩
  · rw [hG' i hi] at h
    by_cases e : i = g
    · rw [e]; exact hC
    · exact H.2.1 i hi (by simpa [e] using h)
  · obtain ⟨s, hs, hSs, hGs⟩ := pB_ex (S := S) (G := G) (n := F) (by rw [H.1, hp]; omega)
    obtain ⟨b1, b2⟩ := rmv_sum (W := W) hSs F hs
    have h1 := H.2.2 (rmv S s) (fun i hi h => by
      by_cases e : i = s
      · rw [e, rmv_eq] at h
        exact absurd h (by decide)
      · rw [rmv_ne e] at h
        exact hS i hi h) (by omega)
    have h2 := hmin s hs (hS s hs hSs) hGs
    omega
theorem nI_bit {x j : Nat} (hx : x < 1024) : (nI x).toBitVec.getLsbD j = x.testBit j := by
  show (Int32.ofNat x).toBitVec.getLsbD j = _
  rw [Int32.toBitVec_ofNat', BitVec.getLsbD_ofNat]
  by_cases e : j < 32
  · simp [e]
  · have : x.testBit j = false := Nat.testBit_lt_two_pow (Nat.lt_of_lt_of_le hx (Nat.pow_le_pow_right (n := 2) (by decide) (show 10 ≤ j by omega)))
    simp [this]
theorem bt_tb {x i : Nat} (hx : x < 1024) (hi : i < 31) : bt (nI x) i = nI (x.testBit i).toNat := by
  obtain ⟨b, hb, e⟩ := bt_n (nI x) i
  have h := bt_bit (x := nI x) hi
  rw [nI_bit hx] at h
  by_cases g : x.testBit i = true
  · rw [g, e]
    have : b ≠ 0 := fun z => by
      rw [z] at e
      have := h.mp e
      rw [g] at this
      exact absurd this (by decide)
    exact congrArg nI (show b = 1 by omega)
  · have g : x.testBit i = false := by simpa using g
    rw [h.mpr g, g]
    rfl
theorem e_bitsOf {x : Nat} (hx : x < 1024) : f_X12_bitsOf (nI x) = some (nI (pB x.testBit 10)) := by
  have loop : ∀ f j, j ≤ 10 → 10 < j + f → f_X12_bitsOf_4 (nI x) f (nI (pB x.testBit j)) (nI j) = some (nI (pB x.testBit 10)) := by
    intro f
    induction f with
    | zero => intro j h1 h2; omega
    | succ f ih =>
      intro j h1 h2
      show b_X12_bitsOf_4 (fun x1 x2 => f_X12_bitsOf_4 (nI x) f x1 x2) (nI x) (nI (pB x.testBit j)) (nI j) = _
      unfold b_X12_bitsOf_4
      by_cases e : j = 10
      · subst e
        rw [if_pos (by decide)]
      · rw [if_neg (show ¬ (10 : Int32) ≤ nI j from nI_ge (b := 10) (by omega) (by omega)), show (nI x >>> (nI j &&& 31)) &&& 1 = bt (nI x) j from rfl, bt_tb hx (by omega), nm_x, nI_add, n1]
        exact ih (j + 1) (by omega) (by omega)
  exact loop FU 0 (by omega) (by decide)
theorem pB_lt {S : Nat → Bool} {F : Nat} (h : ∀ i, F ≤ i → S i = false) : ∀ n, F ≤ n → pB S n = pB S F := by
  intro n
  induction n with
  | zero => intro hn; rw [show F = 0 by omega]
  | succ n ih =>
    intro hn
    by_cases e : F = n + 1
    · rw [e]
    · show pB S n + (S n).toNat = _
      rw [ih (by omega), h n (by omega)]
      rfl
theorem vB_2 (x : Nat) : ∀ n, vB (fun i => 2 ^ i) x.testBit n = x % 2 ^ n := by
  intro n
  induction n with
  | zero => simp [vB, Nat.mod_one]
  | succ n ih =>
    show vB (fun i => 2 ^ i) x.testBit n + (x.testBit n).toNat * 2 ^ n = _
    rw [ih, Nat.mod_pow_succ, Nat.toNat_testBit, Nat.mul_comm (x / 2 ^ n % 2)]
theorem vB_W (c : Nat → Nat) (S : Nat → Bool) : ∀ n, vB (fun i => c i * 1024 + 2 ^ i) S n = vB c S n * 1024 + vB (fun i => 2 ^ i) S n := by
  intro n
  induction n with
  | zero => simp [vB]
  | succ n ih =>
    show vB (fun i => c i * 1024 + 2 ^ i) S n + (S n).toNat * (c n * 1024 + 2 ^ n) = (vB c S n + (S n).toNat * c n) * 1024 + (vB (fun i => 2 ^ i) S n + (S n).toNat * 2 ^ n)
    rw [ih, Nat.mul_add, Nat.add_mul, Nat.mul_assoc]
    omega
theorem W_lt {c : Nat → Nat} {a b : Nat} (hab : a < b) (hb : b < 10) : c a ≤ c b ↔ c a * 1024 + 2 ^ a ≤ c b * 1024 + 2 ^ b := by
  have h1 : 2 ^ a < 2 ^ b := Nat.pow_lt_pow_right (by decide) hab
  have h2 : 2 ^ b ≤ 2 ^ 9 := Nat.pow_le_pow_right (by decide) (by omega)
  have h3 : 0 < 2 ^ a := Nat.pos_of_ne_zero (by simp)
  omega
