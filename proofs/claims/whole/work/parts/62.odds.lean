-- ODDS: sums
def sg (g : Nat → Nat) : Nat → Nat
  | 0 => 0
  | n + 1 => sg g n + g n
theorem sg_c {g g' : Nat → Nat} : ∀ {n : Nat}, (∀ v, v < n → g v = g' v) → sg g n = sg g' n
  | 0, _ => rfl
  | n + 1, h => by
    show sg g n + g n = sg g' n + g' n
    rw [sg_c (fun v hv => h v (by omega)), h n (by omega)]
theorem sg_add (g g' : Nat → Nat) : ∀ n, sg (fun v => g v + g' v) n = sg g n + sg g' n
  | 0 => rfl
  | n + 1 => by
    show sg (fun v => g v + g' v) n + (g n + g' n) = sg g n + g n + (sg g' n + g' n)
    rw [sg_add g g' n]
    omega
theorem sg_mul (c : Nat) (g : Nat → Nat) : ∀ n, sg (fun v => c * g v) n = c * sg g n
  | 0 => rfl
  | n + 1 => by
    show sg (fun v => c * g v) n + c * g n = c * (sg g n + g n)
    rw [sg_mul c g n, Nat.mul_add]
theorem sg_le {g g' : Nat → Nat} : ∀ {n : Nat}, (∀ v, v < n → g v ≤ g' v) → sg g n ≤ sg g' n
  | 0, _ => Nat.le_refl _
  | n + 1, h => Nat.add_le_add (sg_le (fun v hv => h v (by omega))) (h n (by omega))
theorem sg_split (g : Nat → Nat) (a : Nat) : ∀ b, sg g (a + b) = sg g a + sg (fun v => g (a + v)) b
  | 0 => rfl
  | b + 1 => by
    show sg g (a + b) + g (a + b) = sg g a + (sg (fun v => g (a + v)) b + g (a + b))
    rw [sg_split g a b]
    omega
theorem sg_upd {A f : Nat → Nat} {k y : Nat} : ∀ {n : Nat}, k < n → sg (fun v => (if v = k then y else A v) * f v) n + A k * f k = sg (fun v => A v * f v) n + y * f k
  | 0, h => absurd h (by omega)
  | n + 1, h => by
    show sg (fun v => (if v = k then y else A v) * f v) n + (if n = k then y else A n) * f n + A k * f k = sg (fun v => A v * f v) n + A n * f n + y * f k
    by_cases e : n = k
    · subst e
      rw [if_pos rfl, sg_c (g' := fun v => A v * f v) (fun v hv => by show (if v = n then y else A v) * f v = _; rw [if_neg (by omega)])]
      omega
    · have := sg_upd (A := A) (f := f) (y := y) (k := k) (n := n) (by omega)
      rw [if_neg e]
      omega
theorem sg_below {A : Nat → Nat} {T : Nat} : ∀ n, T ≤ n → sg (fun v => A v * (if v < T then 1 else 0)) n = sg A T := by
  intro n
  induction n with
  | zero => intro h; obtain rfl : T = 0 := by omega
            rfl
  | succ n ih =>
    intro h
    by_cases e : T = n + 1
    · subst e
      exact sg_c (fun v hv => by rw [if_pos hv, Nat.mul_one])
    · show sg (fun v => A v * (if v < T then 1 else 0)) n + A n * (if n < T then 1 else 0) = _
      rw [ih (by omega), if_neg (by omega)]
      rfl
/-- the weight of a set of the hours, and what it melts -/
def wt (c : Nat) : Nat → Nat → Nat
  | 0, _ => 1
  | n + 1, x => wt c n x * (if x.testBit n then c else 10 - c)
def ml (la lb : Nat → Nat) : Nat → Nat → Nat
  | 0, _ => 0
  | n + 1, x => ml la lb n x + (if x.testBit n then lb n else la n)
theorem wt_c {c x y : Nat} : ∀ {n : Nat}, (∀ j, j < n → x.testBit j = y.testBit j) → wt c n x = wt c n y
  | 0, _ => rfl
  | n + 1, h => by
    show wt c n x * _ = wt c n y * _
    rw [wt_c (fun j hj => h j (by omega)), h n (by omega)]
theorem ml_c {la lb : Nat → Nat} {x y : Nat} : ∀ {n : Nat}, (∀ j, j < n → x.testBit j = y.testBit j) → ml la lb n x = ml la lb n y
  | 0, _ => rfl
  | n + 1, h => by
    show ml la lb n x + _ = ml la lb n y + _
    rw [ml_c (fun j hj => h j (by omega)), h n (by omega)]
theorem sets_S (c : Nat) (la lb f : Nat → Nat) (n : Nat) : sg (fun x => wt c (n + 1) x * f (ml la lb (n + 1) x)) (2 ^ (n + 1)) = sg (fun x => wt c n x * ((10 - c) * f (ml la lb n x + la n) + c * f (ml la lb n x + lb n))) (2 ^ n) := by
  rw [show 2 ^ (n + 1) = 2 ^ n + 2 ^ n by rw [Nat.pow_succ]; omega, sg_split, ← sg_add]
  refine sg_c (fun v hv => ?_)
  have b0 : v.testBit n = false := Nat.testBit_lt_two_pow hv
  have b1 : (2 ^ n + v).testBit n = true := by rw [Nat.testBit_two_pow_add_eq, b0]; rfl
  have e1 : wt c (n + 1) v = wt c n v * (10 - c) := by
    show wt c n v * (if v.testBit n then c else 10 - c) = _
    rw [b0]
    rfl
  have e2 : wt c (n + 1) (2 ^ n + v) = wt c n v * c := by
    show wt c n (2 ^ n + v) * (if (2 ^ n + v).testBit n then c else 10 - c) = _
    rw [b1, wt_c (y := v) (fun j hj => Nat.testBit_two_pow_add_gt hj v)]
    rfl
  have e3 : ml la lb (n + 1) v = ml la lb n v + la n := by
    show ml la lb n v + (if v.testBit n then lb n else la n) = _
    rw [b0]
    rfl
  have e4 : ml la lb (n + 1) (2 ^ n + v) = ml la lb n v + lb n := by
    show ml la lb n (2 ^ n + v) + (if (2 ^ n + v).testBit n then lb n else la n) = _
    rw [b1, ml_c (y := v) (fun j hj => Nat.testBit_two_pow_add_gt hj v)]
    rfl
  rw [e1, e2, e3, e4, Nat.mul_add, Nat.mul_assoc, Nat.mul_assoc]
theorem sets_1 {c : Nat} (hc : c ≤ 10) : ∀ n, sg (fun x => wt c n x * 1) (2 ^ n) = 10 ^ n := by
  intro n
  induction n with
  | zero => rfl
  | succ n ih =>
    have h := sets_S c (fun _ => 0) (fun _ => 0) (fun _ => 1) n
    rw [h, sg_c (g' := fun x => 10 * (wt c n x * 1)) (fun v hv => by
      show wt c n v * ((10 - c) * 1 + c * 1) = 10 * (wt c n v * 1)
      rw [show (10 - c) * 1 + c * 1 = 10 by omega]
      omega), sg_mul, ih, Nat.pow_succ]
    omega
theorem sets_le {c : Nat} {f : Nat → Nat} (hc : c ≤ 10) (hf : ∀ x, f x ≤ 1) (n : Nat) : sg (fun x => wt c n x * f x) (2 ^ n) ≤ 10 ^ n := by
  rw [← sets_1 hc n]
  exact sg_le (fun v _ => Nat.mul_le_mul_left _ (hf v))
theorem wt_le {c : Nat} (hc : c ≤ 10) : ∀ n x, wt c n x ≤ 10 ^ n
  | 0, _ => Nat.le_refl _
  | n + 1, x => by
    show wt c n x * _ ≤ 10 ^ n * 10
    exact Nat.mul_le_mul (wt_le hc n x) (by split <;> omega)
-- the least terms
theorem gcd_step {a b k : Nat} (hb : 0 < b) (hba : b ≤ a) (h : a * b < 2 ^ (k + 1)) : b * (a % b) < 2 ^ k := by
  have h1 : a % b < b := Nat.mod_lt _ hb
  have h2 : b * (a / b) + a % b = a := Nat.div_add_mod a b
  have h3 : 1 ≤ a / b := Nat.div_pos hba hb
  have h4 : b * 1 ≤ b * (a / b) := Nat.mul_le_mul_left b h3
  have h5 : 2 * (a % b) ≤ a := by omega
  have h6 : b * (2 * (a % b)) ≤ b * a := Nat.mul_le_mul_left b h5
  rw [Nat.pow_succ] at h
  rw [Nat.mul_comm b a, ← Nat.mul_assoc, Nat.mul_comm b 2, Nat.mul_assoc] at h6
  omega
