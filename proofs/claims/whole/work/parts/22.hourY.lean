-- AN HOUR ON A FURLONG of a page (row r of the reference's state), and the reference's way through it
def loss (k fire sun : Int32) : Int32 := if k = 1 then (fire + sun) / 2 else if k = 2 then fire else if k = 3 then iMin (fire + sun) 2 else fire + sun
def o4 (r : Pg) (m : Nat) (l : Int32) : Int32 := iMin (r (m + 4)) l
def o3 (r : Pg) (m : Nat) (l : Int32) : Int32 := iMin (r (m + 3)) (l - o4 r m l)
def o2 (r : Pg) (m : Nat) (l : Int32) : Int32 := iMin (r (m + 2)) (l - o4 r m l - o3 r m l)
def mm (r : Pg) (m : Nat) (l : Int32) : Pg := upd (upd (upd r (m + 4) (r (m + 4) - o4 r m l)) (m + 3) (r (m + 3) - o3 r m l)) (m + 2) (r (m + 2) - o2 r m l)
def mw (r : Pg) (m : Nat) (l : Int32) : Int32 := o4 r m l + o3 r m l + o2 r m l
def zap (r : Pg) (m n : Nat) : Pg := fun x => if m ≤ x ∧ x < m + n then 0 else r x
def r1 (r : Pg) (m wi : Nat) (fire sun : Int32) : Pg := upd (mm r m (loss (r (m + 1)) fire sun)) wi (r wi + mw r m (loss (r (m + 1)) fire sun))
abbrev gone (r : Pg) (m wi : Nat) (fire sun : Int32) : Prop := r1 r m wi fire sun (m + 1) = 4 ∧ 0 < r (m + 4) ∧ r1 r m wi fire sun (m + 4) = 0
def fell (r : Pg) (m wi : Nat) (fire sun : Int32) : Int32 := r1 r m wi fire sun (m + 2) + r1 r m wi fire sun (m + 3)

def sd (r : Pg) (m si wi : Nat) (fire sun : Int32) : Pg :=
  if r m = 1 then
    if gone r m wi fire sun then zap (upd (r1 r m wi fire sun) si (r1 r m wi fire sun si + fell r m wi fire sun)) m 7 else r1 r m wi fire sun
  else r
def sn (r : Pg) (si wi : Nat) (x : Int32) : Pg := upd (upd r si (r si - iMin (r si) x)) wi (r wi + iMin (r si) x)
def fr (r : Pg) (si wi : Nat) (x : Int32) : Pg := upd (upd r wi (r wi - iMin (r wi) x)) si (r si + iMin (r wi) x)
abbrev cnt (r : Pg) (T : Pg) (m : Nat) : Prop := r m = 1 ∧ T 0 ≤ r (m + 4) ∧ T 1 ≤ r (m + 5) ∧ (T 2 = 0 ∨ r (m + 6) = 0)
def lineF (w e : Prop) [Decidable w] [Decidable e] (v : Int32) : Int32 := if w ∧ ¬ e ∧ v < 9 then v + 1 else if e ∧ ¬ w ∧ -9 < v then v - 1 else v
def mvl (r T : Pg) (m0 m1 li : Nat) : Pg := upd r li (lineF (cnt r T m0) (cnt r T m1) (r li))
/-- the man of a side on a furlong of the page that begins at a place -/
def mo (at_ s i : Nat) : Nat := at_ + 7 * (10 * s + i)
def hourF (r T : Pg) (at_ i : Nat) (fire sun frost : Int32) : Pg :=
  mvl (fr (sd (sd (sn r (at_ + 140 + i) (at_ + 150 + i) (fire + sun)) (mo at_ 0 i) (at_ + 140 + i) (at_ + 150 + i) fire sun) (mo at_ 1 i) (at_ + 140 + i) (at_ + 150 + i) fire sun) (at_ + 140 + i) (at_ + 150 + i) frost) T (mo at_ 0 i) (mo at_ 1 i) (at_ + 160 + i)
theorem wI_R (N : Mm) (a k : Nat) (x : Int32) : wI N a k x = wR N a (upd (N.1 a) k x) := rfl
theorem wR_R (N : Mm) (a : Nat) (r q : Pg) : wR (wR N a r) a q = wR N a q := by
  unfold wR
  refine Prod.ext (funext fun b => ?_) rfl
  by_cases h : b = a <;> simp [h]
theorem wR_s (N : Mm) (r : Pg) : (wR N 1 r).1 1 = r := wR_row N 1 r
theorem wIR (N : Mm) (r : Pg) (k : Nat) (x : Int32) : wI (wR N 1 r) 1 k x = wR N 1 (upd r k x) := by rw [wI_R, wR_s, wR_R]
theorem iMin_a {v x : Int32} (h : x ≤ v) : iMin v x = x := by
  unfold iMin
  by_cases q : x < v
  · rw [if_pos q]
  · rw [if_neg q]
    exact Int32.le_antisymm (by simpa using q) h
theorem iMin_b {v x : Int32} (h : ¬ x ≤ v) : iMin v x = v := by
  unfold iMin
  rw [if_neg]
  intro q
  exact h (Int32.le_of_lt q)
theorem melts_step {N : Mm} {r : Pg} {m p : Nat} {x5 x6 : Int32} {k : Mm → Int32 → Int32 → Int32 → Option (Int32 × Mm)} (hm : m + 7 ≤ 840) (hp : p < 6) (hp2 : 1 ≤ p) :
    b_X12_melts_64 k (nI m) (wR N 1 r) x5 x6 (nI (p + 1)) = k (wR N 1 (upd r (m + (p + 1)) (r (m + (p + 1)) - iMin (r (m + (p + 1))) x5))) (x5 - iMin (r (m + (p + 1))) x5) (x6 + iMin (r (m + (p + 1))) x5) (nI p) := by
  unfold b_X12_melts_64
  rw [if_neg (by show ¬ nI (p + 1) < nI 2; exact nI_nlt (by omega) (by omega)), nI_add, ck_n (by omega) (by omega)]
  unfold f_X12_melts_98
  simp only [nI_add, nI_clamp (show m + (p + 1) < 2 ^ 31 by omega), nm_x, wr_e, wR_s, wIR, pk_m1]
  by_cases h : x5 ≤ r (m + (p + 1))
  · rw [if_pos h, ck_n (by omega) (by omega), iMin_a h]
  · rw [if_neg h, ck_n (by omega) (by omega), iMin_b h]
theorem upd_ne {f : Nat → Int32} {k j : Nat} {x : Int32} (h : j ≠ k) : upd f k x j = f j := if_neg h
theorem upd_eq (f : Nat → Int32) (k : Nat) (x : Int32) : upd f k x k = x := if_pos rfl
theorem melts_go {N : Mm} {r : Pg} {m : Nat} {l : Int32} (hm : m + 7 ≤ 840) : f_X12_melts_56 (wR N 1 r) (nI m) l = some (mw r m l, wR N 1 (mm r m l)) := by
  unfold f_X12_melts_56
  show b_X12_melts_64 _ (nI m) (wR N 1 r) l 0 (nI (3 + 1)) = _
  rw [melts_step hm (by decide) (by decide)]
  show b_X12_melts_64 _ (nI m) _ _ _ (nI (2 + 1)) = _
  rw [melts_step hm (by decide) (by decide)]
  show b_X12_melts_64 _ (nI m) _ _ _ (nI (1 + 1)) = _
  rw [melts_step hm (by decide) (by decide)]
  show b_X12_melts_64 _ (nI m) _ _ _ (nI 1) = _
  unfold b_X12_melts_64
  rw [if_pos (by decide)]
  have e3 : upd r (m + 4) (r (m + 4) - iMin (r (m + 4)) l) (m + 3) = r (m + 3) := upd_ne (by omega)
  have e2 : ∀ y, upd (upd r (m + 4) (r (m + 4) - iMin (r (m + 4)) l)) (m + 3) y (m + 2) = r (m + 2) := fun y => by rw [upd_ne (by omega), upd_ne (by omega)]
  simp only [show 3 + 1 = 4 from rfl, show 2 + 1 = 3 from rfl, show 1 + 1 = 2 from rfl, e3, e2]
  unfold mw mm o2 o3 o4
  rw [Int32.zero_add]
theorem e_melts {N : Mm} {r : Pg} {m : Nat} {fire sun : Int32} (hm : m + 7 ≤ 840) : f_X12_melts (wR N 1 r) (nI m) fire sun = some (mw r m (loss (r (m + 1)) fire sun), wR N 1 (mm r m (loss (r (m + 1)) fire sun))) := by
  unfold f_X12_melts
  have e1 : nI m + (1 : Int32) = nI (m + 1) := nIa (b := 1) rfl
  rw [e1, ck_n (by omega) (by omega), nI_clamp (by omega), nm_x, wR_s]
  unfold loss f_X12_melts_23 f_X12_melts_54
  by_cases h2 : r (m + 1) = 2
  · rw [if_pos h2, h2]
    simp only [show ¬ ((2 : Int32) = 1) by decide, show ¬ ((2 : Int32) = 3) by decide, if_false, if_true]
    exact melts_go hm
  · rw [if_neg h2]
    by_cases h1 : r (m + 1) = 1
    · simp only [h1, if_true]
      exact melts_go hm
    · by_cases h3 : r (m + 1) = 3
      · simp only [h3, show ¬ ((3 : Int32) = 1) by decide, show ¬ ((3 : Int32) = 2) by decide, if_false, if_true]
        by_cases h4 : fire + sun ≤ 2
        · rw [if_pos h4, show iMin (fire + sun) 2 = fire + sun by unfold iMin; rw [if_neg (by simpa using h4)]]
          exact melts_go hm
        · rw [if_neg h4, show iMin (fire + sun) 2 = 2 by unfold iMin; rw [if_pos (by simpa using h4)]]
          exact melts_go hm
      · simp only [h1, h2, h3, if_false]
        exact melts_go hm
