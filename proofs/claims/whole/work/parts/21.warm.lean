-- HEAT of braziers
abbrev Pg : Type := Nat → Int32
def sumI (g : Nat → Int32) : Nat → Int32
  | 0 => 0
  | n + 1 => sumI g n + g n
def reachP (q t : Int32) (i : Nat) : Int32 := iMax 0 (q - 4 * iAbs (t - nI i))
def wterm (P : Pg) (i : Nat) (h : Int32) (b : Nat) : Int32 := if inR h (P (185 + 4 * b)) (P (186 + 4 * b)) then reachP (P (184 + 4 * b)) (P (183 + 4 * b)) i else 0
def warmP (P : Pg) (i : Nat) (h : Int32) : Int32 := sumI (wterm P i h) (P 207).toNatClampNeg
/-- what a page tells of braziers is as it must be -/
def BrI (P : Pg) : Prop := ∃ c, c ≤ 6 ∧ P 207 = nI c ∧ ∀ b, b < c → (∃ x, x < 10 ∧ P (183 + 4 * b) = nI x) ∧ (∃ q, q ≤ 20 ∧ P (184 + 4 * b) = nI q) ∧ (∃ f, f < 12 ∧ P (185 + 4 * b) = nI f) ∧ ∃ t, t < 12 ∧ P (186 + 4 * b) = nI t
theorem FU1 : FU = 4999 + 1 := rfl
theorem warms_ok {q x i : Nat} (hq : q ≤ 20) (hx : x < 10) (hi : i < 10) : f_X12_warms (nI q) (nI x) (nI i) = some (reachP (nI q) (nI x) i) := by
  have h : ∀ q < 21, ∀ x < 10, ∀ i < 10, f_X12_warms (nI q) (nI x) (nI i) = some (reachP (nI q) (nI x) i) := by decide +kernel
  exact h q (by omega) x hx i hi
theorem nIa {a b c : Nat} (h : a + b = c) : nI a + nI b = nI c := by rw [nI_add, h]
theorem n1 (j : Nat) : nI j + (1 : Int32) = nI (j + 1) := nI_1 j
theorem fires_loop {N : Mm} {i c : Nat} {h : Int32} (hi : i < 10) (hB : BrI (N.1 1)) (hc : N.1 1 207 = nI c) (hc6 : c ≤ 6) : ∀ n j, j ≤ c → c < j + n → f_X12_fires_5 N (nI i) h n (sumI (wterm (N.1 1) i h) j) (nI j) = some (sumI (wterm (N.1 1) i h) c) := by
  intro n
  induction n with
  | zero => intro j h1 h2; omega
  | succ n ih =>
    intro j h1 h2
    show b_X12_fires_5 (fun x3 x4 => f_X12_fires_5 N (nI i) h n x3 x4) N (nI i) h (sumI (wterm (N.1 1) i h) j) (nI j) = _
    unfold b_X12_fires_5
    rw [show (207 : Int32).toNatClampNeg = 207 from rfl, hc]
    by_cases hj : j = c
    · subst hj
      rw [if_pos (nI_le (Nat.le_refl _) (by omega))]
    · rw [if_neg (nI_ge (by omega) (by omega))]
      obtain ⟨c', h6, hc', hb⟩ := hB
      have e : c' = c := (nI_eq (by omega) (by omega)).mp (hc'.symm.trans hc)
      subst e
      obtain ⟨⟨x, hx, ex⟩, ⟨q, hq, eq⟩, ⟨f, hf, ef⟩, ⟨t, ht, et⟩⟩ := hb j (by omega)
      have hw : wterm (N.1 1) i h j = if inR h (N.1 1 (185 + 4 * j)) (N.1 1 (186 + 4 * j)) then reachP (N.1 1 (184 + 4 * j)) (N.1 1 (183 + 4 * j)) i else 0 := rfl
      have e0 : (183 : Int32) + (4 : Int32) * nI j = nI (183 + 4 * j) := by rw [litI, litI, pk_mul, nI_add]
      have e1 : nI (183 + 4 * j) + (1 : Int32) = nI (184 + 4 * j) := nIa (b := 1) (by omega)
      have e2 : nI (183 + 4 * j) + (2 : Int32) = nI (185 + 4 * j) := nIa (b := 2) (by omega)
      have e3 : nI (183 + 4 * j) + (3 : Int32) = nI (186 + 4 * j) := nIa (b := 3) (by omega)
      simp only [nm_x, e0, e1, e2, e3]
      rw [ck_n (by omega) (by omega), ck_n (by omega) (by omega)]
      simp only [nI_clamp (show 183 + 4 * j < 2 ^ 31 by omega), nI_clamp (show 184 + 4 * j < 2 ^ 31 by omega), nI_clamp (show 185 + 4 * j < 2 ^ 31 by omega), nI_clamp (show 186 + 4 * j < 2 ^ 31 by omega), e_inI, bd_s]
      by_cases hin : inR h (N.1 1 (185 + 4 * j)) (N.1 1 (186 + 4 * j))
      · rw [if_neg (by rw [b2_0]; exact fun z => z hin), ck_n (by omega) (by omega), ck_n (by omega) (by omega)]
        rw [eq, ex, warms_ok hq hx hi, bd_s]
        unfold f_X12_fires_81
        rw [nm_x, n1]
        have hs : sumI (wterm (N.1 1) i h) j + reachP (nI q) (nI x) i = sumI (wterm (N.1 1) i h) (j + 1) := by
          show _ = sumI (wterm (N.1 1) i h) j + wterm (N.1 1) i h j
          rw [hw, if_pos hin, eq, ex]
        rw [hs]
        exact ih (j + 1) (by omega) (by omega)
      · rw [if_pos (by rw [b2_0]; exact hin)]
        unfold f_X12_fires_81
        rw [nm_x, n1]
        have hs : sumI (wterm (N.1 1) i h) j + 0 = sumI (wterm (N.1 1) i h) (j + 1) := by
          show _ = sumI (wterm (N.1 1) i h) j + wterm (N.1 1) i h j
          rw [hw, if_neg hin]
        rw [hs]
        exact ih (j + 1) (by omega) (by omega)
theorem clampc {P : Pg} (hB : BrI P) : ∃ c, c ≤ 6 ∧ P 207 = nI c ∧ (P 207).toNatClampNeg = c := by
  obtain ⟨c, h6, hc, -⟩ := hB
  exact ⟨c, h6, hc, by rw [hc]; exact nI_clamp (by omega)⟩
theorem e_fires {N : Mm} {i : Nat} {h : Int32} (hi : i < 10) (hB : BrI (N.1 1)) : f_X12_fires N (nI i) h = some (warmP (N.1 1) i h) := by
  obtain ⟨c, h6, hc, hcl⟩ := clampc hB
  unfold f_X12_fires warmP
  rw [hcl]
  exact fires_loop hi hB hc h6 FU 0 (by omega) (by show c < 0 + 5000; omega)
/-- the class's braziers are those of a page -/
def BrR (M : Mm) (a : Nat) (P : Pg) : Prop := M.1 a 0 = P 207 ∧ ∀ b, b < (P 207).toNatClampNeg → M.1 (a + 1) b = P (183 + 4 * b) ∧ M.1 (a + 2) b = P (184 + 4 * b) ∧ M.1 (a + 3) b = P (185 + 4 * b) ∧ M.1 (a + 4) b = P (186 + 4 * b)
theorem warmth_loop {M : Mm} {a i c : Nat} {h : Int32} {P : Pg} (hi : i < 10) (hR : BrR M a P) (hc : P 207 = nI c) (hc6 : c ≤ 6) : ∀ n j, j ≤ c → c < j + n → f_X0_warmthOn_5 M a (nI i) h n (sumI (wterm P i h) j) (nI j) = some (sumI (wterm P i h) c) := by
  intro n
  induction n with
  | zero => intro j h1 h2; omega
  | succ n ih =>
    intro j h1 h2
    show b_X0_warmthOn_5 (fun x3 x4 => f_X0_warmthOn_5 M a (nI i) h n x3 x4) M a (nI i) h (sumI (wterm P i h) j) (nI j) = _
    unfold b_X0_warmthOn_5
    rw [hR.1, hc]
    by_cases hj : j = c
    · subst hj
      rw [if_pos (nI_le (Nat.le_refl _) (by omega))]
    · rw [if_neg (nI_ge (by omega) (by omega)), ck_n (by omega) (by omega)]
      obtain ⟨r1, r2, r3, r4⟩ := hR.2 j (by rw [hc, nI_clamp (by omega)]; omega)
      rw [nI_clamp (by omega), r1, r2, r3, r4]
      have hw : wterm P i h j = if inR h (P (185 + 4 * j)) (P (186 + 4 * j)) then reachP (P (184 + 4 * j)) (P (183 + 4 * j)) i else 0 := rfl
      unfold f_X0_warmthOn_57 f_X0_reach
      by_cases g1 : h < P (185 + 4 * j)
      · rw [if_pos g1, n1]
        have hs : sumI (wterm P i h) j = sumI (wterm P i h) (j + 1) := by
          show _ = sumI (wterm P i h) j + wterm P i h j
          rw [hw, if_neg (fun z => absurd z.1 (by simpa using g1)), Int32.add_zero]
        rw [hs]
        exact ih (j + 1) (by omega) (by omega)
      · rw [if_neg g1]
        by_cases g2 : P (186 + 4 * j) < h
        · rw [if_pos g2, n1]
          have hs : sumI (wterm P i h) j = sumI (wterm P i h) (j + 1) := by
            show _ = sumI (wterm P i h) j + wterm P i h j
            rw [hw, if_neg (fun z => absurd z.2 (by simpa using g2)), Int32.add_zero]
          rw [hs]
          exact ih (j + 1) (by omega) (by omega)
        · rw [if_neg g2, bd_s, nm_x, n1]
          have hs : sumI (wterm P i h) j + iMax 0 (P (184 + 4 * j) - 4 * iAbs (P (183 + 4 * j) - nI i)) = sumI (wterm P i h) (j + 1) := by
            show _ = sumI (wterm P i h) j + wterm P i h j
            rw [hw, if_pos ⟨by simpa using g1, by simpa using g2⟩]
            rfl
          rw [hs]
          exact ih (j + 1) (by omega) (by omega)
theorem e_warmth {M : Mm} {a i : Nat} {h : Int32} {P : Pg} (hi : i < 10) (hB : BrI P) (hR : BrR M a P) : f_X0_warmthOn M a (nI i) h = some (warmP P i h) := by
  obtain ⟨c, h6, hc, hcl⟩ := clampc hB
  unfold f_X0_warmthOn warmP
  rw [hcl]
  exact warmth_loop hi hR hc h6 FU 0 (by omega) (by show c < 0 + 5000; omega)
