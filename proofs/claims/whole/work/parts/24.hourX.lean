-- AN HOUR ON A FURLONG, the class's way
/-- a man of the class is that of a page at m -/
def MnR (M : Mm) (a : Nat) (r : Pg) (m : Nat) : Prop := (M.1 a 0 = r m ∧ isB (M.1 a 6)) ∧ isB (r m) ∧ (r m = 1 → M.1 a 1 = r (m + 1) ∧ M.1 a 2 = r (m + 2) ∧ M.1 a 3 = r (m + 3) ∧ M.1 a 4 = r (m + 4) ∧ M.1 a 5 = r (m + 5) ∧ M.1 a 6 = 1 - r (m + 6) ∧ isB (r (m + 6)))
def ScR (M : Mm) (a : Nat) (r : Pg) (t : Nat) : Prop := (∀ k, k < 20 → MnR M (a + 11 + k) r (t + 7 * k)) ∧ (∀ i, i < 10 → M.1 (a + 2) i = r (t + 140 + i) ∧ M.1 (a + 3) i = r (t + 150 + i) ∧ M.1 (a + 4) i = r (t + 160 + i)) ∧ M.1 a 0 = r (t + 170) ∧ (∀ h, h < 12 → M.1 (a + 5) h = r (t + 171 + h)) ∧ BrR M (a + 6) (fun x => r (t + x))
/-- between the men of a furlong: the snow that lies is not yet melted, what fell not yet laid -/
def Mid (M : Mm) (a : Nat) (r : Pg) (t i : Nat) (S0 off fl : Int32) : Prop := (∀ k, k < 20 → MnR M (a + 11 + k) r (t + 7 * k)) ∧ (∀ j, j < 10 → j ≠ i → M.1 (a + 2) j = r (t + 140 + j) ∧ M.1 (a + 3) j = r (t + 150 + j)) ∧ (∀ j, j < 10 → M.1 (a + 4) j = r (t + 160 + j)) ∧ M.1 a 0 = r (t + 170) ∧ (∀ h, h < 12 → M.1 (a + 5) h = r (t + 171 + h)) ∧ BrR M (a + 6) (fun x => r (t + x)) ∧ M.1 (a + 2) i = S0 ∧ r (t + 140 + i) = S0 - off + fl ∧ r (t + 150 + i) = M.1 (a + 3) i + off
section R1
variable {r : Pg} {m wi : Nat} {fire sun : Int32}
theorem r1_4 (h : wi ≠ m + 4) : r1 r m wi fire sun (m + 4) = r (m + 4) - o4 r m (loss (r (m + 1)) fire sun) := by
  unfold r1 mm
  rw [upd_ne (Ne.symm h), upd_ne (by omega), upd_ne (by omega), upd_eq]
theorem r1_3 (h : wi ≠ m + 3) : r1 r m wi fire sun (m + 3) = r (m + 3) - o3 r m (loss (r (m + 1)) fire sun) := by
  unfold r1 mm
  rw [upd_ne (Ne.symm h), upd_ne (by omega), upd_eq]
theorem r1_2 (h : wi ≠ m + 2) : r1 r m wi fire sun (m + 2) = r (m + 2) - o2 r m (loss (r (m + 1)) fire sun) := by
  unfold r1 mm
  rw [upd_ne (Ne.symm h), upd_eq]
theorem r1_w : r1 r m wi fire sun wi = r wi + mw r m (loss (r (m + 1)) fire sun) := upd_eq _ _ _
theorem r1_o {x : Nat} (h : x ≠ wi) (h2 : x ≠ m + 2) (h3 : x ≠ m + 3) (h4 : x ≠ m + 4) : r1 r m wi fire sun x = r x := by
  unfold r1 mm
  rw [upd_ne h, upd_ne h2, upd_ne h3, upd_ne h4]
end R1
theorem zap_in {r : Pg} {m n x : Nat} (h : m ≤ x) (h2 : x < m + n) : zap r m n x = 0 := if_pos ⟨h, h2⟩
theorem zap_out {r : Pg} {m n x : Nat} (h : x < m ∨ m + n ≤ x) : zap r m n x = r x := if_neg (by omega)
theorem e_manOf {M : Mm} {a s i : Nat} (hs : s < 2) (hi : i < 10) : f_X7_manOf M a (nI s) (nI i) = some (a + 11 + (10 * s + i)) := by
  unfold f_X7_manOf
  have e : nI s * (10 : Int32) + nI i = nI (10 * s + i) := by
    show nI s * nI 10 + nI i = _
    rw [pk_mul, nI_add]
    exact congrArg nI (by omega)
  rw [e, ck_n (by omega) (by omega), nI_clamp (by omega)]
theorem e_lossBy {M : Mm} {a : Nat} {fire sun : Int32} : f_X6_lossBy M a fire sun = some (loss (M.1 a 1) fire sun) := by
  unfold f_X6_lossBy loss
  by_cases h1 : M.1 a 1 = 1
  · rw [if_pos h1, if_pos h1]
  · rw [if_neg h1, if_neg h1]
    by_cases h2 : M.1 a 1 = 2
    · rw [if_pos h2, if_pos h2]
    · rw [if_neg h2, if_neg h2]
      by_cases h3 : M.1 a 1 = 3
      · rw [if_pos h3, if_pos h3]
      · rw [if_neg h3, if_neg h3]
/-- a man of the class, melted as that of the page -/
theorem e_melt {M : Mm} {a m : Nat} {r : Pg} {l : Int32} (h2 : M.1 a 2 = r (m + 2)) (h3 : M.1 a 3 = r (m + 3)) (h4 : M.1 a 4 = r (m + 4)) : f_X6_melt M a l = some (mw r m l, wI (wI (wI M a 4 (r (m + 4) - o4 r m l)) a 3 (r (m + 3) - o3 r m l)) a 2 (r (m + 2) - o2 r m l)) := by
  unfold f_X6_melt
  simp only [nm_x, wr_e, mI, h2, h3, h4, show ¬ ((3 : Nat) = 4) by decide, show ¬ ((2 : Nat) = 3) by decide, show ¬ ((2 : Nat) = 4) by decide, and_false, if_false]
  rfl
/-- a row of the class that no write of ours meets -/
theorem wI_o {M : Mm} {a k b : Nat} {x : Int32} (h : b ≠ a) : (wI M a k x).1 b = M.1 b := wI_ne h
theorem MnR.same {M M2 : Mm} {a m : Nat} {r r2 : Pg} (h : MnR M a r m) (h1 : M2.1 a = M.1 a) (h2 : ∀ f, f < 7 → r2 (m + f) = r (m + f)) : MnR M2 a r2 m := by
  have h0 : r2 m = r m := h2 0 (by decide)
  unfold MnR
  rw [h1, h0, h2 1 (by decide), h2 2 (by decide), h2 3 (by decide), h2 4 (by decide), h2 5 (by decide), h2 6 (by decide)]
  exact h
theorem BrR.same {M M2 : Mm} {a : Nat} {P P2 : Pg} (h : BrR M a P) (h1 : ∀ j, j < 5 → M2.1 (a + j) = M.1 (a + j)) (h2 : ∀ x, 183 ≤ x → x < 208 → P2 x = P x) (hc : (P 207).toNatClampNeg ≤ 6) : BrR M2 a P2 := by
  have e : P2 207 = P 207 := h2 207 (by decide) (by decide)
  refine ⟨by rw [e, show M2.1 a = M.1 a from h1 0 (by decide)]; exact h.1, fun b hb => ?_⟩
  rw [e] at hb
  rw [h1 1 (by decide), h1 2 (by decide), h1 3 (by decide), h1 4 (by decide), h2 _ (by omega) (by omega), h2 _ (by omega) (by omega), h2 _ (by omega) (by omega), h2 _ (by omega) (by omega)]
  exact h.2 b hb
