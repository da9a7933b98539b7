-- SPIES: WHO IS FELT
def FB (fl : Nat → Int32) (n : Nat) (q1 f1 q2 f2 : Int32) : Prop := ∀ j, j < n → fl j = reachP q1 f1 j + reachP q2 f2 j
def fb (fl : Nat → Int32) (q1 f1 q2 f2 : Int32) : Nat → Nat → Int32
  | 0, _ => 1
  | n + 1, j => if fl j = reachP q1 f1 j + reachP q2 f2 j then fb fl q1 f1 q2 f2 n (j + 1) else 0
theorem fb_B (fl : Nat → Int32) (q1 f1 q2 f2 : Int32) : ∀ n j, isB (fb fl q1 f1 q2 f2 n j) := by
  intro n
  induction n with
  | zero => intro j; exact Or.inr rfl
  | succ n ih =>
    intro j
    show isB (if fl j = reachP q1 f1 j + reachP q2 f2 j then fb fl q1 f1 q2 f2 n (j + 1) else 0)
    by_cases g : fl j = reachP q1 f1 j + reachP q2 f2 j
    · rw [if_pos g]; exact ih (j + 1)
    · rw [if_neg g]; exact Or.inl rfl
theorem e_feltX {M : Mm} {fl : Nat → Int32} {n : Nat} {x1 x2 x3 x4 : Int32} (hn : n ≤ 10) (h0 : M.1 98 0 = nI n) (h1 : ∀ j, j < n → M.1 99 j = fl j) : f_X2_isFeltBy M x1 x2 x3 x4 = some (fb fl x2 x1 x4 x3 n 0) := by
  have loop : ∀ k f j, j + k = n → k < f → f_X2_isFeltBy_3 M x1 x2 x3 x4 f (nI j) = some (fb fl x2 x1 x4 x3 k j) := by
    intro k
    induction k with
    | zero =>
      intro f j q1 q2
      obtain ⟨f, rfl⟩ : ∃ g, f = g + 1 := ⟨f - 1, by omega⟩
      show b_X2_isFeltBy_3 (fun x5 => f_X2_isFeltBy_3 M x1 x2 x3 x4 f x5) M x1 x2 x3 x4 (nI j) = _
      unfold b_X2_isFeltBy_3
      rw [h0, if_pos (nI_le (by omega) (by omega))]
      rfl
    | succ k ih =>
      intro f j q1 q2
      obtain ⟨f, rfl⟩ : ∃ g, f = g + 1 := ⟨f - 1, by omega⟩
      show b_X2_isFeltBy_3 (fun x5 => f_X2_isFeltBy_3 M x1 x2 x3 x4 f x5) M x1 x2 x3 x4 (nI j) = some (if fl j = reachP x2 x1 j + reachP x4 x3 j then fb fl x2 x1 x4 x3 k (j + 1) else 0)
      unfold b_X2_isFeltBy_3
      rw [h0, if_neg (nI_ge (by omega) (by omega)), show f_X0_reach x2 x1 (nI j) = some (reachP x2 x1 j) from rfl, bd_s, show f_X0_reach x4 x3 (nI j) = some (reachP x4 x3 j) from rfl, bd_s, ck_n (by omega) (by omega), nI_clamp (by omega), h1 j (by omega), n1]
      by_cases g : fl j = reachP x2 x1 j + reachP x4 x3 j
      · rw [if_pos g.symm, if_pos g]
        exact ih f (j + 1) (by omega) (by omega)
      · rw [if_neg (fun z => g z.symm), if_neg g]
  exact loop n FU 0 (by omega) (by show n < 5000; omega)
theorem e_feltY {N : Mm} {fl : Nat → Int32} {n f1 q1 f2 q2 : Nat} (hn : n ≤ 10) (h0 : N.1 0 30 = nI n) (h1 : ∀ j, j < n → N.1 14 j = fl j) (hf1 : f1 < 10) (hq1 : q1 ≤ 20) (hf2 : f2 < 10) (hq2 : q2 ≤ 20) : f_X12_areFelt N (nI f1) (nI q1) (nI f2) (nI q2) = some (fb fl (nI q1) (nI f1) (nI q2) (nI f2) n 0) := by
  have loop : ∀ k f j, j + k = n → k + 1 < f → f_X12_areFelt_6 N (nI f1) (nI q1) (nI f2) (nI q2) f 1 (nI j) = some (fb fl (nI q1) (nI f1) (nI q2) (nI f2) k j) := by
    intro k
    induction k with
    | zero =>
      intro f j p1 p2
      obtain ⟨f, rfl⟩ : ∃ g, f = g + 1 := ⟨f - 1, by omega⟩
      show b_X12_areFelt_6 (fun x5 x6 => f_X12_areFelt_6 N (nI f1) (nI q1) (nI f2) (nI q2) f x5 x6) N (nI f1) (nI q1) (nI f2) (nI q2) 1 (nI j) = _
      unfold b_X12_areFelt_6 f_X12_areFelt_59
      rw [h0, if_pos (nI_le (by omega) (by omega)), ck_t (show isB (1 : Int32) from Or.inr rfl)]
      rfl
    | succ k ih =>
      intro f j p1 p2
      obtain ⟨f, rfl⟩ : ∃ g, f = g + 2 := ⟨f - 2, by omega⟩
      show b_X12_areFelt_6 (fun x5 x6 => f_X12_areFelt_6 N (nI f1) (nI q1) (nI f2) (nI q2) (f + 1) x5 x6) N (nI f1) (nI q1) (nI f2) (nI q2) 1 (nI j) = some (if fl j = reachP (nI q1) (nI f1) j + reachP (nI q2) (nI f2) j then fb fl (nI q1) (nI f1) (nI q2) (nI f2) k (j + 1) else 0)
      unfold b_X12_areFelt_6 f_X12_areFelt_51
      rw [h0, if_neg (nI_ge (by omega) (by omega)), if_neg (by decide), ck_n (by omega) (by omega), warms_ok hq1 hf1 (show j < 10 by omega), bd_s, warms_ok hq2 hf2 (show j < 10 by omega), bd_s, nI_clamp (by omega), h1 j (by omega), n1]
      by_cases g : fl j = reachP (nI q1) (nI f1) j + reachP (nI q2) (nI f2) j
      · rw [if_pos g, if_pos g]
        exact ih (f + 1) (j + 1) (by omega) (by omega)
      · rw [if_neg g, if_neg g]
        show b_X12_areFelt_6 (fun x5 x6 => f_X12_areFelt_6 N (nI f1) (nI q1) (nI f2) (nI q2) f x5 x6) N (nI f1) (nI q1) (nI f2) (nI q2) 0 (nI (j + 1)) = _
        unfold b_X12_areFelt_6 f_X12_areFelt_59
        rw [if_pos rfl, ck_t (show isB (0 : Int32) from Or.inl rfl), ite_self]
  exact loop n FU 0 (by omega) (by show n + 1 < 5000; omega)
