-- ALL THE SNOW; A SHEET READ
def mv (r : Pg) (m : Nat) : Int32 := if r m = 1 then r (m + 2) + r (m + 3) + r (m + 4) else 0
theorem allX {M : Mm} {a : Nat} {r : Pg} (H : ScR M a r 0) : f_X7_snowInAll M a = some (sumI (fun k => mv r (7 * k)) 20 + sumI (fun i => r (140 + i) + r (150 + i)) 10) := by
  have l2 : ∀ n v j, j ≤ 10 → 10 < j + n → f_X7_snowInAll_30 M a n (v + sumI (fun i => r (140 + i) + r (150 + i)) j) (nI j) = some (v + sumI (fun i => r (140 + i) + r (150 + i)) 10) := by
    intro n
    induction n with
    | zero => intro v j h1 h2; omega
    | succ n ih =>
      intro v j h1 h2
      show b_X7_snowInAll_30 (fun x1 x2 => f_X7_snowInAll_30 M a n x1 x2) M a (v + sumI (fun i => r (140 + i) + r (150 + i)) j) (nI j) = _
      unfold b_X7_snowInAll_30
      by_cases e : j = 10
      · subst e
        rw [if_pos (by decide)]
      · have hs := H.2.1 j (by omega)
        have h := ih v (j + 1) (by omega) (by omega)
        rw [show sumI (fun i => r (140 + i) + r (150 + i)) (j + 1) = sumI (fun i => r (140 + i) + r (150 + i)) j + (r (140 + j) + r (150 + j)) from rfl, ← Int32.add_assoc] at h
        rw [if_neg (show ¬ (10 : Int32) ≤ nI j from nI_ge (b := 10) (by omega) (by omega)), ck_n (by omega) (by omega), nI_clamp (by omega), nm_x, n1, hs.1, hs.2.1, show 0 + 140 + j = 140 + j by omega, show 0 + 150 + j = 150 + j by omega]
        exact h
  have l1 : ∀ n k, k ≤ 20 → 20 < k + n → f_X7_snowInAll_4 M a n (sumI (fun k => mv r (7 * k)) k) (nI k) = some (sumI (fun k => mv r (7 * k)) 20 + sumI (fun i => r (140 + i) + r (150 + i)) 10) := by
    intro n
    induction n with
    | zero => intro k h1 h2; omega
    | succ n ih =>
      intro k h1 h2
      show b_X7_snowInAll_4 (fun x1 x2 => f_X7_snowInAll_4 M a n x1 x2) M a (sumI (fun k => mv r (7 * k)) k) (nI k) = _
      unfold b_X7_snowInAll_4
      by_cases e : k = 20
      · subst e
        rw [if_pos (by decide)]
        unfold f_X7_snowInAll_28
        have := l2 FU (sumI (fun k => mv r (7 * k)) 20) 0 (by omega) (by decide)
        rw [show sumI (fun i => r (140 + i) + r (150 + i)) 0 = 0 from rfl, Int32.add_zero] at this
        exact this
      · have mk := H.1 k (by omega)
        rw [show 0 + 7 * k = 7 * k by omega] at mk
        have hv : f_X6_snowOf M (a + 11 + k) = some (mv r (7 * k)) := by
          unfold f_X6_snowOf f_X6_snowOf_25 mv
          rw [mk.1.1]
          rcases mk.2.1 with q | q
          · rw [if_pos q, if_neg (by rw [q]; decide)]
          · obtain ⟨f1, f2, f3, f4, -⟩ := mk.2.2 q
            rw [if_neg (by rw [q]; decide), if_pos q, f2, f3, f4]
        rw [if_neg (by show ¬ nI 20 ≤ nI k; exact nI_ge (by omega) (by omega)), ck_n (by omega) (by omega), nI_clamp (by omega), show a + 1 + 10 + k = a + 11 + k by omega, hv, bd_s, nm_x, n1]
        exact ih (k + 1) (by omega) (by omega)
  exact l1 FU 0 (by omega) (by decide)
def gT (r : Pg) (i : Nat) : Int32 := r (140 + i) + r (150 + i) + (mv r (7 * i) + mv r (7 * (10 + i)))
theorem allY {N : Mm} {F : Nat} (hF : F ≤ 10) (hN : N.1 0 1 = nI F) : f_X12_all N = some (sumI (gT (N.1 1)) F) := by
  have inner : ∀ kk i v, i < 10 → ∀ n s, s ≤ 2 → 2 < s + n → f_X12_all_38 kk N (nI i) n (v + sumI (fun s => mv (N.1 1) (7 * (10 * s + i))) s) (nI s) = kk (v + sumI (fun s => mv (N.1 1) (7 * (10 * s + i))) 2) (nI (i + 1)) := by
    intro kk i v hi n
    induction n with
    | zero => intro s h1 h2; omega
    | succ n ih =>
      intro s h1 h2
      show b_X12_all_38 kk (fun x1 x3 => f_X12_all_38 kk N (nI i) n x1 x3) N (nI i) (v + sumI (fun s => mv (N.1 1) (7 * (10 * s + i))) s) (nI s) = _
      unfold b_X12_all_38 f_X12_all_103 f_X12_all_95
      by_cases e : s = 2
      · subst e
        rw [if_pos (by decide), n1]
      · have h := ih (s + 1) (by omega) (by omega)
        rw [show sumI (fun s => mv (N.1 1) (7 * (10 * s + i))) (s + 1) = sumI (fun s => mv (N.1 1) (7 * (10 * s + i))) s + mv (N.1 1) (7 * (10 * s + i)) from rfl, ← Int32.add_assoc] at h
        rw [if_neg (show ¬ (2 : Int32) ≤ nI s from nI_ge (b := 2) (by omega) (by omega)), e_manAt (by omega) hi, bd_s, ck_n (by omega) (by omega), nI_clamp (by omega), nm_x, nm_x, n1, show nI (7 * (10 * s + i)) + (2 : Int32) = nI (7 * (10 * s + i) + 2) from nIa (b := 2) rfl, show nI (7 * (10 * s + i)) + (3 : Int32) = nI (7 * (10 * s + i) + 3) from nIa (b := 3) rfl, show nI (7 * (10 * s + i)) + (4 : Int32) = nI (7 * (10 * s + i) + 4) from nIa (b := 4) rfl, ck_n (by omega) (by omega), ck_n (by omega) (by omega), ck_n (by omega) (by omega), nI_clamp (by omega), nI_clamp (by omega), nI_clamp (by omega)]
        by_cases q : N.1 1 (7 * (10 * s + i)) = 1
        · rw [if_pos q]
          rw [show mv (N.1 1) (7 * (10 * s + i)) = _ from if_pos q] at h
          exact h
        · rw [if_neg q]
          rw [show mv (N.1 1) (7 * (10 * s + i)) = _ from if_neg q] at h
          exact h
  have outer : ∀ n j, j ≤ F → F < j + n → f_X12_all_4 N n (sumI (gT (N.1 1)) j) (nI j) = some (sumI (gT (N.1 1)) F) := by
    intro n
    induction n with
    | zero => intro j h1 h2; omega
    | succ n ih =>
      intro j h1 h2
      show b_X12_all_4 (fun x1 x2 => f_X12_all_4 N n x1 x2) N (sumI (gT (N.1 1)) j) (nI j) = _
      unfold b_X12_all_4
      rw [hN]
      by_cases e : j = F
      · subst e
        rw [if_pos (nI_le (Nat.le_refl _) (by omega))]
      · have h := inner (fun x1 x2 => f_X12_all_4 N n x1 x2) j (sumI (gT (N.1 1)) j + (N.1 1 (140 + j) + N.1 1 (150 + j))) (by omega) FU 0 (by omega) (by decide)
        rw [show sumI (fun s => mv (N.1 1) (7 * (10 * s + j))) 0 = 0 from rfl, Int32.add_zero] at h
        rw [if_neg (nI_ge (by omega) (by omega)), show (140 : Int32) + nI j = nI (140 + j) from nIa (a := 140) rfl, show (150 : Int32) + nI j = nI (150 + j) from nIa (a := 150) rfl, ck_n (by omega) (by omega), ck_n (by omega) (by omega), nI_clamp (by omega), nI_clamp (by omega), nm_x]
        refine h.trans ?_
        have hv : sumI (gT (N.1 1)) j + (N.1 1 (140 + j) + N.1 1 (150 + j)) + sumI (fun s => mv (N.1 1) (7 * (10 * s + j))) 2 = sumI (gT (N.1 1)) (j + 1) := by
          show _ + _ + (0 + mv (N.1 1) (7 * (10 * 0 + j)) + mv (N.1 1) (7 * (10 * 1 + j))) = sumI (gT (N.1 1)) j + gT (N.1 1) j
          unfold gT
          rw [show 7 * (10 * 0 + j) = 7 * j by omega, show 7 * (10 * 1 + j) = 7 * (10 + j) by omega]
          grind
        rw [hv]
        exact ih (j + 1) (by omega) (by omega)
  exact outer FU 0 (by omega) (by show F < 0 + 5000; omega)
theorem s_all {M N : Mm} (R : Rel M N) : RO (f_X11_all M) (f_X12_all N) := by
  obtain ⟨p, F, H⟩ := R
  have hF := H.1.2.2.2.2.1
  unfold f_X11_all
  rw [H.ld, allX H.2.1.1, bd_s, allY hF H.1.2.2.2.2.2.2]
  refine ⟨_, rfl, congrArg some ?_⟩
  have h1 := sum_cut (fun k => mv (N.1 1) (7 * k)) 10 10
  have h2 := sum_cut (gT (N.1 1)) F (10 - F)
  rw [show F + (10 - F) = 10 by omega, sum_0 (fun i => gT (N.1 1) (F + i)) (10 - F) (fun i hi => ?_), Int32.add_zero] at h2
  · have h3 : sumI (gT (N.1 1)) 10 = sumI (fun i => N.1 1 (140 + i) + N.1 1 (150 + i)) 10 + (sumI (fun k => mv (N.1 1) (7 * k)) 10 + sumI (fun i => mv (N.1 1) (7 * (10 + i))) 10) := by
      rw [← sum_add, ← sum_add]
      rfl
    rw [← h2, h3, show (20 : Nat) = 10 + 10 from rfl, h1]
    grind
  · obtain ⟨b1, b2⟩ := H.2.1.2.2
    have z0 := b1 0 (F + i) (by omega) (by omega) (by omega)
    have z1 := b1 1 (F + i) (by omega) (by omega) (by omega)
    obtain ⟨z2, z3⟩ := b2 (F + i) (by omega) (by omega)
    rw [show mo 0 0 (F + i) = 7 * (F + i) by unfold mo; omega] at z0
    rw [show mo 0 1 (F + i) = 7 * (10 + (F + i)) by unfold mo; omega] at z1
    rw [show 0 + 140 + (F + i) = 140 + (F + i) by omega] at z2
    rw [show 0 + 150 + (F + i) = 150 + (F + i) by omega] at z3
    unfold gT mv
    rw [z0, z1, z2, z3, if_neg (by decide)]
    rfl
