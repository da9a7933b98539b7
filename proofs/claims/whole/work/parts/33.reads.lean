-- CALLS THAT READ
theorem RelP.ld {p F : Nat} {M N : Mm} (H : RelP p F M N) : ld (M.1 0 9) = lx p := by rw [H.1.2.1]; exact ld_n H.1.1
theorem nF {F : Nat} (h : 1 ≤ F) : nI F - 1 = nI (F - 1) := pk_sub (b := 1) h
theorem RelP.fX {p F : Nat} {M N : Mm} (H : RelP p F M N) (x : Int32) : f_X11_isFurlong M x = some (b2 (inR x 0 (nI (F - 1)))) := by
  rw [e_isFurlong, H.ld, H.1.2.2.2.2.2.1, nF H.1.2.2.2.1]
theorem RelP.fY {p F : Nat} {M N : Mm} (H : RelP p F M N) (x : Int32) : f_X12_isFurlong N x = some (b2 (inR x 0 (nI (F - 1)))) := by
  rw [e_yFurlong, H.1.2.2.2.2.2.2, nF H.1.2.2.2.1]
theorem RelP.hr {p F : Nat} {M N : Mm} (H : RelP p F M N) : ∃ h, h ≤ 12 ∧ N.1 1 170 = nI h ∧ M.1 (lx p + 5) 0 = nI h := by
  obtain ⟨h, hh, e⟩ := H.2.1.2.1.2.2.2.1
  have e' : N.1 1 170 = nI h := by rw [← e]
  refine ⟨h, hh, e', ?_⟩
  rw [H.2.1.1.2.2.1, e]
theorem RelP.nX {p F : Nat} {M N : Mm} (H : RelP p F M N) (x : Int32) : f_X11_isFromNow M x = some (b2 (inR x (N.1 1 170) 12)) := by
  obtain ⟨h, hh, e1, e2⟩ := H.hr
  rw [e_isFromNow, H.ld, e1, e2]
/-- a furlong that there is -/
theorem fur_n {F : Nat} {x : Int32} (h1 : 1 ≤ F) (hF : F ≤ 10) (h : inR x 0 (nI (F - 1))) : ∃ i, i < F ∧ x = nI i := by
  obtain ⟨j, hj, e⟩ := inR_n (by omega) h
  exact ⟨j, by omega, e⟩
theorem hour_n {x : Int32} (h : inR x 0 11) : ∃ i, i < 12 ∧ x = nI i := by
  obtain ⟨j, hj, e⟩ := inR_n (n := 11) (by omega) h
  exact ⟨j, by omega, e⟩
theorem side_n {x : Int32} (h : inR x 0 1) : ∃ i, i < 2 ∧ x = nI i := by
  obtain ⟨j, hj, e⟩ := inR_n (n := 1) (by omega) h
  exact ⟨j, by omega, e⟩
theorem in1 {x : Int32} : inR x 0 1 ↔ x = 0 ∨ x = 1 := by
  constructor
  · intro h
    obtain ⟨j, hj, rfl⟩ := inR_n (n := 1) (by omega) h
    match j, hj with
    | 0, _ => exact Or.inl rfl
    | 1, _ => exact Or.inr rfl
  · rintro (rfl | rfl) <;> decide
theorem in2 {x : Int32} : inR x 0 2 ↔ x = 0 ∨ x = 1 ∨ x = 2 := by
  constructor
  · intro h
    obtain ⟨j, hj, rfl⟩ := inR_n (n := 2) (by omega) h
    match j, hj with
    | 0, _ => exact Or.inl rfl
    | 1, _ => exact Or.inr (Or.inl rfl)
    | 2, _ => exact Or.inr (Or.inr rfl)
  · rintro (rfl | rfl | rfl) <;> decide
theorem in3 {x : Int32} : inR x 0 3 ↔ x = 0 ∨ x = 1 ∨ x = 2 ∨ x = 3 := by
  constructor
  · intro h
    obtain ⟨j, hj, rfl⟩ := inR_n (n := 3) (by omega) h
    match j, hj with
    | 0, _ => exact Or.inl rfl
    | 1, _ => exact Or.inr (Or.inl rfl)
    | 2, _ => exact Or.inr (Or.inr (Or.inl rfl))
    | 3, _ => exact Or.inr (Or.inr (Or.inr rfl))
  · rintro (rfl | rfl | rfl | rfl) <;> decide
/-- a call that changes nothing on either side -/
def RO (x y : Option Int32) : Prop := ∃ r, x = some r ∧ y = some r
theorem s_fault {M N : Mm} (R : Rel M N) : RO (f_X11_fault M) (f_X12_fault N) := by
  obtain ⟨p, F, H⟩ := R
  exact ⟨N.1 0 18, by unfold f_X11_fault; rw [H.2.2.2.2.2.1.2], rfl⟩
theorem s_torn {M N : Mm} (R : Rel M N) : RO (f_X11_torn M) (f_X12_torn N) := by
  obtain ⟨p, F, H⟩ := R
  exact ⟨N.1 0 35, by unfold f_X11_torn; rw [H.2.2.2.2.2.2.2.2.1], rfl⟩
theorem in24 {x : Int32} : (2 ≤ x ∧ x ≤ 4) ↔ x = 2 ∨ x = 3 ∨ x = 4 := by
  constructor
  · intro h
    obtain ⟨j, hj, rfl⟩ := inR_n (v := x) (n := 4) (by omega) ⟨Int32.le_trans (by decide) h.1, h.2⟩
    match j, hj with
    | 0, _ => exact absurd h.1 (by decide)
    | 1, _ => exact absurd h.1 (by decide)
    | 2, _ => exact Or.inl rfl
    | 3, _ => exact Or.inr (Or.inl rfl)
    | 4, _ => exact Or.inr (Or.inr rfl)
  · rintro (rfl | rfl | rfl) <;> decide
theorem s_rule {M N : Mm} (R : Rel M N) (x : Int32) : RO (f_X11_rule M x) (f_X12_rule N x) := by
  obtain ⟨p, F, H⟩ := R
  obtain ⟨h, hh, e1, e2⟩ := H.hr
  obtain ⟨⟨a1, a2, a3, a4, a5, a6, a7⟩, -, ⟨⟨l0, l1, l2⟩, -, ⟨c, hc, c1, c2⟩, -⟩, -⟩ := id H
  unfold f_X11_rule f_X12_rule f_X12_hourNow f_X12_rule_61
  rw [H.ld, a6, e2, l0, l1, l2, c1, a7, c2, show (170 : Int32).toNatClampNeg = 170 from rfl, e1, bd_s, show f_X12_in x.toInt64 (2 : Int64) (4 : Int64) = some (b2 (inR x 2 4)) from e_inI x 2 4, bd_s]
  by_cases g0 : x = 0
  · subst g0; exact ⟨_, rfl, rfl⟩
  · by_cases g1 : x = 1
    · subst g1; exact ⟨_, rfl, rfl⟩
    · by_cases g : inR x 2 4
      · rcases in24.mp g with rfl | rfl | rfl <;> exact ⟨_, rfl, rfl⟩
      · have n2 : ¬ x = 2 := fun z => g (in24.mpr (Or.inl z))
        have n3 : ¬ x = 3 := fun z => g (in24.mpr (Or.inr (Or.inl z)))
        have n4 : ¬ x = 4 := fun z => g (in24.mpr (Or.inr (Or.inr z)))
        rw [if_neg g0, if_neg g1, if_neg n2, if_neg n3, if_neg n4, if_neg g0, if_neg g1, if_pos (b2_0.mpr g)]
        by_cases g5 : x = 5
        · simp only [if_pos g5]; exact ⟨_, rfl, rfl⟩
        · simp only [if_neg g5]; exact ⟨_, rfl, rfl⟩
theorem ix171 (h : Nat) : (171 : Int32) + nI h = nI (171 + h) := nIa (a := 171) rfl
theorem s_hour {M N : Mm} (R : Rel M N) (x y : Int32) : RO (f_X11_hour M x y) (f_X12_hour N x y) := by
  obtain ⟨p, F, H⟩ := R
  unfold f_X11_hour f_X12_hour f_X12_hour_43 f_X12_hour_44
  rw [e_isHour, e_yHour, bd_s, bd_s, H.ld]
  by_cases g : inR x 0 11
  · rw [if_neg (fun z => b2_0.mp z g), if_neg (fun z => b2_0.mp z g), show f_X12_in y.toInt64 (0 : Int64) (1 : Int64) = some (b2 (inR y 0 1)) from e_inI y 0 1, bd_s]
    obtain ⟨h, hh, rfl⟩ := hour_n g
    rw [ck_n hh (by omega), ck_n hh (by omega), ck_n hh (by omega), ix171, ck_n (by omega) (by omega), nI_clamp (by omega), nI_clamp (by omega), H.2.1.1.2.2.2.1 h hh, H.2.2.1.2.2.2 h hh]
    by_cases g0 : y = 0
    · subst g0
      rw [if_pos rfl, if_neg (fun z => b2_0.mp z (by decide)), if_pos rfl]
      exact ⟨_, rfl, congrArg some (congrArg (N.1 1) (by omega))⟩
    · by_cases g1 : y = 1
      · subst g1
        exact ⟨_, rfl, rfl⟩
      · rw [if_neg g0, if_neg g1, if_pos (b2_0.mpr (fun z => (in1.mp z).elim g0 g1))]
        exact ⟨_, rfl, rfl⟩
  · rw [if_pos (b2_0.mpr g), if_pos (b2_0.mpr g)]
    exact ⟨_, rfl, rfl⟩
theorem RelP.counts {p F : Nat} {M N : Mm} (_ : RelP p F M N) {t s i : Nat} (hs : s < 2) (hi : i < 10) (ht : t + 140 ≤ 840) : f_X12_counts N (nI t) (nI s) (nI i) = some (b2 (cnt (N.1 1) (N.1 3) (mo t s i))) := by
  have h := e_counts (N := N) (r := N.1 1) (at_ := t) hs hi ht
  rw [wR_self] at h
  exact h
theorem s_furlong {M N : Mm} (R : Rel M N) (x y : Int32) : RO (f_X11_furlong M x y) (f_X12_furlong N x y) := by
  obtain ⟨p, F, H⟩ := R
  unfold f_X11_furlong f_X12_furlong f_X12_furlong_20
  rw [H.fX, H.fY, bd_s, bd_s, H.ld]
  by_cases g : inR x 0 (nI (F - 1))
  · rw [if_neg (fun z => b2_0.mp z g), if_neg (fun z => b2_0.mp z g), show f_X12_in y.toInt64 (0 : Int64) (3 : Int64) = some (b2 (inR y 0 3)) from e_inI y 0 3, bd_s, nm_x]
    obtain ⟨i, hi, rfl⟩ := fur_n H.1.2.2.2.1 H.1.2.2.2.2.1 g
    have hi10 : i < 10 := Nat.lt_of_lt_of_le hi H.1.2.2.2.2.1
    obtain ⟨w1, w2, w3⟩ := H.2.1.1.2.1 i hi10
    rw [e_counting hi10 H.2.2.1.1 H.2.1.1.1, bd_s, ck_n hi10 (by omega), ck_n hi10 (by omega), ck_n hi10 (by omega), nI_clamp (by omega), w1, w2, w3]
    have q0 : f_X12_counts N 0 0 (nI i) = some (b2 (cnt (N.1 1) (N.1 3) (mo 0 0 i))) := H.counts (t := 0) (s := 0) (by decide) hi10 (by decide)
    have q1 : f_X12_counts N 0 1 (nI i) = some (b2 (cnt (N.1 1) (N.1 3) (mo 0 1 i))) := H.counts (t := 0) (s := 1) (by decide) hi10 (by decide)
    have key : ∀ a b : Int32, f_X12_furlong_52 N (nI i) y a b = if y = 0 then some (N.1 1 (0 + 140 + i)) else if y = 1 then some (N.1 1 (0 + 150 + i)) else if y = 2 then some (N.1 1 (0 + 160 + i) + 100) else some (a + b) := by
      intro a b
      unfold f_X12_furlong_52 f_X12_furlong_111
      rw [nm_x, show (140 : Int32) + nI i = nI (0 + 140 + i) from nIa (a := 140) (by omega), show (150 : Int32) + nI i = nI (0 + 150 + i) from nIa (a := 150) (by omega), show (160 : Int32) + nI i = nI (0 + 160 + i) from nIa (a := 160) (by omega), ck_n (by omega) (by omega), ck_n (by omega) (by omega), ck_n (by omega) (by omega), nI_clamp (by omega), nI_clamp (by omega), nI_clamp (by omega), Int32.add_comm 100]
    unfold f_X12_furlong_37
    simp only [q0, q1, bd_s, key]
    have hcb : (if b2 (cnt (N.1 1) (N.1 3) (mo 0 0 i)) = 0 then (if b2 (cnt (N.1 1) (N.1 3) (mo 0 1 i)) = 0 then (0 : Int32) + 0 else 0 + 2) else (if b2 (cnt (N.1 1) (N.1 3) (mo 0 1 i)) = 0 then (1 : Int32) + 0 else 1 + 2)) = cb (cnt (N.1 1) (N.1 3) (mo 0 0 i)) (cnt (N.1 1) (N.1 3) (mo 0 1 i)) := by
      unfold cb
      simp only [b2_0]
      by_cases u : cnt (N.1 1) (N.1 3) (mo 0 0 i)
      · by_cases v : cnt (N.1 1) (N.1 3) (mo 0 1 i)
        · rw [if_neg (fun z => z u), if_neg (fun z => z v), if_pos u, if_pos v]
        · rw [if_neg (fun z => z u), if_pos v, if_pos u, if_neg v]
      · by_cases v : cnt (N.1 1) (N.1 3) (mo 0 1 i)
        · rw [if_pos u, if_neg (fun z => z v), if_neg u, if_pos v]
        · rw [if_pos u, if_pos v, if_neg u, if_neg v]
    generalize cb (cnt (N.1 1) (N.1 3) (mo 0 0 i)) (cnt (N.1 1) (N.1 3) (mo 0 1 i)) = z at hcb ⊢
    generalize b2 (cnt (N.1 1) (N.1 3) (mo 0 0 i)) = u at hcb ⊢
    generalize b2 (cnt (N.1 1) (N.1 3) (mo 0 1 i)) = v at hcb ⊢
    by_cases g0 : y = 0
    · subst g0
      simp only [if_true, ite_self]
      rw [if_neg (fun z => b2_0.mp z (by decide))]
      exact ⟨_, rfl, rfl⟩
    · by_cases g1 : y = 1
      · subst g1
        simp only [show ¬ ((1 : Int32) = 0) by decide, if_true, if_false, ite_self]
        rw [if_neg (fun z => b2_0.mp z (by decide))]
        exact ⟨_, rfl, rfl⟩
      · by_cases g2 : y = 2
        · subst g2
          simp only [show ¬ ((2 : Int32) = 0) by decide, show ¬ ((2 : Int32) = 1) by decide, if_true, if_false, ite_self]
          rw [if_neg (fun z => b2_0.mp z (by decide))]
          exact ⟨_, rfl, rfl⟩
        · by_cases g3 : y = 3
          · subst g3
            simp only [show ¬ ((3 : Int32) = 0) by decide, show ¬ ((3 : Int32) = 1) by decide, show ¬ ((3 : Int32) = 2) by decide, if_true, if_false]
            rw [if_neg (fun z => b2_0.mp z (by decide)), ← hcb]
            refine ⟨_, rfl, ?_⟩
            by_cases u : u = 0 <;> by_cases v : v = 0 <;> simp only [u, v, if_true, if_false]
          · rw [if_neg g0, if_neg g1, if_neg g2, if_neg g3, if_pos (b2_0.mpr (fun z => by rcases in3.mp z with q | q | q | q <;> contradiction))]
            exact ⟨_, rfl, rfl⟩
  · rw [if_pos (b2_0.mpr g), if_pos (b2_0.mpr g)]
    exact ⟨_, rfl, rfl⟩
