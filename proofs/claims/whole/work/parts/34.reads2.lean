theorem cnt_n {x : Int32} {c : Nat} (hc : c ≤ 100) (h : inR x 0 (nI c - 1)) : ∃ j, j < c ∧ x = nI j := by
  by_cases h0 : c = 0
  · subst h0
    exact absurd (Int32.le_trans h.1 h.2) (by decide)
  · rw [nF (by omega)] at h
    obtain ⟨j, hj, e⟩ := inR_n (by omega) h
    exact ⟨j, by omega, e⟩
theorem isThere_y {N : Mm} {t s i : Nat} (hs : s < 2) (hi : i < 10) (ht : t + 140 ≤ 840) : f_X12_isThere N (nI t) (nI s) (nI i) = some (b2 (N.1 1 (mo t s i) = 1)) := by
  have hm := mo_le (at_ := t) hs hi
  unfold f_X12_isThere f_X12_isThere_21
  rw [e_manAt hs hi, bd_s, nI_add, show t + 7 * (10 * s + i) = mo t s i from rfl, ck_n (by omega) (by omega), nI_clamp (by omega), ck_t (show isB (0 : Int32) from Or.inl rfl), ck_t (show isB (1 : Int32) from Or.inr rfl)]
  by_cases h : N.1 1 (mo t s i) = 1
  · rw [if_pos h, b2_t h]
  · rw [if_neg h, b2_f h]
theorem mo0 (s i : Nat) : mo 0 s i = 0 + 7 * (10 * s + i) := rfl
theorem in5 {x : Int32} : inR x 0 5 ↔ ∃ w, w ≤ 5 ∧ x = nI w := ⟨fun h => inR_n (n := 5) (by omega) h, fun ⟨w, hw, e⟩ => by rw [e]; exact inR_i (n := 5) (by omega) hw⟩
theorem s_man {M N : Mm} (R : Rel M N) (x y z : Int32) : RO (f_X11_man M x y z) (f_X12_man N x y z) := by
  obtain ⟨p, F, H⟩ := R
  unfold f_X11_man f_X12_man f_X11_man_24 f_X12_man_27
  rw [e_isSide, e_ySide, bd_s, bd_s, H.fX, H.fY, bd_s, bd_s, H.ld]
  by_cases g1 : inR x 0 1
  · rw [if_neg (fun q => b2_0.mp q g1), if_neg (fun q => b2_0.mp q g1)]
    by_cases g2 : inR y 0 (nI (F - 1))
    · rw [if_neg (fun q => b2_0.mp q g2), if_neg (fun q => b2_0.mp q g2), e_isAmong, bd_s, show f_X12_in z.toInt64 (0 : Int64) (5 : Int64) = some (b2 (inR z 0 5)) from e_inI z 0 5, bd_s]
      by_cases g3 : inR z 0 5
      · rw [if_neg (fun q => b2_0.mp q g3), if_neg (fun q => b2_0.mp q g3)]
        obtain ⟨s, hs, rfl⟩ := side_n g1
        obtain ⟨i, hi, rfl⟩ := fur_n H.1.2.2.2.1 H.1.2.2.2.2.1 g2
        have hi10 : i < 10 := Nat.lt_of_lt_of_le hi H.1.2.2.2.2.1
        have mk := H.2.1.1.1 (10 * s + i) (by omega)
        rw [e_manOf hs hi10, bd_s, show f_X12_isThere N 0 (nI s) (nI i) = _ from isThere_y (t := 0) hs hi10 (by decide), bd_s, e_manAt hs hi10, bd_s, mo0]
        generalize lx p + 5 + 11 + (10 * s + i) = ma at mk ⊢
        generalize hm : 0 + 7 * (10 * s + i) = m at mk ⊢
        have hm' : 7 * (10 * s + i) = m := by omega
        rw [hm', mk.1.1]
        by_cases t : N.1 1 m = 1
        · rw [if_neg (by rw [t]; decide), if_neg (fun q => b2_0.mp q t)]
          obtain ⟨q1, q2, q3, q4, q5, q6, q7⟩ := mk.2.2 t
          obtain ⟨w, hw, rfl⟩ := in5.mp g3
          unfold f_X11_man_131 f_X12_man_72
          rw [show nI m + (1 : Int32) + nI w = nI (m + 1 + w) from by rw [n1, nI_add], ck_n (by omega) (by omega), nI_clamp (by omega), nm_x, q1, q2, q3, q4, q5, q6]
          match w, hw with
          | 0, _ => exact ⟨_, rfl, rfl⟩
          | 1, _ => exact ⟨_, rfl, rfl⟩
          | 2, _ => exact ⟨_, rfl, rfl⟩
          | 3, _ => exact ⟨_, rfl, rfl⟩
          | 4, _ => exact ⟨_, rfl, rfl⟩
          | 5, _ =>
            rw [show m + 1 + 5 = m + 6 from rfl]
            rcases q7 with q | q <;> rw [q] <;> exact ⟨_, rfl, rfl⟩
        · rw [if_pos (isB_1 mk.2.1 t), if_pos (b2_0.mpr t)]
          exact ⟨_, rfl, rfl⟩
      · rw [if_pos (b2_0.mpr g3), if_pos (b2_0.mpr g3)]
        exact ⟨_, rfl, rfl⟩
    · rw [if_pos (b2_0.mpr g2), if_pos (b2_0.mpr g2)]
      exact ⟨_, rfl, rfl⟩
  · rw [if_pos (b2_0.mpr g1), if_pos (b2_0.mpr g1)]
    exact ⟨_, rfl, rfl⟩
theorem sh0 (r : Pg) : (fun x => r (0 + x)) = r := funext fun x => congrArg r (by omega)
theorem RelP.br {p F : Nat} {M N : Mm} (H : RelP p F M N) : ∃ c, c ≤ 6 ∧ N.1 1 207 = nI c ∧ M.1 (lx p + 5 + 6) 0 = nI c ∧ (∀ b, b < c → M.1 (lx p + 5 + 6 + 1) b = N.1 1 (183 + 4 * b) ∧ M.1 (lx p + 5 + 6 + 2) b = N.1 1 (184 + 4 * b) ∧ M.1 (lx p + 5 + 6 + 3) b = N.1 1 (185 + 4 * b) ∧ M.1 (lx p + 5 + 6 + 4) b = N.1 1 (186 + 4 * b)) ∧ BrI (N.1 1) := by
  have h1 := H.2.1.2.1.2.2.2.2
  have h2 := H.2.1.1.2.2.2.2
  rw [sh0] at h1 h2
  obtain ⟨c, h6, hc, hcl⟩ := clampc h1
  exact ⟨c, h6, hc, h2.1.trans hc, fun b hb => h2.2 b (by rw [hcl]; exact hb), h1⟩
theorem s_brazier {M N : Mm} (R : Rel M N) (x y : Int32) : RO (f_X11_brazier M x y) (f_X12_brazier N x y) := by
  obtain ⟨p, F, H⟩ := R
  obtain ⟨c, h6, hc, hc2, hb, -⟩ := H.br
  unfold f_X11_brazier f_X12_brazier f_X12_brazier_49 f_X12_brazier_50
  rw [nm_x, e_isBrazier, bd_s, H.ld, hc2, show (207 : Int32).toNatClampNeg = 207 from rfl, hc, show f_X12_in x.toInt64 (0 : Int64) ((nI c - 1).toInt64) = some (b2 (inR x 0 (nI c - 1))) from e_inI x 0 (nI c - 1), bd_s]
  by_cases g : inR x 0 (nI c - 1)
  · rw [if_neg (fun q => b2_0.mp q g), if_neg (fun q => b2_0.mp q g), show f_X12_in y.toInt64 (0 : Int64) (3 : Int64) = some (b2 (inR y 0 3)) from e_inI y 0 3, bd_s]
    obtain ⟨j, hj, rfl⟩ := cnt_n (by omega) g
    obtain ⟨q1, q2, q3, q4⟩ := hb j hj
    rw [ck_n (show j < 6 by omega) (by omega), ck_n (show j < 6 by omega) (by omega), ck_n (show j < 6 by omega) (by omega), ck_n (show j < 6 by omega) (by omega), nI_clamp (by omega), q1, q2, q3, q4]
    by_cases g3 : inR y 0 3
    · rw [if_neg (fun q => b2_0.mp q g3)]
      obtain ⟨w, hw, rfl⟩ := inR_n (n := 3) (by omega) g3
      rw [show (183 : Int32) + (4 : Int32) * nI j + nI w = nI (183 + 4 * j + w) from by rw [show (4 : Int32) * nI j = nI (4 * j) from pk_mul 4 j, show (183 : Int32) + nI (4 * j) = nI (183 + 4 * j) from nIa (a := 183) rfl, nI_add], ck_n (by omega) (by omega), nI_clamp (by omega)]
      match w, hw with
      | 0, _ => exact ⟨_, rfl, rfl⟩
      | 1, _ => exact ⟨_, rfl, congrArg some (congrArg (N.1 1) (by omega))⟩
      | 2, _ => exact ⟨_, rfl, congrArg some (congrArg (N.1 1) (by omega))⟩
      | 3, _ => exact ⟨_, rfl, congrArg some (congrArg (N.1 1) (by omega))⟩
    · rw [if_neg (fun q => g3 (in3.mpr (Or.inl q))), if_neg (fun q => g3 (in3.mpr (Or.inr (Or.inl q)))), if_neg (fun q => g3 (in3.mpr (Or.inr (Or.inr (Or.inl q))))), if_neg (fun q => g3 (in3.mpr (Or.inr (Or.inr (Or.inr q))))), if_pos (b2_0.mpr g3)]
      exact ⟨_, rfl, rfl⟩
  · rw [if_pos (b2_0.mpr g), if_pos (b2_0.mpr g)]
    exact ⟨_, rfl, rfl⟩
/-- whose a house is, by its place and the line -/
def own (v line : Int32) : Int32 := if v = line then -4 else if line ≤ v then 1 else 0
theorem owner_x {M : Mm} {l a h x : Nat} (hh : h < 8) (hx : x < 10) (e : M.1 (l + 3) h = nI x) : f_X4_ownerOf M l (nI h) a = some (own (M.1 (l + 4) h) (M.1 (a + 4) x)) := by
  unfold f_X4_ownerOf f_X4_ownerOf_40 own
  rw [ck_n hh (by omega), nI_clamp (by omega), e, ck_n hx (by omega), nI_clamp (by omega), nm_x]
  by_cases g : M.1 (l + 4) h = M.1 (a + 4) x
  · rw [if_pos g, if_pos g]
  · rw [if_neg g, if_neg g]
    by_cases g2 : M.1 (a + 4) x ≤ M.1 (l + 4) h
    · rw [if_pos g2, if_pos g2]
    · rw [if_neg g2, if_neg g2]
theorem owner_y {N : Mm} {t h x : Nat} (hh : h < 8) (hx : x < 10) (ht : t + 210 ≤ 840) (e : N.1 4 (2 * h) = nI x) : f_X12_houseOf N (nI t) (nI h) = some (own (N.1 4 (2 * h + 1)) (N.1 1 (t + 160 + x))) := by
  unfold f_X12_houseOf f_X12_houseOf_54 own
  rw [show (2 : Int32) * nI h = nI (2 * h) from pk_mul 2 h, ck_n (by omega) (by omega), nI_clamp (by omega), e, show nI t + (160 : Int32) + nI x = nI (t + 160 + x) from by rw [show nI t + (160 : Int32) = nI (t + 160) from nIa (b := 160) rfl, nI_add], ck_n (by omega) (by omega), nI_clamp (by omega), nm_x, n1, ck_n (by omega) (by omega), nI_clamp (by omega), nm_x]
  by_cases g : N.1 4 (2 * h + 1) = N.1 1 (t + 160 + x)
  · rw [if_pos g, g, if_pos (Int32.le_refl _), if_pos (Int32.le_refl _)]
  · rw [if_neg g]
    by_cases g2 : N.1 1 (t + 160 + x) ≤ N.1 4 (2 * h + 1)
    · rw [if_pos g2, if_pos g2, if_neg (fun q => g (Int32.le_antisymm q g2))]
    · rw [if_neg g2, if_neg g2]
theorem s_house {M N : Mm} (R : Rel M N) (x y : Int32) : RO (f_X11_house M x y) (f_X12_house N x y) := by
  obtain ⟨p, F, H⟩ := R
  obtain ⟨c, h8, c1, c2, hh⟩ := H.2.2.2.1
  unfold f_X11_house f_X12_house f_X12_house_28 f_X12_house_72
  rw [H.ld, e_isAmong, bd_s, c1, c2, show f_X12_in x.toInt64 (0 : Int64) ((nI c - 1).toInt64) = some (b2 (inR x 0 (nI c - 1))) from e_inI x 0 (nI c - 1), bd_s]
  by_cases g : inR x 0 (nI c - 1)
  · rw [if_neg (fun q => b2_0.mp q g), if_neg (fun q => b2_0.mp q g), show f_X12_in y.toInt64 (0 : Int64) (2 : Int64) = some (b2 (inR y 0 2)) from e_inI y 0 2, bd_s]
    obtain ⟨j, hj, rfl⟩ := cnt_n (by omega) g
    obtain ⟨q1, q2, k, hk, q3⟩ := hh j hj
    have hk10 : k < 10 := Nat.lt_of_lt_of_le hk H.1.2.2.2.2.1
    rw [owner_x (a := lx p + 5) (by omega) hk10 (q1.trans q3), bd_s, show f_X12_houseOf N 0 (nI j) = _ from owner_y (t := 0) (by omega) hk10 (by decide) q3, bd_s, ck_n (show j < 8 by omega) (by omega), ck_n (show j < 8 by omega) (by omega), nI_clamp (by omega), q1, q2, show (2 : Int32) * nI j = nI (2 * j) from pk_mul 2 j, n1, ck_n (by omega) (by omega), ck_n (by omega) (by omega), nI_clamp (by omega), nI_clamp (by omega), (H.2.1.1.2.1 k hk10).2.2, Int32.add_comm 100]
    by_cases g0 : y = 0
    · subst g0
      exact ⟨_, rfl, rfl⟩
    · by_cases g1 : y = 1
      · subst g1
        exact ⟨_, rfl, rfl⟩
      · by_cases g2 : y = 2
        · subst g2
          exact ⟨_, rfl, rfl⟩
        · rw [if_neg g0, if_neg g1, if_neg g2, if_pos (b2_0.mpr (fun z => by rcases in2.mp z with q | q | q <;> contradiction))]
          exact ⟨_, rfl, rfl⟩
  · rw [if_pos (b2_0.mpr g), if_pos (b2_0.mpr g)]
    exact ⟨_, rfl, rfl⟩
theorem RelP.fire {p F : Nat} {M N : Mm} (H : RelP p F M N) {i : Nat} (hi : i < 10) (h : Int32) : f_X0_warmthOn M (lx p + 5 + 6) (nI i) h = some (warmP (N.1 1) i h) ∧ f_X12_fires N (nI i) h = some (warmP (N.1 1) i h) := by
  have h1 := H.2.1.2.1.2.2.2.2
  have h2 := H.2.1.1.2.2.2.2
  rw [sh0] at h1 h2
  exact ⟨e_warmth hi h1 h2, e_fires hi h1⟩
theorem s_heat {M N : Mm} (R : Rel M N) (x y z : Int32) : RO (f_X11_heat M x y z) (f_X12_heat N x y z) := by
  obtain ⟨p, F, H⟩ := R
  unfold f_X11_heat f_X12_heat f_X11_heat_15 f_X12_heat_43 f_X12_heat_39 f_X12_heat_44 f_X11_heat_51
  rw [H.fX, H.fY, bd_s, bd_s, e_isHour, e_yHour, bd_s, bd_s, H.ld]
  by_cases g1 : inR x 0 (nI (F - 1))
  · rw [if_neg (fun q => b2_0.mp q g1), if_neg (fun q => b2_0.mp q g1)]
    by_cases g2 : inR y 0 11
    · rw [if_neg (fun q => b2_0.mp q g2), if_neg (fun q => b2_0.mp q g2)]
      obtain ⟨i, hi, rfl⟩ := fur_n H.1.2.2.2.1 H.1.2.2.2.2.1 g1
      have hi10 : i < 10 := Nat.lt_of_lt_of_le hi H.1.2.2.2.2.1
      obtain ⟨h, hh, rfl⟩ := hour_n g2
      obtain ⟨f1, f2⟩ := H.fire hi10 (nI h)
      unfold f_X7_heatOn
      rw [f1, f2, bd_s, bd_s, bd_s, ck_n hh (by omega), bd_s, nI_clamp (by omega), ix171, ck_n (by omega) (by omega), nI_clamp (by omega), H.2.1.1.2.2.2.1 h hh, show 0 + 171 + h = 171 + h by omega]
      by_cases g3 : z = 0
      · rw [if_pos g3, if_pos g3, Int32.add_zero]
        exact ⟨_, rfl, rfl⟩
      · rw [if_neg g3, if_neg g3, Int32.add_comm]
        exact ⟨_, rfl, rfl⟩
    · rw [if_pos (b2_0.mpr g2), if_pos (b2_0.mpr g2)]
      exact ⟨_, rfl, rfl⟩
  · rw [if_pos (b2_0.mpr g1), if_pos (b2_0.mpr g1)]
    exact ⟨_, rfl, rfl⟩
-- strength, talks, counts, all
def stB (r T : Pg) (s : Nat) (hd : Int32) (i : Nat) : Int32 := if suit r T (mo 0 s i) ∧ hd ≤ r (mo 0 s i + 4) then 1 else 0
theorem e_strB {M N : Mm} {p F s : Nat} {hd : Int32} (H : RelP p F M N) (hs : s < 2) : f_X4_strengthBy M (lx p) (nI s) hd = some (sumI (stB (N.1 1) (N.1 3) s hd) F) := by
  obtain ⟨a1, a2, a3, a4, a5, a6, a7⟩ := H.1
  have loop : ∀ n i, i ≤ F → F < i + n → f_X4_strengthBy_5 M (lx p) (nI s) hd n (sumI (stB (N.1 1) (N.1 3) s hd) i) (nI i) = some (sumI (stB (N.1 1) (N.1 3) s hd) F) := by
    intro n
    induction n with
    | zero => intro i h1 h2; omega
    | succ n ih =>
      intro i h1 h2
      show b_X4_strengthBy_5 (fun x3 x4 => f_X4_strengthBy_5 M (lx p) (nI s) hd n x3 x4) M (lx p) (nI s) hd (sumI (stB (N.1 1) (N.1 3) s hd) i) (nI i) = _
      unfold b_X4_strengthBy_5 f_X4_strengthBy_50
      rw [a6]
      by_cases e : i = F
      · subst e
        rw [if_pos (nI_le (Nat.le_refl _) (by omega))]
      · have mk := H.2.1.1.1 (10 * s + i) (by omega)
        rw [if_neg (nI_ge (by omega) (by omega)), e_manOf hs (by omega), bd_s, e_suits H.2.2.1.1 mk, bd_s, n1]
        have hst : stB (N.1 1) (N.1 3) s hd i = if suit (N.1 1) (N.1 3) (mo 0 s i) ∧ hd ≤ N.1 1 (mo 0 s i + 4) then 1 else 0 := rfl
        have hsum : sumI (stB (N.1 1) (N.1 3) s hd) (i + 1) = sumI (stB (N.1 1) (N.1 3) s hd) i + stB (N.1 1) (N.1 3) s hd i := rfl
        rw [mo0] at hst
        by_cases g : suit (N.1 1) (N.1 3) (0 + 7 * (10 * s + i))
        · rw [if_neg (fun z => b2_0.mp z g), (mk.2.2 g.1).2.2.2.1]
          by_cases g2 : N.1 1 (0 + 7 * (10 * s + i) + 4) < hd
          · rw [if_neg (fun z => absurd z.2 (by simpa using g2))] at hst
            rw [hst, Int32.add_zero] at hsum
            rw [if_pos g2, ← hsum]
            exact ih (i + 1) (by omega) (by omega)
          · rw [if_pos ⟨g, by simpa using g2⟩] at hst
            rw [hst] at hsum
            rw [if_neg g2, ← hsum]
            exact ih (i + 1) (by omega) (by omega)
        · rw [if_neg (fun z => g z.1)] at hst
          rw [hst, Int32.add_zero] at hsum
          rw [if_pos (b2_0.mpr g), ← hsum]
          exact ih (i + 1) (by omega) (by omega)
  exact loop FU 0 (by omega) (by show F < 0 + 5000; omega)
theorem e_strY {N : Mm} {F s : Nat} (hF : F ≤ 10) (hN : N.1 0 1 = nI F) (hs : s < 2) : f_X12_strengthOf N (nI s) = some (sumI (stB (N.1 1) (N.1 3) s (N.1 3 0)) F) := by
  have loop : ∀ n i, i ≤ F → F < i + n → f_X12_strengthOf_4 N (nI s) n (sumI (stB (N.1 1) (N.1 3) s (N.1 3 0)) i) (nI i) = some (sumI (stB (N.1 1) (N.1 3) s (N.1 3 0)) F) := by
    intro n
    induction n with
    | zero => intro i h1 h2; omega
    | succ n ih =>
      intro i h1 h2
      show b_X12_strengthOf_4 (fun x2 x3 => f_X12_strengthOf_4 N (nI s) n x2 x3) N (nI s) (sumI (stB (N.1 1) (N.1 3) s (N.1 3 0)) i) (nI i) = _
      unfold b_X12_strengthOf_4 f_X12_strengthOf_28
      rw [hN]
      by_cases e : i = F
      · subst e
        rw [if_pos (nI_le (Nat.le_refl _) (by omega))]
      · have hc := e_counts (N := N) (r := N.1 1) (at_ := 0) (i := i) hs (by omega) (by decide)
        rw [wR_self] at hc
        rw [if_neg (nI_ge (by omega) (by omega)), show f_X12_counts N 0 (nI s) (nI i) = _ from hc, bd_s, n1, nm_x, nm_x]
        have hst : stB (N.1 1) (N.1 3) s (N.1 3 0) i = if suit (N.1 1) (N.1 3) (mo 0 s i) ∧ N.1 3 0 ≤ N.1 1 (mo 0 s i + 4) then 1 else 0 := rfl
        have hsum : sumI (stB (N.1 1) (N.1 3) s (N.1 3 0)) (i + 1) = sumI (stB (N.1 1) (N.1 3) s (N.1 3 0)) i + stB (N.1 1) (N.1 3) s (N.1 3 0) i := rfl
        by_cases g : cnt (N.1 1) (N.1 3) (mo 0 s i)
        · rw [if_pos (cnt_suit.mp g)] at hst
          rw [hst] at hsum
          rw [if_neg (fun z => b2_0.mp z g), ← hsum]
          exact ih (i + 1) (by omega) (by omega)
        · rw [if_neg (fun z => g (cnt_suit.mpr z))] at hst
          rw [hst] at hsum
          rw [if_pos (b2_0.mpr g), ← hsum]
          exact ih (i + 1) (by omega) (by omega)
  exact loop FU 0 (by omega) (by show F < 0 + 5000; omega)
theorem s_strength {M N : Mm} (R : Rel M N) (x : Int32) : RO (f_X11_strength M x) (f_X12_strength N x) := by
  obtain ⟨p, F, H⟩ := R
  unfold f_X11_strength f_X12_strength f_X12_strength_16
  rw [e_isSide, e_ySide, bd_s, bd_s, H.ld]
  by_cases g : inR x 0 1
  · obtain ⟨s, hs, rfl⟩ := side_n g
    rw [if_neg (fun q => b2_0.mp q g), if_neg (fun q => b2_0.mp q g), H.2.2.1.1.1, e_strB H hs, e_strY H.1.2.2.2.2.1 H.1.2.2.2.2.2.2 hs]
    exact ⟨_, rfl, rfl⟩
  · rw [if_pos (b2_0.mpr g), if_pos (b2_0.mpr g)]
    exact ⟨_, rfl, rfl⟩
