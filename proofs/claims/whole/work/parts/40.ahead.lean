-- WHAT IS ASKED OF THE SCENE AHEAD
theorem now_n {N : Mm} {h : Nat} {x : Int32} (e : N.1 1 170 = nI h) (hh : h ≤ 12) (g : inR x (N.1 1 170) 12) : ∃ t, h ≤ t ∧ t ≤ 12 ∧ x = nI t := by
  rw [e] at g
  obtain ⟨t, ht, rfl⟩ := inR_n (v := x) (n := 12) (by omega) ⟨Int32.le_trans (nI_pos' (by omega)) g.1, g.2⟩
  exact ⟨t, (nI_leI (by omega) (by omega)).mp g.1, ht, rfl⟩
theorem s_later {M N : Mm} (R : Rel M N) (x y z : Int32) : WW (f_X11_later M x y z) (f_X12_later N x y z) := by
  obtain ⟨p, F, H⟩ := id R
  obtain ⟨h, hh, e1, e2⟩ := H.hr
  have hF := H.1.2.2.2.2.1
  unfold f_X11_later f_X12_later f_X11_later_23 f_X12_later_23
  rw [e_isSide, e_ySide, bd_s, bd_s, H.fX, H.fY, bd_s, bd_s, H.nX, e_yAhead, bd_s, bd_s]
  by_cases g1 : inR x 0 1
  · rw [if_neg (fun q => b2_0.mp q g1), if_neg (fun q => b2_0.mp q g1)]
    by_cases g2 : inR y 0 (nI (F - 1))
    · rw [if_neg (fun q => b2_0.mp q g2), if_neg (fun q => b2_0.mp q g2)]
      by_cases g3 : inR z (N.1 1 170) 12
      · rw [if_neg (fun q => b2_0.mp q g3), if_neg (fun q => b2_0.mp q g3)]
        obtain ⟨s, hs, rfl⟩ := side_n g1
        obtain ⟨i, hi, rfl⟩ := fur_n H.1.2.2.2.1 hF g2
        obtain ⟨t, t1, t2, rfl⟩ := now_n e1 hh g3
        obtain ⟨M2, r2, c1, c2, H2, S2, I2, -, -⟩ := s_look H e1 t1 t2
        have hm := S2.1 (10 * s + i) (by omega)
        rw [c1, c2, bd_s, bd_s, e_manOf hs (by omega), bd_s, show f_X12_isThere (wR N 1 r2) (630 : Int32) (nI s) (nI i) = _ from isThere_y (t := 630) hs (by omega) (by omega), bd_s, wR_s, hm.1.1, show 630 + 7 * (10 * s + i) = mo 630 s i from rfl]
        rcases hm.2.1 with q | q
        · rw [show mo 630 s i = 630 + 7 * (10 * s + i) from rfl, q, if_pos rfl, if_pos (b2_0.mpr (by decide))]
          exact ⟨_, _, _, rfl, rfl, p, F, H2⟩
        · rw [show mo 630 s i = 630 + 7 * (10 * s + i) from rfl, if_neg (by rw [q]; decide), if_neg (fun z => b2_0.mp z q), e_manAt hs (by omega), bd_s, show (630 : Int32) + nI (7 * (10 * s + i)) = nI (630 + 7 * (10 * s + i)) from nIa (a := 630) rfl, show nI (630 + 7 * (10 * s + i)) + (4 : Int32) = nI (630 + 7 * (10 * s + i) + 4) from nIa (b := 4) rfl, ck_n (by omega) (by omega), nI_clamp (by omega), (hm.2.2 q).2.2.2.1]
          exact ⟨_, _, _, rfl, rfl, p, F, H2⟩
      · rw [if_pos (b2_0.mpr g3), if_pos (b2_0.mpr g3)]
        exact WW.no R _
    · rw [if_pos (b2_0.mpr g2), if_pos (b2_0.mpr g2)]
      exact WW.no R _
  · rw [if_pos (b2_0.mpr g1), if_pos (b2_0.mpr g1)]
    exact WW.no R _
theorem s_line {M N : Mm} (R : Rel M N) (y z : Int32) : WW (f_X11_line M y z) (f_X12_line N y z) := by
  obtain ⟨p, F, H⟩ := id R
  obtain ⟨h, hh, e1, e2⟩ := H.hr
  have hF := H.1.2.2.2.2.1
  unfold f_X11_line f_X12_line f_X11_line_16 f_X12_line_16
  rw [H.fX, H.fY, bd_s, bd_s, H.nX, e_yAhead, bd_s, bd_s]
  by_cases g2 : inR y 0 (nI (F - 1))
  · rw [if_neg (fun q => b2_0.mp q g2), if_neg (fun q => b2_0.mp q g2)]
    by_cases g3 : inR z (N.1 1 170) 12
    · rw [if_neg (fun q => b2_0.mp q g3), if_neg (fun q => b2_0.mp q g3)]
      obtain ⟨i, hi, rfl⟩ := fur_n H.1.2.2.2.1 hF g2
      obtain ⟨t, t1, t2, rfl⟩ := now_n e1 hh g3
      obtain ⟨M2, r2, c1, c2, H2, S2, I2, -, -⟩ := s_look H e1 t1 t2
      have := (S2.2.1 i (by omega)).2.2
      rw [c1, c2, bd_s, bd_s, ck_n (by omega) (by omega), nI_clamp (by omega), show (790 : Int32) + nI i = nI (790 + i) from nIa (a := 790) rfl, ck_n (by omega) (by omega), nI_clamp (by omega), wR_s, show M2.1 7 i = r2 (790 + i) from this, Int32.add_comm]
      exact ⟨_, _, _, rfl, rfl, p, F, H2⟩
    · rw [if_pos (b2_0.mpr g3), if_pos (b2_0.mpr g3)]
      exact WW.no R _
  · rw [if_pos (b2_0.mpr g2), if_pos (b2_0.mpr g2)]
    exact WW.no R _
theorem houses_loop {M N : Mm} {l c F : Nat} (hl : ld (M.1 0 9) = l) (c8 : c ≤ 8) (hF : F ≤ 10) (m4 : M.1 l 4 = nI c) (n5 : N.1 0 5 = nI c) (hh : ∀ h, h < c → M.1 (l + 3) h = N.1 4 (2 * h) ∧ M.1 (l + 4) h = N.1 4 (2 * h + 1) ∧ ∃ x, x < F ∧ N.1 4 (2 * h) = nI x) (S : ScR M 3 (N.1 1) 630) (s : Int32) : ∀ n j v, j ≤ c → c < j + n → ∃ w, f_X11_houses_27 M s n v (nI j) = some (w, M) ∧ f_X12_houses_27 N s n v (nI j) = some (w, N) := by
  intro n
  induction n with
  | zero => intro j v h1 h2; omega
  | succ n ih =>
    intro j v h1 h2
    have st : f_X11_houses_27 M s (n + 1) v (nI j) = b_X11_houses_27 (fun x3 x4 => f_X11_houses_27 M s n x3 x4) M s v (nI j) := rfl
    have st2 : f_X12_houses_27 N s (n + 1) v (nI j) = b_X12_houses_27 (fun x3 x4 => f_X12_houses_27 N s n x3 x4) N s v (nI j) := rfl
    rw [st, st2]
    unfold b_X11_houses_27 b_X12_houses_27 f_X11_houses_63 f_X12_houses_58
    rw [hl, m4, n5]
    by_cases e : j = c
    · subst e
      rw [if_pos (nI_le (Nat.le_refl _) (by omega)), if_pos (nI_le (Nat.le_refl _) (by omega))]
      exact ⟨v, rfl, rfl⟩
    · obtain ⟨q1, q2, x, hx, q3⟩ := hh j (by omega)
      have hs := (S.2.1 x (by omega)).2.2
      rw [if_neg (nI_ge (by omega) (by omega)), if_neg (nI_ge (by omega) (by omega)), owner_x (a := 3) (l := l) (h := j) (x := x) (by omega) (by omega) (by rw [q1, q3]), bd_s, show f_X12_houseOf N (630 : Int32) (nI j) = _ from owner_y (t := 630) (h := j) (x := x) (by omega) (by omega) (by omega) q3, bd_s, q2, hs, n1]
      by_cases z : own (N.1 4 (2 * j + 1)) (N.1 1 (630 + 160 + x)) = s
      · rw [if_pos z, if_pos z, nm_x, nm_x]
        exact ih (j + 1) _ (by omega) (by omega)
      · rw [if_neg z, if_neg z, nm_x, Int32.or_zero]
        exact ih (j + 1) _ (by omega) (by omega)
theorem s_houses {M N : Mm} (R : Rel M N) (y z : Int32) : WW (f_X11_houses M y z) (f_X12_houses N y z) := by
  obtain ⟨p, F, H⟩ := id R
  obtain ⟨h, hh, e1, e2⟩ := H.hr
  have hF := H.1.2.2.2.2.1
  unfold f_X11_houses f_X12_houses f_X11_houses_15 f_X12_houses_15
  rw [e_isSide, e_ySide, bd_s, bd_s, H.nX, e_yAhead, bd_s, bd_s]
  by_cases g2 : inR y 0 1
  · rw [if_neg (fun q => b2_0.mp q g2), if_neg (fun q => b2_0.mp q g2)]
    by_cases g3 : inR z (N.1 1 170) 12
    · rw [if_neg (fun q => b2_0.mp q g3), if_neg (fun q => b2_0.mp q g3)]
      obtain ⟨t, t1, t2, rfl⟩ := now_n e1 hh g3
      obtain ⟨M2, r2, c1, c2, H2, S2, I2, -, -⟩ := s_look H e1 t1 t2
      obtain ⟨c, c8, d1, d2, d3⟩ := H2.2.2.2.1
      obtain ⟨w, w1, w2⟩ := houses_loop (M := M2) (N := wR N 1 r2) H2.ld c8 hF d1 d2 d3 (by rw [wR_s]; exact S2) y FU 0 0 (by omega) (by show c < 0 + 5000; omega)
      rw [c1, c2, bd_s, bd_s]
      exact ⟨_, _, _, w1, w2, p, F, H2⟩
    · rw [if_pos (b2_0.mpr g3), if_pos (b2_0.mpr g3)]
      exact WW.no R _
  · rw [if_pos (b2_0.mpr g2), if_pos (b2_0.mpr g2)]
    exact WW.no R _
