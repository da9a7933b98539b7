theorem nxt {i j : Nat} (hi : i < 10) (hj : j < 10) : (iAbs (nI i - nI j) = 1 ↔ nI i - nI j = 1 ∨ nI j - nI i = 1) ∧ (iAbs (nI i - nI j) = 1 → i ≠ j) := by
  have h : ∀ i < 10, ∀ j < 10, (iAbs (nI i - nI j) = 1 ↔ nI i - nI j = 1 ∨ nI j - nI i = 1) ∧ (iAbs (nI i - nI j) = 1 → i ≠ j) := by decide +kernel
  exact h i hi j hj
theorem s_carry {M N : Mm} (R : Rel M N) (x y z : Int32) : WW (f_X11_carry M x y z) (f_X12_carry N x y z) := by
  obtain ⟨p, F, H⟩ := id R
  unfold f_X11_carry f_X12_carry f_X11_carry_30 f_X12_carry_34
  rw [H.fX, H.fX, H.fY, H.fY, bd_s, bd_s, bd_s, bd_s, H.ld]
  by_cases g1 : inR x 0 (nI (F - 1))
  · rw [if_neg (fun q => b2_0.mp q g1), if_neg (fun q => b2_0.mp q g1)]
    by_cases g2 : inR y 0 (nI (F - 1))
    · rw [if_neg (fun q => b2_0.mp q g2), if_neg (fun q => b2_0.mp q g2)]
      obtain ⟨i, hi, rfl⟩ := fur_n H.1.2.2.2.1 H.1.2.2.2.2.1 g1
      obtain ⟨j, hj, rfl⟩ := fur_n H.1.2.2.2.1 H.1.2.2.2.2.1 g2
      have hi10 : i < 10 := Nat.lt_of_lt_of_le hi H.1.2.2.2.2.1
      have hj10 : j < 10 := Nat.lt_of_lt_of_le hj H.1.2.2.2.2.1
      obtain ⟨nx1, nx2⟩ := nxt hi10 hj10
      have hsi := (H.2.1.1.2.1 i hi10).1
      have hsj := (H.2.1.1.2.1 j hj10).1
      by_cases g3 : iAbs (nI i - nI j) = 1
      · have hij := nx2 g3
        have key : WW (if 0 ≤ z then nm (lx p + 5 + 2) fun b9 => ck (inn (nI i) 10) <| if z ≤ M.1 b9 (nI i).toNatClampNeg then (wr (wI M b9 (nI i).toNatClampNeg (M.1 b9 (nI i).toNatClampNeg - z)) fun M14 => ck (inn (nI j) 10) <| wr (wI M14 b9 (nI j).toNatClampNeg (M14.1 b9 (nI j).toNatClampNeg + z)) fun M17 => some (M17.1 b9 (nI j).toNatClampNeg, M17)) else some (-2, M) else some (-1, M)) (f_X12_carry_30 N (nI i) (nI j) z) := by
          unfold f_X12_carry_30 f_X12_carry_34
          by_cases g4 : 0 ≤ z
          · have ci : (nI i).toNatClampNeg = i := nI_clamp (by omega)
            have cj : (nI j).toNatClampNeg = j := nI_clamp (by omega)
            have ai : (140 : Int32) + nI i = nI (140 + i) := nIa (a := 140) rfl
            have aj : (140 : Int32) + nI j = nI (140 + j) := nIa (a := 140) rfl
            have di : (nI (140 + i)).toNatClampNeg = 140 + i := nI_clamp (by omega)
            have dj : (nI (140 + j)).toNatClampNeg = 140 + j := nI_clamp (by omega)
            rw [if_pos g4, if_pos g4]
            simp only [nm_x, ci, cj, ai, aj, di, dj, wr_e]
            rw [ck_n hi10 (by omega), ck_n hj10 (by omega), ck_n (show 140 + i < 840 by omega) (by omega), ck_n (show 140 + j < 840 by omega) (by omega), hsi, show 0 + 140 + i = 140 + i by omega]
            by_cases g5 : z ≤ N.1 1 (140 + i)
            · rw [if_pos g5, if_pos g5]
              rw [mIs, mIs, mIn (show ¬ (lx p + 5 + 2 = lx p + 5 + 2 ∧ j = i) by omega), hsj, mIn (show ¬ (1 = 1 ∧ 140 + j = 140 + i) by omega), show 0 + 140 + j = 140 + j by omega]
              refine ⟨_, _, _, rfl, rfl, ?_⟩
              have hA := ScR.snow (v := N.1 1 (140 + i) - z) hi10 H.2.1.2.1.b6 H.2.1.1
              have hB := ScR.snow (v := N.1 1 (140 + j) + z) hj10 (by rw [upd_ne (by omega)]; exact H.2.1.2.1.b6) hA
              rw [wI_R N, wIR]
              rw [show 0 + 140 + i = 140 + i by omega, show 0 + 140 + j = 140 + j by omega] at hB
              refine H.w1 (fun b hb => by rw [wI_o (by omega), wI_o (by omega)]) (fun x hx => by rw [upd_ne (by omega), upd_ne (by omega)]) hB ?_ ?_
              · have := InvR.snow (v := N.1 1 (140 + j) + z) (show j < 20 by omega) (InvR.snow (v := N.1 1 (140 + i) - z) (show i < 20 by omega) H.2.1.2.1)
                rw [show 0 + 140 + i = 140 + i by omega, show 0 + 140 + j = 140 + j by omega] at this
                exact this
              · exact Bey.up (Bey.up H.2.1.2.2 (fun s i hs q1 q2 => by unfold mo; omega) (fun i' q1 q2 => ⟨by omega, by omega⟩)) (fun s i hs q1 q2 => by unfold mo; omega) (fun i' q1 q2 => ⟨by omega, by omega⟩)
            · rw [if_neg g5, if_neg g5]
              exact WW.no R _
          · rw [if_neg g4, if_neg g4]
            exact WW.no R _
        rw [if_pos g3]
        rcases nx1.mp g3 with q | q
        · rw [if_pos q]
          exact key
        · rw [if_pos q, ite_self]
          exact key
      · rw [if_neg g3, if_neg (fun q => g3 (nx1.mpr (Or.inl q))), if_neg (fun q => g3 (nx1.mpr (Or.inr q)))]
        exact WW.no R _
    · rw [if_pos (b2_0.mpr g2), if_pos (b2_0.mpr g2)]
      exact WW.no R _
  · rw [if_pos (b2_0.mpr g1), if_pos (b2_0.mpr g1)]
    exact WW.no R _
theorem Bey.hrs {r T Z : Pg} {t F h : Nat} (hF : F ≤ 10) (H : Bey r t F) : ∀ n, Bey (hrs r T Z t F h n) t F := by
  have rw1 : ∀ (r : Pg) (hh : Nat) (sun z : Int32), Bey r t F → ∀ m, m ≤ F → Bey (rowF r T t hh sun z m) t F := by
    intro r hh sun z hr m
    induction m with
    | zero => intro _; exact hr
    | succ m ih =>
      intro hm
      have b := ih (by omega)
      refine ⟨fun s i hs q1 q2 => ?_, fun i q1 q2 => ?_⟩
      · show hourF _ T t m _ sun z (mo t s i) = 0
        rw [hourF_o (by omega) (by unfold mo; omega) (by unfold mo; omega) (by unfold mo; omega) (by unfold mo; omega) (by unfold mo; omega)]
        exact b.1 s i hs q1 q2
      · show hourF _ T t m _ sun z (t + 140 + i) = 0 ∧ hourF _ T t m _ sun z (t + 150 + i) = 0
        rw [hourF_o (by omega) (by unfold mo; omega) (by unfold mo; omega) (by omega) (by omega) (by omega), hourF_o (by omega) (by unfold mo; omega) (by unfold mo; omega) (by omega) (by omega) (by omega)]
        exact b.2 i q1 q2
  intro n
  induction n with
  | zero => exact H
  | succ n ih =>
    show Bey (upd _ _ _) t F
    exact (rw1 _ _ _ _ ih F (Nat.le_refl _)).up (fun s i hs q1 q2 => by unfold mo; omega) (fun i q1 q2 => ⟨by omega, by omega⟩)
theorem CpR.zero (r : Pg) : CpR r 0 := fun x _ _ => congrArg r (by omega)
theorem go_loop {N : Mm} {r : Pg} {F h k : Nat} (hF : F ≤ 10) (hN : N.1 0 1 = nI F) (hI : InvR r 0) (hr : r (0 + 170) = nI h) (hk : h + k ≤ 12) : ∀ n j, j ≤ k → k < j + n → f_X12_go_30 (nI k) n (wR N 1 (hrs r (N.1 3) (N.1 2) 0 F h j)) (nI j) = some (nI (h + k), wR N 1 (hrs r (N.1 3) (N.1 2) 0 F h k)) := by
  intro n
  induction n with
  | zero => intro j h1 h2; omega
  | succ n ih =>
    intro j h1 h2
    show b_X12_go_30 (fun M x2 => f_X12_go_30 (nI k) n M x2) (nI k) (wR N 1 (hrs r (N.1 3) (N.1 2) 0 F h j)) (nI j) = _
    unfold b_X12_go_30
    obtain ⟨i1, i2, i3, -⟩ := hrs_I (T := N.1 3) (Z := N.1 2) hF (Or.inl rfl) hI (CpR.zero r) hr j (by omega)
    by_cases e : j = k
    · subst e
      rw [if_pos (nI_le (Nat.le_refl _) (by omega))]
      unfold f_X12_go_46 f_X12_hourNow
      rw [bd_s, wR_s, show (170 : Int32).toNatClampNeg = 0 + 170 from rfl, i3]
    · have hB : BrI (hrs r (N.1 3) (N.1 2) 0 F h j) := by
        have := i1.2.2.2.2
        rw [sh0] at this
        exact this
      rw [if_neg (nI_ge (by omega) (by omega)), show f_X12_goes (wR N 1 (hrs r (N.1 3) (N.1 2) 0 F h j)) 0 = _ from e_goes (t := 0) (by decide) (Or.inl rfl) (show h + j < 12 by omega) hF hN hB i3, bd_s, n1]
      exact ih (j + 1) (by omega) (by omega)
theorem s_go {M N : Mm} (R : Rel M N) (x : Int32) : WW (f_X11_go M x) (f_X12_go N x) := by
  obtain ⟨p, F, H⟩ := id R
  obtain ⟨h, hh, e1, e2⟩ := H.hr
  unfold f_X11_go f_X12_go f_X12_hourNow
  rw [e_isAmong, bd_s, show f_X12_in x.toInt64 (1 : Int64) (12 : Int64) = some (b2 (inR x 1 12)) from e_inI x 1 12, bd_s, H.ld]
  by_cases g : inR x 1 12
  · rw [if_neg (fun q => b2_0.mp q g), if_neg (fun q => b2_0.mp q g)]
    obtain ⟨k, hk, rfl⟩ := inR_n (v := x) (n := 12) (by omega) ⟨Int32.le_trans (by decide) g.1, g.2⟩
    rw [nm_x, bd_s, show (170 : Int32).toNatClampNeg = 170 from rfl, e1, e2, nI_add]
    by_cases g2 : nI (h + k) ≤ 12
    · rw [if_pos g2, if_pos g2]
      have h12 : h + k ≤ 12 := (nI_leI (by omega) (by omega)).mp (show nI (h + k) ≤ nI 12 from g2)
      obtain ⟨M2, m1, m2, m3⟩ := passX (Z := N.1 2) (T := N.1 3) (tt := h + k) (h := h) (l := lx p) (a := lx p + 5) H.1.2.2.2.2.1 (Or.inl rfl) (Or.inl (by omega)) H.2.1.2.1 (CpR.zero _) H.2.2.1.1 H.2.2.1.2.2.2 H.1.2.2.2.2.2.1 e1 (by omega) h12 H.2.1.1
      rw [show h + k - h = k by omega] at m2
      have hgo := go_loop (N := N) (r := N.1 1) (F := F) (h := h) (k := k) H.1.2.2.2.2.1 H.1.2.2.2.2.2.2 H.2.1.2.1 e1 h12 FU 0 (by omega) (by show k < 0 + 5000; omega)
      rw [m1, bd_s]
      rw [show hrs (N.1 1) (N.1 3) (N.1 2) 0 F h 0 = N.1 1 from rfl, wR_self] at hgo
      obtain ⟨i1, i2, i3, i4⟩ := hrs_I (T := N.1 3) (Z := N.1 2) H.1.2.2.2.2.1 (Or.inl rfl) H.2.1.2.1 (CpR.zero _) e1 k h12
      have hlx : 141 ≤ lx p := by unfold lx; omega
      have z0 : M2.1 0 = M.1 0 := m3.1 0 (by omega)
      rw [z0, H.ld, m2.2.2.1, i3]
      refine ⟨_, _, _, rfl, hgo, ?_⟩
      exact H.w1 (fun b hb => m3.1 b (by omega)) (fun x hx => i4 x (by omega)) m2 i1 (H.2.1.2.2.hrs H.1.2.2.2.2.1 k)
    · rw [if_neg g2, if_neg g2]
      exact WW.no R _
  · rw [if_pos (b2_0.mpr g), if_pos (b2_0.mpr g)]
    exact WW.no R _
/-- law and chance moved, nothing else -/
theorem RelP.lw {p F : Nat} {M N M2 N2 : Mm} (H : RelP p F M N) (m1 : ∀ b, b ≠ lx p → b ≠ lx p + 2 → M2.1 b = M.1 b) (m0 : M2.1 (lx p) 0 = M.1 (lx p) 0) (m4 : M2.1 (lx p) 4 = M.1 (lx p) 4) (n1 : ∀ b, b ≠ 0 → b ≠ 3 → N2.1 b = N.1 b) (n0 : ∀ j, j ≠ 6 → N2.1 0 j = N.1 0 j) (hC : RC p M2 N2) : RelP p F M2 N2 := by
  obtain ⟨⟨a1, a2, a3, a4, a5, a6, a7⟩, ⟨b1, b2, b3⟩, -, ⟨c, c8, d1, d2, d3⟩, hE, ⟨⟨n, n4, t1, t2, t3⟩, t4⟩, ⟨f, f4, f1, f2, f3⟩, hS, hZ1, hZ2, hZ3⟩ := H
  have hl : lx p = 141 ∨ lx p = 177 := by unfold lx; omega
  have z0 : M2.1 0 = M.1 0 := m1 0 (by omega) (by omega)
  have y1 : N2.1 1 = N.1 1 := n1 1 (by decide) (by decide)
  refine ⟨⟨a1, by rw [z0]; exact a2, by rw [z0]; exact a3, a4, a5, by rw [m0]; exact a6, by rw [n0 1 (by decide)]; exact a7⟩, ⟨?_, by rw [y1]; exact b2, by rw [y1]; exact b3⟩, hC, ⟨c, c8, by rw [m4]; exact d1, by rw [n0 5 (by decide)]; exact d2, fun h hh => ?_⟩, fun k hk => ?_, ⟨⟨n, n4, by rw [m1 1 (by omega) (by omega)]; exact t1, by rw [n0 17 (by decide)]; exact t2, fun j hj => ?_⟩, ?_⟩, ⟨f, f4, by rw [m1 98 (by omega) (by omega)]; exact f1, by rw [n0 30 (by decide)]; exact f2, fun j hj => ?_⟩, fun k hk => ?_, ?_, ?_, ?_⟩
  · rw [y1]
    exact b1.c b2.b6 (fun j hj => m1 _ (by omega) (by omega)) (fun x hx => rfl)
  · rw [m1 _ (by omega) (by omega), m1 _ (by omega) (by omega), n1 4 (by decide) (by decide)]
    exact d3 h hh
  · obtain ⟨e1, e2, e3⟩ := hE k hk
    rw [m1 35 (by omega) (by omega), n1 15 (by decide) (by decide), y1]
    refine ⟨e1, e2, fun h => ?_⟩
    obtain ⟨g1, g2, g3⟩ := e3 h
    exact ⟨g1.c g2.b6 (fun j hj => m1 _ (by omega) (by omega)) (fun x hx => rfl), g2, g3⟩
  · rw [n1 9 (by decide) (by decide), m1 2 (by omega) (by omega)]
    exact t3 j hj
  · rw [m1 1 (by omega) (by omega), n0 18 (by decide)]
    exact t4
  · rw [m1 99 (by omega) (by omega), n1 14 (by decide) (by decide)]
    exact f3 j hj
  · rw [n1 16 (by decide) (by decide), n1 17 (by decide) (by decide), n1 18 (by decide) (by decide), m1 (133 + 2 * k) (by omega) (by omega), m1 (134 + 2 * k) (by omega) (by omega)]
    exact hS k hk
  · rw [z0, n0 35 (by decide)]
    exact hZ1
  · rw [n1 10 (by decide) (by decide)]
    exact hZ2
  · have hl2 : lx (1 - p) + lx p = 318 := by unfold lx; omega
    rw [n1 11 (by decide) (by decide), m1 127 (by omega) (by omega)]
    exact ⟨hZ3.1, hZ3.2.1, fun k hk => by rw [m1 _ (by omega) (by omega)]; exact hZ3.2.2 k hk⟩
theorem s_chance {M N : Mm} (R : Rel M N) (x : Int32) : WW (f_X11_chance M x) (f_X12_chance N x) := by
  obtain ⟨p, F, H⟩ := id R
  unfold f_X11_chance f_X12_chance
  rw [e_isAmong, bd_s, show f_X12_in x.toInt64 (0 : Int64) (10 : Int64) = some (b2 (inR x 0 10)) from e_inI x 0 10, bd_s, H.ld]
  by_cases g : inR x 0 10
  · rw [if_neg (fun q => b2_0.mp q g), if_neg (fun q => b2_0.mp q g), nm_x, nm_x, wr_e, wr_e]
    obtain ⟨c, hc, rfl⟩ := inR_n (n := 10) (by omega) g
    obtain ⟨c1, c2, ⟨d, hd, d1, d2⟩, c4⟩ := H.2.2.1
    rw [d1, d2]
    refine ⟨_, _, _, rfl, rfl, p, F, H.lw (fun b h1 h2 => wI_o h1) (mIn (by omega)) (mIn (by omega)) (fun b h1 h2 => wI_o h1) (fun j hj => mIn (by omega)) ⟨?_, ?_, ⟨c, hc, mIs _ _ _ _, mIs _ _ _ _⟩, fun h hh => ?_⟩⟩
    · unfold LwR
      rw [wI_o (by omega), wI_o (by omega)]
      exact c1
    · rw [wI_o (by omega)]
      exact c2
    · rw [wI_o (by omega), wI_o (by omega)]
      exact c4 h hh
  · rw [if_pos (b2_0.mpr g), if_pos (b2_0.mpr g)]
    exact WW.no R _
theorem s_treaty {M N : Mm} (R : Rel M N) (x y : Int32) : WW (f_X11_treaty M x y) (f_X12_treaty N x y) := by
  obtain ⟨p, F, H⟩ := id R
  obtain ⟨⟨l0, l1, l2⟩, ⟨T, hT1, hT2, eT⟩, ⟨d, hd, d1, d2⟩, c4⟩ := H.2.2.1
  have key : ∀ k, k < 3 → (k = 0 → ∃ T, 1 ≤ T ∧ T ≤ 99 ∧ y = nI T) → Rel (wI M (lx p + 2) k y) (wI N 3 k y) := by
    intro k hk h0
    refine ⟨p, F, H.lw (fun b h1 h2 => wI_o h2) (by rw [wI_o (by omega)]) (by rw [wI_o (by omega)]) (fun b h1 h2 => wI_o h2) (fun j hj => by rw [wI_o (by decide)]) ⟨⟨?_, ?_, ?_⟩, ?_, ⟨d, hd, by rw [wI_o (by omega)]; exact d1, by rw [wI_o (by decide)]; exact d2⟩, fun h hh => ?_⟩⟩
    · rw [mI, mI]
      by_cases e : k = 0
      · subst e; simp
      · simp [e, Ne.symm e, l0]
    · rw [mI, mI]
      by_cases e : k = 1
      · subst e; simp
      · simp [Ne.symm e, l1]
    · rw [mI, mI]
      by_cases e : k = 2
      · subst e; simp
      · simp [Ne.symm e, l2]
    · rw [mI]
      by_cases e : k = 0
      · subst e
        obtain ⟨T, q1, q2, q3⟩ := h0 rfl
        exact ⟨T, q1, q2, by simp [q3]⟩
      · exact ⟨T, hT1, hT2, by simp [Ne.symm e, eT]⟩
    · rw [wI_o (by omega), wI_o (by decide)]
      exact c4 h hh
  unfold f_X11_treaty f_X12_treaty f_X12_treaty_51 f_X5_change f_X5_change_26 f_X5_change_52 f_X5_change_78 f_X12_treaty_23 f_X12_treaty_45 f_X12_treaty_51
  rw [H.ld, show f_X12_in x.toInt64 (0 : Int64) (2 : Int64) = some (b2 (inR x 0 2)) from e_inI x 0 2, bd_s]
  by_cases g : inR x 0 2
  · rw [if_neg (fun q => b2_0.mp q g)]
    rcases in2.mp g with rfl | rfl | rfl
    · simp only [if_true, show ¬ ((0 : Int32) = 1) by decide, show ¬ ((0 : Int32) = 2) by decide, if_false, e_isAmong, bd_s, show f_X12_in y.toInt64 (1 : Int64) (99 : Int64) = some (b2 (inR y 1 99)) from e_inI y 1 99]
      by_cases q : inR y 1 99
      · rw [if_neg (fun z => b2_0.mp z q), if_neg (fun z => b2_0.mp z q)]
        obtain ⟨T2, q2, rfl⟩ := inR_n (v := y) (n := 99) (by omega) ⟨Int32.le_trans (by decide) q.1, q.2⟩
        have q1 : 1 ≤ T2 := (nI_leI (by omega) (by omega)).mp (show nI 1 ≤ nI T2 from q.1)
        exact ⟨_, _, _, by rw [nm_x, wr_e, bd_s]; simp only [l0]; rfl, rfl, key 0 (by decide) (fun _ => ⟨T2, q1, q2, rfl⟩)⟩
      · rw [if_pos (b2_0.mpr q), if_pos (b2_0.mpr q)]
        exact WW.no R _
    · simp only [if_true, show ¬ ((1 : Int32) = 0) by decide, show ¬ ((1 : Int32) = 2) by decide, if_false, e_isAmong, bd_s, show f_X12_in y.toInt64 (0 : Int64) (3 : Int64) = some (b2 (inR y 0 3)) from e_inI y 0 3]
      by_cases q : inR y 0 3
      · rw [if_neg (fun z => b2_0.mp z q), if_neg (fun z => b2_0.mp z q)]
        exact ⟨_, _, _, by rw [nm_x, wr_e, bd_s]; simp only [l1]; rfl, rfl, key 1 (by decide) (fun z => absurd z (by decide))⟩
      · rw [if_pos (b2_0.mpr q), if_pos (b2_0.mpr q)]
        exact WW.no R _
    · simp only [if_true, show ¬ ((2 : Int32) = 0) by decide, show ¬ ((2 : Int32) = 1) by decide, if_false, e_isAmong, bd_s, show f_X12_in y.toInt64 (0 : Int64) (1 : Int64) = some (b2 (inR y 0 1)) from e_inI y 0 1]
      by_cases q : inR y 0 1
      · rw [if_neg (fun z => b2_0.mp z q), if_neg (fun z => b2_0.mp z q)]
        exact ⟨_, _, _, by rw [nm_x, wr_e, bd_s]; simp only [l2]; rfl, rfl, key 2 (by decide) (fun z => absurd z (by decide))⟩
      · rw [if_pos (b2_0.mpr q), if_pos (b2_0.mpr q)]
        exact WW.no R _
  · rw [if_pos (b2_0.mpr g), if_neg (fun q => g (in2.mpr (Or.inl q))), if_neg (fun q => g (in2.mpr (Or.inr (Or.inl q)))), if_neg (fun q => g (in2.mpr (Or.inr (Or.inr q))))]
    exact WW.no R _
