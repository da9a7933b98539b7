-- ONE PAGE TO ANOTHER: KEEP, BACK, LOOKING AHEAD
theorem MnR.pg {M : Mm} {a m m2 : Nat} {r r2 : Pg} (h : MnR M a r m) (e : ∀ f, f < 7 → r2 (m2 + f) = r (m + f)) : MnR M a r2 m2 := by
  have e0 : r2 m2 = r m := e 0 (by omega)
  unfold MnR
  rw [e0, e 1 (by omega), e 2 (by omega), e 3 (by omega), e 4 (by omega), e 5 (by omega), e 6 (by omega)]
  exact h
theorem pg_at {r r2 : Pg} {s t : Nat} (e : ∀ x, x < 208 → r2 (t + x) = r (s + x)) {y z : Nat} (x : Nat) (h : x < 208) (hy : y = t + x) (hz : z = s + x) : r2 y = r z := by
  rw [hy, hz]; exact e x h
theorem ScR.pg {M : Mm} {a s t : Nat} {r r2 : Pg} (H : ScR M a r s) (hb6 : (r (s + 207)).toNatClampNeg ≤ 6) (e : ∀ x, x < 208 → r2 (t + x) = r (s + x)) : ScR M a r2 t := by
  obtain ⟨hm, hs, hh0, hsun, hb1, hb2⟩ := H
  refine ⟨fun k hk => (hm k hk).pg (fun f hf => pg_at e (7 * k + f) (by omega) (by omega) (by omega)), fun i hi => ?_, ?_, fun h hh => ?_, ?_, fun j hj => ?_⟩
  · rw [pg_at e (140 + i) (by omega) (y := t + 140 + i) (z := s + 140 + i) (by omega) (by omega), pg_at e (150 + i) (by omega) (y := t + 150 + i) (z := s + 150 + i) (by omega) (by omega), pg_at e (160 + i) (by omega) (y := t + 160 + i) (z := s + 160 + i) (by omega) (by omega)]
    exact hs i hi
  · rw [e 170 (by omega)]
    exact hh0
  · rw [pg_at e (171 + h) (by omega) (y := t + 171 + h) (z := s + 171 + h) (by omega) (by omega)]
    exact hsun h hh
  · show _ = r2 (t + 207)
    rw [e 207 (by omega)]
    exact hb1
  · have hj2 : j < (r (s + 207)).toNatClampNeg := by
      rw [← e 207 (by omega)]
      exact hj
    show _ = r2 (t + (183 + 4 * j)) ∧ _ = r2 (t + (184 + 4 * j)) ∧ _ = r2 (t + (185 + 4 * j)) ∧ _ = r2 (t + (186 + 4 * j))
    rw [e (183 + 4 * j) (by omega), e (184 + 4 * j) (by omega), e (185 + 4 * j) (by omega), e (186 + 4 * j) (by omega)]
    exact hb2 j hj2
theorem InvR.pg {s t : Nat} {r r2 : Pg} (H : InvR r s) (e : ∀ x, x < 208 → r2 (t + x) = r (s + x)) : InvR r2 t := by
  obtain ⟨h1, h2, h3, ⟨h, hh, h4⟩, h5⟩ := H
  refine ⟨fun k hk => ?_, fun i hi => ?_, fun h hh => ?_, ⟨h, hh, by rw [e 170 (by omega)]; exact h4⟩, h5.same (fun x q1 q2 => e x q2)⟩
  · rw [pg_at e (7 * k) (by omega) (y := t + 7 * k) (z := s + 7 * k) rfl rfl, pg_at e (7 * k + 4) (by omega) (y := t + 7 * k + 4) (z := s + 7 * k + 4) (by omega) (by omega)]
    exact h1 k hk
  · rw [pg_at e (160 + i) (by omega) (y := t + 160 + i) (z := s + 160 + i) (by omega) (by omega)]
    exact h2 i hi
  · rw [pg_at e (171 + h) (by omega) (y := t + 171 + h) (z := s + 171 + h) (by omega) (by omega)]
    exact h3 h hh
theorem Bey.pg {s t F : Nat} {r r2 : Pg} (H : Bey r s F) (e : ∀ x, x < 208 → r2 (t + x) = r (s + x)) : Bey r2 t F := by
  refine ⟨fun w i hw q1 q2 => ?_, fun i q1 q2 => ?_⟩
  · rw [pg_at e (7 * (10 * w + i)) (by omega) (y := mo t w i) (z := mo s w i) (by unfold mo; omega) (by unfold mo; omega)]
    exact H.1 w i hw q1 q2
  · rw [pg_at e (140 + i) (by omega) (y := t + 140 + i) (z := s + 140 + i) (by omega) (by omega), pg_at e (150 + i) (by omega) (y := t + 150 + i) (z := s + 150 + i) (by omega) (by omega)]
    exact H.2 i q1 q2
theorem cp_e {r : Pg} {s t : Nat} : ∀ x, x < 208 → cpP r s t 210 (t + x) = r (s + x) := fun _ h => cpP_in (by omega)
/-- the images moved, nothing else -/
theorem RelP.im {p F : Nat} {M N M2 N2 : Mm} (H : RelP p F M N) (m1 : ∀ b, b ≠ 35 → (b < 36 ∨ 98 ≤ b) → M2.1 b = M.1 b) (n1 : ∀ b, b ≠ 1 → b ≠ 15 → N2.1 b = N.1 b) (n2 : ∀ x, x < 210 → N2.1 1 x = N.1 1 x) (hE : RE F M2 N2) : RelP p F M2 N2 := by
  obtain ⟨⟨a1, a2, a3, a4, a5, a6, a7⟩, ⟨b1, b2, b3⟩, ⟨c1, c2, ⟨d, hd, d1, d2⟩, c4⟩, ⟨c, c8, e1, e2, e3⟩, -, ⟨⟨n, n4, t1, t2, t3⟩, t4⟩, ⟨f, f4, f1, f2, f3⟩, hS, hZ1, hZ2, hZ3⟩ := H
  have hl : lx p = 141 ∨ lx p = 177 := by unfold lx; omega
  have z0 : M2.1 0 = M.1 0 := m1 0 (by decide) (by decide)
  have y0 : N2.1 0 = N.1 0 := n1 0 (by decide) (by decide)
  have pe : ∀ x, x < 208 → N2.1 1 (0 + x) = N.1 1 (0 + x) := fun x hx => n2 _ (by omega)
  refine ⟨⟨a1, by rw [z0]; exact a2, by rw [z0]; exact a3, a4, a5, by rw [m1 _ (by omega) (by omega)]; exact a6, by rw [y0]; exact a7⟩, ⟨b1.c b2.b6 (fun j hj => m1 _ (by omega) (by omega)) pe, b2.pg pe, b3.pg pe⟩, ⟨?_, ?_, ⟨d, hd, by rw [m1 _ (by omega) (by omega)]; exact d1, by rw [y0]; exact d2⟩, fun h hh => ?_⟩, ⟨c, c8, by rw [m1 _ (by omega) (by omega)]; exact e1, by rw [y0]; exact e2, fun h hh => ?_⟩, hE, ⟨⟨n, n4, by rw [m1 1 (by decide) (by decide)]; exact t1, by rw [y0]; exact t2, fun j hj => ?_⟩, ?_⟩, ⟨f, f4, by rw [m1 98 (by decide) (by decide)]; exact f1, by rw [y0]; exact f2, fun j hj => ?_⟩, fun k hk => ?_, ?_, ?_, ?_⟩
  · unfold LwR
    rw [m1 _ (by omega) (by omega), n1 3 (by decide) (by decide)]
    exact c1
  · rw [n1 3 (by decide) (by decide)]
    exact c2
  · rw [m1 _ (by omega) (by omega), n1 2 (by decide) (by decide)]
    exact c4 h hh
  · rw [m1 _ (by omega) (by omega), m1 _ (by omega) (by omega), n1 4 (by decide) (by decide)]
    exact e3 h hh
  · rw [n1 9 (by decide) (by decide), m1 2 (by decide) (by decide)]
    exact t3 j hj
  · rw [m1 1 (by decide) (by decide), y0]
    exact t4
  · rw [m1 99 (by decide) (by decide), n1 14 (by decide) (by decide)]
    exact f3 j hj
  · rw [n1 16 (by decide) (by decide), n1 17 (by decide) (by decide), n1 18 (by decide) (by decide), m1 (133 + 2 * k) (by omega) (by omega), m1 (134 + 2 * k) (by omega) (by omega)]
    exact hS k hk
  · rw [z0, y0]
    exact hZ1
  · rw [n1 10 (by decide) (by decide)]
    exact hZ2
  · have hl2 : lx (1 - p) + lx p = 318 := by unfold lx; omega
    rw [n1 11 (by decide) (by decide), m1 127 (by decide) (by decide)]
    exact ⟨hZ3.1, hZ3.2.1, fun k hk => by rw [m1 _ (by omega) (by omega)]; exact hZ3.2.2 k hk⟩
theorem e_copN {N : Mm} {s t : Nat} (hs : s + 210 ≤ 840) (ht : t + 210 ≤ 840) (hst : s + 210 ≤ t ∨ t + 210 ≤ s) : f_X12_copies N (nI s) (nI t) = some (wR N 1 (cpP (N.1 1) s t 210)) := by
  have := e_copies (N := N) (r := N.1 1) hs ht hst
  rw [wR_self] at this
  exact this
theorem pgk (k : Nat) : (210 : Int32) * (nI k + 1) = nI (210 * (k + 1)) := by
  rw [n1]; exact pk_mul 210 (k + 1)
theorem s_keep {M N : Mm} (R : Rel M N) (x : Int32) : WW (f_X11_keep M x) (f_X12_keep N x) := by
  obtain ⟨p, F, H⟩ := id R
  have hl : lx p = 141 ∨ lx p = 177 := by have := H.1.1; unfold lx; omega
  unfold f_X11_keep f_X12_keep
  rw [e_isAmong, bd_s, show f_X12_in x.toInt64 (0 : Int64) (1 : Int64) = some (b2 (inR x 0 1)) from e_inI x 0 1, bd_s]
  by_cases g : inR x 0 1
  · rw [if_neg (fun q => b2_0.mp q g), if_neg (fun q => b2_0.mp q g)]
    obtain ⟨k, hk, rfl⟩ := side_n g
    have hB := H.2.1
    obtain ⟨M2, m1, m2, m3⟩ := e_become (M := M) (a := 34 + 2 + 31 * k) (b := lx p + 5) (by unfold Apt; omega) hB.1.bB
    have ci : (nI k).toNatClampNeg = k := nI_clamp (by omega)
    rw [pgk, show f_X12_copies N (0 : Int32) (nI (210 * (k + 1))) = _ from e_copN (s := 0) (t := 210 * (k + 1)) (by omega) (by omega) (by omega), bd_s, ck_n hk (by omega), ck_n hk (by omega), ci, wR_ne (by decide), (H.2.2.2.2.1 k hk).1]
    have key : ∀ v : Int32, WW (f_X11_keep_25 M (nI k) v) (f_X12_keep_38 (wR N 1 (cpP (N.1 1) 0 (210 * (k + 1)) 210)) (nI k) v) := by
      intro v
      unfold f_X11_keep_25 f_X12_keep_38
      rw [ck_n hk (by omega), ck_n hk (by omega), ci, H.ld, m1, bd_s, wr_e, wr_e]
      refine ⟨_, _, _, rfl, rfl, p, F, H.im (fun b q1 q2 => ?_) (fun b q1 q2 => ?_) (fun x hx => ?_) (fun j hj => ?_)⟩
      · rw [wI_o q1]
        exact m3.1 b (by omega)
      · rw [wI_o q2, wR_ne q1]
      · rw [wI_o (by decide), wR_s, cpP_out (by omega)]
      · have e1 : (wI (wR N 1 (cpP (N.1 1) 0 (210 * (k + 1)) 210)) 15 k (vp_nar .boolean 1)).1 1 = cpP (N.1 1) 0 (210 * (k + 1)) 210 := by rw [wI_o (by decide), wR_s]
        rw [e1]
        by_cases e : j = k
        · subst e
          rw [mIs, mIs]
          refine ⟨rfl, Or.inr rfl, fun _ => ⟨?_, hB.2.1.pg cp_e, hB.2.2.pg cp_e⟩⟩
          have := (hB.1.become hB.2.1.b6 m2).pg (t := 210 * (j + 1)) (r2 := cpP (N.1 1) 0 (210 * (j + 1)) 210) hB.2.1.b6 cp_e
          exact this.c (hB.2.1.pg (t := 210 * (j + 1)) (r2 := cpP (N.1 1) 0 (210 * (j + 1)) 210) cp_e).b6 (fun i hi => wI_o (by omega)) (fun x hx => rfl)
        · obtain ⟨h1, h2, h3⟩ := H.2.2.2.2.1 j hj
          rw [mIn (by omega), mIn (by omega), wR_ne (by decide), m3.1 35 (by omega)]
          refine ⟨h1, h2, fun q => ?_⟩
          obtain ⟨w1, w2, w3⟩ := h3 q
          have pe : ∀ x, x < 208 → cpP (N.1 1) 0 (210 * (k + 1)) 210 (210 * (j + 1) + x) = N.1 1 (210 * (j + 1) + x) := fun x hx => cpP_out (by omega)
          exact ⟨w1.c w2.b6 (fun i hi => by rw [wI_o (by omega)]; exact m3.1 _ (by omega)) pe, w2.pg pe, w3.pg pe⟩
    by_cases z : N.1 15 k = 0
    · rw [if_pos z, if_pos z]
      exact key 0
    · rw [if_neg z, if_neg z]
      exact key 1
  · rw [if_pos (b2_0.mpr g), if_pos (b2_0.mpr g)]
    exact WW.no R _
theorem s_back {M N : Mm} (R : Rel M N) (x : Int32) : WW (f_X11_back M x) (f_X12_back N x) := by
  obtain ⟨p, F, H⟩ := id R
  have hl : lx p = 141 ∨ lx p = 177 := by have := H.1.1; unfold lx; omega
  unfold f_X11_back f_X12_back f_X12_hourNow
  rw [e_isAmong, bd_s, show f_X12_in x.toInt64 (0 : Int64) (1 : Int64) = some (b2 (inR x 0 1)) from e_inI x 0 1, bd_s]
  by_cases g : inR x 0 1
  · rw [if_neg (fun q => b2_0.mp q g), if_neg (fun q => b2_0.mp q g)]
    obtain ⟨k, hk, rfl⟩ := side_n g
    have ci : (nI k).toNatClampNeg = k := nI_clamp (by omega)
    obtain ⟨h1, h2, h3⟩ := H.2.2.2.2.1 k hk
    rw [ck_n hk (by omega), ck_n hk (by omega), ci, h1]
    by_cases z : N.1 15 k = 0
    · rw [if_pos z, if_pos z]
      exact WW.no R _
    · obtain ⟨w1, w2, w3⟩ := h3 (h2.elim (fun q => absurd q z) id)
      obtain ⟨M2, m1, m2, m3⟩ := e_become (M := M) (a := lx p + 5) (b := 34 + 2 + 31 * k) (by unfold Apt; omega) w1.bB
      have hS := (w1.become w2.b6 m2).pg (t := 0) (r2 := cpP (N.1 1) (210 * (k + 1)) 0 210) w2.b6 cp_e
      rw [if_neg z, if_neg z, pgk, show f_X12_copies N (nI (210 * (k + 1))) (0 : Int32) = _ from e_copN (s := 210 * (k + 1)) (t := 0) (by omega) (by omega) (by omega), bd_s, bd_s, H.ld, m1, bd_s, m3.1 0 (by omega), H.ld, hS.2.2.1, wR_s]
      exact ⟨_, _, _, rfl, rfl, H.w1 (fun b hb => m3.1 b (by omega)) (fun x hx => cpP_out (by omega)) hS (w2.pg cp_e) (w3.pg cp_e)⟩
  · rw [if_pos (b2_0.mpr g), if_pos (b2_0.mpr g)]
    exact WW.no R _
theorem trial_loop {N : Mm} {r : Pg} {F h k : Nat} (hF : F ≤ 10) (hN : N.1 0 1 = nI F) (hI : InvR r 630) (hC : CpR r 630) (hB : BrI r) (hr : r (630 + 170) = nI h) (hk : h + k ≤ 12) : ∀ n j, j ≤ k → k < j + n → f_X12_trialTo_8 (nI (h + k)) n (wR N 1 (hrs r (N.1 3) (N.1 2) 630 F h j)) = some (wR N 1 (hrs r (N.1 3) (N.1 2) 630 F h k)) := by
  intro n
  induction n with
  | zero => intro j h1 h2; omega
  | succ n ih =>
    intro j h1 h2
    have st : f_X12_trialTo_8 (nI (h + k)) (n + 1) (wR N 1 (hrs r (N.1 3) (N.1 2) 630 F h j)) = b_X12_trialTo_8 (fun M => f_X12_trialTo_8 (nI (h + k)) n M) (nI (h + k)) (wR N 1 (hrs r (N.1 3) (N.1 2) 630 F h j)) := rfl
    rw [st]
    unfold b_X12_trialTo_8
    obtain ⟨i1, i2, i3, i4⟩ := hrs_I (T := N.1 3) (Z := N.1 2) hF (Or.inr (by omega)) hI hC hr j (by omega)
    rw [wR_s, show (800 : Int32).toNatClampNeg = 630 + 170 from rfl, i3]
    by_cases e : j = k
    · subst e
      rw [if_pos (nI_le (Nat.le_refl _) (by omega))]
    · rw [if_neg (nI_ge (by omega) (by omega)), show f_X12_goes (wR N 1 (hrs r (N.1 3) (N.1 2) 630 F h j)) 630 = _ from e_goes (t := 630) (by decide) (Or.inr (by decide)) (show h + j < 12 by omega) hF hN (hB.same (fun x q1 q2 => i4 x (by omega))) i3, bd_s]
      exact ih (j + 1) (by omega) (by omega)
/-- the scene ahead, at an hour from now on -/
theorem s_look {p F tt h : Nat} {M N : Mm} (H : RelP p F M N) (e1 : N.1 1 170 = nI h) (hh : h ≤ tt) (ht : tt ≤ 12) : ∃ M2 r2, f_X11_lookAhead M (nI tt) = some M2 ∧ f_X12_trialTo N (nI tt) = some (wR N 1 r2) ∧ RelP p F M2 (wR N 1 r2) ∧ ScR M2 3 r2 630 ∧ InvR r2 630 ∧ r2 = hrs (cpP (N.1 1) 0 630 210) (N.1 3) (N.1 2) 630 F h (tt - h) ∧ Out M M2 3 := by
  have hl : lx p = 141 ∨ lx p = 177 := by have := H.1.1; unfold lx; omega
  have hB := H.2.1
  have hF := H.1.2.2.2.2.1
  obtain ⟨M1, m1, m2, m3⟩ := e_become (M := M) (a := 3) (b := lx p + 5) (by unfold Apt; omega) hB.1.bB
  have hS := (hB.1.become hB.2.1.b6 m2).pg (t := 630) (r2 := cpP (N.1 1) 0 630 210) hB.2.1.b6 cp_e
  have hI : InvR (cpP (N.1 1) 0 630 210) 630 := hB.2.1.pg cp_e
  have hC : CpR (cpP (N.1 1) 0 630 210) 630 := fun x q1 q2 => by rw [cp_e x q2, cpP_out (by omega)]; exact congrArg _ (by omega)
  have hr : cpP (N.1 1) 0 630 210 (630 + 170) = nI h := by rw [cp_e 170 (by omega)]; exact e1
  have hBr : BrI (cpP (N.1 1) 0 630 210) := by
    have := hB.2.1.2.2.2.2
    rw [sh0] at this
    exact this.same (fun x q1 q2 => cpP_out (by omega))
  have hL : LwR M1 (lx p + 2) (N.1 3) := by
    unfold LwR
    rw [m3.1 _ (by omega)]
    exact H.2.2.1.1
  obtain ⟨M2, n1, n2, n3⟩ := passX (M := M1) (Z := N.1 2) (T := N.1 3) (tt := tt) (h := h) (l := lx p) (a := 3) (t := 630) hF (Or.inr (by omega)) (Or.inr (by omega)) hI hC hL (fun h hh => by rw [m3.1 _ (by omega)]; exact H.2.2.1.2.2.2 h hh) (by rw [m3.1 _ (by omega)]; exact H.1.2.2.2.2.2.1) hr hh ht hS
  obtain ⟨i1, i2, i3, i4⟩ := hrs_I (T := N.1 3) (Z := N.1 2) hF (Or.inr (by omega)) hI hC hr (tt - h) (by omega)
  have tl := trial_loop (N := N) (F := F) (k := tt - h) hF H.1.2.2.2.2.2.2 hI hC hBr hr (by omega) FU 0 (by omega) (by show tt - h < 0 + 5000; omega)
  rw [show h + (tt - h) = tt by omega] at tl
  have hz : f_X11_lookAhead M (nI tt) = some M2 := by
    unfold f_X11_lookAhead
    rw [H.ld, m1, bd_s, m3.1 0 (by omega), H.ld, n1, bd_s]
  have hz2 : f_X12_trialTo N (nI tt) = some (wR N 1 (hrs (cpP (N.1 1) 0 630 210) (N.1 3) (N.1 2) 630 F h (tt - h))) := by
    unfold f_X12_trialTo
    rw [show f_X12_copies N (0 : Int32) (630 : Int32) = _ from e_copN (s := 0) (t := 630) (by omega) (by omega) (by omega), bd_s]
    exact tl
  have ho := m3.tr n3
  exact ⟨M2, _, hz, hz2, H.cg (fun b q1 q2 q3 => ho.1 b (by omega)) (by rw [ho.1 98 (by omega)]) (fun b q1 q2 q3 => wR_ne q1) (fun x hx => by rw [wR_s, i4 x (by omega), cpP_out (by omega)]), n2, i1, rfl, ho⟩
