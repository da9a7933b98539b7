/-- the class's memory, but for a scene, is as it was -/
def Off (M M2 : Mm) (a : Nat) : Prop := (∀ b, (b < a ∨ a + 31 ≤ b) → M2.1 b = M.1 b) ∧ M2.2 = M.2 ∧ M2.1 (a + 5) = M.1 (a + 5) ∧ (∀ j, j < 5 → M2.1 (a + 6 + j) = M.1 (a + 6 + j)) ∧ M2.1 a = M.1 a
theorem Off.rf (M : Mm) (a : Nat) : Off M M a := ⟨fun _ _ => rfl, rfl, rfl, fun _ _ => rfl, rfl⟩
theorem Off.tr {M M2 M3 : Mm} {a : Nat} (h : Off M M2 a) (g : Off M2 M3 a) : Off M M3 a := ⟨fun b hb => (g.1 b hb).trans (h.1 b hb), g.2.1.trans h.2.1, g.2.2.1.trans h.2.2.1, fun j hj => (g.2.2.2.1 j hj).trans (h.2.2.2.1 j hj), g.2.2.2.2.trans h.2.2.2.2⟩
theorem isB_1 {x : Int32} (h : isB x) (h1 : ¬ x = 1) : x = 0 := h.elim id (fun z => absurd z h1)
theorem sideX {M : Mm} {a t s i h : Nat} {r : Pg} {fire S0 off fl : Int32} {k : Mm → Int32 → Int32 → Option Mm} (hs : s < 2) (hi : i < 10) (hh : h < 12) (hb6 : (r (t + 207)).toNatClampNeg ≤ 6) (H : Mid M a r t i S0 off fl) :
    ∃ M2 fl2, b_X7_meltOn_16 k a (nI i) (nI h) fire M fl (nI s) = k M2 fl2 (nI (s + 1)) ∧ Mid M2 a (sd r (t + 7 * (10 * s + i)) (t + 140 + i) (t + 150 + i) fire (M.1 (a + 5) h)) t i S0 off fl2 ∧ Off M M2 a := by
  obtain ⟨hm, hsw, hl, hh0, hsun, hbr, hS, hs1, hw1⟩ := H
  have ci := nI_clamp (show i < 2 ^ 31 by omega)
  have ch := nI_clamp (show h < 2 ^ 31 by omega)
  unfold b_X7_meltOn_16
  rw [if_neg (by show ¬ nI 2 ≤ nI s; exact nI_ge (by omega) (by omega)), e_manOf hs hi, bd_s]
  have mk := hm (10 * s + i) (by omega)
  generalize hk0 : 10 * s + i = k0 at mk ⊢
  have hk20 : k0 < 20 := by omega
  generalize hma : a + 11 + k0 = ma at mk ⊢
  generalize hmm : t + 7 * k0 = m at mk ⊢
  unfold sd
  by_cases h0 : r m = 1
  · obtain ⟨q1, q2, q3, q4, q5, q6, q7⟩ := mk.2.2 h0
    have q0 : M.1 ma 0 = 1 := mk.1.1.trans h0
    generalize hsu : M.1 (a + 5) h = sun
    generalize hwi : t + 150 + i = wi at hw1 ⊢
    generalize hsi : t + 140 + i = si at hs1 ⊢
    rw [q0, if_neg (by decide), if_pos h0]
    -- the memory behind the melting
    obtain ⟨M1, eM1⟩ : ∃ M1, M1 = wI (wI (wI (wI M ma 4 (r (m + 4) - o4 r m (loss (r (m + 1)) fire sun))) ma 3 (r (m + 3) - o3 r m (loss (r (m + 1)) fire sun))) ma 2 (r (m + 2) - o2 r m (loss (r (m + 1)) fire sun))) (a + 3) i (M.1 (a + 3) i + mw r m (loss (r (m + 1)) fire sun)) := ⟨_, rfl⟩
    have hrow : ∀ b, b ≠ ma → b ≠ a + 3 → M1.1 b = M.1 b := fun b h1 h2 => by rw [eM1, wI_o h2, wI_o h1, wI_o h1, wI_o h1]
    have hrd : ∀ b j, M1.1 b j = if b = a + 3 ∧ j = i then M.1 (a + 3) i + mw r m (loss (r (m + 1)) fire sun) else if b = ma ∧ j = 2 then r (m + 2) - o2 r m (loss (r (m + 1)) fire sun) else if b = ma ∧ j = 3 then r (m + 3) - o3 r m (loss (r (m + 1)) fire sun) else if b = ma ∧ j = 4 then r (m + 4) - o4 r m (loss (r (m + 1)) fire sun) else M.1 b j := fun b j => by rw [eM1, mI, mI, mI, mI]
    have d0 : M1.1 ma 0 = 1 := by rw [hrd, if_neg (by omega), if_neg (by omega), if_neg (by omega), if_neg (by omega)]; exact q0
    have d1 : M1.1 ma 1 = r1 r m wi fire sun (m + 1) := by rw [hrd, if_neg (by omega), if_neg (by omega), if_neg (by omega), if_neg (by omega), r1_o (by omega) (by omega) (by omega) (by omega)]; exact q1
    have d2 : M1.1 ma 2 = r1 r m wi fire sun (m + 2) := by rw [hrd, if_neg (by omega), if_pos (by omega), r1_2 (by omega)]
    have d3 : M1.1 ma 3 = r1 r m wi fire sun (m + 3) := by rw [hrd, if_neg (by omega), if_neg (by omega), if_pos (by omega), r1_3 (by omega)]
    have d4 : M1.1 ma 4 = r1 r m wi fire sun (m + 4) := by rw [hrd, if_neg (by omega), if_neg (by omega), if_neg (by omega), if_pos (by omega), r1_4 (by omega)]
    have d5 : M1.1 ma 5 = r1 r m wi fire sun (m + 5) := by rw [hrd, if_neg (by omega), if_neg (by omega), if_neg (by omega), if_neg (by omega), r1_o (by omega) (by omega) (by omega) (by omega)]; exact q5
    have d6 : M1.1 ma 6 = 1 - r1 r m wi fire sun (m + 6) := by rw [hrd, if_neg (by omega), if_neg (by omega), if_neg (by omega), if_neg (by omega), r1_o (by omega) (by omega) (by omega) (by omega)]; exact q6
    have d6u : M1.1 ma 6 = M.1 ma 6 := by rw [hrd, if_neg (by omega), if_neg (by omega), if_neg (by omega), if_neg (by omega)]
    have dw : M1.1 (a + 3) i = M.1 (a + 3) i + mw r m (loss (r (m + 1)) fire sun) := by rw [hrd, if_pos ⟨rfl, rfl⟩]
    have hOff : Off M M1 a := ⟨fun b hb => hrow b (by omega) (by omega), by rw [eM1]; rfl, hrow _ (by omega) (by omega), fun j hj => hrow _ (by omega) (by omega), hrow _ (by omega) (by omega)⟩
    -- with the man still there
    have hMid1 : Mid M1 a (r1 r m wi fire sun) t i S0 off fl := by
      refine ⟨fun k hk => ?_, fun j hj hji => ?_, fun j hj => ?_, ?_, fun h9 hh9 => ?_, ?_, ?_, ?_, ?_⟩
      · by_cases e : k = k0
        · subst e
          rw [hma, hmm]
          refine ⟨⟨by rw [d0, r1_o (by omega) (by omega) (by omega) (by omega), h0], by rw [d6u]; exact mk.1.2⟩, by rw [r1_o (by omega) (by omega) (by omega) (by omega)]; exact mk.2.1, fun _ => ⟨d1, d2, d3, d4, d5, d6, by rw [r1_o (by omega) (by omega) (by omega) (by omega)]; exact q7⟩⟩
        · exact (hm k hk).same (hrow _ (by omega) (by omega)) (fun f hf => r1_o (by omega) (by omega) (by omega) (by omega))
      · rw [r1_o (by omega) (by omega) (by omega) (by omega), r1_o (by omega) (by omega) (by omega) (by omega), hrow _ (by omega) (by omega)]
        refine ⟨(hsw j hj hji).1, ?_⟩
        rw [hrd, if_neg (by omega), if_neg (by omega), if_neg (by omega), if_neg (by omega)]
        exact (hsw j hj hji).2
      · rw [r1_o (by omega) (by omega) (by omega) (by omega), hrow _ (by omega) (by omega)]
        exact hl j hj
      · rw [r1_o (by omega) (by omega) (by omega) (by omega), hrow _ (by omega) (by omega)]
        exact hh0
      · rw [r1_o (by omega) (by omega) (by omega) (by omega), hrow _ (by omega) (by omega)]
        exact hsun h9 hh9
      · exact hbr.same (fun j hj => hrow _ (by omega) (by omega)) (fun x h1 h2 => r1_o (by omega) (by omega) (by omega) (by omega)) hb6
      · rw [hrow _ (by omega) (by omega)]
        exact hS
      · rw [hsi, r1_o (by omega) (by omega) (by omega) (by omega)]
        exact hs1
      · rw [hwi, r1_w, dw, hw1]
        grind
    have key : ∀ q : Int32, f_X7_meltOn_52 k M a (nI i) (nI h) fire fl (nI s) ma q = if r1 r m wi fire sun (m + 1) = 4 then (if q = 0 then k M1 fl (nI (s + 1)) else if r1 r m wi fire sun (m + 4) = 0 then k (wI M1 ma 0 0) (fl + (r1 r m wi fire sun (m + 2) + r1 r m wi fire sun (m + 3) + r1 r m wi fire sun (m + 4))) (nI (s + 1)) else k M1 fl (nI (s + 1))) else k M1 fl (nI (s + 1)) := by
      intro q
      unfold f_X7_meltOn_52 f_X7_meltOn_118
      rw [ck_n (by omega) (by omega), ck_n (by omega) (by omega), ch, hsu, e_lossBy, bd_s, q1, e_melt q2 q3 q4, bd_s, wr_e, ci, n1]
      simp only []
      rw [← eM1, d1]
      by_cases g1 : r1 r m wi fire sun (m + 1) = 4
      · rw [if_pos g1, if_pos g1]
        by_cases g2 : q = 0
        · rw [if_pos g2, if_pos g2]
        · rw [if_neg g2, if_neg g2, d4]
          by_cases g3 : r1 r m wi fire sun (m + 4) = 0
          · rw [if_pos g3, if_pos g3]
            unfold f_X6_snowOf f_X6_snowOf_25
            rw [d0, if_neg (by decide), bd_s, nm_x, wr_e, d2, d3, d4]
          · rw [if_neg g3, if_neg g3]
      · rw [if_neg g1, if_neg g1]
    by_cases hg : gone r m wi fire sun
    · rw [if_pos hg, q4, if_neg (by simpa using hg.2.1), key, if_pos hg.1, if_neg (by decide), if_pos hg.2.2]
      refine ⟨_, _, rfl, ?_, ?_⟩
      · obtain ⟨m1, m2, m3, m4, m5, m6, m7, m8, m9⟩ := hMid1
        have hr0 : ∀ b, b ≠ ma → (wI M1 ma 0 0).1 b = M1.1 b := fun b hb => wI_o hb
        refine ⟨fun k hk => ?_, fun j hj hji => ?_, fun j hj => ?_, ?_, fun h9 hh9 => ?_, ?_, ?_, ?_, ?_⟩
        · by_cases e : k = k0
          · subst e
            rw [hma, hmm]
            have z0 := zap_in (r := upd (r1 r m wi fire sun) si (r1 r m wi fire sun si + fell r m wi fire sun)) (m := m) (n := 7) (x := m) (by omega) (by omega)
            refine ⟨⟨by rw [mIs, z0], by rw [mIn (by omega), d6u]; exact mk.1.2⟩, Or.inl z0, fun z => absurd (z0.symm.trans z) (by decide)⟩
          · exact (m1 k hk).same (hr0 _ (by omega)) (fun f hf => by rw [zap_out (by omega), upd_ne (by omega)])
        · rw [hr0 _ (by omega), hr0 _ (by omega), zap_out (by omega), zap_out (by omega), upd_ne (by omega), upd_ne (by omega)]
          exact m2 j hj hji
        · rw [hr0 _ (by omega), zap_out (by omega), upd_ne (by omega)]
          exact m3 j hj
        · rw [hr0 _ (by omega), zap_out (by omega), upd_ne (by omega)]
          exact m4
        · rw [hr0 _ (by omega), zap_out (by omega), upd_ne (by omega)]
          exact m5 h9 hh9
        · refine m6.same (fun j hj => hr0 _ (by omega)) (fun x h1 h2 => ?_) ?_
          · rw [zap_out (by omega), upd_ne (by omega)]
          · show (r1 r m wi fire sun (t + 207)).toNatClampNeg ≤ 6
            rw [r1_o (by omega) (by omega) (by omega) (by omega)]
            exact hb6
        · rw [hr0 _ (by omega)]
          exact m7
        · rw [hsi] at m8 ⊢
          rw [zap_out (by omega), upd_eq, m8]
          unfold fell
          rw [hg.2.2]
          grind
        · rw [hr0 _ (by omega), zap_out (by omega), upd_ne (by omega)]
          exact m9
      · exact hOff.tr ⟨fun b hb => wI_o (by omega), rfl, wI_o (by omega), fun j hj => wI_o (by omega), wI_o (by omega)⟩
    · rw [if_neg hg]
      have hk2 : ∀ q : Int32, (q = 0 ∨ 0 < r (m + 4)) → f_X7_meltOn_52 k M a (nI i) (nI h) fire fl (nI s) ma q = k M1 fl (nI (s + 1)) := by
        intro q hq
        rw [key]
        by_cases g1 : r1 r m wi fire sun (m + 1) = 4
        · rw [if_pos g1]
          by_cases g2 : q = 0
          · rw [if_pos g2]
          · rw [if_neg g2]
            by_cases g3 : r1 r m wi fire sun (m + 4) = 0
            · exact absurd ⟨g1, hq.resolve_left g2, g3⟩ hg
            · rw [if_neg g3]
        · rw [if_neg g1]
      refine ⟨M1, fl, ?_, hMid1, hOff⟩
      by_cases g4 : M.1 ma 4 ≤ 0
      · rw [if_pos g4, hk2 0 (Or.inl rfl)]
      · rw [if_neg g4, hk2 1 (Or.inr (by rw [← q4]; simpa using g4))]
  · have e0 : M.1 ma 0 = 0 := mk.1.1.trans (isB_1 mk.2.1 h0)
    rw [if_neg h0, e0, if_pos rfl]
    unfold f_X7_meltOn_118
    rw [n1]
    exact ⟨M, fl, rfl, ⟨hm, hsw, hl, hh0, hsun, hbr, hS, hs1, hw1⟩, Off.rf M a⟩
