theorem mo_le {at_ s i : Nat} (hs : s < 2) (hi : i < 10) : mo at_ s i + 7 ≤ at_ + 140 := by unfold mo; omega
theorem e_manAt {s i : Nat} (_hs : s < 2) (_hi : i < 10) : f_X12_manAt (nI s) (nI i) = some (nI (7 * (10 * s + i))) := by
  unfold f_X12_manAt
  show some (nI 7 * (nI 10 * nI s + nI i)) = _
  rw [pk_mul, nI_add, pk_mul]
theorem wR_3 (N : Mm) (r : Pg) : (wR N 1 r).1 3 = N.1 3 := wR_ne (by decide)
theorem wR_2 (N : Mm) (r : Pg) : (wR N 1 r).1 2 = N.1 2 := wR_ne (by decide)
theorem wR_0 (N : Mm) (r : Pg) : (wR N 1 r).1 0 = N.1 0 := wR_ne (by decide)
theorem e_counts {N : Mm} {r : Pg} {at_ s i : Nat} (hs : s < 2) (hi : i < 10) (ha : at_ + 140 ≤ 840) : f_X12_counts (wR N 1 r) (nI at_) (nI s) (nI i) = some (b2 (cnt r (N.1 3) (mo at_ s i))) := by
  have hm := mo_le (at_ := at_) hs hi
  unfold f_X12_counts f_X12_counts_82 f_X12_counts_78 f_X12_counts_83
  rw [e_manAt hs hi, bd_s, nI_add, nm_x, show at_ + 7 * (10 * s + i) = mo at_ s i from rfl]
  generalize mo at_ s i = m at hm ⊢
  have e4 : nI m + (4 : Int32) = nI (m + 4) := nIa (b := 4) rfl
  have e5 : nI m + (5 : Int32) = nI (m + 5) := nIa (b := 5) rfl
  have e6 : nI m + (6 : Int32) = nI (m + 6) := nIa (b := 6) rfl
  simp only [e4, e5, e6]
  rw [ck_n (by omega) (by omega), ck_n (by omega) (by omega), ck_n (by omega) (by omega), ck_n (by omega) (by omega)]
  simp only [nI_clamp (show m < 2 ^ 31 by omega), nI_clamp (show m + 4 < 2 ^ 31 by omega), nI_clamp (show m + 5 < 2 ^ 31 by omega), nI_clamp (show m + 6 < 2 ^ 31 by omega), wR_s, wR_3, show (0 : Int32).toNatClampNeg = 0 from rfl, show (1 : Int32).toNatClampNeg = 1 from rfl, show (2 : Int32).toNatClampNeg = 2 from rfl]
  rw [ck_t (show isB (0 : Int32) from Or.inl rfl), ck_t (show isB (1 : Int32) from Or.inr rfl)]
  by_cases h0 : r m = 1
  · rw [if_pos h0]
    by_cases h1 : r (m + 4) < N.1 3 0
    · rw [if_pos h1, b2_f (fun z => absurd z.2.1 (by simpa using h1))]
    · rw [if_neg h1]
      by_cases h2 : r (m + 5) < N.1 3 1
      · rw [if_pos h2, b2_f (fun z => absurd z.2.2.1 (by simpa using h2))]
      · rw [if_neg h2]
        by_cases h3 : N.1 3 2 = 0
        · rw [if_pos h3, b2_t ⟨h0, by simpa using h1, by simpa using h2, Or.inl h3⟩]
        · rw [if_neg h3]
          by_cases h4 : r (m + 6) = 0
          · rw [if_pos h4, b2_t ⟨h0, by simpa using h1, by simpa using h2, Or.inr h4⟩]
          · rw [if_neg h4, b2_f (fun z => z.2.2.2.elim h3 h4)]
  · rw [if_neg h0, b2_f (fun z => h0 z.1)]
theorem zap_0 (r : Pg) (m : Nat) : zap r m 0 = r := by
  funext x
  unfold zap
  rw [if_neg (by omega)]
theorem zap_s (r : Pg) (m n : Nat) : upd (zap r m n) (m + n) 0 = zap r m (n + 1) := by
  funext x
  unfold zap upd
  by_cases h : x = m + n
  · simp [h]
  · by_cases h2 : m ≤ x ∧ x < m + n
    · simp [h, h2, show m ≤ x ∧ x < m + (n + 1) by omega]
    · simp [h, h2, show ¬ (m ≤ x ∧ x < m + (n + 1)) by omega]
theorem zap_loop {N : Mm} {r : Pg} {m : Nat} {k : Mm → Int32 → Option Mm} {x1 x2 x3 x4 x5 x6 x7 x9 : Int32} (hm : m + 7 ≤ 840) : ∀ n j, j ≤ 7 → 7 < j + n → f_X12_melting_213 k x1 x2 x3 x4 x5 x6 x7 x9 (nI m) n (wR N 1 (zap r m j)) (nI j) = k (wR N 1 (zap r m 7)) (x9 + 1) := by
  intro n
  induction n with
  | zero => intro j h1 h2; omega
  | succ n ih =>
    intro j h1 h2
    show b_X12_melting_213 k (fun M x12 => f_X12_melting_213 k x1 x2 x3 x4 x5 x6 x7 x9 (nI m) n M x12) x1 x2 x3 x4 x5 x6 x7 x9 (nI m) (wR N 1 (zap r m j)) (nI j) = _
    unfold b_X12_melting_213 f_X12_melting_237
    by_cases hj : j = 7
    · subst hj
      rw [if_pos (by decide)]
    · rw [if_neg (by show ¬ nI 7 ≤ nI j; exact nI_ge (by omega) (by omega)), nI_add, ck_n (by omega) (by omega), wr_e, nI_clamp (by omega), wIR, zap_s, n1]
      exact ih (j + 1) (by omega) (by omega)
/-- one side on a furlong -/
theorem side_step {N : Mm} {r : Pg} {k : Mm → Int32 → Option Mm} {at_ s i si wi : Nat} {h fire sun : Int32} (hs : s < 2) (hi : i < 10) (ha : at_ + 210 ≤ 840) (hsi : si = at_ + 140 + i) (hwi : wi = at_ + 150 + i) :
    b_X12_melting_85 k (nI at_) (nI i) h sun fire (nI si) (nI wi) (wR N 1 r) (nI s) = k (wR N 1 (sd r (mo at_ s i) si wi fire sun)) (nI (s + 1)) := by
  have hm := mo_le (at_ := at_) hs hi
  unfold b_X12_melting_85 f_X12_melting_237
  rw [if_neg (by show ¬ nI 2 ≤ nI s; exact nI_ge (by omega) (by omega)), e_manAt hs hi, bd_s, nI_add, nm_x, show at_ + 7 * (10 * s + i) = mo at_ s i from rfl]
  generalize mo at_ s i = m at hm ⊢
  have e1 : nI m + (1 : Int32) = nI (m + 1) := nIa (b := 1) rfl
  have e2 : nI m + (2 : Int32) = nI (m + 2) := nIa (b := 2) rfl
  have e3 : nI m + (3 : Int32) = nI (m + 3) := nIa (b := 3) rfl
  have e4 : nI m + (4 : Int32) = nI (m + 4) := nIa (b := 4) rfl
  have c0 := nI_clamp (show m < 2 ^ 31 by omega)
  have c1 := nI_clamp (show m + 1 < 2 ^ 31 by omega)
  have c2 := nI_clamp (show m + 2 < 2 ^ 31 by omega)
  have c3 := nI_clamp (show m + 3 < 2 ^ 31 by omega)
  have c4 := nI_clamp (show m + 4 < 2 ^ 31 by omega)
  have cs := nI_clamp (show si < 2 ^ 31 by omega)
  have cw' := nI_clamp (show wi < 2 ^ 31 by omega)
  rw [ck_n (by omega) (by omega), c0, wR_s]
  unfold sd
  by_cases h0 : r m = 1
  · rw [if_pos h0, if_pos h0, e4, ck_n (by omega) (by omega), c4]
    have key : ∀ q : Int32, f_X12_melting_129 k (wR N 1 r) (nI at_) (nI i) h sun fire (nI si) (nI wi) (nI s) (nI m) q = if r1 r m wi fire sun (m + 1) = 4 then (if q = 0 then k (wR N 1 (r1 r m wi fire sun)) (nI (s + 1)) else if r1 r m wi fire sun (m + 4) = 0 then k (wR N 1 (zap (upd (r1 r m wi fire sun) si (r1 r m wi fire sun si + fell r m wi fire sun)) m 7)) (nI (s + 1)) else k (wR N 1 (r1 r m wi fire sun)) (nI (s + 1))) else k (wR N 1 (r1 r m wi fire sun)) (nI (s + 1)) := by
      intro q
      unfold f_X12_melting_129 f_X12_melting_237
      rw [ck_n (by omega) (by omega), e_melts (by omega), bd_s, wr_e, wR_s, cw', wIR]
      show (ck (inn (nI m + (1 : Int32)) 840) _) = _
      rw [e1, ck_n (by omega) (by omega), c1, wR_s]
      show (if r1 r m wi fire sun (m + 1) = 4 then _ else _) = _
      by_cases g1 : r1 r m wi fire sun (m + 1) = 4
      · rw [if_pos g1, if_pos g1]
        by_cases g2 : q = 0
        · rw [if_pos g2, if_pos g2, n1]
          rfl
        · rw [if_neg g2, if_neg g2, e4, ck_n (by omega) (by omega), c4]
          show (if r1 r m wi fire sun (m + 4) = 0 then _ else _) = _
          by_cases g3 : r1 r m wi fire sun (m + 4) = 0
          · rw [if_pos g3, if_pos g3, ck_n (by omega) (by omega), e2, e3, ck_n (by omega) (by omega), ck_n (by omega) (by omega), wr_e, c2, c3, cs, wIR]
            have hz := zap_loop (N := N) (r := upd (r1 r m wi fire sun) si (r1 r m wi fire sun si + fell r m wi fire sun)) (m := m) (k := k) (x1 := nI at_) (x2 := nI i) (x3 := h) (x4 := sun) (x5 := fire) (x6 := nI si) (x7 := nI wi) (x9 := nI s) (by omega) FU 0 (by omega) (by decide)
            rw [zap_0, n1] at hz
            exact hz
          · rw [if_neg g3, if_neg g3, n1]
            rfl
      · rw [if_neg g1, if_neg g1, n1]
        rfl
    by_cases g4 : r (m + 4) ≤ 0
    · rw [if_pos g4, key, if_neg (show ¬ gone r m wi fire sun from fun z => absurd z.2.1 (by simpa using g4))]
      simp only [if_true]
      by_cases g1 : r1 r m wi fire sun (m + 1) = 4 <;> simp only [g1, if_true, if_false]
    · rw [if_neg g4, key]
      simp only [show ¬ ((1 : Int32) = 0) by decide, if_false]
      by_cases g1 : r1 r m wi fire sun (m + 1) = 4
      · rw [if_pos g1]
        by_cases g3 : r1 r m wi fire sun (m + 4) = 0
        · rw [if_pos g3, if_pos (show gone r m wi fire sun from ⟨g1, by simpa using g4, g3⟩)]
        · rw [if_neg g3, if_neg (show ¬ gone r m wi fire sun from fun z => g3 z.2.2)]
      · rw [if_neg g1, if_neg (show ¬ gone r m wi fire sun from fun z => g1 z.1)]
  · rw [if_neg h0, if_neg h0, n1]
theorem line_gen (w e : Prop) [Decidable w] [Decidable e] (v : Int32) (F : Int32 → Option Mm) :
    (if ¬ w then (if ¬ e then F v else if ¬ w then (if v ≤ -9 then F v else F (v - 1)) else F v)
     else if ¬ e then (if 9 ≤ v then (if ¬ e then F v else if ¬ w then (if v ≤ -9 then F v else F (v - 1)) else F v) else F (v + 1))
     else (if ¬ e then F v else if ¬ w then (if v ≤ -9 then F v else F (v - 1)) else F v)) = F (lineF w e v) := by
  unfold lineF
  by_cases w : w
  · by_cases e : e
    · simp [w, e]
    · by_cases g : 9 ≤ v
      · simp [w, e, g, show ¬ v < 9 by simpa using g]
      · simp [w, e, g, show v < 9 by simpa using g]
  · by_cases e : e
    · by_cases g : v ≤ -9
      · simp [w, e, g, show ¬ -9 < v by simpa using g]
      · simp [w, e, g, show -9 < v by simpa using g]
    · simp [w, e]
theorem e_melting {N : Mm} {r : Pg} {at_ i h : Nat} {sun : Int32} (hi : i < 10) (hh : h < 12) (ha : at_ + 210 ≤ 840) (hB : BrI r) :
    f_X12_melting (wR N 1 r) (nI at_) (nI i) (nI h) sun = some (wR N 1 (hourF r (N.1 3) at_ i (warmP r i (nI h)) sun (N.1 2 h))) := by
  have hm0 := mo_le (at_ := at_) (s := 0) (by decide) hi
  have hm1 := mo_le (at_ := at_) (s := 1) (by decide) hi
  unfold f_X12_melting
  rw [e_fires (N := wR N 1 r) hi (by rw [wR_s]; exact hB), bd_s, wR_s]
  generalize warmP r i (nI h) = fire
  have es : nI at_ + (140 : Int32) + nI i = nI (at_ + 140 + i) := by rw [show nI at_ + (140 : Int32) = nI (at_ + 140) from nIa (b := 140) rfl, nI_add]
  have ew : nI at_ + (150 : Int32) + nI i = nI (at_ + 150 + i) := by rw [show nI at_ + (150 : Int32) = nI (at_ + 150) from nIa (b := 150) rfl, nI_add]
  have el : nI at_ + (160 : Int32) + nI i = nI (at_ + 160 + i) := by rw [show nI at_ + (160 : Int32) = nI (at_ + 160) from nIa (b := 160) rfl, nI_add]
  rw [es, ew, nm_x, nm_x]
  unfold hourF
  generalize hsi : at_ + 140 + i = si
  generalize hwi : at_ + 150 + i = wi
  generalize hli : at_ + 160 + i = li
  have cs := nI_clamp (show si < 2 ^ 31 by omega)
  have cw' := nI_clamp (show wi < 2 ^ 31 by omega)
  have cl := nI_clamp (show li < 2 ^ 31 by omega)
  have ch := nI_clamp (show h < 2 ^ 31 by omega)
  have swn : wi ≠ si := by omega
  rw [ck_n (by omega) (by omega), cs]
  have k1 : ∀ q : Int32, q = iMin (r si) (fire + sun) → f_X12_melting_56 (wR N 1 r) (nI at_) (nI i) (nI h) sun fire (nI si) (nI wi) q = some (wR N 1 (mvl (fr (sd (sd (sn r si wi (fire + sun)) (mo at_ 0 i) si wi fire sun) (mo at_ 1 i) si wi fire sun) si wi (N.1 2 h)) (N.1 3) (mo at_ 0 i) (mo at_ 1 i) li)) := by
    intro q hq
    unfold f_X12_melting_56
    rw [ck_n (by omega) (by omega), wr_e, wR_s, cs, wIR, ck_n (by omega) (by omega), wr_e, wR_s, cw', wIR, upd_ne swn]
    have e0 : upd (upd r si (r si - q)) wi (r wi + q) = sn r si wi (fire + sun) := by rw [hq]; rfl
    rw [e0]
    generalize sn r si wi (fire + sun) = ra
    show b_X12_melting_85 _ _ _ _ _ _ _ _ _ (nI 0) = _
    rw [side_step (s := 0) (by decide) hi ha hsi.symm hwi.symm]
    show b_X12_melting_85 _ _ _ _ _ _ _ _ _ (nI 1) = _
    rw [side_step (s := 1) (by decide) hi ha hsi.symm hwi.symm]
    generalize sd (sd ra (mo at_ 0 i) si wi fire sun) (mo at_ 1 i) si wi fire sun = rb
    show b_X12_melting_85 _ _ _ _ _ _ _ _ _ (nI 2) = _
    unfold b_X12_melting_85
    rw [if_pos (by decide)]
    unfold f_X12_melting_243
    rw [ck_n (by omega) (by omega), ck_n (by omega) (by omega), ch, cw', wR_2, wR_s]
    have k2 : ∀ q : Int32, q = iMin (rb wi) (N.1 2 h) → f_X12_melting_275 (wR N 1 rb) (nI at_) (nI i) (nI si) (nI wi) q = some (wR N 1 (mvl (fr rb si wi (N.1 2 h)) (N.1 3) (mo at_ 0 i) (mo at_ 1 i) li)) := by
      intro q hq
      unfold f_X12_melting_275
      rw [ck_n (by omega) (by omega), wr_e, wR_s, cw', wIR, ck_n (by omega) (by omega), wr_e, wR_s, cs, wIR, upd_ne (Ne.symm swn)]
      have e1 : upd (upd rb wi (rb wi - q)) si (rb si + q) = fr rb si wi (N.1 2 h) := by rw [hq]; rfl
      rw [e1]
      generalize fr rb si wi (N.1 2 h) = rc
      have q0 : f_X12_counts (wR N 1 rc) (nI at_) 0 (nI i) = some (b2 (cnt rc (N.1 3) (mo at_ 0 i))) := e_counts (s := 0) (by decide) hi (by omega)
      have q1 : f_X12_counts (wR N 1 rc) (nI at_) 1 (nI i) = some (b2 (cnt rc (N.1 3) (mo at_ 1 i))) := e_counts (s := 1) (by decide) hi (by omega)
      rw [q0, bd_s, q1, bd_s, el, hli, ck_n (by omega) (by omega), cl, nm_x, wR_s]
      have k3 : ∀ v : Int32, f_X12_melting_394 (wR N 1 rc) (nI li) v = some (wR N 1 (upd rc li v)) := by
        intro v
        unfold f_X12_melting_394
        rw [ck_n (by omega) (by omega), wr_e, cl, wIR]
      unfold f_X12_melting_368 f_X12_melting_392
      simp only [k3, b2_0]
      exact line_gen _ _ _ (fun v => some (wR N 1 (upd rc li v)))
    by_cases g : N.1 2 h ≤ rb wi
    · rw [if_pos g, k2 _ (iMin_a g).symm]
    · rw [if_neg g, k2 _ (iMin_b g).symm]
  by_cases g : fire + sun ≤ r si
  · rw [if_pos g, k1 _ (iMin_a g).symm]
  · rw [if_neg g, k1 _ (iMin_b g).symm]
