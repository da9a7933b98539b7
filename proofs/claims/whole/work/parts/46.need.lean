-- HOLDS, NEED
theorem RelP.cgn {p F : Nat} {M N : Mm} {r : Pg} (H : RelP p F M N) (h : ∀ x, x < 630 → r x = N.1 1 x) : RelP p F M (wR N 1 r) := H.cg (fun _ _ _ _ => rfl) rfl (fun b q1 q2 q3 => wR_ne q1) (fun x hx => by rw [wR_s]; exact h x hx)
theorem cntB_c {r R T : Pg} {m m0 : Nat} (h0 : r m = R m0) (h4 : r (m + 4) = R (m0 + 4)) (h5 : r (m + 5) = R (m0 + 5)) (h6 : r (m + 6) = R (m0 + 6)) : cnt r T m ↔ cnt R T m0 := by
  unfold cnt
  rw [h0, h4, h5, h6]
/-- the reference's answer how long a man holds, with more snow on his head, or in more sun -/
theorem hold_spec {p F h0 s i n k T : Nat} {M N : Mm} {x4 : Int32} (H : RelP p F M N) (e1 : N.1 1 170 = nI h0) (hh : h0 ≤ 12) (hs : s < 2) (hi : i < F) (m0 : N.1 1 (mo 0 s i) = 1) (hn : N.1 1 (mo 0 s i + 4) = nI n) (hk : n + k ≤ 99) (hT1 : 1 ≤ T) (hT2 : T ≤ 99) (eT : N.1 3 0 = nI T) :
    ∃ w r2, f_X12_holdsTo N (nI s) (nI i) (nI k) x4 = some (w, wR N 1 r2) ∧ (∀ x, x < 630 → r2 x = N.1 1 x) ∧ ((¬ (suit (N.1 1) (N.1 3) (mo 0 s i) ∧ T ≤ n + k) ∧ w = -1) ∨ (suit (N.1 1) (N.1 3) (mo 0 s i) ∧ ∃ e, w = nI (h0 + e) ∧ h0 + e ≤ 12 ∧ T + SN (lsN (N.1 1) s i x4) h0 e ≤ n + k ∧ (h0 + e < 12 → n + k < T + SN (lsN (N.1 1) s i x4) h0 (e + 1)))) := by
  have hF := H.1.2.2.2.2.1
  have hm : mo 0 s i + 7 ≤ 140 := by unfold mo; omega
  have hm6 : mo 630 s i = 630 + mo 0 s i := by unfold mo; omega
  unfold f_X12_holdsTo f_X12_hourNow
  rw [show f_X12_copies N (0 : Int32) (630 : Int32) = _ from e_copN (s := 0) (t := 630) (by omega) (by omega) (by omega), bd_s, e_manAt hs (by omega), bd_s, show (630 : Int32) + nI (7 * (10 * s + i)) = nI (mo 630 s i) from nIa (a := 630) rfl, show nI (mo 630 s i) + (4 : Int32) = nI (mo 630 s i + 4) from nIa (b := 4) rfl, ck_n (by omega) (by omega), nI_clamp (by omega), wr_e, wIR, wR_s]
  generalize hr : upd (cpP (N.1 1) 0 630 210) (mo 630 s i + 4) (cpP (N.1 1) 0 630 210 (mo 630 s i + 4) + nI k) = r
  have ra : ∀ f, f < 7 → f ≠ 4 → r (mo 630 s i + f) = N.1 1 (mo 0 s i + f) := fun f hf h4 => by
    rw [← hr, upd_ne (by omega), hm6, Nat.add_assoc, cpP_in (by omega)]
    exact congrArg _ (by omega)
  have r4 : r (mo 630 s i + 4) = nI (n + k) := by
    rw [← hr, upd_eq, hm6, Nat.add_assoc, cpP_in (by omega), show 0 + (mo 0 s i + 4) = mo 0 s i + 4 by omega, hn, nI_add]
  have rl : ∀ x, x < 630 → r x = N.1 1 x := fun x hx => by rw [← hr, upd_ne (by omega), cpP_out (by omega)]
  rw [show f_X12_counts (wR N 1 r) (630 : Int32) (nI s) (nI i) = _ from e_counts (at_ := 630) hs (by omega) (by omega), bd_s, bd_s, show (170 : Int32).toNatClampNeg = 170 from rfl, wR_s, rl 170 (by omega), e1]
  have r0 : r (mo 630 s i) = 1 := (ra 0 (by omega) (by omega)).trans m0
  have r5 := ra 5 (by omega) (by omega)
  have r6 := ra 6 (by omega) (by omega)
  have hc : cnt r (N.1 3) (mo 630 s i) ↔ suit (N.1 1) (N.1 3) (mo 0 s i) ∧ T ≤ n + k := by
    unfold cnt suit
    rw [r0, r4, r5, r6, m0, eT, nI_leI (by omega) (by omega)]
    exact ⟨fun z => ⟨⟨rfl, z.2.2.1, z.2.2.2⟩, z.2.1⟩, fun z => ⟨rfl, z.2, z.1.2.1, z.1.2.2⟩⟩
  by_cases g : cnt r (N.1 3) (mo 630 s i)
  · have g2 := hc.mp g
    rw [if_neg (fun q => b2_0.mp q g)]
    obtain ⟨e, r2, l1, l2, l3, l4, l5⟩ := hold_loop (N := N) (h0 := h0) (hd := n + k) (x4 := x4) hs (show i < 10 by omega) H.2.1.2.1 hT1 hT2 eT hk g2.1 FU 0 r (by omega) (by show 12 < h0 + 0 + 5000; omega) rl r0 (ra 1 (by omega) (by omega)) r4 r5 r6 g2.2
    exact ⟨_, r2, l1, l2, Or.inr ⟨g2.1, e, rfl, l3, l4, l5⟩⟩
  · rw [if_pos (b2_0.mpr g)]
    exact ⟨-1, r, rfl, rl, Or.inl ⟨fun z => g (hc.mpr z), rfl⟩⟩
theorem hold_lt {R T : Pg} {m h0 t e n T0 : Nat} {w : Int32} {g : Nat → Nat} (ht : h0 ≤ t) (h12 : t ≤ 12) (hw : (¬ (suit R T m ∧ T0 ≤ n) ∧ w = -1) ∨ (suit R T m ∧ ∃ e, w = nI (h0 + e) ∧ h0 + e ≤ 12 ∧ T0 + SN g h0 e ≤ n ∧ (h0 + e < 12 → n < T0 + SN g h0 (e + 1)))) : ¬ w < nI t ↔ suit R T m ∧ T0 + SN g h0 (t - h0) ≤ n := by
  rcases hw with ⟨q, rfl⟩ | ⟨q, e, rfl, q2, q3, q4⟩
  · constructor
    · intro z
      exact absurd (Int32.lt_of_lt_of_le (show (-1 : Int32) < 0 by decide) (nI_pos' (by omega))) z
    · intro z
      exact absurd ⟨z.1, by omega⟩ q
  · rw [nI_ltI (by omega) (by omega)]
    constructor
    · intro z
      exact ⟨q, Nat.le_trans (Nat.add_le_add_left (SN_mono g h0 (by omega)) _) q3⟩
    · intro z y
      have := SN_mono g h0 (show e + 1 ≤ t - h0 by omega)
      have := q4 (by omega)
      omega
theorem bt_0 (q : Nat) : bt 0 q = 0 := by
  unfold bt
  apply Int32.toBitVec_inj.mp
  rw [Int32.toBitVec_and, Int32.toBitVec_shiftRight]
  simp
/-- what the class lacks by the hour -/
theorem e_lack {p F h0 s i t n T : Nat} {M N : Mm} (H : RelP p F M N) (e1 : N.1 1 170 = nI h0) (e2 : M.1 (lx p + 5) 0 = nI h0) (hs : s < 2) (hi : i < F) (hn : N.1 1 (mo 0 s i + 4) = nI n) (hn9 : n ≤ 99) (m0 : N.1 1 (mo 0 s i) = 1) (eT : N.1 3 0 = nI T) (hT2 : T ≤ 99) (ht : h0 ≤ t) (h12 : t ≤ 12) :
    f_X4_lackOf M (lx p) (lx p + 5 + 11 + (10 * s + i)) (nI i) (nI t) = some (nI (T + SN (lsN (N.1 1) s i 0) h0 (t - h0) - n)) := by
  have hF := H.1.2.2.2.2.1
  have hm := H.2.1.1.1 (10 * s + i) (by omega)
  rw [show 0 + 7 * (10 * s + i) = mo 0 s i from rfl] at hm
  obtain ⟨f1, f2, f3, f4, -⟩ := hm.2.2 m0
  have hB := H.2.1.2.1.2.2.2.2
  have hR := H.2.1.1.2.2.2.2
  rw [sh0] at hB hR
  unfold f_X4_lackOf
  rw [nm_x, nm_x, e2, H.2.2.1.1.1, eT, f4, hn]
  have loop : ∀ f j, h0 + j ≤ t → t < h0 + j + f → f_X4_lackOf_23 M (lx p) (lx p + 5 + 11 + (10 * s + i)) (nI i) (nI t) f (nI T - nI n + nI (SN (lsN (N.1 1) s i 0) h0 j)) (nI (h0 + j)) = some (nI (T + SN (lsN (N.1 1) s i 0) h0 (t - h0) - n)) := by
    intro f
    induction f with
    | zero => intro j h1 h2; omega
    | succ f ih =>
      intro j h1 h2
      show b_X4_lackOf_23 (fun x4 x5 => f_X4_lackOf_23 M (lx p) (lx p + 5 + 11 + (10 * s + i)) (nI i) (nI t) f x4 x5) M (lx p) (lx p + 5 + 11 + (10 * s + i)) (nI i) (nI t) (nI T - nI n + nI (SN (lsN (N.1 1) s i 0) h0 j)) (nI (h0 + j)) = _
      unfold b_X4_lackOf_23 f_X4_lackOf_74
      by_cases e : h0 + j = t
      · rw [e, if_pos (nI_le (Nat.le_refl _) (by omega)), show t - h0 = j by omega]
        have hS := SN_le (g := lsN (N.1 1) s i 0) (h := h0) (fun q hq => (ls_n (s := s) (x := 0) (show i < 10 by omega) hq H.2.1.2.1).1) j (by omega)
        generalize SN (lsN (N.1 1) s i 0) h0 j = S at *
        rw [show nI T - nI n + nI S = nI (T + S) - nI n by rw [← nI_add]; grind]
        refine congrArg some ?_
        unfold iMax
        by_cases g : n ≤ T + S
        · rw [show nI (T + S) - nI n = nI (T + S - n) from pk_sub g]
          have := nI_pos' (n := T + S - n) (by omega)
          grind
        · have h1 : nI n - nI (T + S) = nI (n - (T + S)) := pk_sub (by omega)
          have h2 : nI (T + S) - nI n = - nI (n - (T + S)) := by rw [← h1]; grind
          rw [h2, show T + S - n = 0 by omega]
          have h3 := nI_lt (a := 0) (b := n - (T + S)) (by omega) (by omega)
          have h4 : nI (n - (T + S)) ≤ nI 99 := nI_le (by omega) (by omega)
          have h5 : nI 99 = 99 := rfl
          have h6 : nI 0 = 0 := rfl
          rw [h5] at h4
          rw [h6] at h3 ⊢
          grind
      · obtain ⟨l1, l2⟩ := ls_n (s := s) (x := 0) (show i < 10 by omega) (show h0 + j < 12 by omega) H.2.1.2.1
        unfold lsI at l2
        rw [bt_0, Int32.add_zero] at l2
        have hsun := H.2.1.1.2.2.2.1 (h0 + j) (by omega)
        rw [show 0 + 171 + (h0 + j) = 171 + (h0 + j) by omega] at hsun
        rw [if_neg (nI_ge (by omega) (by omega)), if_neg (show ¬ (12 : Int32) ≤ nI (h0 + j) from nI_ge (b := 12) (by omega) (by omega)), e_warmth (show i < 10 by omega) hB hR, bd_s, ck_n (by omega) (by omega), nI_clamp (by omega), e_lossBy, bd_s, nm_x, n1, f1, hsun, l2]
        have h := ih (j + 1) (by omega) (by omega)
        rw [show SN (lsN (N.1 1) s i 0) h0 (j + 1) = SN (lsN (N.1 1) s i 0) h0 j + lsN (N.1 1) s i 0 (h0 + j) from rfl, ← nI_add, ← Int32.add_assoc] at h
        exact h
  have := loop FU 0 (by omega) (by show t < h0 + 0 + 5000; omega)
  rw [show SN (lsN (N.1 1) s i 0) h0 0 = 0 from rfl, show nI 0 = 0 from rfl, Int32.add_zero] at this
  exact this
