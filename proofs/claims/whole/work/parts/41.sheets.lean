-- SHEETS AND THE TAPE
/-- the sheets, the torn and the tape moved, nothing else -/
theorem RelP.st {p F : Nat} {M N M2 N2 : Mm} (H : RelP p F M N) (m1 : ∀ b, b ≠ 0 → b ≠ 1 → b ≠ 2 → (b < 133 ∨ 141 ≤ b) → M2.1 b = M.1 b) (m0 : ∀ j, j ≠ 11 → M2.1 0 j = M.1 0 j) (n1 : ∀ b, b ≠ 0 → b ≠ 9 → (b < 16 ∨ 18 < b) → N2.1 b = N.1 b) (n0 : ∀ j, j ≠ 35 → j ≠ 17 → N2.1 0 j = N.1 0 j) (hT : RT M2 N2) (hS : RS M2 N2) (hZ : M2.1 0 11 = N2.1 0 35) : RelP p F M2 N2 := by
  obtain ⟨⟨a1, a2, a3, a4, a5, a6, a7⟩, ⟨b1, b2, b3⟩, ⟨c1, c2, ⟨d, hd, d1, d2⟩, c4⟩, ⟨c, c8, e1, e2, e3⟩, hE, -, ⟨f, f4, f1, f2, f3⟩, -, -, hZ2, hZ3⟩ := H
  have hl : lx p = 141 ∨ lx p = 177 := by unfold lx; omega
  have y1 : N2.1 1 = N.1 1 := n1 1 (by decide) (by decide) (by decide)
  have ml : ∀ j, j < 36 → M2.1 (lx p + j) = M.1 (lx p + j) := fun j hj => m1 _ (by omega) (by omega) (by omega) (by omega)
  have ml0 : M2.1 (lx p) = M.1 (lx p) := ml 0 (by omega)
  refine ⟨⟨a1, by rw [m0 9 (by decide)]; exact a2, by rw [m0 10 (by decide)]; exact a3, a4, a5, by rw [ml0]; exact a6, by rw [n0 1 (by decide) (by decide)]; exact a7⟩, ⟨?_, by rw [y1]; exact b2, by rw [y1]; exact b3⟩, ⟨?_, ?_, ⟨d, hd, by rw [ml0]; exact d1, by rw [n0 6 (by decide) (by decide)]; exact d2⟩, fun h hh => ?_⟩, ⟨c, c8, by rw [ml0]; exact e1, by rw [n0 5 (by decide) (by decide)]; exact e2, fun h hh => ?_⟩, fun k hk => ?_, hT, ⟨f, f4, by rw [m1 98 (by decide) (by decide) (by decide) (by decide)]; exact f1, by rw [n0 30 (by decide) (by decide)]; exact f2, fun j hj => ?_⟩, hS, hZ, ?_, ?_⟩
  · rw [y1]
    exact b1.c b2.b6 (fun j hj => m1 _ (by omega) (by omega) (by omega) (by omega)) (fun x hx => rfl)
  · unfold LwR
    rw [ml 2 (by omega), n1 3 (by decide) (by decide) (by decide)]
    exact c1
  · rw [n1 3 (by decide) (by decide) (by decide)]
    exact c2
  · rw [ml 1 (by omega), n1 2 (by decide) (by decide) (by decide)]
    exact c4 h hh
  · rw [ml 3 (by omega), ml 4 (by omega), n1 4 (by decide) (by decide) (by decide)]
    exact e3 h hh
  · obtain ⟨e1, e2, e3⟩ := hE k hk
    rw [m1 35 (by decide) (by decide) (by decide) (by decide), n1 15 (by decide) (by decide) (by decide), y1]
    refine ⟨e1, e2, fun h => ?_⟩
    obtain ⟨g1, g2, g3⟩ := e3 h
    exact ⟨g1.c g2.b6 (fun j hj => m1 _ (by omega) (by omega) (by omega) (by omega)) (fun x hx => rfl), g2, g3⟩
  · rw [m1 99 (by decide) (by decide) (by decide) (by decide), n1 14 (by decide) (by decide) (by decide)]
    exact f3 j hj
  · rw [n1 10 (by decide) (by decide) (by decide)]
    exact hZ2
  · have hl2 : lx (1 - p) + lx p = 318 := by unfold lx; omega
    rw [n1 11 (by decide) (by decide) (by decide), m1 127 (by decide) (by decide) (by decide) (by decide)]
    exact ⟨hZ3.1, hZ3.2.1, fun k hk => by rw [m1 _ (by omega) (by omega) (by omega) (by omega)]; exact hZ3.2.2 k hk⟩
theorem RT.c {M N M2 N2 : Mm} (H : RT M N) (m1 : M2.1 1 = M.1 1) (m2 : M2.1 2 = M.1 2) (n9 : N2.1 9 = N.1 9) (n17 : N2.1 0 17 = N.1 0 17) (n18 : N2.1 0 18 = N.1 0 18) : RT M2 N2 := by
  unfold RT
  rw [m1, m2, n9, n17, n18]
  exact H
theorem RS.c {M N M2 N2 : Mm} (H : RS M N) (m : ∀ b, 133 ≤ b → b < 141 → M2.1 b = M.1 b) (n16 : N2.1 16 = N.1 16) (n17 : N2.1 17 = N.1 17) (n18 : N2.1 18 = N.1 18) : RS M2 N2 := by
  intro k hk
  rw [n16, n17, n18, m (133 + 2 * k) (by omega) (by omega), m (134 + 2 * k) (by omega) (by omega)]
  exact H k hk
theorem sheet_loop {N : Mm} {k : Nat} (hk : k < 4) {g : Pg} : ∀ n j (q : Pg), j ≤ 40 → 40 < j + n → (∀ x, q x = if 40 * k ≤ x ∧ x < 40 * k + j then 0 else g x) →
    ∃ q2, f_X12_sheet_56 (nI k) n (wR N 18 q) (nI j) = some (1, wR N 18 q2) ∧ ∀ x, q2 x = if 40 * k ≤ x ∧ x < 40 * k + 40 then 0 else g x := by
  intro n
  induction n with
  | zero => intro j q h1 h2; omega
  | succ n ih =>
    intro j q h1 h2 h3
    have st : f_X12_sheet_56 (nI k) (n + 1) (wR N 18 q) (nI j) = b_X12_sheet_56 (fun M x4 => f_X12_sheet_56 (nI k) n M x4) (nI k) (wR N 18 q) (nI j) := rfl
    rw [st]
    unfold b_X12_sheet_56
    by_cases e : j = 40
    · subst e
      rw [if_pos (by decide)]
      exact ⟨q, rfl, h3⟩
    · rw [if_neg (show ¬ (40 : Int32) ≤ nI j from nI_ge (b := 40) (by omega) (by omega)), show (40 : Int32) * nI k = nI (40 * k) from pk_mul 40 k, nI_add, ck_n (by omega) (by omega), nI_clamp (by omega), wr_e, n1, wI_R, wR_row, wR_R]
      refine ih (j + 1) _ (by omega) (by omega) (fun x => ?_)
      by_cases z : x = 40 * k + j
      · subst z
        rw [upd_eq, if_pos (by omega)]
      · rw [upd_ne z, h3 x]
        by_cases w : 40 * k ≤ x ∧ x < 40 * k + j
        · rw [if_pos w, if_pos (by omega)]
        · rw [if_neg w, if_neg (by omega)]
theorem in3n {x : Int32} (h : inR x 0 3) : ∃ i, i < 4 ∧ x = nI i := by
  obtain ⟨j, hj, e⟩ := inR_n (n := 3) (by omega) h
  exact ⟨j, by omega, e⟩
theorem s_sheet {M N : Mm} (R : Rel M N) (x y z : Int32) : WW (f_X11_sheet M x y z) (f_X12_sheet N x y z) := by
  obtain ⟨p, F, H⟩ := id R
  unfold f_X11_sheet f_X12_sheet f_X11_sheet_22 f_X12_sheet_30
  rw [e_isSheet, bd_s, show f_X12_in x.toInt64 (0 : Int64) (3 : Int64) = some (b2 (inR x 0 3)) from e_inI x 0 3, bd_s, e_isAmong, bd_s, show f_X12_in y.toInt64 (0 : Int64) (2 : Int64) = some (b2 (inR y 0 2)) from e_inI y 0 2, bd_s]
  by_cases g1 : inR x 0 3
  · rw [if_neg (fun q => b2_0.mp q g1), if_neg (fun q => b2_0.mp q g1)]
    by_cases g2 : inR y 0 2
    · rw [if_neg (fun q => b2_0.mp q g2), if_neg (fun q => b2_0.mp q g2)]
      by_cases g3 : z ≤ 40
      · rw [if_pos g3, if_pos g3]
        by_cases g4 : 0 ≤ z
        · rw [if_pos g4, if_pos g4]
          obtain ⟨k, hk, rfl⟩ := in3n g1
          obtain ⟨n, hn, rfl⟩ := inR_n (n := 2) (by omega) g2
          obtain ⟨w, hw, rfl⟩ := inR_n (v := z) (n := 40) (by omega) ⟨g4, g3⟩
          unfold f_X8_renew
          have ci : (nI k).toNatClampNeg = k := nI_clamp (by omega)
          rw [ck_n hk (by omega), ck_n hk (by omega), ci]
          simp only [wr_e, bd_s]
          obtain ⟨q2, l1, l2⟩ := sheet_loop (N := wI (wI N 16 k (nI n)) 17 k (nI w)) (g := N.1 18) hk FU 0 (N.1 18) (by omega) (by decide) (fun x => by rw [if_neg (by omega)])
          have hw0 : wR (wI (wI N 16 k (nI n)) 17 k (nI w)) 18 (N.1 18) = wI (wI N 16 k (nI n)) 17 k (nI w) := by
            refine Prod.ext (funext fun b => ?_) rfl
            by_cases e : b = 18
            · subst e
              rw [wR_row, wI_o (by decide), wI_o (by decide)]
            · rw [wR_ne e]
          rw [hw0] at l1
          rw [show f_X12_sheet_56 (nI k) FU (wI (wI N 16 k (nI n)) 17 k (nI w)) 0 = _ from l1]
          have mo : ∀ b, b ≠ 133 + 2 * k → b ≠ 134 + 2 * k → (fillI (wI (wI (wI M (132 + 1 + 2 * k) 0 1) (132 + 1 + 2 * k) 3 (nI n)) (132 + 1 + 2 * k) 1 (nI w)) (132 + 1 + 2 * k + 1) 40 0).1 b = M.1 b := fun b q1 q2 => by
            funext j
            rw [mF, if_neg (by omega), mIn (by omega), mIn (by omega), mIn (by omega)]
          have no : ∀ b, b ≠ 16 → b ≠ 17 → b ≠ 18 → (wR (wI (wI N 16 k (nI n)) 17 k (nI w)) 18 q2).1 b = N.1 b := fun b q1 q2 q3 => by rw [wR_ne q3, wI_o q2, wI_o q1]
          refine ⟨_, _, _, rfl, rfl, p, F, H.st (fun b q0 q1 q2 q3 => mo b (by omega) (by omega)) (fun j hj => by rw [mo 0 (by omega) (by omega)]) (fun b q0 q9 q16 => no b (by omega) (by omega) (by omega)) (fun j q1 q2 => by rw [no 0 (by decide) (by decide) (by decide)]) (H.2.2.2.2.2.1.c (mo 1 (by omega) (by omega)) (mo 2 (by omega) (by omega)) (no 9 (by decide) (by decide) (by decide)) (by rw [no 0 (by decide) (by decide) (by decide)]) (by rw [no 0 (by decide) (by decide) (by decide)])) (fun j hj => ?_) (by rw [mo 0 (by omega) (by omega), no 0 (by decide) (by decide) (by decide)]; exact H.2.2.2.2.2.2.2.2.1)⟩
          have n16 : (wR (wI (wI N 16 k (nI n)) 17 k (nI w)) 18 q2).1 16 = upd (N.1 16) k (nI n) := by rw [wR_ne (by decide), wI_o (by decide), wI_R, wR_row]
          have n17 : (wR (wI (wI N 16 k (nI n)) 17 k (nI w)) 18 q2).1 17 = upd (N.1 17) k (nI w) := by rw [wR_ne (by decide), wI_R, wR_row, wI_o (by decide)]
          rw [n16, n17, wR_row]
          by_cases e : j = k
          · subst e
            rw [upd_eq, upd_eq]
            refine Or.inr ⟨n, w, hn, hw, rfl, ?_, ?_, ?_, rfl, fun i hi => ?_⟩
            · rw [mF, if_neg (by omega), mIn (by omega), mIn (by omega), show 132 + 1 + 2 * j = 133 + 2 * j by omega, mIs]
            · rw [mF, if_neg (by omega), mIn (by omega), show 132 + 1 + 2 * j = 133 + 2 * j by omega, mIs]
            · rw [mF, if_neg (by omega), show 132 + 1 + 2 * j = 133 + 2 * j by omega, mIs]
            · rw [mF, if_pos ⟨by omega, hi⟩, l2, if_pos (by omega)]
          · rw [upd_ne e, upd_ne e, mo (133 + 2 * j) (by omega) (by omega), mo (134 + 2 * j) (by omega) (by omega)]
            rcases H.2.2.2.2.2.2.2.1 j hj with q | ⟨n2, z2, h1, h2, h3, h4, h5, h6, h7, h8⟩
            · exact Or.inl q
            · exact Or.inr ⟨n2, z2, h1, h2, h3, h4, h5, h6, h7, fun i hi => by rw [h8 i hi, l2, if_neg (by omega)]⟩
        · rw [if_neg g4, if_neg g4]
          exact WW.no R _
      · rw [if_neg g3, if_neg g3]
        exact WW.no R _
    · rw [if_pos (b2_0.mpr g2), if_pos (b2_0.mpr g2)]
      exact WW.no R _
  · rw [if_pos (b2_0.mpr g1), if_pos (b2_0.mpr g1)]
    exact WW.no R _
theorem lane8 (x : Int32) : (x <<< ((24 : Int32) &&& 31)) >>> ((24 : Int32) &&& 31) = x.toInt8.toInt32 := by
  apply Int32.toBitVec_inj.mp
  rw [Int32.toBitVec_shiftRight, Int32.toBitVec_shiftLeft, show ((24 : Int32) &&& 31).toBitVec.smod 32 = 24#32 by decide, Int8.toBitVec_toInt32, Int32.toBitVec_toInt8]
  apply BitVec.eq_of_getLsbD_eq
  intro i hi
  by_cases h : i < 8
  · have h2 : 24 + i < 32 := by omega
    simp [BitVec.getElem_signExtend, BitVec.getElem_sshiftRight, BitVec.msb_eq_getLsbD_last, hi, h, h2]
  · have h2 : ¬ 24 + i < 32 := by omega
    simp [BitVec.getElem_signExtend, BitVec.getElem_sshiftRight, BitVec.msb_eq_getLsbD_last, hi, h, h2]
theorem lane16 (x : Int32) : (x <<< ((16 : Int32) &&& 31)) >>> ((16 : Int32) &&& 31) = x.toInt16.toInt32 := by
  apply Int32.toBitVec_inj.mp
  rw [Int32.toBitVec_shiftRight, Int32.toBitVec_shiftLeft, show ((16 : Int32) &&& 31).toBitVec.smod 32 = 16#32 by decide, Int16.toBitVec_toInt32, Int32.toBitVec_toInt16]
  apply BitVec.eq_of_getLsbD_eq
  intro i hi
  by_cases h : i < 16
  · have h2 : 16 + i < 32 := by omega
    simp [BitVec.getElem_signExtend, BitVec.getElem_sshiftRight, BitVec.msb_eq_getLsbD_last, hi, h, h2]
  · have h2 : ¬ 16 + i < 32 := by omega
    simp [BitVec.getElem_signExtend, BitVec.getElem_sshiftRight, BitVec.msb_eq_getLsbD_last, hi, h, h2]
theorem s_lay {M N : Mm} (R : Rel M N) (x y z : Int32) : WW (f_X11_lay M x y z) (f_X12_lay N x y z) := by
  obtain ⟨p, F, H⟩ := id R
  unfold f_X11_lay f_X12_lay
  rw [e_isSheet, bd_s, show f_X12_in x.toInt64 (0 : Int64) (3 : Int64) = some (b2 (inR x 0 3)) from e_inI x 0 3, bd_s]
  by_cases g1 : inR x 0 3
  · rw [if_neg (fun q => b2_0.mp q g1), if_neg (fun q => b2_0.mp q g1)]
    obtain ⟨k, hk, rfl⟩ := in3n g1
    have ci : (nI k).toNatClampNeg = k := nI_clamp (by omega)
    rw [ck_n hk (by omega), ck_n hk (by omega), ci, nm_x, show 132 + 1 + 2 * k = 133 + 2 * k by omega]
    rcases H.2.2.2.2.2.2.2.1 k hk with ⟨q1, q2⟩ | ⟨n, w, hn, hw, h3, h4, h5, h6, h7, h8⟩
    · rw [q1, q2, if_pos rfl, if_pos rfl]
      exact WW.no R _
    · rw [h3, h4, if_neg (by decide), if_neg (nI_ne4 (by omega)), h6, h7, e_isAmong, bd_s, show f_X12_in y.toInt64 (0 : Int64) ((nI w - 1).toInt64) = some (b2 (inR y 0 (nI w - 1))) from e_inI y 0 (nI w - 1), bd_s]
      by_cases g2 : inR y 0 (nI w - 1)
      · rw [if_neg (fun q => b2_0.mp q g2), if_neg (fun q => b2_0.mp q g2)]
        obtain ⟨j, hj, rfl⟩ := cnt_n (by omega) g2
        have key : ∀ v : Int32, WW (some (1, wI M (133 + 2 * k + 1) j v)) (f_X12_lay_99 N (40 * nI k + nI j) v) := by
          intro v
          unfold f_X12_lay_99
          rw [show (40 : Int32) * nI k = nI (40 * k) from pk_mul 40 k, nI_add, ck_n (by omega) (by omega), nI_clamp (by omega), wr_e]
          refine ⟨_, _, _, rfl, rfl, p, F, H.st (fun b q0 q1 q2 q3 => wI_o (by omega)) (fun j hj => by rw [wI_o (by omega)]) (fun b q0 q9 q16 => wI_o (by omega)) (fun j q1 q2 => by rw [wI_o (by decide)]) (H.2.2.2.2.2.1.c (wI_o (by omega)) (wI_o (by omega)) (wI_o (by decide)) (by rw [wI_o (by decide)]) (by rw [wI_o (by decide)])) (fun i hi => ?_) (by rw [wI_o (by omega), wI_o (by decide)]; exact H.2.2.2.2.2.2.2.2.1)⟩
          rw [wI_o (show (16 : Nat) ≠ 18 by decide), wI_o (show (17 : Nat) ≠ 18 by decide), wI_o (show 133 + 2 * i ≠ 133 + 2 * k + 1 by omega)]
          by_cases e : i = k
          · subst e
            refine Or.inr ⟨n, w, hn, hw, h3, h4, h5, h6, h7, fun l hl => ?_⟩
            by_cases e2 : l = j
            · subst e2
              rw [mIs, show 134 + 2 * i = 133 + 2 * i + 1 by omega, mIs]
            · rw [mIn (by omega), mIn (by omega)]
              exact h8 l hl
          · rw [wI_o (by omega)]
            rcases H.2.2.2.2.2.2.2.1 i hi with q | ⟨n2, z2, h1, h2, h3, h4, h5, h6, h7, h8⟩
            · exact Or.inl q
            · exact Or.inr ⟨n2, z2, h1, h2, h3, h4, h5, h6, h7, fun l hl => by rw [h8 l hl, mIn (by omega)]⟩
        unfold f_X8_put f_X8_put_61
        rw [h5, ck_n (show j < 40 by omega) (by omega), ck_n (show j < 40 by omega) (by omega), ck_n (show j < 40 by omega) (by omega), nI_clamp (by omega), lane8, lane16]
        simp only [wr_e]
        by_cases u0 : nI n = 0
        · rw [if_pos u0, if_pos u0, bd_s]
          exact key _
        · rw [if_neg u0, if_neg u0]
          by_cases u1 : nI n = 1
          · rw [if_pos u1, if_pos u1, bd_s]
            exact key _
          · rw [if_neg u1, if_neg u1, bd_s]
            exact key _
      · rw [if_pos (b2_0.mpr g2), if_pos (b2_0.mpr g2)]
        exact WW.no R _
  · rw [if_pos (b2_0.mpr g1), if_pos (b2_0.mpr g1)]
    exact WW.no R _
theorem s_end {M N : Mm} (R : Rel M N) (x : Int32) : WW (f_X11_end M x) (f_X12_end N x) := by
  obtain ⟨p, F, H⟩ := id R
  obtain ⟨⟨n, n4, t1, t2, t3⟩, t4⟩ := H.2.2.2.2.2.1
  unfold f_X11_end f_X12_end f_X9_cut
  rw [e_isAmong, bd_s, t1, t2, show f_X12_in x.toInt64 (0 : Int64) ((nI n).toInt64) = some (b2 (inR x 0 (nI n))) from e_inI x 0 (nI n), bd_s]
  by_cases g1 : inR x 0 (nI n)
  · rw [if_neg (fun q => b2_0.mp q g1), if_neg (fun q => b2_0.mp q g1)]
    obtain ⟨j, hj, rfl⟩ := inR_n (by omega) g1
    rw [nm_x, wr_e, bd_s, nm_x, wr_e]
    refine ⟨_, _, _, rfl, rfl, p, F, H.st (fun b q0 q1 q2 q3 => wI_o q1) (fun j hj => by rw [wI_o (by decide)]) (fun b q0 q9 q16 => wI_o q0) (fun j q1 q2 => mIn (by omega)) ⟨⟨j, by omega, mIs _ _ _ _, mIs _ _ _ _, fun i hi => ?_⟩, ?_⟩ (H.2.2.2.2.2.2.2.1.c (fun b q1 q2 => wI_o (by omega)) (wI_o (by decide)) (wI_o (by decide)) (wI_o (by decide))) (by rw [wI_o (by decide), mIn (by decide)]; exact H.2.2.2.2.2.2.2.2.1)⟩
    · rw [wI_o (by decide), wI_o (by decide)]
      exact t3 i (by omega)
    · rw [mIn (by decide), mIn (by decide)]
      exact t4
  · rw [if_pos (b2_0.mpr g1), if_pos (b2_0.mpr g1)]
    exact WW.no R _
