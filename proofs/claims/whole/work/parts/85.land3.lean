theorem land_yes {p F F2 hi : Nat} {M N M0 N0 Mf Nf X Y : Mm} {x : Int32} (H : RelP p F M N) (D : DR (lx (1 - p)) X Y) (hMf : TXo X Mf) (hNf : TYo Y Nf) (hX : ∀ j, j ≠ 1 → (j < lx (1 - p) ∨ lx (1 - p) + 36 ≤ j) → X.1 j = M0.1 j) (hY : YO N0 Y) (hM : ∀ j, j ≠ 1 → (j < lx (1 - p) ∨ lx (1 - p) + 36 ≤ j) → M0.1 j = M.1 j) (hN : ∀ j, j ≠ 0 → (j < 5 ∨ 8 < j) → N0.1 j = N.1 j) (hN0 : ∀ j, (j < 11 ∨ 24 < j) → N0.1 0 j = N.1 0 j) (hhi : X.1 1 11 = nI hi) (hF : X.1 (lx (1 - p)) 0 = nI F2) (h12 : 1 ≤ F2 ∧ F2 ≤ 10) (hi9 : hi ≤ 9) (hlt : hi < F2) (e3 : Mf.1 1 3 = 0) (e19 : Nf.1 0 19 = 0) (e2 : Mf.1 1 2 = x) : ∃ r M2 N2, landT Mf = some (r, M2) ∧ f_X12_land_140 Nf x = some (r, N2) ∧ Rel M2 N2 := by
  have hp := H.1.1
  have hl : (lx p = 141 ∧ lx (1 - p) = 177) ∨ (lx p = 177 ∧ lx (1 - p) = 141) := by unfold lx; omega
  have r0 : Mf.1 0 = M.1 0 := by rw [hMf.row (by decide), hX 0 (by decide) (by omega), hM 0 (by decide) (by omega)]
  unfold f_X12_land_140 landT
  simp only [wr_e]
  rw [mIn (show ¬ (1 = 1 ∧ 3 = 1) by decide), e3, if_pos rfl, mIn (show ¬ (0 = 0 ∧ 19 = 17) by decide), mIn (show ¬ (0 = 0 ∧ 19 = 18) by decide), mIn (show ¬ (0 = 0 ∧ 19 = 17) by decide), e19, if_pos (by decide), wI_o (show 0 ≠ 1 by decide), r0, H.1.2.1, H.1.2.2.1]
  obtain ⟨N3, t1, t2, t3, t4, t5, t6, t7, t8, t9, t10, t11⟩ := e_takes (wI (wI Nf 0 17 0) 0 18 0)
  rw [t1, bd_s]
  have yr : ∀ j, j ≠ 0 → (wI (wI Nf 0 17 0) 0 18 0).1 j = Y.1 j := fun j hj => by rw [wI_o hj, wI_o hj, hNf.row hj]
  have ys : ∀ j, j ≠ 17 → j ≠ 18 → j < 19 → (wI (wI Nf 0 17 0) 0 18 0).1 0 j = Y.1 0 j := fun j q1 q2 q3 => by rw [mIn (by omega), mIn (by omega), hNf 0 j (by omega)]
  have c35 : (0 : Int32).toNatClampNeg = 0 := rfl
  have c36 : (1 : Int32).toNatClampNeg = 1 := rfl
  have hb : vp_nar .boolean (0 : Int32) = 0 := rfl
  rw [c35, c36, hb]
  rw [show (wI (wI (wI (wI (wI (wI Mf 1 1 0) 0 9 (nI (1 - p))) 0 10 (nI p)) 98 0 0) 35 0 0) 35 1 0).1 1 2 = x by rw [wI_o (by decide), wI_o (by decide), wI_o (by decide), wI_o (by decide), wI_o (by decide), mIn (by decide), e2]]
  refine ⟨x, _, _, rfl, rfl, 1 - p, F2, land_in H D hhi hF h12 hi9 hlt (fun c q0 q1 q98 q35 q => ?_) (fun j hj => ?_) ?_ ?_ ?_ ?_ (fun k hk => ?_) ?_ ?_ (fun c q0 q1 q2 q3 q4 q15 q => ?_) (fun j hj => ?_) (fun j hj => ?_) (fun j hj => ?_) (fun j hj => ?_) (fun k hk => ?_) ?_ ?_ ?_ (mIs _ _ _ _) ?_ ?_ ?_⟩
  · rw [wI_o q35, wI_o q35, wI_o q98, wI_o q0, wI_o q0, wI_o q1, hMf.row q1, hX c q1 q, hM c q1 q]
  · rw [wI_o (by omega), wI_o (by omega), wI_o (by omega), wI_o (by omega), wI_o (by omega), wI_o (by omega), hMf.row (by omega)]
  · rw [wI_o (by decide), wI_o (by decide), wI_o (by decide), mIn (by decide), mIs]
  · rw [wI_o (by decide), wI_o (by decide), wI_o (by decide), mIs]
  · rw [wI_o (by decide), wI_o (by decide), wI_o (by decide), mIn (by decide), mIn (by decide), wI_o (by decide), r0]
  · rw [wI_o (by decide), wI_o (by decide), mIs]
  · have hk2 : k = 0 ∨ k = 1 := by omega
    rcases hk2 with rfl | rfl
    · rw [mIn (by decide), mIs]
    · rw [mIs]
  · rw [wI_o (by decide), wI_o (by decide), wI_o (by decide), wI_o (by decide), wI_o (by decide), mIs]
  · rw [wI_o (by decide), wI_o (by decide), wI_o (by decide), wI_o (by decide), wI_o (by decide), mIn (by decide), e3]
  · rw [wI_o q0, t2 c q0 q1 q2 q3 q4 q15, yr c q0, hY.1 c q0 q, hN c q0 q]
  · rw [wI_o (by decide), t3 j hj, yr 5 (by decide)]
  · rw [wI_o (by decide), t4 j hj, yr 8 (by decide)]
  · rw [wI_o (by decide), t5 j hj, yr 6 (by decide)]
  · rw [wI_o (by decide), t6 j hj, yr 7 (by decide)]
  · rw [wI_o (by decide), t7 k hk]
  · rw [mIn (by decide), t8, ys 12 (by decide) (by decide) (by decide)]
  · rw [mIn (by decide), t9, ys 11 (by decide) (by decide) (by decide)]
  · rw [mIn (by decide), t10]
  · rw [mIn (by decide), t11 17 (by decide) (by decide) (by decide), mIn (by decide), mIs]
  · rw [mIn (by decide), t11 18 (by decide) (by decide) (by decide), mIs]
  · rw [mIn (by decide), t11 35 (by decide) (by decide) (by decide), mIn (by decide), mIn (by decide), hNf 0 35 (by decide), hY.2 35 (by decide), hN0 35 (by decide)]
