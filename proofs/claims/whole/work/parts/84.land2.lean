theorem DR0 {d : Nat} {X Y : Mm} (x0 : X.1 d 0 = 5 ∧ X.1 d 1 = 3 ∧ X.1 d 4 = 0) (x1 : ∀ h, h < 12 → X.1 (d + 1) h = 0) (x2 : X.1 (d + 2) 0 = 1 ∧ X.1 (d + 2) 1 = 0 ∧ X.1 (d + 2) 2 = 0) (x3 : X.1 (d + 5) 0 = 0) (x4 : ∀ k, k < 20 → X.1 (d + 5 + 11 + k) 0 = 0 ∧ isB (X.1 (d + 5 + 11 + k) 6)) (x5 : ∀ i, i < 10 → X.1 (d + 5 + 2) i = 0 ∧ X.1 (d + 5 + 3) i = 0 ∧ X.1 (d + 5 + 4) i = 0) (x6 : ∀ h, h < 12 → X.1 (d + 5 + 5) h = 0) (x7 : X.1 (d + 5 + 6) 0 = 0) (x8 : X.1 1 9 = 0 ∧ X.1 1 10 = 0 ∧ X.1 1 11 = 0) (y0 : Y.1 0 11 = 0 ∧ Y.1 0 12 = 5 ∧ Y.1 0 13 = 0 ∧ Y.1 0 14 = 0 ∧ Y.1 0 15 = 0) (y5 : ∀ j, j < 210 → Y.1 5 j = 0) (y6 : ∀ h, h < 12 → Y.1 6 h = 0) (y7 : ∀ t, t < 3 → Y.1 7 t = if t = 0 then 1 else 0) : DR d X Y := by
  have z : ∀ j, j < 210 → Y.1 5 (0 + j) = 0 := fun j hj => by rw [Nat.zero_add]; exact y5 j hj
  refine ⟨⟨5, by decide, by decide, x0.1, y0.2.1⟩, x0.2.1, fun h hh => by rw [x1 h hh, y6 h hh], ⟨⟨?_, ?_, ?_⟩, ⟨1, by decide, by decide, y7 0 (by decide)⟩⟩, ⟨0, 0, 0, ⟨by decide, by decide, by decide⟩, ⟨x8.2.2, y0.2.2.2.2⟩, ⟨x8.1, y0.2.2.1⟩, ⟨x8.2.1, y0.2.2.2.1⟩, ⟨0, by decide, x0.2.2, y0.1, fun h hh => absurd hh (by omega)⟩, ⟨fun s i hs q1 q2 => y5 _ (by unfold mo; omega), fun i q1 q2 => ⟨y5 _ (by omega), y5 _ (by omega)⟩⟩, fun k hk _ => y5 _ (by omega)⟩, ⟨fun k hk => ?_, fun i hi => ?_, ?_, fun h hh => ?_, ?_, fun b hb => ?_⟩, ⟨fun k hk => ?_, fun i hi => ?_, fun h hh => ?_, ⟨0, by decide, y5 _ (by decide)⟩, ⟨0, by decide, y5 _ (by decide), fun b hb => absurd hb (by omega)⟩⟩⟩
  · rw [x2.1, y7 0 (by decide)]
    rfl
  · rw [x2.2.1, y7 1 (by decide)]
    rfl
  · rw [x2.2.2, y7 2 (by decide)]
    rfl
  · refine ⟨⟨?_, (x4 k hk).2⟩, ?_, fun e => ?_⟩
    · rw [(x4 k hk).1, y5 _ (by omega)]
    · rw [y5 _ (by omega)]
      exact Or.inl rfl
    · rw [y5 _ (by omega)] at e
      exact absurd e (by decide)
  · rw [(x5 i hi).1, (x5 i hi).2.1, (x5 i hi).2.2, y5 _ (by omega), y5 _ (by omega), y5 _ (by omega)]
    exact ⟨rfl, rfl, rfl⟩
  · rw [x3, y5 _ (by decide)]
  · rw [x6 h hh, y5 _ (by omega)]
  · rw [x7]
    exact (y5 _ (by decide)).symm
  · have e : (fun x => Y.1 5 (0 + x)) 207 = 0 := y5 _ (by decide)
    rw [e] at hb
    exact absurd hb (Nat.not_lt_zero b)
  · rw [y5 _ (by omega)]
    exact ⟨Or.inl rfl, fun e => absurd e (by decide)⟩
  · rw [y5 _ (by omega)]
    decide
  · exact ⟨0, by decide, y5 _ (by omega)⟩
def landT (Mf : Mm) : Option (Int32 × Mm) := wr (wI Mf 1 1 (0 : Int32)) fun M5 => if (M5.1 1 3) = 0 then (wr (wI M5 0 9 (M5.1 0 10)) fun M8 => wr (wI M8 0 10 (M5.1 0 9)) fun M10 => wr (wI M10 98 0 (0 : Int32)) fun M12 => wr (wI M12 35 (0 : Int32).toNatClampNeg (vp_nar .boolean (0 : Int32))) fun M14 => wr (wI M14 35 (1 : Int32).toNatClampNeg (vp_nar .boolean (0 : Int32))) fun M16 => some ((M16.1 1 2), M16)) else (some (((-10 : Int32) - (M5.1 1 4)), M5))
/-- what both do with a land found at fault -/
theorem land_no {p F n c : Nat} {M N M0 N0 Mf Nf : Mm} {x : Int32} {b : Nat → Nat} (H : RelP p F M N) (hM : ∀ j, j ≠ 1 → (j < lx (1 - p) ∨ lx (1 - p) + 36 ≤ j) → M0.1 j = M.1 j) (hN : ∀ j, j ≠ 0 → (j < 5 ∨ 8 < j) → N0.1 j = N.1 j) (hN0 : ∀ j, (j < 11 ∨ 24 < j) → N0.1 0 j = N.1 0 j) (f1 : XO (lx (1 - p)) M0 Mf) (f2 : YO N0 Nf) (h1 : 1 ≤ c) (h6 : c ≤ 6) (e19 : Nf.1 0 19 = nI c) (f3 : Mf.1 1 3 = Nf.1 0 19) (f4 : Mf.1 1 4 = Nf.1 0 20) : ∃ r M2 N2, landT Mf = some (r, M2) ∧ f_X12_land_140 Nf x = some (r, N2) ∧ Rel M2 N2 := by
  have hl : (lx p = 141 ∧ lx (1 - p) = 177) ∨ (lx p = 177 ∧ lx (1 - p) = 141) := by have := H.1.1; unfold lx; omega
  have c0 : ¬ nI c = 0 := nI_ne0 (by omega) (by omega)
  unfold f_X12_land_140 landT
  simp only [wr_e]
  rw [mIn (show ¬ (1 = 1 ∧ 3 = 1) by decide), f3, e19, if_neg c0, mIn (show ¬ (1 = 1 ∧ 4 = 1) by decide), f4, mIn (show ¬ (0 = 0 ∧ 19 = 17) by decide), mIn (show ¬ (0 = 0 ∧ 19 = 18) by decide), mIn (show ¬ (0 = 0 ∧ 19 = 17) by decide), e19, if_neg (nI_nle (by omega) (by omega)), mIn (show ¬ (0 = 0 ∧ 20 = 18) by decide), mIn (show ¬ (0 = 0 ∧ 20 = 17) by decide)]
  refine ⟨_, _, _, rfl, rfl, p, F, H.tx (fun j q1 q2 => ?_) (fun j q1 q2 => ?_) (fun j q => ?_) ⟨⟨0, by decide, mIs _ _ _ _, ?_, fun j hj => absurd hj (by omega)⟩, ?_⟩ (fun k hk => ?_)⟩
  · rw [wI_o q1, f1.1 j q1 q2, hM j q1 q2]
  · rw [wI_o q1, wI_o q1, f2.1 j q1 q2, hN j q1 q2]
  · rw [mIn (by omega), mIn (by omega), f2.2 j (by omega), hN0 j q]
  · rw [mIn (by decide)]
    exact mIs _ _ _ _
  · rw [mIn (by decide), mIs, f3, e19]
  · rw [wI_o (by omega)]
    exact f1.2 k hk
