-- CREWS: THE CHEAPEST FIRST, AND ALL SETS TRIED
abbrev cd (D Sn : Nat → Int32) (i : Nat) : Prop := ¬ D i < 1 ∧ ¬ Sn i < D i
def cN (D : Nat → Int32) (i : Nat) : Nat := (D i).toNatClampNeg
def wN (D : Nat → Int32) (i : Nat) : Nat := cN D i * 1024 + 2 ^ i
def DI (D : Nat → Int32) (F : Nat) : Prop := ∀ i, i < F → D i = -4 ∨ ∃ v, v ≤ 99 ∧ D i = nI v
theorem cd_n {D Sn : Nat → Int32} {F i : Nat} (H : DI D F) (hi : i < F) (h : cd D Sn i) : cN D i ≤ 99 ∧ D i = nI (cN D i) := by
  rcases H i hi with e | ⟨v, hv, e⟩
  · exact absurd (show D i < 1 by rw [e]; decide) h.1
  · unfold cN
    rw [e, nI_clamp (by omega)]
    exact ⟨hv, rfl⟩
def CB (D Sn : Nat → Int32) (G j : Nat) (x : Int32) : Prop := (x = -1 ∧ ∀ i, i < j → cd D Sn i → G.testBit i = true) ∨ ∃ g, x = nI g ∧ g < j ∧ cd D Sn g ∧ G.testBit g = false ∧ ∀ i, i < j → cd D Sn i → G.testBit i = false → wN D g ≤ wN D i
theorem cheap {D Sn : Nat → Int32} {M : Mm} {l F G : Nat} (hF : F ≤ 10) (hD : DI D F) (h0 : M.1 l 0 = nI F) (h1 : ∀ i, i < F → M.1 131 i = D i) (h2 : ∀ i, i < F → M.1 (l + 5 + 2) i = Sn i) (h3 : M.1 130 2 = nI G) (hG : G < 1024) : ∃ x, f_X1_cheapest M l = some x ∧ CB D Sn G F x := by
  have loop : ∀ f j x, j ≤ F → F < j + f → CB D Sn G j x → ∃ y, f_X1_cheapest_4 M l f x (nI j) = some y ∧ CB D Sn G F y := by
    intro f
    induction f with
    | zero => intro j x q1 q2; omega
    | succ f ih =>
      intro j x q1 q2 H
      have st : f_X1_cheapest_4 M l (f + 1) x (nI j) = b_X1_cheapest_4 (fun x2 x3 => f_X1_cheapest_4 M l f x2 x3) M l x (nI j) := rfl
      rw [st]
      unfold b_X1_cheapest_4 f_X1_cheapest_44 f_X1_cheapest_45 f_X1_cheapest_82 f_X1_cheapest_84
      rw [h0]
      by_cases e : j = F
      · subst e
        rw [if_pos (nI_le (Nat.le_refl _) (by omega))]
        exact ⟨x, rfl, H⟩
      · have keep : (cd D Sn j → G.testBit j = true) → ∃ y, f_X1_cheapest_4 M l f x (nI (j + 1)) = some y ∧ CB D Sn G F y := fun hk => by
          refine ih (j + 1) x (by omega) (by omega) ?_
          rcases H with ⟨z1, z2⟩ | ⟨g, z1, z2, z3, z4, z5⟩
          · refine Or.inl ⟨z1, fun i hi hc => ?_⟩
            by_cases z : i = j
            · subst z; exact hk hc
            · exact z2 i (by omega) hc
          · refine Or.inr ⟨g, z1, by omega, z3, z4, fun i hi hc hb => ?_⟩
            by_cases z : i = j
            · subst z
              rw [hk hc] at hb
              exact absurd hb (by decide)
            · exact z5 i (by omega) hc hb
        have cj : (nI j).toNatClampNeg = j := nI_clamp (by omega)
        rw [if_neg (nI_ge (by omega) (by omega)), ck_n (by omega) (by omega)]
        simp only [cj, h1 j (by omega), h2 j (by omega), if_true, n1]
        by_cases g1 : D j < 1
        · rw [if_pos g1]
          exact keep (fun z => absurd g1 z.1)
        · rw [if_neg g1]
          by_cases g2 : Sn j < D j
          · rw [if_pos g2]
            exact keep (fun z => absurd g2 z.2)
          · rw [if_neg g2, if_neg (by decide), h3, show (nI G >>> (nI j &&& 31)) &&& 1 = bt (nI G) j from rfl, bt_tb hG (by omega)]
            have hc : cd D Sn j := ⟨g1, g2⟩
            by_cases g3 : G.testBit j = true
            · rw [g3, if_neg (by decide)]
              exact keep (fun _ => g3)
            · have g3 : G.testBit j = false := by simpa using g3
              rw [g3, if_pos (show nI false.toNat = 0 from rfl)]
              obtain ⟨a1, a2⟩ := cd_n hD (show j < F by omega) hc
              rcases H with ⟨z1, z2⟩ | ⟨g, z1, z2, z3, z4, z5⟩
              · rw [z1, if_pos (by decide)]
                refine ih (j + 1) (nI j) (by omega) (by omega) (Or.inr ⟨j, rfl, by omega, hc, g3, fun i hi hc2 hb => ?_⟩)
                by_cases z : i = j
                · rw [z]; exact Nat.le_refl _
                · rw [z2 i (by omega) hc2] at hb
                  exact absurd hb (by decide)
              · obtain ⟨b1, b2⟩ := cd_n hD (show g < F by omega) z3
                rw [z1, if_neg (nI_pos (by omega)), ck_n (by omega) (by omega), ck_n (by omega) (by omega), nI_clamp (by omega), h1 g (by omega), b2, a2]
                have hw : cN D g ≤ cN D j ↔ wN D g ≤ wN D j := W_lt z2 (by omega)
                by_cases g4 : cN D g ≤ cN D j
                · rw [if_pos (nI_le g4 (by omega))]
                  refine ih (j + 1) (nI g) (by omega) (by omega) (Or.inr ⟨g, rfl, by omega, z3, z4, fun i hi hc2 hb => ?_⟩)
                  by_cases z : i = j
                  · rw [z]; exact hw.mp g4
                  · exact z5 i (by omega) hc2 hb
                · rw [if_neg (nI_ge (by omega) (by omega))]
                  refine ih (j + 1) (nI j) (by omega) (by omega) (Or.inr ⟨j, rfl, by omega, hc, g3, fun i hi hc2 hb => ?_⟩)
                  by_cases z : i = j
                  · rw [z]; exact Nat.le_refl _
                  · have := z5 i (by omega) hc2 hb
                    have : ¬ wN D g ≤ wN D j := fun y => g4 (hw.mpr y)
                    omega
  exact loop FU 0 (-1) (by omega) (by show F < 0 + 5000; omega) (Or.inl ⟨rfl, fun i hi => absurd hi (by omega)⟩)
theorem or_bit (G g i : Nat) : (G ||| 2 ^ g).testBit i = (G.testBit i || decide (i = g)) := by
  rw [Nat.testBit_or, Nat.testBit_two_pow]
  by_cases e : i = g
  · simp [e]
  · simp [e, Ne.symm e]
theorem or_nI {G g : Nat} (hG : G < 1024) (hg : g < 10) : nI G ||| ((1 : Int32) <<< (nI g &&& 31)) = nI (G ||| 2 ^ g) := by
  have hlt : G ||| 2 ^ g < 2 ^ 10 := Nat.or_lt_two_pow hG (Nat.pow_lt_pow_right (by decide) hg)
  apply Int32.toBitVec_inj.mp
  apply BitVec.eq_of_getLsbD_eq
  intro i hi
  rw [Int32.toBitVec_or, BitVec.getLsbD_or, nI_bit hG, one_bit (by omega), nI_bit hlt, or_bit]
theorem sendX {D Sn : Nat → Int32} {M : Mm} {l F c0 m3 : Nat} (hl : l ≠ 130) (hl7 : l + 5 + 2 ≠ 130) (hF : F ≤ 10) (hD : DI D F) (hm3 : m3 ≤ 10) (h0 : M.1 l 0 = nI F) (h1 : ∀ i, i < F → M.1 131 i = D i) (h2 : ∀ i, i < F → M.1 (l + 5 + 2) i = Sn i) : ∀ f j G (Mi : Mm), j ≤ m3 → m3 < j + f → (∀ b, b ≠ 130 → Mi.1 b = M.1 b) → G < 2 ^ F → Mi.1 130 0 = nI (c0 + j) → Mi.1 130 1 = nI (vB (cN D) G.testBit F) → Mi.1 130 2 = nI G → Opt (wN D) (cd D Sn) F G.testBit j →
    ∃ M2 j2 G2, f_X1_send_71 l (nI m3) f Mi (nI j) = some M2 ∧ (∀ b, b ≠ 130 → M2.1 b = M.1 b) ∧ G2 < 2 ^ F ∧ M2.1 130 0 = nI (c0 + j2) ∧ M2.1 130 1 = nI (vB (cN D) G2.testBit F) ∧ M2.1 130 2 = nI G2 ∧ Opt (wN D) (cd D Sn) F G2.testBit j2 ∧ j2 ≤ m3 ∧ (j2 = m3 ∨ ∀ i, i < F → cd D Sn i → G2.testBit i = true) := by
  intro f
  induction f with
  | zero => intro j G Mi q1 q2; omega
  | succ f ih =>
    intro j G Mi q1 q2 q3 hG k0 k1 k2 hO
    have st : f_X1_send_71 l (nI m3) (f + 1) Mi (nI j) = b_X1_send_71 (fun M x5 => f_X1_send_71 l (nI m3) f M x5) l (nI m3) Mi (nI j) := rfl
    rw [st]
    unfold b_X1_send_71
    have hG10 : G < 1024 := Nat.lt_of_lt_of_le hG (Nat.pow_le_pow_right (n := 2) (by decide) hF)
    by_cases e : j = m3
    · subst e
      rw [if_pos (nI_le (Nat.le_refl _) (by omega))]
      exact ⟨Mi, j, G, rfl, q3, hG, k0, k1, k2, hO, Nat.le_refl _, Or.inl rfl⟩
    · obtain ⟨x, x1, x2⟩ := cheap (D := D) (Sn := Sn) (M := Mi) (l := l) hF hD (by rw [q3 l hl]; exact h0) (fun i hi => by rw [q3 131 (by decide)]; exact h1 i hi) (fun i hi => by rw [q3 _ hl7]; exact h2 i hi) k2 hG10
      rw [if_neg (nI_ge (by omega) (by omega)), x1, bd_s]
      rcases x2 with ⟨z1, z2⟩ | ⟨g, z1, z2, z3, z4, z5⟩
      · rw [z1, if_neg (by decide)]
        exact ⟨Mi, j, G, rfl, q3, hG, k0, k1, k2, hO, q1, Or.inr z2⟩
      · obtain ⟨a1, a2⟩ := cd_n hD z2 z3
        rw [z1, if_pos (nI_pos' (by omega))]
        simp only [wr_e]
        rw [ck_n (by omega) (by omega), nI_clamp (by omega), k0, n1, mIn (by omega), mIn (by omega), mIn (by omega), mIn (by omega), k1, k2, q3 131 (by decide), h1 g z2, a2, nI_add, or_nI hG10 (by omega), n1]
        have hO2 := hO.step (G' := (G ||| 2 ^ g).testBit) z2 z3 z4 z5 (fun i _ => or_bit G g i)
        have hv : vB (cN D) (G ||| 2 ^ g).testBit F = vB (cN D) G.testBit F + cN D g := by
          have := (rmv_sum (W := cN D) (S := (G ||| 2 ^ g).testBit) (s := g) (by rw [or_bit]; simp) F z2).2
          rw [this, vB_c (S := rmv (G ||| 2 ^ g).testBit g) (S' := G.testBit) F (fun i hi => ?_)]
          by_cases y : i = g
          · subst y
            rw [rmv_eq, z4]
          · rw [rmv_ne y, or_bit]
            simp [y]
        rw [← hv]
        refine ih (j + 1) (G ||| 2 ^ g) _ (by omega) (by omega) (fun b hb => by rw [wI_o hb, wI_o hb, wI_o hb]; exact q3 b hb) (Nat.or_lt_two_pow hG (Nat.pow_lt_pow_right (by decide) z2)) ?_ ?_ ?_ hO2
        · rw [mIn (by decide), mIn (by decide), mIs]
          rfl
        · rw [mIn (by decide), mIs]
        · rw [mIs]
