theorem v00 (c : Nat → Nat) : ∀ n, pB (Nat.testBit 0) n = 0 ∧ vB c (Nat.testBit 0) n = 0 := by
  intro n
  induction n with
  | zero => exact ⟨rfl, rfl⟩
  | succ n ih =>
    show pB (Nat.testBit 0) n + (Nat.testBit 0 n).toNat = 0 ∧ vB c (Nat.testBit 0) n + (Nat.testBit 0 n).toNat * c n = 0
    rw [ih.1, ih.2, Nat.zero_testBit]
    simp
theorem nd_DI (R Tr : Pg) (T s h0 t F : Nat) : DI (fun i => nd R Tr T s i h0 t) F := by
  intro i hi
  show nd R Tr T s i h0 t = -4 ∨ ∃ v, v ≤ 99 ∧ nd R Tr T s i h0 t = nI v
  unfold nd
  by_cases g : suit R Tr (mo 0 s i) ∧ hdN R s i + (dm R T s i h0 t - hdN R s i) ≤ 99
  · rw [if_pos g]
    exact Or.inr ⟨_, by omega, rfl⟩
  · rw [if_neg g]
    exact Or.inl rfl
theorem wR_2self (N : Mm) : wR (wR N 12 (N.1 12)) 1 (N.1 1) = N := by
  refine Prod.ext (funext fun b => ?_) rfl
  by_cases e1 : b = 1
  · subst e1
    rw [wR_row]
  · rw [wR_ne e1]
    by_cases e : b = 12
    · subst e
      rw [wR_row]
    · rw [wR_ne e]
theorem s_crews {M N : Mm} (R : Rel M N) (x1 x2 x3 x4 : Int32) : WW (f_X11_crews M x1 x2 x3 x4) (f_X12_crews N x1 x2 x3 x4) := by
  obtain ⟨p, F, H⟩ := id R
  obtain ⟨h, hh, e1, e2⟩ := H.hr
  have hF := H.1.2.2.2.2.1
  have hlx : lx p = 141 ∨ lx p = 177 := by have := H.1.1; unfold lx; omega
  obtain ⟨T, hT1, hT2, eT⟩ := H.2.2.1.2.1
  unfold f_X11_crews f_X12_crews f_X11_crews_35 f_X12_crews_40
  rw [e_isSide, e_ySide, bd_s, bd_s, H.nX, e_yAhead, bd_s, bd_s, e_isAmong, bd_s, e_isAmong, bd_s, show f_X12_in x3.toInt64 (0 : Int64) (10 : Int64) = some (b2 (inR x3 0 10)) from e_inI x3 0 10, bd_s, show f_X12_in x4.toInt64 (0 : Int64) (2 : Int64) = some (b2 (inR x4 0 2)) from e_inI x4 0 2, bd_s]
  by_cases g1 : inR x1 0 1
  · rw [if_neg (fun q => b2_0.mp q g1), if_neg (fun q => b2_0.mp q g1)]
    by_cases g2 : inR x2 (N.1 1 170) 12
    · rw [if_neg (fun q => b2_0.mp q g2), if_neg (fun q => b2_0.mp q g2)]
      by_cases g3 : inR x3 0 10
      · rw [if_neg (fun q => b2_0.mp q g3), if_neg (fun q => b2_0.mp q g3)]
        by_cases g4 : inR x4 0 2
        · rw [if_neg (fun q => b2_0.mp q g4), if_neg (fun q => b2_0.mp q g4)]
          obtain ⟨s, hs, rfl⟩ := side_n g1
          obtain ⟨t, t1, t2, rfl⟩ := now_n e1 hh g2
          obtain ⟨m3, hm3, rfl⟩ := inR_n (n := 10) (by omega) g3
          generalize hDe : (fun i => nd (N.1 1) (N.1 3) T s i h t) = D
          generalize hSe : (fun i => N.1 1 (140 + i)) = Sn
          have hD : DI D F := by rw [← hDe]; exact nd_DI _ _ _ _ _ _ _
          unfold f_X1_send
          simp only [wr_e]
          rw [H.ld]
          obtain ⟨M6, a1, H6, a3, a4, a5, a6⟩ := sendX1 (p := p) (F := F) (x4 := nI m3) hDe.symm e1 hs eT hT2 t1 t2 FU 0 (wI (wI (wI M 130 0 0) 130 1 0) 130 2 0) (by omega) (by show F < 0 + 5000; omega) (((H.m13 (by omega) (by omega)).m13 (by omega) (by omega)).m13 (by omega) (by omega)) (fun i hi => absurd hi (by omega)) (by rw [mIn (by decide), mIn (by decide), mIs]; rfl) (by rw [mIn (by decide), mIs]) (by rw [mIs])
          rw [show f_X1_send_18 (lx p) (nI s) (nI t) (nI m3) FU (wI (wI (wI M 130 0 0) 130 1 0) 130 2 0) 0 = _ from a1]
          unfold f_X1_send_68
          obtain ⟨M2, j2, G2, b1, b2, b3, b4, b5, b6, hO, b8, b9⟩ := sendX (D := D) (Sn := Sn) (M := M6) (l := lx p) (F := F) (c0 := pB (z0 D) F) (m3 := m3) (by omega) (by omega) hF hD hm3 H6.1.2.2.2.2.2.1 a3 (fun i hi => by
            have := (H6.2.1.1.2.1 i (by omega)).1
            rw [this, ← hSe, show 0 + 140 + i = 140 + i by omega]) FU 0 0 M6 (by omega) (by show m3 < 0 + 5000; omega) (fun _ _ => rfl) (Nat.pow_pos (by decide)) a4 (by rw [a5, (v00 (cN D) F).2]; rfl) (by rw [a6]; rfl) ⟨(v00 (cN D) F).1, fun i hi hb => by rw [Nat.zero_testBit] at hb; exact absurd hb (by decide), fun S hS hp => by rw [(v00 (wN D) F).2]; exact Nat.zero_le _⟩
          rw [show f_X1_send_71 (lx p) (nI m3) FU M6 0 = _ from b1, bd_s, b4, b5, b6]
          obtain ⟨q2, r2, c1, c2, c3⟩ := crewY1 (x3 := nI m3) (x4 := x4) H hDe.symm hSe.symm e1 hh hs eT hT1 hT2 t1 t2 FU 0 (N.1 12) (N.1 1) (by omega) (by show F < 0 + 5000; omega) (fun _ _ => rfl) (fun i hi => absurd hi (by omega))
          rw [wR_2self] at c1
          rw [show f_X12_crews_51 (nI s) (nI t) (nI m3) x4 FU N 0 0 0 = _ from c1]
          generalize hN2 : wR (wR N 12 q2) 1 r2 = N2
          have n0 : N2.1 0 1 = nI F := by rw [← hN2, wR_0, wR_ne (by decide)]; exact H.1.2.2.2.2.2.2
          have n12 : ∀ i, i < F → N2.1 12 i = D i := fun i hi => by rw [← hN2, wR_ne (by decide), wR_row]; exact c3 i hi
          have hR : Rel M2 N2 := ⟨p, F, H6.cg (fun b y1 y2 y3 => b2 b (by omega)) (by rw [b2 98 (by omega)]) (fun b y1 y2 y3 => by rw [← hN2, wR_ne y1, wR_ne y2]) (fun x hx => by rw [← hN2, wR_s]; exact c2 x hx)⟩
          have h2F : 2 ^ F ≤ 1024 := Nat.pow_le_pow_right (n := 2) (by decide) hF
          have hlt := hN_lt (cd D Sn) F
          unfold f_X12_crews_145 f_X12_crews_163
          rw [hm_N (cd D Sn) F hF, e_bitsOf (by omega), bd_s, bd_s, pB_lt (S := (hN (cd D Sn) F).testBit) (F := F) (fun i hi => bit_hi hlt hi) 10 hF]
          have hK1 : j2 ≤ pB (hN (cd D Sn) F).testBit F := by
            rw [← hO.1]
            exact pB_le F (fun i hi hb => by rw [hN_bit]; exact decide_eq_true ⟨hi, hO.2.1 i hi hb⟩)
          have hK2 : (∀ i, i < F → cd D Sn i → G2.testBit i = true) → pB (hN (cd D Sn) F).testBit F ≤ j2 := fun ha => by
            rw [← hO.1]
            exact pB_le F (fun i hi hb => by rw [hN_bit] at hb; exact ha i hi (of_decide_eq_true hb).2)
          have hK3 : pB (hN (cd D Sn) F).testBit F ≤ 10 := by
            have : ∀ n, pB (hN (cd D Sn) F).testBit n ≤ n := by
              intro n
              induction n with
              | zero => exact Nat.le_refl _
              | succ n ih =>
                show pB (hN (cd D Sn) F).testBit n + ((hN (cd D Sn) F).testBit n).toNat ≤ n + 1
                have := Bool.toNat_le ((hN (cd D Sn) F).testBit n)
                omega
            exact Nat.le_trans (this F) hF
          have key : ∀ m, m = j2 → WW (if x4 = 0 then some (nI (pB (z0 D) F + j2), M2) else if x4 = 1 then some (nI (vB (cN D) G2.testBit F), M2) else some (nI G2, M2)) (f_X12_crews_175 N2 x4 (nI (pB (z0 D) F)) (nI (hN (cd D Sn) F)) (nI m) FU (-4) 0 0) := by
            intro m hm
            subst hm
            obtain ⟨y8, y9, d1, d2⟩ := tryY (N := N2) (F := F) (m := m) (x4 := x4) (x5 := nI (pB (z0 D) F)) (Sn := Sn) hF (by omega) hD n0 n12 FU 0 (-4) 0 (by omega) (by show 2 ^ F < 0 + 5000; omega) (Or.inl ⟨rfl, fun y hy => absurd hy (by omega)⟩)
            rw [hm_N (cd D Sn) F hF] at d1
            rw [show f_X12_crews_175 N2 x4 (nI (pB (z0 D) F)) (nI (hN (cd D Sn) F)) (nI m) FU (-4) 0 0 = _ from d1]
            unfold f_X12_crews_299 f_X12_crews_325
            have hV : Vd D Sn F m G2 := ⟨hO.2.1, hO.1⟩
            have hyy : y8 = nI G2 ∧ y9 = nI (vB (cN D) G2.testBit F) := by
              rcases d2 with ⟨u1, u2⟩ | ⟨b, u1, u2, u3, u4, u5⟩
              · exact absurd hV (u2 G2 b3)
              · have w1 := u5 G2 b3 hV
                have w2 := hO.2.2 b.testBit u2.1 u2.2
                have hw : ∀ y, y < 2 ^ F → vB (wN D) y.testBit F = vB (cN D) y.testBit F * 1024 + y := fun y hy => by
                  rw [show wN D = fun i => cN D i * 1024 + 2 ^ i from rfl, vB_W, vB_2, Nat.mod_eq_of_lt hy]
                rw [hw b u1, hw G2 b3] at w1 w2
                have e : b = G2 := by omega
                rw [u3, u4, e]
                exact ⟨rfl, rfl⟩
            rw [hyy.1, hyy.2, nI_add]
            by_cases v0 : x4 = 0
            · rw [if_pos v0, if_pos v0]
              exact WW.no hR _
            · rw [if_neg v0, if_neg v0]
              by_cases v1 : x4 = 1
              · rw [if_pos v1, if_pos v1]
                exact WW.no hR _
              · rw [if_neg v1, if_neg v1]
                exact WW.no hR _
          by_cases g5 : m3 ≤ pB (hN (cd D Sn) F).testBit F
          · rw [if_pos (nI_le g5 (by omega))]
            exact key m3 (by
              rcases b9 with z | z
              · exact z.symm
              · have := hK2 z
                omega)
          · rw [if_neg (nI_ge (by omega) (by omega))]
            exact key _ (by
              rcases b9 with z | z
              · omega
              · have := hK2 z
                omega)
        · rw [if_pos (b2_0.mpr g4), if_pos (b2_0.mpr g4)]
          exact WW.no R _
      · rw [if_pos (b2_0.mpr g3), if_pos (b2_0.mpr g3)]
        exact WW.no R _
    · rw [if_pos (b2_0.mpr g2), if_pos (b2_0.mpr g2)]
      exact WW.no R _
  · rw [if_pos (b2_0.mpr g1), if_pos (b2_0.mpr g1)]
    exact WW.no R _
