theorem ln_house {g : Gg} (hg : OKg g) {X Y M N : Mm} {st q : Nat} (A : AS g X Y st q M N) (D : DR g.2.2.1 X Y) : LSg g q (f_X9_readHouse M g.2.2.1) (bd (f_X12_readHouse N) f_X12_readLine_82) := by
  have hd : 141 ≤ g.2.2.1 := by have := hg.2.2.2.1; omega
  obtain ⟨hi, sd, ss, ⟨u1, u2, u3⟩, ⟨e1, e2⟩, -, -, ⟨c, c8, c1, c2, -⟩, -⟩ := D.2.2.2.2.1
  have n11 : N.1 0 11 = nI c := by rw [A.1.2.1.1 0 11 (by decide)]; exact c2
  have x4 : M.1 g.2.2.1 4 = nI c := by rw [A.1.1.1 _ 4 (by omega)]; exact c1
  obtain ⟨B5a, B5b, B5c⟩ := A.bad (c := 5) (by decide) (by decide)
  unfold f_X9_readHouse
  rw [x4]
  by_cases hc : c < 8
  · obtain ⟨i1, i2⟩ := i2c hc
    have i16 : ∀ (x : Option Mm), ck (inn (nI (2 * c)) 16) x = x := fun x => ck_n (by omega) (by decide)
    rw [if_pos (show nI c < 8 from nI_lt (b := 8) hc (by omega)), cHo hc n11]
    rcases tok_sim2 hg A.1 with ⟨M1, N1, st1, q1, t1, t2, t3, A1⟩ | ⟨M1, N1, t1, t2, F, T⟩
    · have m11 : N1.1 0 11 = nI c := by rw [A1.1.2.1.1 0 11 (by decide)]; exact c2
      rw [t2, bd_s]
      simp only [m11, i1, i16, nI_clamp (show 2 * c < 2 ^ 31 by omega), bd_s]
      rcases fur_A A1 t1 u1 e1 e2 with ⟨v, v9, v8, f1, f2⟩ | ⟨M3, N3, f1, f2, F, h11⟩
      · rw [f1, f2, bd_s, bd_s]
        dsimp only
        rw [if_neg (by decide), nm_x]
        have A2 := ((A1.wX (a := 1) (k := 11) (OX.s (by decide)) (nI (max hi v))).wY (a := 0) (k := 15) (Or.inr (by decide)) (nI (max hi v)))
        have D2 : DR g.2.2.1 (wI X 1 11 (nI (max hi v))) (wI Y 0 15 (nI (max hi v))) := D.said hd (Or.inr (Or.inr ⟨rfl, rfl, max hi v, by omega, rfl, fun hi2 h9 e3 => by
          rw [e2] at e3
          have : hi = hi2 := (nI_eq (by omega) (by omega)).mp e3
          omega⟩))
        have y11 : (wI Y 0 15 (nI (max hi v))).1 0 11 = nI c := by rw [mIn (by decide)]; exact c2
        have y15 : (wI Y 0 15 (nI (max hi v))).1 0 15 = nI (max hi v) := mIs _ _ _ _
        have xx4 : (wI X 1 11 (nI (max hi v))).1 g.2.2.1 4 = nI c := by rw [wI_o (by omega)]; exact c1
        have vv8 : (wI M1 1 11 (nI (max hi v))).1 1 8 = nI v := by rw [mIn (by decide)]; exact v8
        generalize wI X 1 11 (nI (max hi v)) = X3 at *
        generalize wI Y 0 15 (nI (max hi v)) = Y3 at *
        generalize wI M1 1 11 (nI (max hi v)) = M2 at *
        generalize wI N1 0 15 (nI (max hi v)) = N2 at *
        rw [vv8]
        have A2' := A2.wY (a := 8) (k := 2 * c) (Or.inl (by decide)) (nI v)
        unfold f_X9_readNumber f_X9_readNumber_20 f_X9_readNumber_21
        rcases tok_sim2 hg A2'.1 with ⟨M3, N3, st3, q3, s1, s2, s3, A3⟩ | ⟨M3, N3, s1, s2, F, T⟩
        · rw [s1, s2, bd_s, bd_s]
          dsimp only
          rw [if_neg (by decide)]
          have n311 : N3.1 0 11 = nI c := by rw [A3.1.2.1.1 0 11 (by decide), wI_o (by decide)]; exact y11
          unfold f_X12_number f_X12_number_21
          rcases num_sim2 (lo := 0) (hi := 9) A3 (by decide) (by decide) with ⟨w, w1, w2, w3, w4, w5, w6⟩ | ⟨M4, N4, w5, w6, F, h11⟩
          · rw [show f_X9_isNumber M3 0 9 = _ from w5, show f_X12_looks N3 0 9 = _ from w6, bd_s, bd_s]
            dsimp only
            rw [if_neg (by decide), ck_t (Or.inr rfl), bd_s, if_pos A3.1.2.2.2.2.1, w4]
            dsimp only
            rw [if_neg (by decide), nm_x, w3, bd_bd]
            simp only [bd_s]
            rcases tok_sim2 hg A3.1 with ⟨M4, N4, st4, q4, r1, r2, r3, A4⟩ | ⟨M4, N4, r1, r2, F, T⟩
            · have n411 : N4.1 0 11 = nI c := by rw [A4.1.2.1.1 0 11 (by decide), wI_o (by decide)]; exact y11
              rw [r2, bd_s]
              unfold hK3
              dsimp only
              rw [n411]
              simp only [h75 hc]
              rcases side_A hg A4 r1 with ⟨s, hs, k1, A5, k2⟩ | ⟨M5, N5, k1, k2, F⟩
              · rw [k1, k2, bd_s, bd_bd]
                dsimp only
                have m54 : (wI M4 1 8 (nI s)).1 g.2.2.1 4 = nI c := by rw [A5.1.1.1 _ 4 (by omega)]; exact xx4
                have last : ∀ y : Int32, LSg g q (f_X9_readHouse_74 (wI M4 1 8 (nI s)) g.2.2.1 (nI v) y) (bd (f_X12_step N4) fun N => f_X12_readLine_82 (wI (wI N 8 (2 * c + 1) y) 0 11 ((wI N 8 (2 * c + 1) y).1 0 11 + 1))) := fun y => by
                  unfold f_X9_readHouse_74
                  rw [e_putHouse m54 hc, bd_s]
                  refine (seq_semi (P := fun N => wI (wI N 8 (2 * c + 1) y) 0 11 ((wI N 8 (2 * c + 1) y).1 0 11 + 1)) hg (((A5.1.wX (a := g.2.2.1 + 3) (k := c) (OX.d (by omega) (by omega) (by omega) (by omega)) (nI v)).wX (a := g.2.2.1 + 4) (k := c) (OX.d (by omega) (by omega) (by omega) (by omega)) y).wX (a := g.2.2.1) (k := 4) (OX.d (by omega) (by omega) (by omega) (by omega)) (nI (c + 1))) ((PW.w (a := 8) (k := 2 * c + 1) (Or.inl (by decide)) y).c (PW11 (c := c) ?_)) (D2.house hd hc y11 y15 (by omega) (Nat.le_max_right hi v)) ?_).ck
                  · rw [wI_o (by decide), wI_o (by decide)]
                    exact y11
                  · have := A1.2.1; have := A3.2.1; have := A4.2.1
                    omega
                rw [if_neg (by decide), mIs]
                by_cases z : nI s = 0
                · rw [if_pos z]
                  simp only [bd_s, if_pos z]
                  exact last _
                · rw [if_neg z]
                  simp only [bd_s, if_neg z]
                  exact last _
              · rw [k1, k2, bd_s, bd_s]
                dsimp only
                rw [if_pos rfl, if_pos (show nI 0 = 0 from rfl)]
                exact LSg.bad (K := fun N5 => f_X12_readLine_82 (wI (wI N5 8 (2 * c + 1) (0 - nI w)) 0 11 ((wI N5 8 (2 * c + 1) (0 - nI w)).1 0 11 + 1))) F BS_75
            · unfold f_X9_readSide
              rw [r1, r2, bd_s, bd_s]
              dsimp only
              rw [if_pos rfl, bd_s]
              dsimp only
              rw [if_pos rfl]
              exact LSg.bad2 F (hK3_b hg hc F.2.1 (by rw [T 0 11 (by decide), wI_o (by decide)]; exact y11) _)
          · rw [show f_X9_isNumber M3 0 9 = _ from w5, show f_X12_looks N3 0 9 = _ from w6, bd_s, bd_s]
            dsimp only
            rw [if_pos rfl, ck_t (Or.inl rfl), bd_s, if_neg F.2.1.ne.1, step_b F.2.1, bd_s, bd_s]
            dsimp only
            rw [if_pos rfl]
            exact LSg.bad2 F (hK3_b hg hc F.2.1 (h11.trans n311) _)
        · rw [s1, s2, bd_s, bd_s]
          dsimp only
          rw [if_pos rfl, ck_t (Or.inl rfl), bd_s]
          dsimp only
          rw [if_pos rfl, number_b F.2.1, bd_s]
          exact LSg.bad2 F (hK3_b hg hc F.2.1 (by rw [T 0 11 (by decide), wI_o (by decide)]; exact y11) _)
      · rw [f1, f2, bd_s, bd_s]
        dsimp only
        rw [if_pos rfl]
        exact LSg.bad2 F (hK2_b hg hc F.2.1 (h11.trans m11) _)
    · have m11 : N1.1 0 11 = nI c := by rw [T 0 11 (by decide)]; exact c2
      obtain ⟨v, fb⟩ := fur_b F.2.1
      obtain ⟨b1, b3, b4⟩ := F.2.1.w (a := 0) (k := 15) (Or.inr (by decide)) v
      unfold f_X9_readFurlong f_X9_readNumber f_X9_readNumber_20 f_X9_readNumber_21
      rw [t1, t2, bd_s, bd_s]
      simp only [m11, i1, i16, nI_clamp (show 2 * c < 2 ^ 31 by omega), bd_s, fb]
      rw [if_pos trivial, ck_t (Or.inl rfl), bd_s]
      dsimp only
      rw [if_pos rfl, bd_s]
      dsimp only
      rw [if_pos rfl]
      obtain ⟨N2, a1, a2, a3, a4⟩ := hK2_b hg hc b1 (by rw [mIn (by decide)]; exact m11) 0
      exact LSg.bad2 F ⟨N2, a1, a2, a3.trans b3, a4.trans b4⟩
  · obtain rfl : c = 8 := by omega
    unfold f_X12_readHouse
    rw [if_neg (by decide), n11, if_pos (by decide), show f_X9_refuse M 5 (M.1 1 6) = _ from B5a, bd_s, ck_t (Or.inl rfl), show f_X12_fails N 5 = _ from B5b, bd_s, bd_s]
    exact LSg.bad B5c BS_82
