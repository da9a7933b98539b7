theorem refuse_e (M : Mm) (c v : Int32) : f_X9_refuse M c v = some (0, wI (wI M 1 3 c) 1 4 v) := rfl
/-- the class at what is no word, no semicolon and not the end -/
theorem num_x {b : Nat → Nat} {n st sp : Nat} (T : TXB b n) {M : Mm} (hM : TM b n M) (hs : st < n) (hb1 : b st ≠ 59) (hb2 : ¬ (97 ≤ b st ∧ b st ≤ 122)) (h1 : st ≤ sp) (h2 : sp ≤ n) (h3 : ∀ i, st ≤ i → i < sp → 48 ≤ b i ∧ b i ≤ 57) (h4 : sp < n → ¬ (48 ≤ b sp ∧ b sp ≤ 57)) :
    f_X9_readToken_46 (wI M 1 6 (nI st)) = f_X9_readToken_259 (wI (wI (wI (wI M 1 6 (nI st)) 1 7 (nI sp)) 1 5 2) 1 8 (nI (dv b st (sp - st)))) 0 := by
  have hn := T.1
  have x := byX (b st) (T.2 st hs)
  have hM2 := (hM.w (k := 6) (x := nI st) (by decide)).w (k := 7) (x := nI st) (by decide)
  unfold f_X9_readToken_46
  simp only [wr_e]
  rw [mIs, hM2.1, mIn (by decide), mIs, if_pos (nI_lt hs (by omega)), ck_n (show st < 400 by omega) (by omega), nI_clamp (by omega), hM2.2 st hs, if_neg (fun z => hb1 (x.2.1.mp z)), e_isAmong, bd_s, b2_f (fun z => hb2 (x.2.2.1.mp z)), if_pos rfl]
  unfold f_X9_readToken_131 f_X9_readToken_143
  rw [if_pos rfl, runX T (fun c hc => (byX c hc).2.2.2.1) h1 h2 h3 h4 0 (sp - st) st FU _ (by omega) (Nat.le_refl _) hM2 (mIs _ _ _ _) (by show sp - st < 5000; omega), wI_wI]
  unfold f_X9_readToken_194 f_X9_readToken_204
  rw [if_pos rfl]
  simp only [wr_e, nm_x]
  rw [mIn (by decide), mIn (by decide), mIn (by decide), mIs]
  have v := valX T h2 h3 (sp - st) 0 FU (wI (wI (wI (wI M 1 6 (nI st)) 1 7 (nI sp)) 1 5 2) 1 8 0) (by omega) ((((hM.w (by decide)).w (by decide)).w (by decide)).w (by decide)) (by simp [mI]) (by rw [mIs]; rfl) (by show sp - st < 5000; omega)
  rw [Nat.add_zero] at v
  rw [v, wI_wI]
theorem tok_num {b : Nat → Nat} {n st sp : Nat} (T : TXB b n) {M N : Mm} (hM : TM b n M) (hN : TN b n N) (h19 : N.1 0 19 = 0) (hs : st < n) (hb1 : b st ≠ 59) (hb2 : ¬ (97 ≤ b st ∧ b st ≤ 122)) (h1 : st < sp) (h2 : sp ≤ n) (h3 : ∀ i, st ≤ i → i < sp → 48 ≤ b i ∧ b i ≤ 57) (h4 : sp < n → ¬ (48 ≤ b sp ∧ b sp ≤ 57)) (h5 : sp ≤ st + 3) : (∃ M2, f_X9_readToken_46 (wI M 1 6 (nI st)) = some (1, M2) ∧ TXo M M2 ∧ M2.1 1 3 = M.1 1 3 ∧ M2.1 1 6 = nI st ∧ M2.1 1 7 = nI sp ∧ M2.1 1 5 = nI 2 ∧ M2.1 1 8 = nI (dv b st (sp - st))) ∧ ∃ N2, f_X12_step_34 (wI N 0 21 (nI st)) = some N2 ∧ TYo N N2 ∧ N2.1 0 19 = 0 ∧ N2.1 0 22 = nI st ∧ N2.1 0 21 = nI sp ∧ N2.1 0 23 = nI 2 ∧ N2.1 0 24 = nI (dv b st (sp - st)) := by
  have hn := T.1
  constructor
  · rw [num_x T hM hs hb1 hb2 (Nat.le_of_lt h1) h2 h3 h4]
    unfold f_X9_readToken_259 f_X9_readToken_292 f_X9_readToken_297
    rw [if_pos rfl, mIn (by decide), mIn (by decide), mIs, mIn (by decide), mIn (by decide), mIn (by decide), mIs, pk_sub (by omega), e_isAmong, bd_s, if_neg (fun z => b2_0.mp z (show inR (nI (sp - st)) 1 3 from ⟨nI_le (a := 1) (by omega) (by omega), nI_le (b := 3) (by omega) (by omega)⟩)), ck_t (Or.inr rfl)]
    exact ⟨_, rfl, (((TXo.r M).w (by decide)).w (by decide)).w (by decide) |>.w (by decide), by simp [mI], by simp [mI], by simp [mI], by simp [mI]; rfl, by simp [mI]⟩
  · have y := byY (b st) (T.2 st hs)
    unfold f_X12_step_34
    simp only [wr_e]
    rw [mIs, mIn (by decide), mIs, e_byteAt T ((hN.w (k := 21) (by decide)).w (k := 22) (by decide)) (by omega), bd_s, if_pos hs, if_neg y.2.2.2.2, show f_X12_in (nI (b st)).toInt64 (97 : Int64) (122 : Int64) = some (b2 (inR (nI (b st)) 97 122)) from e_inI _ 97 122, bd_s, if_pos (b2_0.mpr (fun z => hb2 (y.2.2.1.mp z))), show f_X12_in (nI (b st)).toInt64 (48 : Int64) (57 : Int64) = some (b2 (inR (nI (b st)) 48 57)) from e_inI _ 48 57, bd_s, if_neg (fun z => b2_0.mp z (y.2.2.2.1.mpr (h3 st (Nat.le_refl _) h1))), runD T h2 h3 h4 (sp - st) 0 FU _ (by omega) (((hN.w (k := 21) (by decide)).w (k := 22) (by decide)).w (by decide)) (by simp [mI]) (by simp [mI]) (by rw [mIs]; rfl) (by show sp - st < 5000; omega)]
    unfold f_X12_step_217 f_X12_step_269
    simp only [wr_e]
    rw [mIn (by decide), mIs, mIn (by decide), mIn (by decide), mIn (by decide), mIn (by decide), mIs, pk_sub (by omega), if_pos (show nI (sp - st) ≤ 3 from nI_le (b := 3) (by omega) (by omega))]
    exact ⟨_, rfl, (((((((TYo.r N).w (by decide)).w (by decide)).w (by decide)).w (by decide)).w (by decide)).w (by decide)), by simp [mI, h19], by simp [mI], by simp [mI], by simp [mI]; rfl, by simp [mI, show min (sp - st) 3 = sp - st by omega]⟩
/-- a token that is none -/
theorem tok_bad {b : Nat → Nat} {n st sp : Nat} (T : TXB b n) {M N : Mm} (hM : TM b n M) (hN : TN b n N) (h19 : N.1 0 19 = 0) (hs : st < n) (hb1 : b st ≠ 59) (hb2 : ¬ (97 ≤ b st ∧ b st ≤ 122)) (h1 : st ≤ sp) (h2 : sp ≤ n) (h3 : ∀ i, st ≤ i → i < sp → 48 ≤ b i ∧ b i ≤ 57) (h4 : sp < n → ¬ (48 ≤ b sp ∧ b sp ≤ 57)) (h5 : st = sp ∨ st + 3 < sp) : (∃ M2, f_X9_readToken_46 (wI M 1 6 (nI st)) = some (0, M2) ∧ TXo M M2 ∧ M2.1 1 3 = 1 ∧ M2.1 1 4 = nI st) ∧ ∃ N2, f_X12_step_34 (wI N 0 21 (nI st)) = some N2 ∧ TYo N N2 ∧ N2.1 0 19 = 1 ∧ N2.1 0 20 = nI st ∧ ¬ N2.1 0 23 = 1 := by
  have hn := T.1
  constructor
  · rw [num_x T hM hs hb1 hb2 h1 h2 h3 h4]
    unfold f_X9_readToken_259 f_X9_readToken_297
    rw [if_pos rfl, mIn (by decide), mIn (by decide), mIs, mIn (by decide), mIn (by decide), mIn (by decide), mIs, pk_sub (by omega), e_isAmong, bd_s, if_pos (b2_0.mpr (fun z => by
      have z1 := (nI_leI (a := 1) (b := sp - st) (by omega) (by omega)).mp z.1
      have z2 := (nI_leI (a := sp - st) (b := 3) (by omega) (by omega)).mp z.2
      omega)), refuse_e, bd_s, if_pos rfl, ck_t (Or.inl rfl)]
    exact ⟨_, rfl, ((((((TXo.r M).w (by decide)).w (by decide)).w (by decide)).w (by decide)).w (by decide)).w (by decide), by simp [mI], by simp [mI]⟩
  · have y := byY (b st) (T.2 st hs)
    unfold f_X12_step_34
    simp only [wr_e]
    rw [mIs, mIn (by decide), mIs, e_byteAt T ((hN.w (k := 21) (by decide)).w (k := 22) (by decide)) (by omega), bd_s, if_pos hs, if_neg y.2.2.2.2, show f_X12_in (nI (b st)).toInt64 (97 : Int64) (122 : Int64) = some (b2 (inR (nI (b st)) 97 122)) from e_inI _ 97 122, bd_s, if_pos (b2_0.mpr (fun z => hb2 (y.2.2.1.mp z))), show f_X12_in (nI (b st)).toInt64 (48 : Int64) (57 : Int64) = some (b2 (inR (nI (b st)) 48 57)) from e_inI _ 48 57, bd_s]
    by_cases g : 48 ≤ b st ∧ b st ≤ 57
    · have hlt : st < sp := by
        rcases h5 with e | e
        · exact absurd g (by rw [e]; exact h4 (by omega))
        · omega
      have h6 : st + 3 < sp := by omega
      clear h5
      rw [if_neg (fun z => b2_0.mp z (y.2.2.2.1.mpr g)), runD T h2 h3 h4 (sp - st) 0 FU _ (by omega) (((hN.w (k := 21) (by decide)).w (k := 22) (by decide)).w (by decide)) (by simp [mI]) (by simp [mI]) (by rw [mIs]; rfl) (by show sp - st < 5000; omega)]
      unfold f_X12_step_217 f_X12_step_269
      simp only [wr_e]
      rw [mIn (by decide), mIs, mIn (by decide), mIn (by decide), mIn (by decide), mIn (by decide), mIs, pk_sub (by omega), if_neg (show ¬ nI (sp - st) ≤ 3 from nI_ge (a := 3) (by omega) (by omega)), fails_0 (by simp [mI, h19]), bd_s]
      exact ⟨_, rfl, (((((((((TYo.r N).w (by decide)).w (by decide)).w (by decide)).w (by decide)).w (by decide)).w (by decide)).w (by decide)).w (by decide)), by simp [mI], by simp [mI], by simp [mI]⟩
    · rw [if_pos (b2_0.mpr (fun z => g (y.2.2.2.1.mp z))), if_neg (fun z => hb1 (y.2.1.mp z))]
      unfold f_X12_step_269
      rw [fails_0 (by simp [mI, h19]), bd_s]
      exact ⟨_, rfl, ((((((((TYo.r N).w (by decide)).w (by decide)).w (by decide)).w (by decide)).w (by decide)).w (by decide)).w (by decide)), by simp [mI], by simp [mI], by simp [mI]⟩
theorem tok {b : Nat → Nat} {n q : Nat} (T : TXB b n) (hq : q ≤ n) : ∃ st sp kind val, q ≤ st ∧ st ≤ sp ∧ sp ≤ n ∧ kind ≤ 4 ∧ (kind ≠ 0 → kind ≠ 4 → st < sp) ∧ (kind = 0 → st = n) ∧ val ≤ 999 ∧ (∀ M, TM b n M → M.1 1 7 = nI q → KX st sp kind val M) ∧ ∀ N, TN b n N → N.1 0 19 = 0 → N.1 0 21 = nI q → KY st sp kind val N := by
  have hn := T.1
  obtain ⟨st, a1, a2, a3, a4, a5⟩ := skp T (n - q) q (by omega)
  -- a memory for the side that is not asked
  have cX : ∀ sp kind val, (∀ M, TM b n M → ∀ N, TN b n N → N.1 0 19 = 0 → (∃ v M2, f_X9_readToken_46 (wI M 1 6 (nI st)) = some (v, M2) ∧ TXo M M2 ∧ ((kind = 4 ∧ v = 0 ∧ M2.1 1 3 = 1 ∧ M2.1 1 4 = nI st) ∨ (kind ≠ 4 ∧ v = 1 ∧ M2.1 1 3 = M.1 1 3 ∧ M2.1 1 6 = nI st ∧ M2.1 1 7 = nI sp ∧ M2.1 1 5 = nI kind ∧ (kind = 2 → M2.1 1 8 = nI val)))) ∧ ∃ N2, f_X12_step_34 (wI N 0 21 (nI st)) = some N2 ∧ TYo N N2 ∧ ((kind = 4 ∧ N2.1 0 19 = 1 ∧ N2.1 0 20 = nI st ∧ ¬ N2.1 0 23 = 1) ∨ (kind ≠ 4 ∧ N2.1 0 19 = 0 ∧ N2.1 0 22 = nI st ∧ N2.1 0 21 = nI sp ∧ N2.1 0 23 = nI kind ∧ (kind = 2 → N2.1 0 24 = nI val)))) → (∀ M, TM b n M → M.1 1 7 = nI q → KX st sp kind val M) ∧ ∀ N, TN b n N → N.1 0 19 = 0 → N.1 0 21 = nI q → KY st sp kind val N := by
    intro sp kind val h
    have m0 : ∃ M, TM b n M := ⟨(fun c j => if c = 1 then nI n else vp_nar .byte (nI (b j)), fun _ _ => 0), rfl, fun j _ => rfl⟩
    have n0 : ∃ N, TN b n N ∧ N.1 0 19 = 0 := ⟨(fun c j => if c = 0 then (if j = 17 then nI n else 0) else nI (b j), fun _ _ => 0), ⟨rfl, fun j _ => rfl⟩, rfl⟩
    obtain ⟨M0, hM0⟩ := m0
    obtain ⟨N0, hN0, hN1⟩ := n0
    constructor
    · intro M hM h7
      obtain ⟨v, M2, c1, c2⟩ := (h M hM N0 hN0 hN1).1
      exact ⟨v, M2, by rw [r46 hq hM h7 a4 hn]; exact c1, c2⟩
    · intro N hN h19 h21
      obtain ⟨N2, c1, c2⟩ := (h M0 hM0 N hN h19).2
      exact ⟨N2, by rw [s34 hq hN h19 h21 a5 hn]; exact c1, c2⟩
  by_cases g0 : st = n
  · refine ⟨st, st, 0, 0, a1, Nat.le_refl _, a2, by omega, fun h => absurd rfl h, fun _ => g0, by omega, cX st 0 0 (fun M hM N hN h19 => ?_)⟩
    rw [g0]
    obtain ⟨⟨M2, c1, c2, c3, c4, c5, c6⟩, ⟨N2, d1, d2, d3, d4, d5, d6⟩⟩ := tok_end T hM hN h19
    exact ⟨⟨1, M2, c1, c2, Or.inr ⟨by decide, rfl, c3, c4, c5, c6, fun z => absurd z (by decide)⟩⟩, N2, d1, d2, Or.inr ⟨by decide, d3, d4, d5, d6, fun z => absurd z (by decide)⟩⟩
  · have hs : st < n := by omega
    by_cases g1 : b st = 59
    · refine ⟨st, st + 1, 3, 0, a1, by omega, by omega, by omega, fun _ _ => by omega, fun z => absurd z (by decide), by omega, cX (st + 1) 3 0 (fun M hM N hN h19 => ?_)⟩
      obtain ⟨⟨M2, c1, c2, c3, c4, c5, c6⟩, ⟨N2, d1, d2, d3, d4, d5, d6⟩⟩ := tok_semi T hM hN h19 hs g1
      exact ⟨⟨1, M2, c1, c2, Or.inr ⟨by decide, rfl, c3, c4, c5, c6, fun z => absurd z (by decide)⟩⟩, N2, d1, d2, Or.inr ⟨by decide, d3, d4, d5, d6, fun z => absurd z (by decide)⟩⟩
    · by_cases g2 : 97 ≤ b st ∧ b st ≤ 122
      · obtain ⟨sp, e1, e2, e3, e4⟩ := run_ex (b := b) (n := n) (lo := 97) (hi := 122) (n - st) st (by omega)
        have e5 : st < sp := by
          by_cases z : sp = st
          · rw [z] at e4
            exact absurd g2 (e4 hs)
          · omega
        refine ⟨st, sp, 1, 0, a1, e1, e2, by omega, fun _ _ => e5, fun z => absurd z (by decide), by omega, cX sp 1 0 (fun M hM N hN h19 => ?_)⟩
        obtain ⟨⟨M2, c1, c2, c3, c4, c5, c6⟩, ⟨N2, d1, d2, d3, d4, d5, d6⟩⟩ := tok_word T hM hN h19 hs g2 e5 e2 e3 e4
        exact ⟨⟨1, M2, c1, c2, Or.inr ⟨by decide, rfl, c3, c4, c5, c6, fun z => absurd z (by decide)⟩⟩, N2, d1, d2, Or.inr ⟨by decide, d3, d4, d5, d6, fun z => absurd z (by decide)⟩⟩
      · obtain ⟨sp, e1, e2, e3, e4⟩ := run_ex (b := b) (n := n) (lo := 48) (hi := 57) (n - st) st (by omega)
        by_cases g3 : st < sp ∧ sp ≤ st + 3
        · have hv : dv b st (sp - st) < 1000 := by
            have h := dv_le (b := b) (st := st) (sp - st) (by omega) (fun i q1 q2 => e3 i q1 (by omega))
            have : 10 ^ (sp - st) ≤ 10 ^ 3 := Nat.pow_le_pow_right (by decide) (by omega)
            omega
          refine ⟨st, sp, 2, dv b st (sp - st), a1, e1, e2, by omega, fun _ _ => g3.1, fun z => absurd z (by decide), by omega, cX sp 2 _ (fun M hM N hN h19 => ?_)⟩
          obtain ⟨⟨M2, c1, c2, c3, c4, c5, c6, c7⟩, ⟨N2, d1, d2, d3, d4, d5, d6, d7⟩⟩ := tok_num T hM hN h19 hs g1 g2 g3.1 e2 e3 e4 g3.2
          exact ⟨⟨1, M2, c1, c2, Or.inr ⟨by decide, rfl, c3, c4, c5, c6, fun _ => c7⟩⟩, N2, d1, d2, Or.inr ⟨by decide, d3, d4, d5, d6, fun _ => d7⟩⟩
        · refine ⟨st, sp, 4, 0, a1, e1, e2, by omega, fun _ h => absurd rfl h, fun z => absurd z (by decide), by omega, cX sp 4 0 (fun M hM N hN h19 => ?_)⟩
          obtain ⟨⟨M2, c1, c2, c3, c4⟩, ⟨N2, d1, d2, d3, d4, d5⟩⟩ := tok_bad T hM hN h19 hs g1 g2 e1 e2 e3 e4 (by omega)
          exact ⟨⟨0, M2, c1, c2, Or.inl ⟨rfl, rfl, c3, c4⟩⟩, N2, d1, d2, Or.inl ⟨rfl, d3, d4, d5⟩⟩
