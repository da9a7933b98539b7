def TXo (M M2 : Mm) : Prop := ∀ c k, ¬ (c = 1 ∧ 3 ≤ k ∧ k ≤ 8) → M2.1 c k = M.1 c k
def TYo (N N2 : Mm) : Prop := ∀ c k, ¬ (c = 0 ∧ 19 ≤ k ∧ k ≤ 24) → N2.1 c k = N.1 c k
theorem TXo.r (M : Mm) : TXo M M := fun _ _ _ => rfl
theorem TYo.r (M : Mm) : TYo M M := fun _ _ _ => rfl
theorem TXo.w {M M2 : Mm} {k : Nat} {x : Int32} (h : TXo M M2) (h1 : 3 ≤ k ∧ k ≤ 8) : TXo M (wI M2 1 k x) := fun c j hj => by
  rw [mIn (by omega)]
  exact h c j hj
theorem TYo.w {M M2 : Mm} {k : Nat} {x : Int32} (h : TYo M M2) (h1 : 19 ≤ k ∧ k ≤ 24) : TYo M (wI M2 0 k x) := fun c j hj => by
  rw [mIn (by omega)]
  exact h c j hj
/-- what a token is in the class -/
def KX (st sp kind val : Nat) (M : Mm) : Prop := ∃ v M2, f_X9_readToken M = some (v, M2) ∧ TXo M M2 ∧ ((kind = 4 ∧ v = 0 ∧ M2.1 1 3 = 1 ∧ M2.1 1 4 = nI st) ∨ (kind ≠ 4 ∧ v = 1 ∧ M2.1 1 3 = M.1 1 3 ∧ M2.1 1 6 = nI st ∧ M2.1 1 7 = nI sp ∧ M2.1 1 5 = nI kind ∧ (kind = 2 → M2.1 1 8 = nI val)))
def KY (st sp kind val : Nat) (N : Mm) : Prop := ∃ N2, f_X12_step N = some N2 ∧ TYo N N2 ∧ ((kind = 4 ∧ N2.1 0 19 = 1 ∧ N2.1 0 20 = nI st ∧ ¬ N2.1 0 23 = 1) ∨ (kind ≠ 4 ∧ N2.1 0 19 = 0 ∧ N2.1 0 22 = nI st ∧ N2.1 0 21 = nI sp ∧ N2.1 0 23 = nI kind ∧ (kind = 2 → N2.1 0 24 = nI val)))
theorem r46 {b : Nat → Nat} {n q st : Nat} {M : Mm} (hq : q ≤ n) (hM : TM b n M) (h7 : M.1 1 7 = nI q) (a4 : ∀ f M, TM b n M → M.1 1 6 = nI q → n - q < f → f_X9_readToken_8 f M = f_X9_readToken_46 (wI M 1 6 (nI st))) (hn : n ≤ 400) : f_X9_readToken M = f_X9_readToken_46 (wI M 1 6 (nI st)) := by
  unfold f_X9_readToken
  rw [wr_e, h7, a4 FU _ (hM.w (by decide)) (mIs _ _ _ _) (by show n - q < 5000; omega), wI_wI]
theorem s34 {b : Nat → Nat} {n q st : Nat} {N : Mm} (hq : q ≤ n) (hN : TN b n N) (h19 : N.1 0 19 = 0) (h21 : N.1 0 21 = nI q) (a5 : ∀ f N, TN b n N → N.1 0 21 = nI q → n - q < f → f_X12_step_8 f N = f_X12_step_34 (wI N 0 21 (nI st))) (hn : n ≤ 400) : f_X12_step N = f_X12_step_34 (wI N 0 21 (nI st)) := by
  unfold f_X12_step
  rw [h19, if_pos (by decide), a5 FU _ hN h21 (by show n - q < 5000; omega)]
theorem fails_0 {N : Mm} {c : Int32} (h : N.1 0 19 = 0) : f_X12_fails N c = some (wI (wI N 0 19 c) 0 20 (N.1 0 22)) := by
  unfold f_X12_fails f_X12_fails_20
  rw [if_pos h, wr_e, wr_e, mIn (by decide)]
theorem tok_end {b : Nat → Nat} {n : Nat} (T : TXB b n) {M N : Mm} (hM : TM b n M) (hN : TN b n N) (h19 : N.1 0 19 = 0) : (∃ M2, f_X9_readToken_46 (wI M 1 6 (nI n)) = some (1, M2) ∧ TXo M M2 ∧ M2.1 1 3 = M.1 1 3 ∧ M2.1 1 6 = nI n ∧ M2.1 1 7 = nI n ∧ M2.1 1 5 = nI 0) ∧ ∃ N2, f_X12_step_34 (wI N 0 21 (nI n)) = some N2 ∧ TYo N N2 ∧ N2.1 0 19 = 0 ∧ N2.1 0 22 = nI n ∧ N2.1 0 21 = nI n ∧ N2.1 0 23 = nI 0 := by
  have hn := T.1
  constructor
  · unfold f_X9_readToken_46
    simp only [wr_e]
    rw [mIs, ((hM.w (k := 6) (by decide)).w (k := 7) (by decide)).1, mIn (by decide), mIs, if_neg (nI_nlt (Nat.le_refl _) (by omega))]
    exact ⟨_, rfl, ((TXo.r M).w (by decide)).w (by decide) |>.w (by decide), by simp [mI], by simp [mI], by simp [mI], by simp [mI, nI_0]⟩
  · unfold f_X12_step_34 f_X12_step_269
    simp only [wr_e]
    rw [mIs, mIn (by decide), mIs, e_byteAt T ((hN.w (k := 21) (by decide)).w (k := 22) (by decide)) (by omega), bd_s, if_neg (Nat.lt_irrefl _), if_pos rfl]
    exact ⟨_, rfl, ((((TYo.r N).w (by decide)).w (by decide)).w (by decide)).w (by decide), by simp [mI, h19], by simp [mI], by simp [mI], by simp [mI, nI_0]⟩
theorem tok_semi {b : Nat → Nat} {n st : Nat} (T : TXB b n) {M N : Mm} (hM : TM b n M) (hN : TN b n N) (h19 : N.1 0 19 = 0) (hs : st < n) (hb : b st = 59) : (∃ M2, f_X9_readToken_46 (wI M 1 6 (nI st)) = some (1, M2) ∧ TXo M M2 ∧ M2.1 1 3 = M.1 1 3 ∧ M2.1 1 6 = nI st ∧ M2.1 1 7 = nI (st + 1) ∧ M2.1 1 5 = nI 3) ∧ ∃ N2, f_X12_step_34 (wI N 0 21 (nI st)) = some N2 ∧ TYo N N2 ∧ N2.1 0 19 = 0 ∧ N2.1 0 22 = nI st ∧ N2.1 0 21 = nI (st + 1) ∧ N2.1 0 23 = nI 3 := by
  have hn := T.1
  constructor
  · have hM2 := (hM.w (k := 6) (x := nI st) (by decide)).w (k := 7) (x := nI st) (by decide)
    unfold f_X9_readToken_46
    simp only [wr_e]
    rw [mIs, hM2.1, mIn (by decide), mIs, if_pos (nI_lt hs (by omega)), ck_n (show st < 400 by omega) (by omega), nI_clamp (by omega), hM2.2 st hs, if_pos ((byX (b st) (T.2 st hs)).2.1.mpr hb)]
    exact ⟨_, rfl, (((TXo.r M).w (by decide)).w (by decide)).w (by decide) |>.w (by decide), by simp [mI], by simp [mI], by simp [mI, n1], by simp [mI]; rfl⟩
  · have y := byY (b st) (T.2 st hs)
    unfold f_X12_step_34 f_X12_step_269
    simp only [wr_e]
    rw [mIs, mIn (by decide), mIs, e_byteAt T ((hN.w (k := 21) (by decide)).w (k := 22) (by decide)) (by omega), bd_s, if_pos hs, if_neg y.2.2.2.2, show f_X12_in (nI (b st)).toInt64 (97 : Int64) (122 : Int64) = some (b2 (inR (nI (b st)) 97 122)) from e_inI _ 97 122, bd_s, if_pos (b2_0.mpr (fun z => absurd (y.2.2.1.mp z) (by omega))), show f_X12_in (nI (b st)).toInt64 (48 : Int64) (57 : Int64) = some (b2 (inR (nI (b st)) 48 57)) from e_inI _ 48 57, bd_s, if_pos (b2_0.mpr (fun z => absurd (y.2.2.2.1.mp z) (by omega))), if_pos (y.2.1.mpr hb)]
    exact ⟨_, rfl, ((((((TYo.r N).w (by decide)).w (by decide)).w (by decide)).w (by decide)).w (by decide)), by simp [mI, h19], by simp [mI], by simp [mI, n1], by simp [mI]; rfl⟩
theorem tok_word {b : Nat → Nat} {n st sp : Nat} (T : TXB b n) {M N : Mm} (hM : TM b n M) (hN : TN b n N) (h19 : N.1 0 19 = 0) (hs : st < n) (hb : 97 ≤ b st ∧ b st ≤ 122) (h1 : st < sp) (h2 : sp ≤ n) (h3 : ∀ i, st ≤ i → i < sp → 97 ≤ b i ∧ b i ≤ 122) (h4 : sp < n → ¬ (97 ≤ b sp ∧ b sp ≤ 122)) : (∃ M2, f_X9_readToken_46 (wI M 1 6 (nI st)) = some (1, M2) ∧ TXo M M2 ∧ M2.1 1 3 = M.1 1 3 ∧ M2.1 1 6 = nI st ∧ M2.1 1 7 = nI sp ∧ M2.1 1 5 = nI 1) ∧ ∃ N2, f_X12_step_34 (wI N 0 21 (nI st)) = some N2 ∧ TYo N N2 ∧ N2.1 0 19 = 0 ∧ N2.1 0 22 = nI st ∧ N2.1 0 21 = nI sp ∧ N2.1 0 23 = nI 1 := by
  have hn := T.1
  constructor
  · have x := byX (b st) (T.2 st hs)
    have hM2 := (hM.w (k := 6) (x := nI st) (by decide)).w (k := 7) (x := nI st) (by decide)
    unfold f_X9_readToken_46
    simp only [wr_e]
    rw [mIs, hM2.1, mIn (by decide), mIs, if_pos (nI_lt hs (by omega)), ck_n (show st < 400 by omega) (by omega), nI_clamp (by omega), hM2.2 st hs, if_neg (fun z => absurd (x.2.1.mp z) (by omega)), e_isAmong, bd_s, b2_t (x.2.2.1.mpr hb), if_neg (by decide)]
    unfold f_X9_readToken_131 f_X9_readToken_143
    rw [if_neg (by decide), runX T (fun c hc => (byX c hc).2.2.1) (Nat.le_of_lt h1) h2 h3 h4 1 (sp - st) st FU _ (by omega) (Nat.le_refl _) hM2 (mIs _ _ _ _) (by show sp - st < 5000; omega), wI_wI]
    unfold f_X9_readToken_194 f_X9_readToken_204
    rw [if_neg (by decide)]
    simp only [wr_e, nm_x]
    have st' : ∀ M v, f_X9_readToken_218 1 FU M v = b_X9_readToken_218 (fun M x4 => f_X9_readToken_218 1 4999 M x4) 1 M v := fun _ _ => rfl
    rw [st']
    unfold b_X9_readToken_218 f_X9_readToken_259 f_X9_readToken_292 f_X9_readToken_297
    rw [mIn (by decide), mIn (by decide), mIs, mIn (by decide), mIn (by decide), mIn (by decide), mIs, if_neg (nI_ge h1 (by omega)), if_neg (by decide), if_neg (by decide), ck_t (Or.inr rfl)]
    exact ⟨_, rfl, (((TXo.r M).w (by decide)).w (by decide)).w (by decide) |>.w (by decide), by simp [mI], by simp [mI], by simp [mI], by simp [mI]; rfl⟩
  · have y := byY (b st) (T.2 st hs)
    unfold f_X12_step_34
    simp only [wr_e]
    rw [mIs, mIn (by decide), mIs, e_byteAt T ((hN.w (k := 21) (by decide)).w (k := 22) (by decide)) (by omega), bd_s, if_pos hs, if_neg y.2.2.2.2, show f_X12_in (nI (b st)).toInt64 (97 : Int64) (122 : Int64) = some (b2 (inR (nI (b st)) 97 122)) from e_inI _ 97 122, bd_s, if_neg (fun z => b2_0.mp z (y.2.2.1.mpr hb)), runL T h2 h3 h4 (sp - st) st FU _ (by omega) (Nat.le_refl _) (((hN.w (k := 21) (by decide)).w (k := 22) (by decide)).w (by decide)) (by simp [mI]) (by show sp - st < 5000; omega)]
    unfold f_X12_step_118 f_X12_step_269
    exact ⟨_, rfl, ((((((TYo.r N).w (by decide)).w (by decide)).w (by decide)).w (by decide)).w (by decide)), by simp [mI, h19], by simp [mI], by simp [mI], by simp [mI]; rfl⟩
