-- THE TEXT OF A LAND: tokens
theorem mm_ext {M M2 : Mm} (h1 : ∀ c j, M.1 c j = M2.1 c j) (h2 : M.2 = M2.2) : M = M2 := Prod.ext (funext fun c => funext fun j => h1 c j) h2
theorem wI_self {M : Mm} {a k : Nat} {x : Int32} (h : M.1 a k = x) : wI M a k x = M := mm_ext (fun c j => by
  rw [mI]
  split
  · rename_i e
    rw [e.1, e.2, h]
  · rfl) rfl
theorem wI_wI (M : Mm) (a k : Nat) (x y : Int32) : wI (wI M a k x) a k y = wI M a k y := mm_ext (fun c j => by
  rw [mI, mI, mI]
  split <;> rfl) rfl
theorem w2421 (N : Mm) (v x v2 x2 : Int32) : wI (wI (wI (wI N 0 24 v) 0 21 x) 0 24 v2) 0 21 x2 = wI (wI N 0 24 v2) 0 21 x2 := mm_ext (fun c j => by
  simp only [mI]
  by_cases h : c = 0 ∧ j = 21
  · rw [if_pos h, if_pos h]
  · rw [if_neg h, if_neg h]
    by_cases h2 : c = 0 ∧ j = 24
    · rw [if_pos h2, if_neg h, if_pos h2]
    · rw [if_neg h2, if_neg h, if_neg h2, if_neg h2]) rfl
def TM (b : Nat → Nat) (n : Nat) (M : Mm) : Prop := M.1 1 1 = nI n ∧ ∀ j, j < n → M.1 2 j = vp_nar .byte (nI (b j))
def TN (b : Nat → Nat) (n : Nat) (N : Mm) : Prop := N.1 0 17 = nI n ∧ ∀ j, j < n → N.1 9 j = nI (b j)
def TXB (b : Nat → Nat) (n : Nat) : Prop := n ≤ 400 ∧ ∀ j, j < n → b j < 256
theorem TM.w {b : Nat → Nat} {n k : Nat} {M : Mm} {x : Int32} (h : TM b n M) (hk : k ≠ 1) : TM b n (wI M 1 k x) := ⟨by rw [mIn (by omega)]; exact h.1, fun j hj => by rw [mIn (by omega)]; exact h.2 j hj⟩
theorem TN.w {b : Nat → Nat} {n k : Nat} {N : Mm} {x : Int32} (h : TN b n N) (hk : k ≠ 17) : TN b n (wI N 0 k x) := ⟨by rw [mIn (by omega)]; exact h.1, fun j hj => by rw [mIn (by omega)]; exact h.2 j hj⟩
theorem byX : ∀ b, b < 256 → (vp_nar .byte (nI b) = 32 ↔ b = 32) ∧ (vp_nar .byte (nI b) = 59 ↔ b = 59) ∧ (inR (vp_nar .byte (nI b)) 97 122 ↔ 97 ≤ b ∧ b ≤ 122) ∧ (inR (vp_nar .byte (nI b)) 48 57 ↔ 48 ≤ b ∧ b ≤ 57) ∧ (b < 128 → vp_nar .byte (nI b) = nI b) := by decide +kernel
theorem byY : ∀ b, b < 256 → (nI b = 32 ↔ b = 32) ∧ (nI b = 59 ↔ b = 59) ∧ (inR (nI b) 97 122 ↔ 97 ≤ b ∧ b ≤ 122) ∧ (inR (nI b) 48 57 ↔ 48 ≤ b ∧ b ≤ 57) ∧ ¬ nI b = -4 := by decide +kernel
theorem e_byteAt {b : Nat → Nat} {n j : Nat} {N : Mm} (T : TXB b n) (hN : TN b n N) (hj : j ≤ 400) : f_X12_byteAt N (nI j) = some (if j < n then nI (b j) else -4) := by
  have hn := T.1
  unfold f_X12_byteAt f_X12_byteAt_19
  rw [hN.1]
  by_cases g : j < n
  · rw [if_neg (nI_ge g (by omega)), ck_n (show j < 400 by omega) (by omega), nI_clamp (by omega), hN.2 j g, if_pos g]
  · rw [if_pos (nI_le (by omega) (by omega)), if_neg g]
theorem skp {b : Nat → Nat} {n : Nat} (T : TXB b n) : ∀ d q, q + d = n → ∃ st, q ≤ st ∧ st ≤ n ∧ (st < n → b st ≠ 32) ∧ (∀ f M, TM b n M → M.1 1 6 = nI q → d < f → f_X9_readToken_8 f M = f_X9_readToken_46 (wI M 1 6 (nI st))) ∧ (∀ f N, TN b n N → N.1 0 21 = nI q → d < f → f_X12_step_8 f N = f_X12_step_34 (wI N 0 21 (nI st))) := by
  have hn := T.1
  intro d
  induction d with
  | zero =>
    intro q hq
    refine ⟨q, Nat.le_refl _, by omega, fun h => absurd h (by omega), fun f M hM h6 hf => ?_, fun f N hN h21 hf => ?_⟩
    · obtain ⟨f, rfl⟩ : ∃ m, f = m + 1 := ⟨f - 1, by omega⟩
      have st : f_X9_readToken_8 (f + 1) M = b_X9_readToken_8 (fun M => f_X9_readToken_8 f M) M := rfl
      rw [st, wI_self h6]
      unfold b_X9_readToken_8
      rw [hM.1, h6, if_pos (nI_le (by omega) (by omega))]
    · obtain ⟨f, rfl⟩ : ∃ m, f = m + 1 := ⟨f - 1, by omega⟩
      have st : f_X12_step_8 (f + 1) N = b_X12_step_8 (fun M => f_X12_step_8 f M) N := rfl
      rw [st, wI_self h21]
      unfold b_X12_step_8
      rw [h21, e_byteAt T hN (by omega), bd_s, if_neg (show ¬ q < n by omega), if_neg (by decide)]
  | succ d ih =>
    intro q hq
    obtain ⟨x1, x2, -⟩ := byX (b q) (T.2 q (by omega))
    obtain ⟨y1, -⟩ := byY (b q) (T.2 q (by omega))
    by_cases g : b q = 32
    · obtain ⟨st, a1, a2, a3, a4, a5⟩ := ih (q + 1) (by omega)
      refine ⟨st, by omega, a2, a3, fun f M hM h6 hf => ?_, fun f N hN h21 hf => ?_⟩
      · obtain ⟨f, rfl⟩ : ∃ m, f = m + 1 := ⟨f - 1, by omega⟩
        have st : f_X9_readToken_8 (f + 1) M = b_X9_readToken_8 (fun M => f_X9_readToken_8 f M) M := rfl
        rw [st]
        unfold b_X9_readToken_8
        rw [hM.1, h6, if_neg (nI_ge (by omega) (by omega)), ck_n (show q < 400 by omega) (by omega), nI_clamp (by omega), hM.2 q (by omega), if_pos (x1.mpr g), wr_e, n1]
        exact (a4 f _ (hM.w (by decide)) (mIs _ _ _ _) (by omega)).trans (by rw [wI_wI])
      · obtain ⟨f, rfl⟩ : ∃ m, f = m + 1 := ⟨f - 1, by omega⟩
        have st : f_X12_step_8 (f + 1) N = b_X12_step_8 (fun M => f_X12_step_8 f M) N := rfl
        rw [st]
        unfold b_X12_step_8
        rw [h21, e_byteAt T hN (by omega), bd_s, if_pos (show q < n by omega), if_pos (y1.mpr g), wr_e, n1]
        exact (a5 f _ (hN.w (by decide)) (mIs _ _ _ _) (by omega)).trans (by rw [wI_wI])
    · refine ⟨q, Nat.le_refl _, by omega, fun _ => g, fun f M hM h6 hf => ?_, fun f N hN h21 hf => ?_⟩
      · obtain ⟨f, rfl⟩ : ∃ m, f = m + 1 := ⟨f - 1, by omega⟩
        have st : f_X9_readToken_8 (f + 1) M = b_X9_readToken_8 (fun M => f_X9_readToken_8 f M) M := rfl
        rw [st, wI_self h6]
        unfold b_X9_readToken_8
        rw [hM.1, h6, if_neg (nI_ge (by omega) (by omega)), ck_n (show q < 400 by omega) (by omega), nI_clamp (by omega), hM.2 q (by omega), if_neg (fun z => g (x1.mp z))]
      · obtain ⟨f, rfl⟩ : ∃ m, f = m + 1 := ⟨f - 1, by omega⟩
        have st : f_X12_step_8 (f + 1) N = b_X12_step_8 (fun M => f_X12_step_8 f M) N := rfl
        rw [st, wI_self h21]
        unfold b_X12_step_8
        rw [h21, e_byteAt T hN (by omega), bd_s, if_pos (show q < n by omega), if_neg (fun z => g (y1.mp z))]
/-- what the class's run over bytes does, for a range of bytes -/
theorem runX {b : Nat → Nat} {n lo hi : Nat} {x2 x3 : Int32} (T : TXB b n) (hr : ∀ c, c < 256 → (inR (vp_nar .byte (nI c)) x2 x3 ↔ lo ≤ c ∧ c ≤ hi)) {j sp : Nat} (h1 : j ≤ sp) (h2 : sp ≤ n) (h3 : ∀ i, j ≤ i → i < sp → lo ≤ b i ∧ b i ≤ hi) (h4 : sp < n → ¬ (lo ≤ b sp ∧ b sp ≤ hi)) (x1 : Int32) : ∀ d i f M, i + d = sp → j ≤ i → TM b n M → M.1 1 7 = nI i → d < f → f_X9_readToken_144 x1 x2 x3 f M = f_X9_readToken_194 (wI M 1 7 (nI sp)) x1 := by
  have hn := T.1
  intro d
  induction d with
  | zero =>
    intro i f M hi _ hM h7 hf
    obtain ⟨f, rfl⟩ : ∃ m, f = m + 1 := ⟨f - 1, by omega⟩
    obtain rfl : i = sp := by omega
    have st : f_X9_readToken_144 x1 x2 x3 (f + 1) M = b_X9_readToken_144 (fun M => f_X9_readToken_144 x1 x2 x3 f M) x1 x2 x3 M := rfl
    rw [st, wI_self h7]
    unfold b_X9_readToken_144
    rw [hM.1, h7]
    by_cases g : i < n
    · rw [if_neg (nI_ge (by omega) (by omega)), ck_n (show i < 400 by omega) (by omega), nI_clamp (by omega), hM.2 i g]
      have := fun z => h4 g ((hr (b i) (T.2 i g)).mp z)
      by_cases g1 : vp_nar .byte (nI (b i)) < x2
      · rw [if_pos g1]
      · rw [if_neg g1]
        by_cases g2 : x3 < vp_nar .byte (nI (b i))
        · rw [if_pos g2]
        · exact absurd ⟨Int32.not_lt.mp g1, Int32.not_lt.mp g2⟩ this
    · rw [if_pos (nI_le (by omega) (by omega))]
  | succ d ih =>
    intro i f M hi hji hM h7 hf
    obtain ⟨f, rfl⟩ : ∃ m, f = m + 1 := ⟨f - 1, by omega⟩
    have st : f_X9_readToken_144 x1 x2 x3 (f + 1) M = b_X9_readToken_144 (fun M => f_X9_readToken_144 x1 x2 x3 f M) x1 x2 x3 M := rfl
    rw [st]
    unfold b_X9_readToken_144
    have hb := (hr (b i) (T.2 i (by omega))).mpr (h3 i hji (by omega))
    rw [hM.1, h7, if_neg (nI_ge (by omega) (by omega)), ck_n (show i < 400 by omega) (by omega), nI_clamp (by omega), hM.2 i (by omega), if_neg (Int32.not_lt.mpr hb.1), if_neg (Int32.not_lt.mpr hb.2), wr_e, n1]
    exact (ih (i + 1) f _ (by omega) (by omega) (hM.w (by decide)) (mIs _ _ _ _) (by omega)).trans (by rw [wI_wI])
/-- how far a run goes -/
theorem run_ex {b : Nat → Nat} {n lo hi : Nat} : ∀ d j, j + d = n → ∃ sp, j ≤ sp ∧ sp ≤ n ∧ (∀ i, j ≤ i → i < sp → lo ≤ b i ∧ b i ≤ hi) ∧ (sp < n → ¬ (lo ≤ b sp ∧ b sp ≤ hi)) := by
  intro d
  induction d with
  | zero => intro j h; exact ⟨j, Nat.le_refl _, by omega, fun i h1 h2 => absurd h1 (by omega), fun h => absurd h (by omega)⟩
  | succ d ih =>
    intro j h
    by_cases g : lo ≤ b j ∧ b j ≤ hi
    · obtain ⟨sp, a1, a2, a3, a4⟩ := ih (j + 1) (by omega)
      refine ⟨sp, by omega, a2, fun i h1 h2 => ?_, a4⟩
      by_cases e : i = j
      · rw [e]
        exact g
      · exact a3 i (by omega) h2
    · exact ⟨j, Nat.le_refl _, by omega, fun i h1 h2 => absurd h1 (by omega), fun _ => g⟩
theorem runL {b : Nat → Nat} {n : Nat} (T : TXB b n) {j sp : Nat} (h2 : sp ≤ n) (h3 : ∀ i, j ≤ i → i < sp → 97 ≤ b i ∧ b i ≤ 122) (h4 : sp < n → ¬ (97 ≤ b sp ∧ b sp ≤ 122)) : ∀ d i f N, i + d = sp → j ≤ i → TN b n N → N.1 0 21 = nI i → d < f → f_X12_step_84 f N = f_X12_step_118 (wI N 0 21 (nI sp)) := by
  have hn := T.1
  intro d
  induction d with
  | zero =>
    intro i f N hi _ hN h21 hf
    obtain ⟨f, rfl⟩ : ∃ m, f = m + 1 := ⟨f - 1, by omega⟩
    obtain rfl : i = sp := by omega
    have st : f_X12_step_84 (f + 1) N = b_X12_step_84 (fun M => f_X12_step_84 f M) N := rfl
    rw [st, wI_self h21]
    unfold b_X12_step_84
    rw [h21, e_byteAt T hN (by omega), bd_s]
    by_cases g : i < n
    · rw [if_pos g, show f_X12_in (nI (b i)).toInt64 (97 : Int64) (122 : Int64) = some (b2 (inR (nI (b i)) 97 122)) from e_inI _ 97 122, bd_s, if_pos (b2_0.mpr (fun z => h4 g ((byY (b i) (T.2 i g)).2.2.1.mp z)))]
    · rw [if_neg g, show f_X12_in (-4 : Int32).toInt64 (97 : Int64) (122 : Int64) = some (b2 (inR (-4) 97 122)) from e_inI _ 97 122, bd_s, if_pos (b2_0.mpr (by decide))]
  | succ d ih =>
    intro i f N hi hji hN h21 hf
    obtain ⟨f, rfl⟩ : ∃ m, f = m + 1 := ⟨f - 1, by omega⟩
    have st : f_X12_step_84 (f + 1) N = b_X12_step_84 (fun M => f_X12_step_84 f M) N := rfl
    rw [st]
    unfold b_X12_step_84
    rw [h21, e_byteAt T hN (by omega), bd_s, if_pos (show i < n by omega), show f_X12_in (nI (b i)).toInt64 (97 : Int64) (122 : Int64) = some (b2 (inR (nI (b i)) 97 122)) from e_inI _ 97 122, bd_s, if_neg (fun z => b2_0.mp z ((byY (b i) (T.2 i (by omega))).2.2.1.mpr (h3 i hji (by omega)))), wr_e, n1]
    exact (ih (i + 1) f _ (by omega) (by omega) (hN.w (by decide)) (mIs _ _ _ _) (by omega)).trans (by rw [wI_wI])
/-- the number of k digits from st -/
def dv (b : Nat → Nat) (st : Nat) : Nat → Nat
  | 0 => 0
  | k + 1 => 10 * dv b st k + b (st + k) - 48
theorem dv_le {b : Nat → Nat} {st : Nat} : ∀ k, k ≤ 3 → (∀ i, st ≤ i → i < st + k → 48 ≤ b i ∧ b i ≤ 57) → dv b st k < 10 ^ k := by
  intro k
  induction k with
  | zero => intro _ _; exact Nat.zero_lt_one
  | succ k ih =>
    intro h1 h2
    have := ih (by omega) (fun i q1 q2 => h2 i q1 (by omega))
    have := h2 (st + k) (by omega) (by omega)
    show 10 * dv b st k + b (st + k) - 48 < 10 ^ k * 10
    omega
theorem dv_S {b : Nat → Nat} {st k : Nat} (h : 48 ≤ b (st + k)) : (10 : Int32) * nI (dv b st k) + nI (b (st + k)) - 48 = nI (dv b st (k + 1)) := by
  rw [show (10 : Int32) * nI (dv b st k) = nI (10 * dv b st k) from pk_mul 10 _, nI_add]
  exact pk_sub (b := 48) (by omega)
theorem runD {b : Nat → Nat} {n : Nat} (T : TXB b n) {st sp : Nat} (h2 : sp ≤ n) (h3 : ∀ i, st ≤ i → i < sp → 48 ≤ b i ∧ b i ≤ 57) (h4 : sp < n → ¬ (48 ≤ b sp ∧ b sp ≤ 57)) : ∀ d k f N, st + k + d = sp → TN b n N → N.1 0 21 = nI (st + k) → N.1 0 22 = nI st → N.1 0 24 = nI (dv b st (min k 3)) → d < f → f_X12_step_140 f N = f_X12_step_217 (wI (wI N 0 24 (nI (dv b st (min (sp - st) 3)))) 0 21 (nI sp)) := by
  have hn := T.1
  intro d
  induction d with
  | zero =>
    intro k f N hi hN h21 h22 h24 hf
    obtain ⟨f, rfl⟩ : ∃ m, f = m + 1 := ⟨f - 1, by omega⟩
    obtain rfl : st + k = sp := by omega
    have st' : f_X12_step_140 (f + 1) N = b_X12_step_140 (fun M => f_X12_step_140 f M) N := rfl
    rw [st', Nat.add_sub_cancel_left, wI_self h24, wI_self h21]
    unfold b_X12_step_140
    rw [h21, e_byteAt T hN (by omega), bd_s]
    by_cases g : st + k < n
    · rw [if_pos g, show f_X12_in (nI (b (st + k))).toInt64 (48 : Int64) (57 : Int64) = some (b2 (inR (nI (b (st + k))) 48 57)) from e_inI _ 48 57, bd_s, if_pos (b2_0.mpr (fun z => h4 g ((byY (b (st + k)) (T.2 _ g)).2.2.2.1.mp z)))]
    · rw [if_neg g, show f_X12_in (-4 : Int32).toInt64 (48 : Int64) (57 : Int64) = some (b2 (inR (-4) 48 57)) from e_inI _ 48 57, bd_s, if_pos (b2_0.mpr (by decide))]
  | succ d ih =>
    intro k f N hi hN h21 h22 h24 hf
    obtain ⟨f, rfl⟩ : ∃ m, f = m + 1 := ⟨f - 1, by omega⟩
    have st' : f_X12_step_140 (f + 1) N = b_X12_step_140 (fun M => f_X12_step_140 f M) N := rfl
    rw [st']
    unfold b_X12_step_140 f_X12_step_201
    have hd := h3 (st + k) (by omega) (by omega)
    rw [h21, h22, e_byteAt T hN (by omega), bd_s, if_pos (show st + k < n by omega), show f_X12_in (nI (b (st + k))).toInt64 (48 : Int64) (57 : Int64) = some (b2 (inR (nI (b (st + k))) 48 57)) from e_inI _ 48 57, bd_s, if_neg (fun z => b2_0.mp z ((byY (b (st + k)) (T.2 _ (by omega))).2.2.2.1.mpr hd)), pk_sub (by omega), Nat.add_sub_cancel_left]
    simp only [wr_e, bd_s, mIn (show ¬ (0 = 0 ∧ 21 = 24) by decide), h21, n1]
    by_cases g : 3 ≤ k
    · rw [if_pos (show (3 : Int32) ≤ nI k from nI_le (a := 3) g (by omega)), h24]
      rw [ih (k + 1) f _ (by omega) ((hN.w (by decide)).w (by decide)) (by rw [mIs]; exact congrArg nI (by omega)) (by rw [mIn (by decide), mIn (by decide)]; exact h22) (by rw [mIn (by decide), mIs]; exact congrArg (fun z => nI (dv b st z)) (by omega)) (by omega), w2421]
    · rw [if_neg (show ¬ (3 : Int32) ≤ nI k from nI_ge (b := 3) (by omega) (by omega)), h24, show min k 3 = k by omega, dv_S hd.1]
      rw [ih (k + 1) f _ (by omega) ((hN.w (by decide)).w (by decide)) (by rw [mIs]; exact congrArg nI (by omega)) (by rw [mIn (by decide), mIn (by decide)]; exact h22) (by rw [mIn (by decide), mIs]; exact congrArg (fun z => nI (dv b st z)) (by omega)) (by omega), w2421]
theorem valX {b : Nat → Nat} {n : Nat} (T : TXB b n) {st sp : Nat} (h2 : sp ≤ n) (h3 : ∀ i, st ≤ i → i < sp → 48 ≤ b i ∧ b i ≤ 57) : ∀ d k f M, st + k + d = sp → TM b n M → M.1 1 7 = nI sp → M.1 1 8 = nI (dv b st k) → d < f → f_X9_readToken_218 0 f M (nI (st + k)) = f_X9_readToken_259 (wI M 1 8 (nI (dv b st (sp - st)))) 0 := by
  have hn := T.1
  intro d
  induction d with
  | zero =>
    intro k f M hi hM h7 h8 hf
    obtain ⟨f, rfl⟩ : ∃ m, f = m + 1 := ⟨f - 1, by omega⟩
    obtain rfl : st + k = sp := by omega
    have st' : f_X9_readToken_218 0 (f + 1) M (nI (st + k)) = b_X9_readToken_218 (fun M x4 => f_X9_readToken_218 0 f M x4) 0 M (nI (st + k)) := rfl
    rw [st', Nat.add_sub_cancel_left, wI_self h8]
    unfold b_X9_readToken_218
    rw [h7, if_pos (Int32.le_refl _)]
  | succ d ih =>
    intro k f M hi hM h7 h8 hf
    obtain ⟨f, rfl⟩ : ∃ m, f = m + 1 := ⟨f - 1, by omega⟩
    have st' : f_X9_readToken_218 0 (f + 1) M (nI (st + k)) = b_X9_readToken_218 (fun M x4 => f_X9_readToken_218 0 f M x4) 0 M (nI (st + k)) := rfl
    rw [st']
    unfold b_X9_readToken_218
    have hd := h3 (st + k) (by omega) (by omega)
    rw [h7, if_neg (nI_ge (by omega) (by omega)), if_pos rfl, ck_n (show st + k < 400 by omega) (by omega), nI_clamp (by omega), hM.2 _ (by omega), (byX (b (st + k)) (T.2 _ (by omega))).2.2.2.2 (by omega), h8, dv_S hd.1, wr_e, n1, Nat.add_assoc st k 1]
    exact (ih (k + 1) f _ (by omega) (hM.w (by decide)) (by rw [mIn (by decide)]; exact h7) (mIs _ _ _ _) (by omega)).trans (by rw [wI_wI])
