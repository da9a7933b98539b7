theorem vB_le {c : Nat → Nat} {S : Nat → Bool} : ∀ n, (∀ i, i < n → S i = true → c i ≤ 99) → vB c S n ≤ 99 * n := by
  intro n
  induction n with
  | zero => intro _; simp [vB]
  | succ n ih =>
    intro h
    show vB c S n + (S n).toNat * c n ≤ _
    have h1 := ih (fun i hi => h i (by omega))
    by_cases g : S n = true
    · have := h n (by omega) g
      rw [g]
      simp
      omega
    · rw [show S n = false by simpa using g]
      simp
      omega
theorem bit_hi {x F i : Nat} (hx : x < 2 ^ F) (hi : F ≤ i) : x.testBit i = false := Nat.testBit_lt_two_pow (Nat.lt_of_lt_of_le hx (Nat.pow_le_pow_right (n := 2) (by decide) hi))
theorem sub_0 {C : Nat → Prop} [DecidablePred C] {x F : Nat} (hF : F ≤ 10) (hx : x < 2 ^ F) : nI x &&& (hm C F ^^^ -1) = 0 ↔ ∀ i, i < F → x.testBit i = true → C i := by
  have h10 : x < 1024 := Nat.lt_of_lt_of_le hx (Nat.pow_le_pow_right (n := 2) (by decide) hF)
  have hb : ∀ j, (nI x &&& (hm C F ^^^ -1)).toBitVec.getLsbD j = (x.testBit j && !(decide (C j))) := by
    intro j
    rw [Int32.toBitVec_and, Int32.toBitVec_xor, BitVec.getLsbD_and, BitVec.getLsbD_xor, nI_bit h10, hm_bit F j (by omega)]
    by_cases e : j < F
    · have h1 : (-1 : Int32).toBitVec.getLsbD j = true := by
        have : ∀ j < 10, (-1 : Int32).toBitVec.getLsbD j = true := by decide +kernel
        exact this j (by omega)
      rw [h1]
      simp [e]
    · rw [bit_hi hx (by omega)]
      simp
  constructor
  · intro h i hi ht
    have := hb i
    rw [h, ht] at this
    apply Classical.byContradiction
    intro hc
    rw [decide_eq_false hc] at this
    simp at this
  · intro h
    apply Int32.toBitVec_inj.mp
    apply BitVec.eq_of_getLsbD_eq
    intro j hj
    rw [hb j]
    by_cases e : x.testBit j = true
    · by_cases q : j < F
      · rw [decide_eq_true (h j q e)]
        simp
      · rw [bit_hi hx (by omega)] at e
        exact absurd e (by decide)
    · rw [show x.testBit j = false by simpa using e]
      simp
def hN (C : Nat → Prop) [DecidablePred C] : Nat → Nat
  | 0 => 0
  | n + 1 => if C n then hN C n ||| 2 ^ n else hN C n
theorem hN_lt (C : Nat → Prop) [DecidablePred C] : ∀ n, hN C n < 2 ^ n := by
  intro n
  induction n with
  | zero => exact Nat.lt_succ_self 0
  | succ n ih =>
    show (if C n then hN C n ||| 2 ^ n else hN C n) < _
    have h1 : 2 ^ n < 2 ^ (n + 1) := Nat.pow_lt_pow_right (by decide) (by omega)
    by_cases g : C n
    · rw [if_pos g]
      exact Nat.or_lt_two_pow (Nat.lt_trans ih h1) h1
    · rw [if_neg g]
      exact Nat.lt_trans ih h1
theorem hN_bit (C : Nat → Prop) [DecidablePred C] (i : Nat) : ∀ n, (hN C n).testBit i = decide (i < n ∧ C i) := by
  intro n
  induction n with
  | zero => simp [hN]
  | succ n ih =>
    show (if C n then hN C n ||| 2 ^ n else hN C n).testBit i = _
    by_cases e : i = n
    · subst e
      by_cases g : C i
      · rw [if_pos g, or_bit, ih]
        simp [g]
      · rw [if_neg g, ih]
        simp [g]
    · have hn : i < n ↔ i < n + 1 := by omega
      by_cases g : C n
      · rw [if_pos g, or_bit, ih]
        simp [e, hn]
      · rw [if_neg g, ih]
        simp [hn]
theorem hm_N (C : Nat → Prop) [DecidablePred C] : ∀ n, n ≤ 10 → hm C n = nI (hN C n) := by
  intro n
  induction n with
  | zero => intro _; rfl
  | succ n ih =>
    intro hn
    show (if C n then hm C n ||| ((1 : Int32) <<< (nI n &&& 31)) else hm C n) = nI (if C n then hN C n ||| 2 ^ n else hN C n)
    by_cases g : C n
    · rw [if_pos g, if_pos g, ih (by omega), or_nI (Nat.lt_of_lt_of_le (hN_lt C n) (Nat.pow_le_pow_right (n := 2) (by decide) (show n ≤ 10 by omega))) (by omega)]
    · rw [if_neg g, if_neg g, ih (by omega)]
def Vd (D Sn : Nat → Int32) (F m y : Nat) : Prop := (∀ i, i < F → y.testBit i = true → cd D Sn i) ∧ pB y.testBit F = m
def BI (D Sn : Nat → Int32) (F m x : Nat) (x8 x9 : Int32) : Prop := (x8 = -4 ∧ ∀ y, y < x → ¬ Vd D Sn F m y) ∨ ∃ b, b < x ∧ Vd D Sn F m b ∧ x8 = nI b ∧ x9 = nI (vB (cN D) b.testBit F) ∧ ∀ y, y < x → Vd D Sn F m y → vB (wN D) b.testBit F ≤ vB (wN D) y.testBit F
theorem sumY {D : Nat → Int32} {N : Mm} {F x : Nat} {kk : Int32 → Int32 → Int32 → Option (Int32 × Mm)} {x4 x5 x6 x7 x8 x9 : Int32} (hF : F ≤ 10) (hN : N.1 0 1 = nI F) (h12 : ∀ i, i < F → N.1 12 i = D i) (hx : x < 1024) (hv : ∀ i, i < F → x.testBit i = true → D i = nI (cN D i)) : ∀ f j, j ≤ F → F < j + f → f_X12_crews_212 kk N x4 x5 x6 x7 x8 x9 (nI x) f (nI (vB (cN D) x.testBit j)) (nI j) = f_X12_crews_254 kk N x4 x5 x6 x7 x8 x9 (nI x) (nI (vB (cN D) x.testBit F)) := by
  intro f
  induction f with
  | zero => intro j h1 h2; omega
  | succ f ih =>
    intro j h1 h2
    show b_X12_crews_212 kk (fun x11 x12 => f_X12_crews_212 kk N x4 x5 x6 x7 x8 x9 (nI x) f x11 x12) N x4 x5 x6 x7 x8 x9 (nI x) (nI (vB (cN D) x.testBit j)) (nI j) = _
    unfold b_X12_crews_212 f_X12_crews_245
    rw [hN]
    by_cases e : j = F
    · subst e
      rw [if_pos (nI_le (Nat.le_refl _) (by omega))]
    · have h := ih (j + 1) (by omega) (by omega)
      rw [show vB (cN D) x.testBit (j + 1) = vB (cN D) x.testBit j + (x.testBit j).toNat * cN D j from rfl] at h
      rw [if_neg (nI_ge (by omega) (by omega)), show (nI x >>> (nI j &&& 31)) &&& 1 = bt (nI x) j from rfl, bt_tb hx (by omega), ck_n (by omega) (by omega), nI_clamp (by omega), h12 j (by omega), nm_x, nm_x, n1]
      by_cases g : x.testBit j = true
      · rw [g, if_pos (show nI true.toNat = 1 from rfl), hv j (by omega) g, nI_add]
        rw [g] at h
        simpa using h
      · have g : x.testBit j = false := by simpa using g
        rw [g, if_neg (show ¬ nI false.toNat = 1 by decide), Int32.add_zero]
        rw [g] at h
        simpa using h
theorem tryY {D Sn : Nat → Int32} {N : Mm} {F m : Nat} {x4 x5 : Int32} (hF : F ≤ 10) (hm10 : m ≤ 10) (hD : DI D F) (hN : N.1 0 1 = nI F) (h12 : ∀ i, i < F → N.1 12 i = D i) : ∀ f x x8 x9, x ≤ 2 ^ F → 2 ^ F < x + f → BI D Sn F m x x8 x9 → ∃ y8 y9, f_X12_crews_175 N x4 x5 (hm (cd D Sn) F) (nI m) f x8 x9 (nI x) = f_X12_crews_299 N x4 x5 (nI m) y8 y9 ∧ BI D Sn F m (2 ^ F) y8 y9 := by
  have hp : (1 : Int32) <<< (nI F &&& 31) = nI (2 ^ F) := by
    have h : ∀ F < 11, (1 : Int32) <<< (nI F &&& 31) = nI (2 ^ F) := by decide +kernel
    exact h F (by omega)
  have h2F : 2 ^ F ≤ 1024 := Nat.pow_le_pow_right (n := 2) (by decide) hF
  intro f
  induction f with
  | zero => intro x x8 x9 h1 h2; omega
  | succ f ih =>
    intro x x8 x9 h1 h2 hB
    have st : f_X12_crews_175 N x4 x5 (hm (cd D Sn) F) (nI m) (f + 1) x8 x9 (nI x) = b_X12_crews_175 (fun x8 x9 x10 => f_X12_crews_175 N x4 x5 (hm (cd D Sn) F) (nI m) f x8 x9 x10) N x4 x5 (hm (cd D Sn) F) (nI m) x8 x9 (nI x) := rfl
    rw [st]
    unfold b_X12_crews_175 f_X12_crews_293
    rw [hN, hp]
    by_cases e : x = 2 ^ F
    · rw [if_pos (nI_le (by omega) (by omega))]
      exact ⟨x8, x9, rfl, by rw [← e]; exact hB⟩
    · have hxF : x < 2 ^ F := by omega
      rw [if_neg (nI_ge (by omega) (by omega)), e_bitsOf (by omega), bd_s, pB_lt (F := F) (fun i hi => bit_hi hxF hi) 10 hF, n1]
      have skip : ¬ Vd D Sn F m x → ∃ y8 y9, f_X12_crews_175 N x4 x5 (hm (cd D Sn) F) (nI m) f x8 x9 (nI (x + 1)) = f_X12_crews_299 N x4 x5 (nI m) y8 y9 ∧ BI D Sn F m (2 ^ F) y8 y9 := fun hn => by
        refine ih (x + 1) x8 x9 (by omega) (by omega) ?_
        rcases hB with ⟨z1, z2⟩ | ⟨b, z1, z2, z3, z4, z5⟩
        · refine Or.inl ⟨z1, fun y hy => ?_⟩
          by_cases q : y = x
          · rw [q]; exact hn
          · exact z2 y (by omega)
        · refine Or.inr ⟨b, by omega, z2, z3, z4, fun y hy hv => ?_⟩
          by_cases q : y = x
          · rw [q] at hv; exact absurd hv hn
          · exact z5 y (by omega) hv
      by_cases g1 : nI x &&& (hm (cd D Sn) F ^^^ -1) = 0
      · rw [if_pos g1]
        have s1 := (sub_0 hF hxF).mp g1
        have hpl : pB x.testBit F ≤ 10 := by
          have : ∀ n, pB x.testBit n ≤ n := by
            intro n
            induction n with
            | zero => exact Nat.le_refl _
            | succ n ih =>
              show pB x.testBit n + (x.testBit n).toNat ≤ n + 1
              have := Bool.toNat_le (x.testBit n)
              omega
          exact Nat.le_trans (this F) hF
        by_cases g2 : pB x.testBit F = m
        · have hV : Vd D Sn F m x := ⟨s1, g2⟩
          have hlx := vB_le (c := cN D) (S := x.testBit) F (fun i hi hb => (cd_n hD hi (s1 i hi hb)).1)
          rw [g2, if_pos rfl, show f_X12_crews_212 (fun x8 x9 x10 => f_X12_crews_175 N x4 x5 (hm (cd D Sn) F) (nI m) f x8 x9 x10) N x4 x5 (hm (cd D Sn) F) (nI m) x8 x9 (nI x) FU 0 0 = _ from sumY hF hN h12 (by omega) (fun i hi hb => (cd_n hD hi (s1 i hi hb)).2) FU 0 (by omega) (by show F < 0 + 5000; omega)]
          unfold f_X12_crews_254 f_X12_crews_268 f_X12_crews_275 f_X12_crews_291 f_X12_crews_293
          rw [if_pos rfl, n1]
          have hw : ∀ y, y < 2 ^ F → vB (wN D) y.testBit F = vB (cN D) y.testBit F * 1024 + y := fun y hy => by
            rw [show wN D = fun i => cN D i * 1024 + 2 ^ i from rfl, vB_W, vB_2, Nat.mod_eq_of_lt hy]
          rcases hB with ⟨z1, z2⟩ | ⟨b, z1, z2, z3, z4, z5⟩
          · rw [if_pos z1]
            refine ih (x + 1) (nI x) _ (by omega) (by omega) (Or.inr ⟨x, by omega, hV, rfl, rfl, fun y hy hv => ?_⟩)
            by_cases q : y = x
            · rw [q]; exact Nat.le_refl _
            · exact absurd hv (z2 y (by omega))
          · have hlb := vB_le (c := cN D) (S := b.testBit) F (fun i hi hb => (cd_n hD hi (z2.1 i hi hb)).1)
            have hbx : vB (wN D) b.testBit F = _ := hw b (by omega)
            have hxx : vB (wN D) x.testBit F = _ := hw x hxF
            rw [z3, if_neg (nI_ne4 (by omega)), z4]
            by_cases g3 : vB (cN D) b.testBit F ≤ vB (cN D) x.testBit F
            · rw [if_pos (nI_le g3 (by omega)), if_neg (fun y => by have := (nI_eq (by omega) (by omega)).mp y; omega)]
              refine ih (x + 1) (nI b) _ (by omega) (by omega) (Or.inr ⟨b, by omega, z2, rfl, rfl, fun y hy hv => ?_⟩)
              by_cases q : y = x
              · rw [q]; omega
              · exact z5 y (by omega) hv
            · rw [if_neg (nI_ge (by omega) (by omega))]
              refine ih (x + 1) (nI x) _ (by omega) (by omega) (Or.inr ⟨x, by omega, hV, rfl, rfl, fun y hy hv => ?_⟩)
              by_cases q : y = x
              · rw [q]; exact Nat.le_refl _
              · have := z5 y (by omega) hv
                omega
        · rw [if_neg (fun y => g2 ((nI_eq (by omega) (by omega)).mp y))]
          exact skip (fun z => g2 z.2)
      · rw [if_neg g1]
        exact skip (fun z => g1 ((sub_0 hF hxF).mpr z.1))
