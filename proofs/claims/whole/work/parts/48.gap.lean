-- BITS, THE GAP
theorem bit0 (y : BitVec 32) : y &&& 1#32 = 0#32 ↔ y.getLsbD 0 = false := by
  constructor
  · intro h
    have := congrArg (fun z => BitVec.getLsbD z 0) h
    simpa [BitVec.getLsbD_and] using this
  · intro h
    apply BitVec.eq_of_getLsbD_eq
    intro k hk
    rw [BitVec.getLsbD_and]
    by_cases e : k = 0
    · subst e
      rw [h]
      simp
    · have : (1#32).getLsbD k = false := by
        have : ∀ k < 32, k ≠ 0 → (1#32).getLsbD k = false := by decide
        exact this k hk e
      rw [this]
      simp
theorem bt_bit {x : Int32} {i : Nat} (hi : i < 31) : bt x i = 0 ↔ x.toBitVec.getLsbD i = false := by
  have hD : ((nI i &&& 31).toBitVec.smod 32).toNat = i := by
    have h : ∀ i < 31, ((nI i &&& 31).toBitVec.smod 32).toNat = i := by decide +kernel
    exact h i hi
  unfold bt
  rw [← Int32.toBitVec_inj, Int32.toBitVec_and, Int32.toBitVec_shiftRight]
  show (x.toBitVec.sshiftRight ((nI i &&& 31).toBitVec.smod 32).toNat) &&& 1#32 = 0#32 ↔ _
  rw [hD, bit0, BitVec.getLsbD_sshiftRight]
  simp [show i < 32 by omega]
theorem one_bit {n j : Nat} (hn : n < 31) : ((1 : Int32) <<< (nI n &&& 31)).toBitVec.getLsbD j = decide (j = n) := by
  have h : ((1 : Int32) <<< (nI n &&& 31)).toBitVec = BitVec.twoPow 32 n := by
    have h : ∀ n < 31, ((1 : Int32) <<< (nI n &&& 31)).toBitVec = BitVec.twoPow 32 n := by decide +kernel
    exact h n hn
  rw [h, BitVec.getLsbD_twoPow]
  by_cases e : j = n
  · subst e
    simp [show j < 32 by omega]
  · simp [e, Ne.symm e]
theorem hm_bit {P : Nat → Prop} [DecidablePred P] : ∀ n j, n ≤ 31 → (hm P n).toBitVec.getLsbD j = decide (j < n ∧ P j) := by
  intro n
  induction n with
  | zero =>
    intro j _
    show (0 : Int32).toBitVec.getLsbD j = _
    simp
  | succ n ih =>
    intro j hn
    show (if P n then hm P n ||| ((1 : Int32) <<< (nI n &&& 31)) else hm P n).toBitVec.getLsbD j = _
    by_cases g : P n
    · rw [if_pos g, Int32.toBitVec_or, BitVec.getLsbD_or, ih j (by omega), one_bit (by omega)]
      by_cases e : j = n
      · subst e
        simp [g]
      · have : j < n ↔ j < n + 1 := by omega
        simp [e, this]
    · rw [if_neg g, ih j (by omega)]
      by_cases e : j = n
      · subst e
        simp [g]
      · have : j < n ↔ j < n + 1 := by omega
        simp [this]
theorem gap_bit {P Q : Nat → Prop} [DecidablePred P] [DecidablePred Q] {F : Nat} (hF : F ≤ 10) (j : Nat) : (hm P F &&& (hm Q F ^^^ -1)).toBitVec.getLsbD j = decide (j < F ∧ P j ∧ ¬ Q j) := by
  rw [Int32.toBitVec_and, Int32.toBitVec_xor, BitVec.getLsbD_and, BitVec.getLsbD_xor, hm_bit F j (by omega), hm_bit F j (by omega)]
  by_cases e : j < F
  · have h1 : (-1 : Int32).toBitVec.getLsbD j = true := by
      have : ∀ j < 10, (-1 : Int32).toBitVec.getLsbD j = true := by decide +kernel
      exact this j (by omega)
    rw [h1]
    simp [e]
  · simp [e]
theorem gap_0 {P Q : Nat → Prop} [DecidablePred P] [DecidablePred Q] {F : Nat} (hF : F ≤ 10) : hm P F &&& (hm Q F ^^^ -1) = 0 ↔ ∀ j, j < F → P j → Q j := by
  constructor
  · intro h j hj hp
    have := gap_bit (P := P) (Q := Q) hF j
    rw [h] at this
    apply Classical.byContradiction
    intro hq
    rw [decide_eq_true (show j < F ∧ P j ∧ ¬ Q j from ⟨hj, hp, hq⟩)] at this
    simp at this
  · intro h
    apply Int32.toBitVec_inj.mp
    apply BitVec.eq_of_getLsbD_eq
    intro j hj
    rw [gap_bit hF, decide_eq_false (fun z => z.2.2 (h j z.1 z.2.1))]
    simp
theorem low_spec {x : Int32} {a : Nat} (ha : a < 31) (h1 : x.toBitVec.getLsbD a = true) (h0 : ∀ j, j < a → x.toBitVec.getLsbD j = false) : f_X11_lowestBit x = some (nI a) := by
  have loop : ∀ f j, j ≤ a → a < j + f → f_X11_lowestBit_2 x f (nI j) = some (nI a) := by
    intro f
    induction f with
    | zero => intro j q1 q2; omega
    | succ f ih =>
      intro j q1 q2
      show b_X11_lowestBit_2 (fun x1 => f_X11_lowestBit_2 x f x1) x (nI j) = _
      unfold b_X11_lowestBit_2 f_X11_lowestBit_22
      rw [if_neg (show ¬ (31 : Int32) ≤ nI j from nI_ge (b := 31) (by omega) (by omega)), show (x >>> (nI j &&& 31)) &&& 1 = bt x j from rfl]
      have hb := bt_bit (x := x) (show j < 31 by omega)
      by_cases e : j = a
      · subst e
        rw [if_neg (fun z => by rw [hb.mp z] at h1; exact absurd h1 (by decide))]
      · rw [if_pos (hb.mpr (h0 j (by omega))), n1]
        exact ih (j + 1) (by omega) (by omega)
  exact loop FU 0 (by omega) (by show a < 0 + 5000; omega)
/-- the first hour that some man who counts now doesn't hold to, and the first such man -/
def GapI (R Tr : Pg) (T s h0 j b : Nat) (who : Int32) : Prop := (∀ t, h0 ≤ t → t < b → t ≤ 12 → ∀ i, i < j → hl R Tr T s h0 h0 i → hl R Tr T s h0 t i) ∧ ((who = -4 ∧ b = 13) ∨ ∃ a, who = nI a ∧ a < j ∧ hl R Tr T s h0 h0 a ∧ h0 < b ∧ b ≤ 12 ∧ ¬ hl R Tr T s h0 b a ∧ ∀ i, i < a → hl R Tr T s h0 h0 i → hl R Tr T s h0 b i)
theorem gapY {p F h0 s T : Nat} {M N : Mm} {x2 : Int32} (H : RelP p F M N) (e1 : N.1 1 170 = nI h0) (hh : h0 ≤ 12) (hs : s < 2) (eT : N.1 3 0 = nI T) (hT1 : 1 ≤ T) (hT2 : T ≤ 99) : ∀ f j b who (r : Pg), j ≤ F → F < j + f → b ≤ 13 → (∀ x, x < 630 → r x = N.1 1 x) → GapI (N.1 1) (N.1 3) T s h0 j b who →
    ∃ b2 who2 r2, f_X12_gap_29 (nI s) x2 f (wR N 1 r) (nI b) who (nI j) = f_X12_gap_103 (wR N 1 r2) x2 (nI b2) who2 ∧ b2 ≤ 13 ∧ (∀ x, x < 630 → r2 x = N.1 1 x) ∧ GapI (N.1 1) (N.1 3) T s h0 F b2 who2 := by
  have hF := H.1.2.2.2.2.1
  intro f
  induction f with
  | zero => intro j b who r h1 h2; omega
  | succ f ih =>
    intro j b who r h1 h2 hb h3 hI
    have st : f_X12_gap_29 (nI s) x2 (f + 1) (wR N 1 r) (nI b) who (nI j) = b_X12_gap_29 (fun M x3 x4 x5 => f_X12_gap_29 (nI s) x2 f M x3 x4 x5) (nI s) x2 (wR N 1 r) (nI b) who (nI j) := rfl
    rw [st]
    unfold b_X12_gap_29 f_X12_gap_80 f_X12_gap_82 f_X12_gap_96 f_X12_gap_97
    rw [wR_0, H.1.2.2.2.2.2.2]
    by_cases e : j = F
    · subst e
      rw [if_pos (nI_le (Nat.le_refl _) (by omega))]
      exact ⟨b, who, r, rfl, hb, h3, hI⟩
    · have hmm : mo 0 s j + 7 ≤ 140 := by unfold mo; omega
      have hcr : cnt r (N.1 3) (mo 0 s j) ↔ cnt (N.1 1) (N.1 3) (mo 0 s j) := cntB_c (h3 _ (by omega)) (h3 _ (by omega)) (h3 _ (by omega)) (h3 _ (by omega))
      rw [if_neg (nI_ge (by omega) (by omega)), show f_X12_counts (wR N 1 r) (0 : Int32) (nI s) (nI j) = _ from e_counts (at_ := 0) hs (by omega) (by omega), bd_s, b2_c hcr, n1]
      have hd0 : dm (N.1 1) T s j h0 h0 = T := by unfold dm; rw [Nat.sub_self]; rfl
      by_cases g : cnt (N.1 1) (N.1 3) (mo 0 s j)
      · obtain ⟨a1, a2⟩ := H.hd hs (show j < F by omega) g.1
        have hTh : T ≤ hdN (N.1 1) s j := by
          have := g.2.1
          rw [eT, a2] at this
          exact (nI_leI (by omega) (by omega)).mp this
        have hP : hl (N.1 1) (N.1 3) T s h0 h0 j := ⟨(cnt_suit.mp g).1, by rw [hd0]; exact hTh⟩
        obtain ⟨w, r2, w1, w2, w3⟩ := hold_spec2 (x4 := 0) (k := 0) H h3 e1 hh hs (show j < F by omega) g.1 a2 (by omega) hT1 hT2 eT
        have hq : ∀ t, h0 ≤ t → t ≤ 12 → (¬ w < nI t ↔ hl (N.1 1) (N.1 3) T s h0 t j) := fun t q1 q2 => hold_lt (e := 0) q1 q2 w3
        have hw : ∃ u, w = nI u ∧ h0 ≤ u ∧ u ≤ 12 := by
          rcases w3 with ⟨z1, z2⟩ | ⟨z1, u, z2, z3, z4, z5⟩
          · exact absurd ⟨hP.1, hTh⟩ z1
          · exact ⟨h0 + u, z2, Nat.le_add_right _ _, z3⟩
        clear w3
        obtain ⟨u, rfl, hu1, hu2⟩ := hw
        have hq2 : ∀ t, h0 ≤ t → t ≤ 12 → (t ≤ u ↔ hl (N.1 1) (N.1 3) T s h0 t j) := fun t q1 q2 => by
          rw [← hq t q1 q2, nI_ltI (by omega) (by omega)]
          omega
        rw [if_neg (fun q => b2_0.mp q g), show f_X12_holdsTo (wR N 1 r) (nI s) (nI j) (0 : Int32) (0 : Int32) = _ from w1, bd_s, nm_x, n1]
        by_cases q : b ≤ u + 1
        · rw [if_pos (nI_le q (by omega)), if_pos (nI_le q (by omega))]
          refine ih (j + 1) b who r2 (by omega) (by omega) hb w2 ⟨fun t q1 q2 q3 i hi hp => ?_, ?_⟩
          · by_cases z : i = j
            · subst z
              exact (hq2 t q1 q3).mp (by omega)
            · exact hI.1 t q1 q2 q3 i (by omega) hp
          · rcases hI.2 with z | ⟨a, z1, z2, z3⟩
            · exact Or.inl z
            · exact Or.inr ⟨a, z1, by omega, z3⟩
        · rw [if_neg (nI_ge (by omega) (by omega)), if_neg (show ¬ (12 : Int32) < nI (u + 1) from nI_nlt (a := 12) (by omega) (by omega)), if_neg (nI_ge (by omega) (by omega))]
          refine ih (j + 1) (u + 1) (nI j) r2 (by omega) (by omega) (by omega) w2 ⟨fun t q1 q2 q3 i hi hp => ?_, Or.inr ⟨j, rfl, by omega, hP, by omega, by omega, fun z => ?_, fun i hi hp => hI.1 (u + 1) (by omega) (by omega) (by omega) i hi hp⟩⟩
          · by_cases z : i = j
            · subst z
              exact (hq2 t q1 q3).mp (by omega)
            · exact hI.1 t q1 (by omega) q3 i (by omega) hp
          · have := (hq2 (u + 1) (by omega) (by omega)).mpr z
            omega
      · rw [if_pos (b2_0.mpr g)]
        have hP : ¬ hl (N.1 1) (N.1 3) T s h0 h0 j := fun z => by
          obtain ⟨a1, a2⟩ := H.hd hs (show j < F by omega) z.1.1
          refine g (cnt_suit.mpr ⟨z.1, ?_⟩)
          rw [eT, a2]
          have := z.2
          rw [hd0] at this
          exact nI_le this (by omega)
        refine ih (j + 1) b who r (by omega) (by omega) hb h3 ⟨fun t q1 q2 q3 i hi hp => ?_, ?_⟩
        · by_cases z : i = j
          · subst z
            exact absurd hp hP
          · exact hI.1 t q1 q2 q3 i (by omega) hp
        · rcases hI.2 with z | ⟨a, z1, z2, z3⟩
          · exact Or.inl z
          · exact Or.inr ⟨a, z1, by omega, z3⟩
theorem gapX {p F h0 s T b : Nat} {M N : Mm} {x2 who : Int32} (H : RelP p F M N) (e1 : N.1 1 170 = nI h0) (hh : h0 ≤ 12) (hs : s < 2) (eT : N.1 3 0 = nI T) (hT2 : T ≤ 99) (hI : GapI (N.1 1) (N.1 3) T s h0 F b who) (hb : b ≤ 13) : ∀ f t, h0 < t → t ≤ 13 → t ≤ b → 13 < t + f →
    f_X11_gap_45 M (nI s) x2 (hm (hl (N.1 1) (N.1 3) T s h0 h0) F) f (nI t) = some (if who = -4 then -4 else if x2 = 0 then nI b else who) := by
  have hF := H.1.2.2.2.2.1
  intro f
  induction f with
  | zero => intro t h1 h2; omega
  | succ f ih =>
    intro t h1 h2 h3 h4
    show b_X11_gap_45 (fun x5 => f_X11_gap_45 M (nI s) x2 (hm (hl (N.1 1) (N.1 3) T s h0 h0) F) f x5) M (nI s) x2 (hm (hl (N.1 1) (N.1 3) T s h0 h0) F) (nI t) = _
    unfold b_X11_gap_45 f_X11_gap_74 f_X11_gap_88
    by_cases e : t = 13
    · subst e
      rw [if_pos (by decide)]
      rcases hI.2 with z | ⟨a, z1, z2, z3, z4, z5, -⟩
      · rw [if_pos z.1]
      · omega
    · rw [if_neg (show ¬ (12 : Int32) < nI t from nI_nlt (a := 12) (by omega) (by omega)), H.ld, e_holders H e1 hs eT hT2 (by omega) (by omega), bd_s, nm_x, n1]
      by_cases g : t = b
      · rcases hI.2 with z | ⟨a, z1, z2, z3, z4, z5, z6, z7⟩
        · omega
        · rw [g] at *
          rw [if_neg (fun y => z6 ((gap_0 hF).mp y a z2 z3)), z1, if_neg (nI_ne4 (by omega))]
          have hlow : f_X11_lowestBit (hm (hl (N.1 1) (N.1 3) T s h0 h0) F &&& (hm (hl (N.1 1) (N.1 3) T s h0 b) F ^^^ -1)) = some (nI a) := by
            refine low_spec (by omega) ?_ (fun j hj => ?_)
            · rw [gap_bit hF]
              exact decide_eq_true ⟨z2, z3, z6⟩
            · rw [gap_bit hF]
              exact decide_eq_false (fun y => y.2.2 (z7 j hj y.2.1))
          rw [hlow, bd_s]
          by_cases y : x2 = 0
          · rw [if_pos y, if_pos y]
          · rw [if_neg y, if_neg y]
      · rw [if_pos ((gap_0 hF).mpr (fun j hj hp => hI.1 t (by omega) (by omega) (by omega) j hj hp))]
        exact ih (t + 1) (by omega) (by omega) (by omega) (by omega)
theorem s_gap {M N : Mm} (R : Rel M N) (x z : Int32) : ∃ r N2, f_X11_gap M x z = some r ∧ f_X12_gap N x z = some (r, N2) ∧ Rel M N2 := by
  obtain ⟨p, F, H⟩ := id R
  obtain ⟨h, hh, e1, e2⟩ := H.hr
  have hF := H.1.2.2.2.2.1
  obtain ⟨T, hT1, hT2, eT⟩ := H.2.2.1.2.1
  unfold f_X11_gap f_X12_gap f_X11_gap_16 f_X12_gap_17
  rw [e_isSide, e_ySide, bd_s, bd_s, e_isAmong, bd_s, show f_X12_in z.toInt64 (0 : Int64) (1 : Int64) = some (b2 (inR z 0 1)) from e_inI z 0 1, bd_s]
  by_cases g1 : inR x 0 1
  · rw [if_neg (fun q => b2_0.mp q g1), if_neg (fun q => b2_0.mp q g1)]
    by_cases g3 : inR z 0 1
    · rw [if_neg (fun q => b2_0.mp q g3), if_neg (fun q => b2_0.mp q g3)]
      obtain ⟨s, hs, rfl⟩ := side_n g1
      obtain ⟨b, who, r2, k1, k2, k3, k4⟩ := gapY (x2 := z) H e1 hh hs eT hT1 hT2 FU 0 13 (-4) (N.1 1) (by omega) (by show F < 0 + 5000; omega) (by omega) (fun _ _ => rfl) ⟨fun t q1 q2 q3 i hi => absurd hi (by omega), Or.inl ⟨rfl, rfl⟩⟩
      rw [wR_self] at k1
      have hb : h + 1 ≤ b := by
        rcases k4.2 with z | ⟨a, z1, z2, z3, z4, z5, -⟩
        · omega
        · omega
      rw [nm_x, H.ld, e2, e_holders H e1 hs eT hT2 (Nat.le_refl _) hh, bd_s, nm_x, n1, gapX H e1 hh hs eT hT2 k4 k2 FU (h + 1) (by omega) (by omega) hb (by show 13 < h + 1 + 5000; omega), show f_X12_gap_29 (nI s) z FU N 13 (-4) 0 = _ from k1]
      unfold f_X12_gap_103 f_X12_gap_125
      refine ⟨_, wR N 1 r2, rfl, ?_, p, F, H.cgn k3⟩
      by_cases y : who = -4
      · rw [if_pos y, if_pos y]
      · rw [if_neg y, if_neg y]
        by_cases w : z = 0
        · rw [if_pos w, if_pos w]
        · rw [if_neg w, if_neg w]
    · rw [if_pos (b2_0.mpr g3), if_pos (b2_0.mpr g3)]
      exact ⟨_, _, rfl, rfl, R⟩
  · rw [if_pos (b2_0.mpr g1), if_pos (b2_0.mpr g1)]
    exact ⟨_, _, rfl, rfl, R⟩
