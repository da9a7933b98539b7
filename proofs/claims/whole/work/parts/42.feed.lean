theorem and255 (x : Int32) : ∃ b, b < 256 ∧ x &&& 255 = nI b := by
  refine ⟨(x &&& 255).toBitVec.toNat, ?_, ?_⟩
  · rw [Int32.toBitVec_and, BitVec.toNat_and]
    exact Nat.lt_of_le_of_lt Nat.and_le_right (by decide)
  · apply Int32.toBitVec_inj.mp
    show _ = (Int32.ofNat _).toBitVec
    rw [Int32.toBitVec_ofNat']
    exact BitVec.eq_of_toNat_eq (by rw [BitVec.toNat_ofNat]; exact (Nat.mod_eq_of_lt (BitVec.isLt _)).symm)
theorem byt_bv (v : BitVec 64) (s : Nat) (hs : s ≤ 56) : ((v >>> s).setWidth 32).setWidth 8 = (((v.sshiftRight s).setWidth 32) &&& 255#32).setWidth 8 := by
  apply BitVec.eq_of_getLsbD_eq
  intro i hi
  have h2 : s + i < 64 := by omega
  have h3 : i < 32 := by omega
  have h4 : i < 64 := by omega
  have h5 : (255#32).getLsbD i = true := by
    have : ∀ i < 8, (255#32).getLsbD i = true := by decide
    exact this i hi
  rw [BitVec.getLsbD_setWidth, BitVec.getLsbD_setWidth, BitVec.getLsbD_setWidth, BitVec.getLsbD_and, BitVec.getLsbD_setWidth, BitVec.getLsbD_sshiftRight, BitVec.getLsbD_ushiftRight, h5]
  simp [hi, h2, h3, h4]
theorem byt {j : Int64} {x : Nat} (hx : x < 8) : ((((j.toUInt64 >>> ((((8 : Int32) * (7 - nI x))).toInt64.toUInt64 &&& Int64.toUInt64 63)).toInt64).toInt32).toInt8.toInt32).toInt8 = ((j >>> ((nI (56 - 8 * x)).toInt64 &&& 63)).toInt32 &&& 255).toInt8 := by
  have hA : ((8 : Int32) * (7 - nI x)).toInt64.toUInt64 &&& Int64.toUInt64 63 = UInt64.ofNat (56 - 8 * x) := by
    have h : ∀ x < 8, ((8 : Int32) * (7 - nI x)).toInt64.toUInt64 &&& Int64.toUInt64 63 = UInt64.ofNat (56 - 8 * x) := by decide +kernel
    exact h x hx
  have hB : ((nI (56 - 8 * x)).toInt64 &&& 63) = Int64.ofNat (56 - 8 * x) := by
    have h : ∀ x < 8, ((nI (56 - 8 * x)).toInt64 &&& 63) = Int64.ofNat (56 - 8 * x) := by decide +kernel
    exact h x hx
  rw [hA, hB]
  apply Int8.toBitVec_inj.mp
  have hC : ((UInt64.ofNat (56 - 8 * x)).toBitVec % 64#64).toNat = 56 - 8 * x := by
    have h : ∀ x < 8, ((UInt64.ofNat (56 - 8 * x)).toBitVec % 64#64).toNat = 56 - 8 * x := by decide +kernel
    exact h x hx
  have hD : ((Int64.ofNat (56 - 8 * x)).toBitVec.smod 64).toNat = 56 - 8 * x := by
    have h : ∀ x < 8, ((Int64.ofNat (56 - 8 * x)).toBitVec.smod 64).toNat = 56 - 8 * x := by decide +kernel
    exact h x hx
  have e1 : (j.toUInt64 >>> UInt64.ofNat (56 - 8 * x)).toInt64.toBitVec = j.toBitVec >>> (56 - 8 * x) := by
    show (j.toUInt64 >>> UInt64.ofNat (56 - 8 * x)).toBitVec = _
    rw [UInt64.toBitVec_shiftRight]
    show j.toBitVec >>> ((UInt64.ofNat (56 - 8 * x)).toBitVec % 64#64).toNat = _
    rw [hC]
  have e2 : (j >>> Int64.ofNat (56 - 8 * x)).toBitVec = j.toBitVec.sshiftRight (56 - 8 * x) := by
    rw [Int64.toBitVec_shiftRight]
    show j.toBitVec.sshiftRight ((Int64.ofNat (56 - 8 * x)).toBitVec.smod 64).toNat = _
    rw [hD]
  have := byt_bv j.toBitVec (56 - 8 * x) (by omega)
  rw [Int8.toInt8_toInt32, Int32.toBitVec_toInt8, Int64.toBitVec_toInt32, e1, Int32.toBitVec_toInt8, Int32.toBitVec_and, Int64.toBitVec_toInt32, e2, BitVec.signExtend_eq_setWidth_of_le _ (by decide), BitVec.signExtend_eq_setWidth_of_le _ (by decide), BitVec.signExtend_eq_setWidth_of_le _ (by decide), BitVec.signExtend_eq_setWidth_of_le _ (by decide)]
  exact this
theorem nar_b (x : Int32) : vp_nar .byte x = x.toInt8.toInt32 := rfl
theorem feedX {M : Mm} {j : Int64} {n : Nat} (hn : n ≤ 392) : ∀ f x Mi, x ≤ 8 → 8 < x + f → Mi.1 1 1 = nI n → (∀ b, b ≠ 2 → Mi.1 b = M.1 b) → (∀ i, i < n → Mi.1 2 i = M.1 2 i) → (∀ y, y < x → Mi.1 2 (n + y) = vp_nar .byte ((j >>> ((nI (56 - 8 * y)).toInt64 &&& 63)).toInt32 &&& 255)) →
    ∃ M2, f_X9_append_15 j f Mi (nI x) = some (nI (n + 8), M2) ∧ M2.1 1 1 = nI (n + 8) ∧ (∀ b, b ≠ 1 → b ≠ 2 → M2.1 b = M.1 b) ∧ (∀ i, i ≠ 1 → M2.1 1 i = M.1 1 i) ∧ (∀ i, i < n → M2.1 2 i = M.1 2 i) ∧ ∀ y, y < 8 → M2.1 2 (n + y) = vp_nar .byte ((j >>> ((nI (56 - 8 * y)).toInt64 &&& 63)).toInt32 &&& 255) := by
  intro f
  induction f with
  | zero => intro x Mi h1 h2; omega
  | succ f ih =>
    intro x Mi h1 h2 h3 h4 h5 h6
    have st : f_X9_append_15 j (f + 1) Mi (nI x) = b_X9_append_15 (fun M x3 => f_X9_append_15 j f M x3) j Mi (nI x) := rfl
    rw [st]
    unfold b_X9_append_15 f_X9_append_49
    by_cases e : x = 8
    · subst e
      rw [if_pos (by decide), wr_e, mIs, h3, show nI n + (8 : Int32) = nI (n + 8) from nIa (b := 8) rfl]
      refine ⟨_, rfl, mIs _ _ _ _, fun b q1 q2 => ?_, fun i q => ?_, fun i hi => ?_, fun y hy => ?_⟩
      · rw [wI_o q1]; exact h4 b q2
      · rw [mIn (by omega), h4 1 (by decide)]
      · rw [wI_o (by decide)]; exact h5 i hi
      · rw [wI_o (by decide)]; exact h6 y hy
    · rw [if_neg (show ¬ (8 : Int32) ≤ nI x from nI_ge (b := 8) (by omega) (by omega)), h3, nI_add, ck_n (by omega) (by omega), nI_clamp (by omega), wr_e, n1]
      refine ih (x + 1) _ (by omega) (by omega) ?_ (fun b hb => ?_) (fun i hi => ?_) (fun y hy => ?_)
      · rw [wI_o (by decide)]; exact h3
      · rw [wI_o hb]; exact h4 b hb
      · rw [mIn (by omega)]; exact h5 i hi
      · by_cases z : y = x
        · subst z
          rw [mIs, nar_b, nar_b, byt (by omega)]
        · rw [mIn (by omega)]
          exact h6 y (by omega)
theorem feedY {N : Mm} {j : Int64} {n : Nat} (hn : n ≤ 392) : ∀ f x Ni, x ≤ 8 → 8 < x + f → Ni.1 0 17 = nI (n + x) → (∀ b, b ≠ 0 → b ≠ 9 → Ni.1 b = N.1 b) → (∀ i, i ≠ 17 → Ni.1 0 i = N.1 0 i) → (∀ i, i < n → Ni.1 9 i = N.1 9 i) → (∀ y, y < x → Ni.1 9 (n + y) = ((j >>> ((nI (56 - 8 * y)).toInt64 &&& 63)).toInt32 &&& 255)) →
    ∃ N2, f_X12_feed_19 j f Ni ((56 : Int32) - nI (8 * x)) = some (nI (n + 8), N2) ∧ N2.1 0 17 = nI (n + 8) ∧ (∀ b, b ≠ 0 → b ≠ 9 → N2.1 b = N.1 b) ∧ (∀ i, i ≠ 17 → N2.1 0 i = N.1 0 i) ∧ (∀ i, i < n → N2.1 9 i = N.1 9 i) ∧ ∀ y, y < 8 → N2.1 9 (n + y) = ((j >>> ((nI (56 - 8 * y)).toInt64 &&& 63)).toInt32 &&& 255) := by
  intro f
  induction f with
  | zero => intro x Ni h1 h2; omega
  | succ f ih =>
    intro x Ni h1 h2 h3 h4 h5 h6 h7
    have st : f_X12_feed_19 j (f + 1) Ni ((56 : Int32) - nI (8 * x)) = b_X12_feed_19 (fun M x3 => f_X12_feed_19 j f M x3) j Ni ((56 : Int32) - nI (8 * x)) := rfl
    rw [st]
    unfold b_X12_feed_19
    by_cases e : x = 8
    · subst e
      rw [if_pos (by decide), h3]
      exact ⟨_, rfl, h3, h4, h5, h6, h7⟩
    · have hx : (56 : Int32) - nI (8 * x) = nI (56 - 8 * x) := pk_sub (a := 56) (by omega)
      have hs : (56 : Int32) - nI (8 * x) + -8 = (56 : Int32) - nI (8 * (x + 1)) := by
        rw [show nI (8 * (x + 1)) = nI (8 * x) + 8 from (nIa (b := 8) (by omega)).symm]
        grind
      rw [hs, hx, if_neg (nI_pos (by omega)), h3, ck_n (by omega) (by omega), nI_clamp (by omega)]
      simp only [wr_e]
      rw [mIn (by omega), h3, n1]
      refine ih (x + 1) _ (by omega) (by omega) ?_ (fun b q1 q2 => ?_) (fun i q => ?_) (fun i hi => ?_) (fun y hy => ?_)
      · rw [mIs]
        rfl
      · rw [wI_o q1, wI_o q2]; exact h4 b q1 q2
      · rw [mIn (by omega), wI_o (by decide)]; exact h5 i q
      · rw [wI_o (by decide), mIn (by omega)]; exact h6 i hi
      · rw [wI_o (by decide)]
        by_cases z : y = x
        · subst z
          rw [mIs]
        · rw [mIn (by omega)]
          exact h7 y (by omega)
theorem s_feed {M N : Mm} (R : Rel M N) (j : Int64) : WW (f_X11_feed M j) (f_X12_feed N j) := by
  obtain ⟨p, F, H⟩ := id R
  obtain ⟨⟨n, n4, t1, t2, t3⟩, t4⟩ := H.2.2.2.2.2.1
  unfold f_X11_feed f_X12_feed f_X9_append
  rw [t1, t2, show nI n + (8 : Int32) = nI (n + 8) from nIa (b := 8) rfl]
  by_cases g : n ≤ 392
  · rw [if_pos (show nI n ≤ 392 from nI_le (b := 392) g (by omega)), if_pos (show nI (n + 8) ≤ 400 from nI_le (b := 400) (by omega) (by omega))]
    obtain ⟨M2, m1, m2, m3, m4, m5, m6⟩ := feedX (M := M) (j := j) g FU 0 M (by omega) (by decide) t1 (fun _ _ => rfl) (fun _ _ => rfl) (fun y hy => absurd hy (by omega))
    obtain ⟨N2, k1, k2, k3, k4, k5, k6⟩ := feedY (N := N) (j := j) g FU 0 N (by omega) (by decide) t2 (fun _ _ _ => rfl) (fun _ _ => rfl) (fun _ _ => rfl) (fun y hy => absurd hy (by omega))
    rw [show f_X9_append_15 j FU M 0 = _ from m1, bd_s, show f_X12_feed_19 j FU N 56 = _ from k1]
    refine ⟨_, _, _, rfl, rfl, p, F, H.st (fun b q0 q1 q2 q3 => m3 b q1 q2) (fun i hi => by rw [m3 0 (by decide) (by decide)]) (fun b q0 q9 q16 => k3 b q0 q9) (fun i q1 q2 => k4 i q2) ⟨⟨n + 8, by omega, m2, k2, fun i hi => ?_⟩, ?_⟩ (H.2.2.2.2.2.2.2.1.c (fun b q1 q2 => m3 b (by omega) (by omega)) (k3 16 (by decide) (by decide)) (k3 17 (by decide) (by decide)) (k3 18 (by decide) (by decide))) (by rw [m3 0 (by decide) (by decide), k4 35 (by decide)]; exact H.2.2.2.2.2.2.2.2.1)⟩
    · by_cases z : i < n
      · rw [m5 i z, k5 i z]
        exact t3 i z
      · obtain ⟨b, hb, eb⟩ := and255 ((j >>> ((nI (56 - 8 * (i - n))).toInt64 &&& 63)).toInt32)
        refine ⟨b, hb, ?_, ?_⟩
        · rw [show i = n + (i - n) by omega, k6 (i - n) (by omega), ← eb]
        · rw [show i = n + (i - n) by omega, m6 (i - n) (by omega), ← eb]
    · rw [m4 3 (by decide), k4 18 (by decide)]
      exact t4
  · rw [if_neg (show ¬ nI n ≤ 392 from nI_ge (a := 392) (by omega) (by omega)), if_neg (show ¬ nI (n + 8) ≤ 400 from nI_ge (a := 400) (by omega) (by omega)), bd_s]
    exact WW.no R _
