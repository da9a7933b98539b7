-- one scene becomes another
theorem e_manBecome {M : Mm} {a b : Nat} (hab : a ≠ b) (h0 : isB (M.1 b 0)) (h6 : isB (M.1 b 6)) : ∃ M2, f_X6_become M a b = some M2 ∧ (∀ j, j < 7 → M2.1 a j = M.1 b j) ∧ (∀ c, c ≠ a → M2.1 c = M.1 c) ∧ M2.2 = M.2 := by
  have hb : ∀ (X : Mm) (k : Nat) (x : Int32), (wI X a k x).1 b = X.1 b := fun X k x => wI_o (Ne.symm hab)
  unfold f_X6_become
  simp only [wr_e, hb]
  rw [ck_t h0, ck_t h6]
  refine ⟨_, rfl, fun j hj => ?_, fun c hc => ?_, rfl⟩
  · simp only [mI]
    have : j = 0 ∨ j = 1 ∨ j = 2 ∨ j = 3 ∨ j = 4 ∨ j = 5 ∨ j = 6 := by omega
    rcases this with rfl | rfl | rfl | rfl | rfl | rfl | rfl <;> simp
  · rw [wI_o hc, wI_o hc, wI_o hc, wI_o hc, wI_o hc, wI_o hc, wI_o hc]
/-- two scenes apart -/
def Apt (a b : Nat) : Prop := a + 31 ≤ b ∨ b + 31 ≤ a
theorem become_men {M : Mm} {a b : Nat} (hab : Apt a b) (hB : ∀ k, k < 20 → isB (M.1 (b + 11 + k) 0) ∧ isB (M.1 (b + 11 + k) 6)) : ∀ n k Mi, k ≤ 20 → 20 < k + n → (∀ q, q < k → ∀ j, j < 7 → Mi.1 (a + 11 + q) j = M.1 (b + 11 + q) j) → (∀ c, (c < a + 11 ∨ a + 31 ≤ c) → Mi.1 c = M.1 c) → Mi.2 = M.2 →
    ∃ M2, f_X7_become_10 a b n Mi (nI k) = f_X7_become_37 M2 a b ∧ (∀ q, q < 20 → ∀ j, j < 7 → M2.1 (a + 11 + q) j = M.1 (b + 11 + q) j) ∧ (∀ c, (c < a + 11 ∨ a + 31 ≤ c) → M2.1 c = M.1 c) ∧ M2.2 = M.2 := by
  intro n
  induction n with
  | zero => intro k Mi h1 h2; omega
  | succ n ih =>
    intro k Mi h1 h2 h3 h4 h5
    show ∃ M2, b_X7_become_10 (fun M x2 => f_X7_become_10 a b n M x2) a b Mi (nI k) = _ ∧ _
    unfold b_X7_become_10
    by_cases e : k = 20
    · subst e
      rw [if_pos (by decide)]
      exact ⟨Mi, rfl, h3, h4, h5⟩
    · rw [if_neg (by show ¬ nI 20 ≤ nI k; exact nI_ge (by omega) (by omega)), ck_n (by omega) (by omega), nI_clamp (by omega), n1, show a + 1 + 10 + k = a + 11 + k by omega, show b + 1 + 10 + k = b + 11 + k by omega]
      have hb : Mi.1 (b + 11 + k) = M.1 (b + 11 + k) := h4 _ (by unfold Apt at hab; omega)
      obtain ⟨M2, e2, g1, g2, g3⟩ := e_manBecome (M := Mi) (a := a + 11 + k) (b := b + 11 + k) (by unfold Apt at hab; omega) (by rw [hb]; exact (hB k (by omega)).1) (by rw [hb]; exact (hB k (by omega)).2)
      rw [e2, bd_s]
      refine ih (k + 1) M2 (by omega) (by omega) (fun q hq j hj => ?_) (fun c hc => ?_) (g3.trans h5)
      · by_cases hqk : q = k
        · subst hqk
          rw [g1 j hj, hb]
        · rw [g2 _ (by omega)]
          exact h3 q (by omega) j hj
      · rw [g2 _ (by omega)]
        exact h4 c hc
theorem cpy_row {M : Mm} {a c n : Nat} : ∀ b, b ≠ a → (wR M a (va_cpy (M.1 c) (M.1 a) 0 0 n)).1 b = M.1 b := fun b hb => wR_ne hb
/-- a scene becomes another: all that a page tells of it -/
def Same (M M2 : Mm) (a b : Nat) : Prop := (∀ q, q < 20 → ∀ j, j < 7 → M2.1 (a + 11 + q) j = M.1 (b + 11 + q) j) ∧ M2.1 a 0 = M.1 b 0 ∧ (∀ i, i < 10 → M2.1 (a + 2) i = M.1 (b + 2) i ∧ M2.1 (a + 3) i = M.1 (b + 3) i ∧ M2.1 (a + 4) i = M.1 (b + 4) i) ∧ (∀ h, h < 12 → M2.1 (a + 5) h = M.1 (b + 5) h) ∧ M2.1 (a + 6) 0 = M.1 (b + 6) 0 ∧ ∀ j, j < 6 → M2.1 (a + 6 + 1) j = M.1 (b + 6 + 1) j ∧ M2.1 (a + 6 + 2) j = M.1 (b + 6 + 2) j ∧ M2.1 (a + 6 + 3) j = M.1 (b + 6 + 3) j ∧ M2.1 (a + 6 + 4) j = M.1 (b + 6 + 4) j
theorem become_rest {M : Mm} {a b : Nat} (hab : Apt a b) : ∃ M2, f_X7_become_37 M a b = some M2 ∧ (∀ c, (c < a + 2 ∨ a + 11 ≤ c) → M2.1 c = M.1 c) ∧ M2.2 = M.2 ∧ (∀ i, i < 10 → M2.1 (a + 2) i = M.1 (b + 2) i ∧ M2.1 (a + 3) i = M.1 (b + 3) i ∧ M2.1 (a + 4) i = M.1 (b + 4) i) ∧ (∀ h, h < 12 → M2.1 (a + 5) h = M.1 (b + 5) h) ∧ M2.1 (a + 6) 0 = M.1 (b + 6) 0 ∧ ∀ j, j < 6 → M2.1 (a + 6 + 1) j = M.1 (b + 6 + 1) j ∧ M2.1 (a + 6 + 2) j = M.1 (b + 6 + 2) j ∧ M2.1 (a + 6 + 3) j = M.1 (b + 6 + 3) j ∧ M2.1 (a + 6 + 4) j = M.1 (b + 6 + 4) j := by
  unfold Apt at hab
  unfold f_X7_become_37 f_X0_become
  simp only [wr_e, bd_s]
  refine ⟨_, rfl, fun c hc => ?_, rfl, fun i hi => ⟨?_, ?_, ?_⟩, fun h hh => ?_, ?_, fun j hj => ⟨?_, ?_, ?_, ?_⟩⟩
  · rw [cpy_row _ (by omega), cpy_row _ (by omega), cpy_row _ (by omega), cpy_row _ (by omega), wI_o (by omega), cpy_row _ (by omega), cpy_row _ (by omega), cpy_row _ (by omega), cpy_row _ (by omega)]
  · rw [cpy_row _ (by omega), cpy_row _ (by omega), cpy_row _ (by omega), cpy_row _ (by omega), wI_o (by omega), cpy_row _ (by omega), cpy_row _ (by omega), cpy_row _ (by omega), mC, if_pos ⟨rfl, hi⟩]
  · rw [cpy_row _ (by omega), cpy_row _ (by omega), cpy_row _ (by omega), cpy_row _ (by omega), wI_o (by omega), cpy_row _ (by omega), cpy_row _ (by omega), mC, if_pos ⟨rfl, hi⟩, cpy_row _ (by omega)]
  · rw [cpy_row _ (by omega), cpy_row _ (by omega), cpy_row _ (by omega), cpy_row _ (by omega), wI_o (by omega), cpy_row _ (by omega), mC, if_pos ⟨rfl, hi⟩, cpy_row _ (by omega), cpy_row _ (by omega)]
  · rw [cpy_row _ (by omega), cpy_row _ (by omega), cpy_row _ (by omega), cpy_row _ (by omega), wI_o (by omega), mC, if_pos ⟨rfl, hh⟩, cpy_row _ (by omega), cpy_row _ (by omega), cpy_row _ (by omega)]
  · rw [cpy_row _ (by omega), cpy_row _ (by omega), cpy_row _ (by omega), cpy_row _ (by omega), mIs, cpy_row _ (by omega), cpy_row _ (by omega), cpy_row _ (by omega), cpy_row _ (by omega)]
  · rw [cpy_row _ (by omega), cpy_row _ (by omega), cpy_row _ (by omega), mC, if_pos ⟨rfl, hj⟩, wI_o (by omega), cpy_row _ (by omega), cpy_row _ (by omega), cpy_row _ (by omega), cpy_row _ (by omega)]
  · rw [cpy_row _ (by omega), cpy_row _ (by omega), mC, if_pos ⟨rfl, hj⟩, cpy_row _ (by omega), wI_o (by omega), cpy_row _ (by omega), cpy_row _ (by omega), cpy_row _ (by omega), cpy_row _ (by omega)]
  · rw [cpy_row _ (by omega), mC, if_pos ⟨rfl, hj⟩, cpy_row _ (by omega), cpy_row _ (by omega), wI_o (by omega), cpy_row _ (by omega), cpy_row _ (by omega), cpy_row _ (by omega), cpy_row _ (by omega)]
  · rw [mC, if_pos ⟨rfl, hj⟩, cpy_row _ (by omega), cpy_row _ (by omega), cpy_row _ (by omega), wI_o (by omega), cpy_row _ (by omega), cpy_row _ (by omega), cpy_row _ (by omega), cpy_row _ (by omega)]
theorem e_become {M : Mm} {a b : Nat} (hab : Apt a b) (hB : ∀ k, k < 20 → isB (M.1 (b + 11 + k) 0) ∧ isB (M.1 (b + 11 + k) 6)) : ∃ M2, f_X7_become M a b = some M2 ∧ Same M M2 a b ∧ Out M M2 a := by
  have hab2 := hab
  unfold Apt at hab2
  unfold f_X7_become
  rw [wr_e]
  have hr : ∀ c, c ≠ a → (wI M a 0 (M.1 b 0)).1 c = M.1 c := fun c hc => wI_o hc
  obtain ⟨M2, e2, g1, g2, g3⟩ := become_men (M := wI M a 0 (M.1 b 0)) hab (fun k hk => by rw [hr _ (by omega)]; exact hB k hk) FU 0 (wI M a 0 (M.1 b 0)) (by omega) (by decide) (fun q hq => absurd hq (by omega)) (fun _ _ => rfl) rfl
  rw [show f_X7_become_10 a b FU (wI M a 0 (M.1 b 0)) 0 = f_X7_become_10 a b FU (wI M a 0 (M.1 b 0)) (nI 0) from rfl, e2]
  obtain ⟨M3, e3, k1, k2, k3, k4, k5, k6⟩ := become_rest (M := M2) hab
  have hb : ∀ c, b ≤ c → c < b + 31 → M2.1 c = M.1 c := fun c h1 h2 => by rw [g2 c (by omega), hr c (by omega)]
  refine ⟨M3, e3, ⟨fun q hq j hj => ?_, ?_, fun i hi => ?_, fun h hh => ?_, ?_, fun j hj => ?_⟩, fun c hc => ?_, ?_⟩
  · rw [k1 _ (by omega), g1 q hq j hj, hr _ (by omega)]
  · rw [k1 _ (by omega), g2 _ (by omega), mIs]
  · obtain ⟨q1, q2, q3⟩ := k3 i hi
    rw [q1, q2, q3, hb _ (by omega) (by omega), hb _ (by omega) (by omega), hb _ (by omega) (by omega)]
    exact ⟨rfl, rfl, rfl⟩
  · rw [k4 h hh, hb _ (by omega) (by omega)]
  · rw [k5, hb _ (by omega) (by omega)]
  · obtain ⟨q1, q2, q3, q4⟩ := k6 j hj
    rw [q1, q2, q3, q4, hb _ (by omega) (by omega), hb _ (by omega) (by omega), hb _ (by omega) (by omega), hb _ (by omega) (by omega)]
    exact ⟨rfl, rfl, rfl, rfl⟩
  · rw [k1 _ (by omega), g2 _ (by omega), hr _ (by omega)]
  · rw [k2, g3]
    rfl
theorem ScR.become {M M2 : Mm} {a b t : Nat} {r : Pg} (H : ScR M b r t) (hb6 : (r (t + 207)).toNatClampNeg ≤ 6) (S : Same M M2 a b) : ScR M2 a r t := by
  obtain ⟨hm, hs, hh0, hsun, hbr⟩ := H
  obtain ⟨s1, s2, s3, s4, s5, s6⟩ := S
  refine ⟨fun k hk => ?_, fun i hi => ?_, s2.trans hh0, fun h hh => (s4 h hh).trans (hsun h hh), s5.trans hbr.1, fun j hj => ?_⟩
  · have e := s1 k hk
    unfold MnR
    rw [e 0 (by decide), e 1 (by decide), e 2 (by decide), e 3 (by decide), e 4 (by decide), e 5 (by decide), e 6 (by decide)]
    exact hm k hk
  · obtain ⟨q1, q2, q3⟩ := s3 i hi
    rw [q1, q2, q3]
    exact hs i hi
  · have hj6 : j < 6 := Nat.lt_of_lt_of_le hj hb6
    obtain ⟨q1, q2, q3, q4⟩ := s6 j hj6
    rw [q1, q2, q3, q4]
    exact hbr.2 j hj
theorem ScR.bB {M : Mm} {a t : Nat} {r : Pg} (H : ScR M a r t) : ∀ k, k < 20 → isB (M.1 (a + 11 + k) 0) ∧ isB (M.1 (a + 11 + k) 6) := fun k hk => ⟨by rw [(H.1 k hk).1.1]; exact (H.1 k hk).2.1, (H.1 k hk).1.2⟩
