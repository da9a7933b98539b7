def SQ (M : Mm) (c : Nat) (x3 x4 : Int32) : Prop := M.1 98 1 = nI c ∧ (c = 0 → x3 = -4 ∧ x4 = -4) ∧ (c ≠ 0 → 10 * M.1 98 2 + M.1 98 3 = x3 ∧ 100 * M.1 98 4 + M.1 98 5 = x4)
theorem idx {a b : Nat} (ha : a < 20) (hb : b < 20) : (1 : Int32) + nI (20 * a + b) / 20 = nI (a + 1) ∧ (1 : Int32) + (nI (20 * a + b) - nI (20 * a + b) / 20 * 20) = nI (b + 1) ∧ (100 : Int32) * (1 + nI (20 * a + b) / 20) + 1 + (nI (20 * a + b) - nI (20 * a + b) / 20 * 20) = 100 * nI (a + 1) + nI (b + 1) := by
  have h : ∀ a < 20, ∀ b < 20, (1 : Int32) + nI (20 * a + b) / 20 = nI (a + 1) ∧ (1 : Int32) + (nI (20 * a + b) - nI (20 * a + b) / 20 * 20) = nI (b + 1) ∧ (100 : Int32) * (1 + nI (20 * a + b) / 20) + 1 + (nI (20 * a + b) - nI (20 * a + b) / 20 * 20) = 100 * nI (a + 1) + nI (b + 1) := by decide +kernel
  exact h a ha b hb
theorem spies_in {M N : Mm} {fl : Nat → Int32} {n i j a B : Nat} {x1 : Int32} {k2 : Mm → Int32 → Option Mm} {k36 k51 : Int32 → Int32 → Int32 → Int32 → Option Int32} (hn : n ≤ 10) (h1 : ∀ j, j < n → M.1 99 j = fl j) (y0 : N.1 0 30 = nI n) (y1 : ∀ j, j < n → N.1 14 j = fl j) (hi : i < 10) (hj : j < 10) (ha : a < 20) (hB : B ≤ 90000) : ∀ f g b Mi c x3 x4, b ≤ 20 → 20 < b + f → 20 ≤ b + g → c ≤ B + b → (∀ b, b ≠ 98 → Mi.1 b = M.1 b) → Mi.1 98 0 = nI n → SQ Mi c x3 x4 →
    ∃ M2 c2 y3 y4, f_X2_seekHeats_11 k2 (nI i) (nI j) (nI (a + 1)) f Mi (nI (b + 1)) = k2 M2 (nI (a + 2)) ∧ f_X12_spies_63 k36 k51 N x1 (nI i) (nI j) g (nI c) x3 x4 (nI (20 * a + b)) = f_X12_spies_63 k36 k51 N x1 (nI i) (nI j) (g - (20 - b)) (nI c2) y3 y4 (nI (20 * (a + 1))) ∧ (∀ b, b ≠ 98 → M2.1 b = M.1 b) ∧ M2.1 98 0 = nI n ∧ SQ M2 c2 y3 y4 ∧ c2 ≤ B + 20 := by
  intro f
  induction f with
  | zero => intro g b Mi c x3 x4 q1 q2; omega
  | succ f ih =>
    intro g b Mi c x3 x4 q1 q2 q3 hc hb hb0 hS
    have st : f_X2_seekHeats_11 k2 (nI i) (nI j) (nI (a + 1)) (f + 1) Mi (nI (b + 1)) = b_X2_seekHeats_11 k2 (fun M x4 => f_X2_seekHeats_11 k2 (nI i) (nI j) (nI (a + 1)) f M x4) (nI i) (nI j) (nI (a + 1)) Mi (nI (b + 1)) := rfl
    rw [st]
    unfold b_X2_seekHeats_11 f_X2_seekHeats_45 f_X2_seekHeats_39
    by_cases e : b = 20
    · subst e
      rw [if_pos (by decide), n1]
      exact ⟨Mi, c, x3, x4, rfl, by rw [show g - (20 - 20) = g by omega, show 20 * a + 20 = 20 * (a + 1) by omega], hb, hb0, hS, hc⟩
    · obtain ⟨g, rfl⟩ : ∃ k, g = k + 1 := ⟨g - 1, by omega⟩
      have st2 : f_X12_spies_63 k36 k51 N x1 (nI i) (nI j) (g + 1) (nI c) x3 x4 (nI (20 * a + b)) = b_X12_spies_63 k36 k51 (fun x2 x3 x4 x7 => f_X12_spies_63 k36 k51 N x1 (nI i) (nI j) g x2 x3 x4 x7) N x1 (nI i) (nI j) (nI c) x3 x4 (nI (20 * a + b)) := rfl
      obtain ⟨d1, d2, d3⟩ := idx ha (show b < 20 by omega)
      rw [st2]
      unfold b_X12_spies_63 f_X12_spies_145 f_X12_spies_112 f_X12_spies_140 f_X12_spies_145
      rw [if_neg (show ¬ (20 : Int32) < nI (b + 1) from nI_nlt (a := 20) (by omega) (by omega)), if_neg (show ¬ (400 : Int32) ≤ nI (20 * a + b) from nI_ge (b := 400) (by omega) (by omega)), e_feltX (fl := fl) hn hb0 (fun j hj => by rw [hb 99 (by decide)]; exact h1 j hj), bd_s, d3, d1, d2, e_feltY hn y0 y1 hi (by omega) hj (by omega), bd_s, n1, n1, show g + 1 - (20 - b) = g - (20 - (b + 1)) by omega]
      by_cases z : fb fl (nI (a + 1)) (nI i) (nI (b + 1)) (nI j) n 0 = 0
      · rw [if_pos z, if_pos z]
        exact ih g (b + 1) Mi c x3 x4 (by omega) (by omega) (by omega) (by omega) hb hb0 hS
      · obtain ⟨M', a1, a2, a3, a4, a5, a6⟩ := e_note hS.1 (by omega) (nI i) (nI (a + 1)) (nI j) (nI (b + 1))
        rw [if_neg z, if_neg z, a1, bd_s]
        by_cases c0 : c = 0
        · subst c0
          obtain ⟨u1, u2, u3, u4⟩ := a5 rfl
          rw [if_pos (show nI 0 = 0 from rfl), if_pos (show nI 0 = 0 from rfl), n1]
          exact ih g (b + 1) M' 1 _ _ (by omega) (by omega) (by omega) (by omega) (fun b h => (a4 b h).trans (hb b h)) (a3.trans hb0) ⟨a2, fun z => absurd z (by decide), fun _ => ⟨by rw [u1, u3], by rw [u2, u4]⟩⟩
        · rw [if_neg (nI_ne0 (by omega) (by omega)), if_neg (nI_ne0 (by omega) (by omega)), n1]
          exact ih g (b + 1) M' (c + 1) x3 x4 (by omega) (by omega) (by omega) (by omega) (fun b h => (a4 b h).trans (hb b h)) (a3.trans hb0) ⟨a2, fun z => absurd z (by omega), fun _ => ⟨by rw [a6 c0 2 (by decide), a6 c0 3 (by decide)]; exact (hS.2.2 c0).1, by rw [a6 c0 4 (by decide), a6 c0 5 (by decide)]; exact (hS.2.2 c0).2⟩⟩
