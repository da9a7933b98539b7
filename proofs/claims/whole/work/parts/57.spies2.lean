theorem spies_mid {M N : Mm} {fl : Nat → Int32} {n i j B : Nat} {x1 : Int32} {k36 k51 : Int32 → Int32 → Int32 → Int32 → Option Int32} (hn : n ≤ 10) (h1 : ∀ j, j < n → M.1 99 j = fl j) (y0 : N.1 0 30 = nI n) (y1 : ∀ j, j < n → N.1 14 j = fl j) (hi : i < 10) (hj : j < 10) (hB : B ≤ 80000) : ∀ f g a Mi c x3 x4, a ≤ 20 → 20 < a + f → 400 < 20 * a + g → c ≤ B + 20 * a → (∀ b, b ≠ 98 → Mi.1 b = M.1 b) → Mi.1 98 0 = nI n → SQ Mi c x3 x4 →
    ∃ M2 c2 y3 y4, f_X2_seekHeats_2 (nI i) (nI j) f Mi (nI (a + 1)) = some M2 ∧ f_X12_spies_63 k36 k51 N x1 (nI i) (nI j) g (nI c) x3 x4 (nI (20 * a)) = k51 (nI c2) y3 y4 (nI (j + 1)) ∧ (∀ b, b ≠ 98 → M2.1 b = M.1 b) ∧ M2.1 98 0 = nI n ∧ SQ M2 c2 y3 y4 ∧ c2 ≤ B + 400 := by
  intro f
  induction f with
  | zero => intro g a Mi c x3 x4 q1 q2; omega
  | succ f ih =>
    intro g a Mi c x3 x4 q1 q2 q3 hc hb hb0 hS
    have st : f_X2_seekHeats_2 (nI i) (nI j) (f + 1) Mi (nI (a + 1)) = b_X2_seekHeats_2 (fun M x3 => f_X2_seekHeats_2 (nI i) (nI j) f M x3) (nI i) (nI j) Mi (nI (a + 1)) := rfl
    rw [st]
    unfold b_X2_seekHeats_2
    by_cases e : a = 20
    · subst e
      obtain ⟨g, rfl⟩ : ∃ k, g = k + 1 := ⟨g - 1, by omega⟩
      have st2 : f_X12_spies_63 k36 k51 N x1 (nI i) (nI j) (g + 1) (nI c) x3 x4 (nI (20 * 20)) = b_X12_spies_63 k36 k51 (fun x2 x3 x4 x7 => f_X12_spies_63 k36 k51 N x1 (nI i) (nI j) g x2 x3 x4 x7) N x1 (nI i) (nI j) (nI c) x3 x4 (nI (20 * 20)) := rfl
      rw [st2]
      unfold b_X12_spies_63 f_X12_spies_151
      rw [if_pos (by decide), if_pos (by decide), n1]
      exact ⟨Mi, c, x3, x4, rfl, rfl, hb, hb0, hS, hc⟩
    · rw [if_neg (show ¬ (20 : Int32) < nI (a + 1) from nI_nlt (a := 20) (by omega) (by omega))]
      obtain ⟨M2, c2, y3, y4, a1, a2, a3, a4, a5, a6⟩ := spies_in (x1 := x1) (k2 := fun M x3 => f_X2_seekHeats_2 (nI i) (nI j) f M x3) (k36 := k36) (k51 := k51) (a := a) (B := B + 20 * a) hn h1 y0 y1 hi hj (by omega) (by omega) FU g 0 Mi c x3 x4 (by omega) (by decide) (by omega) (by omega) hb hb0 hS
      rw [show f_X2_seekHeats_11 (fun M x3 => f_X2_seekHeats_2 (nI i) (nI j) f M x3) (nI i) (nI j) (nI (a + 1)) FU Mi 1 = _ from a1, show f_X12_spies_63 k36 k51 N x1 (nI i) (nI j) g (nI c) x3 x4 (nI (20 * a)) = _ from a2]
      exact ih (g - (20 - 0)) (a + 1) M2 c2 y3 y4 (by omega) (by omega) (by omega) (by omega) a3 a4 a5
theorem spies_row {M N : Mm} {fl : Nat → Int32} {n i F B : Nat} {x1 : Int32} {k7 : Mm → Int32 → Option Mm} {k36 : Int32 → Int32 → Int32 → Int32 → Option Int32} (hF : F ≤ 10) (hn : n ≤ 10) (h1 : ∀ j, j < n → M.1 99 j = fl j) (y0 : N.1 0 30 = nI n) (y1 : ∀ j, j < n → N.1 14 j = fl j) (yF : N.1 0 1 = nI F) (hi : i < F) (hB : B ≤ 40000) : ∀ f j Mi c x3 x4, j ≤ F → F < j + f → c ≤ B + 400 * j → (∀ b, b ≠ 98 → Mi.1 b = M.1 b) → Mi.1 98 0 = nI n → SQ Mi c x3 x4 →
    ∃ M2 c2 y3 y4, f_X2_seekTwo_16 k7 (nI F) (nI i) f Mi (nI j) = k7 M2 (nI (i + 1)) ∧ f_X12_spies_51 k36 N x1 (nI i) f (nI c) x3 x4 (nI j) = k36 (nI c2) y3 y4 (nI (i + 1)) ∧ (∀ b, b ≠ 98 → M2.1 b = M.1 b) ∧ M2.1 98 0 = nI n ∧ SQ M2 c2 y3 y4 ∧ c2 ≤ B + 4000 := by
  intro f
  induction f with
  | zero => intro j Mi c x3 x4 q1 q2; omega
  | succ f ih =>
    intro j Mi c x3 x4 q1 q2 hc hb hb0 hS
    have st : f_X2_seekTwo_16 k7 (nI F) (nI i) (f + 1) Mi (nI j) = b_X2_seekTwo_16 k7 (fun M x3 => f_X2_seekTwo_16 k7 (nI F) (nI i) f M x3) (nI F) (nI i) Mi (nI j) := rfl
    have st2 : f_X12_spies_51 k36 N x1 (nI i) (f + 1) (nI c) x3 x4 (nI j) = b_X12_spies_51 k36 (fun x2 x3 x4 x6 => f_X12_spies_51 k36 N x1 (nI i) f x2 x3 x4 x6) N x1 (nI i) (nI c) x3 x4 (nI j) := rfl
    rw [st, st2]
    unfold b_X2_seekTwo_16 b_X12_spies_51 f_X2_seekTwo_33 f_X12_spies_157 f_X2_seekHeats
    rw [yF]
    by_cases e : j = F
    · subst e
      rw [if_pos (nI_le (Nat.le_refl _) (by omega)), if_pos (nI_le (Nat.le_refl _) (by omega)), n1]
      exact ⟨Mi, c, x3, x4, rfl, rfl, hb, hb0, hS, by omega⟩
    · obtain ⟨M2, c2, y3, y4, a1, a2, a3, a4, a5, a6⟩ := spies_mid (x1 := x1) (k36 := k36) (k51 := fun x2 x3 x4 x6 => f_X12_spies_51 k36 N x1 (nI i) f x2 x3 x4 x6) (i := i) (j := j) (B := B + 400 * j) hn h1 y0 y1 (by omega) (by omega) (by omega) FU FU 0 Mi c x3 x4 (by omega) (by decide) (by decide) (by omega) hb hb0 hS
      have hc2 : c2 ≤ B + 400 * (j + 1) := by rw [Nat.mul_add, Nat.mul_one, ← Nat.add_assoc]; exact a6
      have hj1 : j + 1 ≤ F := by omega
      have hj2 : F < j + 1 + f := by omega
      rw [if_neg (nI_ge (by omega) (by omega)), if_neg (nI_ge (by omega) (by omega)), show f_X2_seekHeats_2 (nI i) (nI j) FU Mi 1 = _ from a1, bd_s, show f_X12_spies_63 k36 (fun x2 x3 x4 x6 => f_X12_spies_51 k36 N x1 (nI i) f x2 x3 x4 x6) N x1 (nI i) (nI j) FU (nI c) x3 x4 0 = _ from a2, n1]
      exact ih (j + 1) M2 c2 y3 y4 hj1 hj2 hc2 a3 a4 a5
theorem spies_out {M N : Mm} {fl : Nat → Int32} {n F : Nat} {x1 : Int32} (hF : F ≤ 10) (hn : n ≤ 10) (h1 : ∀ j, j < n → M.1 99 j = fl j) (y0 : N.1 0 30 = nI n) (y1 : ∀ j, j < n → N.1 14 j = fl j) (yF : N.1 0 1 = nI F) : ∀ f i Mi c x3 x4, i ≤ F → F < i + f → c ≤ 4000 * i → (∀ b, b ≠ 98 → Mi.1 b = M.1 b) → Mi.1 98 0 = nI n → SQ Mi c x3 x4 →
    ∃ M2 c2 y3 y4, f_X2_seekTwo_7 (nI F) f Mi (nI i) = some M2 ∧ f_X12_spies_36 N x1 f (nI c) x3 x4 (nI i) = f_X12_spies_163 N x1 (nI c2) y3 y4 ∧ (∀ b, b ≠ 98 → M2.1 b = M.1 b) ∧ M2.1 98 0 = nI n ∧ SQ M2 c2 y3 y4 ∧ c2 ≤ 40000 := by
  intro f
  induction f with
  | zero => intro i Mi c x3 x4 q1 q2; omega
  | succ f ih =>
    intro i Mi c x3 x4 q1 q2 hc hb hb0 hS
    have st : f_X2_seekTwo_7 (nI F) (f + 1) Mi (nI i) = b_X2_seekTwo_7 (fun M x2 => f_X2_seekTwo_7 (nI F) f M x2) (nI F) Mi (nI i) := rfl
    have st2 : f_X12_spies_36 N x1 (f + 1) (nI c) x3 x4 (nI i) = b_X12_spies_36 (fun x2 x3 x4 x5 => f_X12_spies_36 N x1 f x2 x3 x4 x5) N x1 (nI c) x3 x4 (nI i) := rfl
    rw [st, st2]
    unfold b_X2_seekTwo_7 b_X12_spies_36
    rw [yF]
    by_cases e : i = F
    · subst e
      rw [if_pos (nI_le (Nat.le_refl _) (by omega)), if_pos (nI_le (Nat.le_refl _) (by omega))]
      exact ⟨Mi, c, x3, x4, rfl, rfl, hb, hb0, hS, by omega⟩
    · rw [if_neg (nI_ge (by omega) (by omega)), if_neg (nI_ge (by omega) (by omega)), nm_x, nm_x, n1]
      obtain ⟨M2, c2, y3, y4, a1, a2, a3, a4, a5, a6⟩ := spies_row (x1 := x1) (k7 := fun M x2 => f_X2_seekTwo_7 (nI F) f M x2) (k36 := fun x2 x3 x4 x5 => f_X12_spies_36 N x1 f x2 x3 x4 x5) (i := i) (B := 4000 * i) hF hn h1 y0 y1 yF (by omega) (by omega) FU (i + 1) Mi c x3 x4 (by omega) (by show F < i + 1 + 5000; omega) (by omega) hb hb0 hS
      rw [a1, a2]
      exact ih (i + 1) M2 c2 y3 y4 (by omega) (by omega) (by omega) a3 a4 a5
theorem s_spies {M N : Mm} (R : Rel M N) (x : Int32) : ∃ r M2, f_X11_spies M x = some (r, M2) ∧ f_X12_spies N x = some r ∧ Rel M2 N := by
  obtain ⟨p, F, H⟩ := id R
  have hF := H.1.2.2.2.2.1
  obtain ⟨n, hn, f1, f2, f3⟩ := H.2.2.2.2.2.2.1
  unfold f_X11_spies f_X12_spies
  rw [e_isAmong, bd_s, show f_X12_in x.toInt64 (0 : Int64) (2 : Int64) = some (b2 (inR x 0 2)) from e_inI x 0 2, bd_s, f1, f2]
  by_cases g : inR x 0 2
  · rw [if_neg (fun q => b2_0.mp q g), if_neg (fun q => b2_0.mp q g)]
    by_cases g0 : nI n = 0
    · rw [if_pos g0, if_pos g0]
      exact ⟨_, _, rfl, rfl, R⟩
    · rw [if_neg g0, if_neg g0, H.ld, H.1.2.2.2.2.2.1]
      unfold f_X2_seekTwo
      rw [wr_e]
      have w0 : (wI M 98 1 0).1 98 0 = nI n := by rw [mIn (by decide)]; exact f1
      obtain ⟨M2, c, y3, y4, a1, a2, a3, a4, a5, a6⟩ := spies_out (M := wI M 98 1 0) (N := N) (fl := N.1 14) (x1 := x) hF (show n ≤ 10 by omega) (fun j hj => by rw [wI_o (by decide)]; exact f3 j hj) f2 (fun _ _ => rfl) H.1.2.2.2.2.2.2 FU 0 (wI M 98 1 0) 0 (-4) (-4) (by omega) (by show F < 0 + 5000; omega) (by omega) (fun _ _ => rfl) w0 ⟨mIs _ _ _ _, fun _ => ⟨rfl, rfl⟩, fun z => absurd rfl z⟩
      have hR : Rel M2 N := ⟨p, F, H.cg (fun b q1 q2 q3 => by rw [a3 b q1, wI_o q1]) (by rw [a4, f1]) (fun _ _ _ _ => rfl) (fun _ _ => rfl)⟩
      rw [show f_X2_seekTwo_7 (nI F) FU (wI M 98 1 0) 0 = _ from a1, bd_s, show f_X12_spies_36 N x FU 0 (-4) (-4) 0 = _ from a2, a5.1]
      unfold f_X12_spies_163 f_X12_spies_182
      by_cases x0 : x = 0
      · rw [if_pos x0, if_pos x0]
        exact ⟨_, _, rfl, rfl, hR⟩
      · rw [if_neg x0, if_neg x0]
        by_cases c0 : c = 0
        · subst c0
          obtain ⟨u1, u2⟩ := a5.2.1 rfl
          rw [if_pos (show nI 0 = 0 from rfl), u1, u2, ite_self]
          exact ⟨_, _, rfl, rfl, hR⟩
        · obtain ⟨u1, u2⟩ := a5.2.2 c0
          rw [if_neg (nI_ne0 (by omega) (by omega)), u1, u2]
          by_cases x1 : x = 1
          · rw [if_pos x1, if_pos x1]
            exact ⟨_, _, rfl, rfl, hR⟩
          · rw [if_neg x1, if_neg x1]
            exact ⟨_, _, rfl, rfl, hR⟩
  · rw [if_pos (b2_0.mpr g), if_pos (b2_0.mpr g)]
    exact ⟨_, _, rfl, rfl, R⟩
