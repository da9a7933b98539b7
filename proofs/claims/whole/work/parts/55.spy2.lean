theorem e_note {M : Mm} {c : Nat} (h : M.1 98 1 = nI c) (hc : c < 100000) (x1 x2 x3 x4 : Int32) : ∃ M', f_X2_note M x1 x2 x3 x4 = some M' ∧ M'.1 98 1 = nI (c + 1) ∧ M'.1 98 0 = M.1 98 0 ∧ (∀ b, b ≠ 98 → M'.1 b = M.1 b) ∧ (c = 0 → M'.1 98 2 = x1 ∧ M'.1 98 4 = x2 ∧ M'.1 98 3 = x3 ∧ M'.1 98 5 = x4) ∧ (c ≠ 0 → ∀ j, j ≠ 1 → M'.1 98 j = M.1 98 j) := by
  unfold f_X2_note f_X2_note_28
  rw [h]
  by_cases g : c = 0
  · subst g
    rw [if_pos (show nI 0 = 0 from rfl)]
    simp only [wr_e]
    rw [mIn (by decide), mIn (by decide), mIn (by decide), mIn (by decide), h, n1]
    refine ⟨_, rfl, mIs _ _ _ _, ?_, fun b hb => ?_, fun _ => ⟨?_, ?_, ?_, ?_⟩, fun z => absurd rfl z⟩
    · rw [mIn (by decide), mIn (by decide), mIn (by decide), mIn (by decide), mIn (by decide)]
    · rw [wI_o hb, wI_o hb, wI_o hb, wI_o hb, wI_o hb]
    · rw [mIn (by decide), mIn (by decide), mIn (by decide), mIn (by decide), mIs]
    · rw [mIn (by decide), mIn (by decide), mIn (by decide), mIs]
    · rw [mIn (by decide), mIn (by decide), mIs]
    · rw [mIn (by decide), mIs]
  · rw [if_neg (nI_ne0 (by omega) (by omega)), wr_e, n1]
    exact ⟨_, rfl, mIs _ _ _ _, mIn (by decide), fun b hb => wI_o hb, fun z => absurd z g, fun _ j hj => mIn (by omega)⟩
def SP (M : Mm) (c : Nat) (x3 x4 : Int32) : Prop := M.1 98 1 = nI c ∧ (c = 0 → x3 = -4 ∧ x4 = -4) ∧ (c ≠ 0 → M.1 98 2 = x3 ∧ M.1 98 4 = x4)
theorem spy_in {M N : Mm} {fl : Nat → Int32} {n i B : Nat} {x1 z1 : Int32} {k7 : Mm → Int32 → Option Mm} {k36 : Int32 → Int32 → Int32 → Int32 → Option Int32} (hn : n ≤ 10) (h0 : M.1 98 0 = nI n) (h1 : ∀ j, j < n → M.1 99 j = fl j) (y0 : N.1 0 30 = nI n) (y1 : ∀ j, j < n → N.1 14 j = fl j) (hi : i < 10) (hB : B ≤ 1000) : ∀ f q Mi c x3 x4, 1 ≤ q → q ≤ 21 → 21 < q + f → c ≤ B + q → (∀ b, b ≠ 98 → Mi.1 b = M.1 b) → Mi.1 98 0 = nI n → SP Mi c x3 x4 →
    ∃ M2 c2 y3 y4, f_X2_seekOne_14 k7 z1 (nI i) f Mi (nI q) = k7 M2 (nI (i + 1)) ∧ f_X12_spy_48 k36 N x1 (nI i) f (nI c) x3 x4 (nI q) = k36 (nI c2) y3 y4 (nI (i + 1)) ∧ (∀ b, b ≠ 98 → M2.1 b = M.1 b) ∧ M2.1 98 0 = nI n ∧ SP M2 c2 y3 y4 ∧ c2 ≤ B + 21 := by
  intro f
  induction f with
  | zero => intro q Mi c x3 x4 q1 q2 q3; omega
  | succ f ih =>
    intro q Mi c x3 x4 q1 q2 q3 hc hb hb0 hS
    have st : f_X2_seekOne_14 k7 z1 (nI i) (f + 1) Mi (nI q) = b_X2_seekOne_14 k7 (fun M x3 => f_X2_seekOne_14 k7 z1 (nI i) f M x3) z1 (nI i) Mi (nI q) := rfl
    have st2 : f_X12_spy_48 k36 N x1 (nI i) (f + 1) (nI c) x3 x4 (nI q) = b_X12_spy_48 k36 (fun x2 x3 x4 x6 => f_X12_spy_48 k36 N x1 (nI i) f x2 x3 x4 x6) N x1 (nI i) (nI c) x3 x4 (nI q) := rfl
    rw [st, st2]
    unfold b_X2_seekOne_14 b_X12_spy_48 f_X2_seekOne_45 f_X2_seekOne_39 f_X12_spy_101 f_X12_spy_95 f_X12_spy_78 f_X12_spy_90 f_X12_spy_95
    by_cases e : q = 21
    · subst e
      rw [if_pos (by decide), if_pos (by decide), n1]
      exact ⟨Mi, c, x3, x4, rfl, rfl, hb, hb0, hS, hc⟩
    · have hz : ∀ j, j < n → reachP 0 (nI i) j = reachP (nI 0) (nI 0) j := fun j hj => by
        have h : ∀ i < 10, ∀ j < 10, reachP 0 (nI i) j = reachP (nI 0) (nI 0) j := by decide +kernel
        exact h i hi j (by omega)
      have hfb : ∀ k j, j + k = n → fb fl (nI q) (nI i) 0 (nI i) k j = fb fl (nI q) (nI i) (nI 0) (nI 0) k j := by
        intro k
        induction k with
        | zero => intro j _; rfl
        | succ k ihk =>
          intro j hj
          show (if fl j = reachP (nI q) (nI i) j + reachP 0 (nI i) j then fb fl (nI q) (nI i) 0 (nI i) k (j + 1) else 0) = if fl j = reachP (nI q) (nI i) j + reachP (nI 0) (nI 0) j then fb fl (nI q) (nI i) (nI 0) (nI 0) k (j + 1) else 0
          rw [hz j (by omega), ihk (j + 1) (by omega)]
      rw [if_neg (show ¬ (20 : Int32) < nI q from nI_nlt (a := 20) (by omega) (by omega)), if_neg (show ¬ (20 : Int32) < nI q from nI_nlt (a := 20) (by omega) (by omega)), e_feltX (fl := fl) hn hb0 (fun j hj => by rw [hb 99 (by decide)]; exact h1 j hj), bd_s, hfb n 0 (by omega), show f_X12_areFelt N (nI i) (nI q) (0 : Int32) (0 : Int32) = _ from e_feltY (f2 := 0) (q2 := 0) hn y0 y1 hi (by omega) (by omega) (by omega), bd_s, n1]
      by_cases g : fb fl (nI q) (nI i) (nI 0) (nI 0) n 0 = 0
      · rw [if_pos g, if_pos g]
        exact ih (q + 1) Mi c x3 x4 (by omega) (by omega) (by omega) (by omega) hb hb0 hS
      · obtain ⟨M', a1, a2, a3, a4, a5, a6⟩ := e_note hS.1 (by omega) (nI i) (nI q) (nI i) 0
        rw [if_neg g, if_neg g, a1, bd_s]
        by_cases c0 : c = 0
        · subst c0
          rw [if_pos (show nI 0 = 0 from rfl), if_pos (show nI 0 = 0 from rfl), n1]
          exact ih (q + 1) M' 1 (nI i) (nI q) (by omega) (by omega) (by omega) (by omega) (fun b h => (a4 b h).trans (hb b h)) (a3.trans hb0) ⟨a2, fun z => absurd z (by decide), fun _ => ⟨(a5 rfl).1, (a5 rfl).2.1⟩⟩
        · rw [if_neg (nI_ne0 (by omega) (by omega)), if_neg (nI_ne0 (by omega) (by omega)), n1]
          exact ih (q + 1) M' (c + 1) x3 x4 (by omega) (by omega) (by omega) (by omega) (fun b h => (a4 b h).trans (hb b h)) (a3.trans hb0) ⟨a2, fun z => absurd z (by omega), fun _ => ⟨(a6 c0 2 (by decide)).trans (hS.2.2 c0).1, (a6 c0 4 (by decide)).trans (hS.2.2 c0).2⟩⟩
theorem spy_out {M N : Mm} {fl : Nat → Int32} {n F : Nat} {x1 : Int32} (hF : F ≤ 10) (hn : n ≤ 10) (h0 : M.1 98 0 = nI n) (h1 : ∀ j, j < n → M.1 99 j = fl j) (y0 : N.1 0 30 = nI n) (y1 : ∀ j, j < n → N.1 14 j = fl j) (yF : N.1 0 1 = nI F) : ∀ f i Mi c x3 x4, i ≤ F → F < i + f → c ≤ 21 * i → (∀ b, b ≠ 98 → Mi.1 b = M.1 b) → Mi.1 98 0 = nI n → SP Mi c x3 x4 →
    ∃ M2 c2 y3 y4, f_X2_seekOne_7 (nI F) f Mi (nI i) = some M2 ∧ f_X12_spy_36 N x1 f (nI c) x3 x4 (nI i) = f_X12_spy_107 N x1 (nI c2) y3 y4 ∧ (∀ b, b ≠ 98 → M2.1 b = M.1 b) ∧ M2.1 98 0 = nI n ∧ SP M2 c2 y3 y4 ∧ c2 ≤ 210 := by
  intro f
  induction f with
  | zero => intro i Mi c x3 x4 q1 q2; omega
  | succ f ih =>
    intro i Mi c x3 x4 q1 q2 hc hb hb0 hS
    have st : f_X2_seekOne_7 (nI F) (f + 1) Mi (nI i) = b_X2_seekOne_7 (fun M x2 => f_X2_seekOne_7 (nI F) f M x2) (nI F) Mi (nI i) := rfl
    have st2 : f_X12_spy_36 N x1 (f + 1) (nI c) x3 x4 (nI i) = b_X12_spy_36 (fun x2 x3 x4 x5 => f_X12_spy_36 N x1 f x2 x3 x4 x5) N x1 (nI c) x3 x4 (nI i) := rfl
    rw [st, st2]
    unfold b_X2_seekOne_7 b_X12_spy_36
    rw [yF]
    by_cases e : i = F
    · subst e
      rw [if_pos (nI_le (Nat.le_refl _) (by omega)), if_pos (nI_le (Nat.le_refl _) (by omega))]
      exact ⟨Mi, c, x3, x4, rfl, rfl, hb, hb0, hS, by omega⟩
    · rw [if_neg (nI_ge (by omega) (by omega)), if_neg (nI_ge (by omega) (by omega))]
      obtain ⟨M2, c2, y3, y4, a1, a2, a3, a4, a5, a6⟩ := spy_in (z1 := nI F) (x1 := x1) (k7 := fun M x2 => f_X2_seekOne_7 (nI F) f M x2) (k36 := fun x2 x3 x4 x5 => f_X12_spy_36 N x1 f x2 x3 x4 x5) (i := i) (B := 21 * i) hn h0 h1 y0 y1 (by omega) (by omega) FU 1 Mi c x3 x4 (by omega) (by omega) (by decide) (by omega) hb hb0 hS
      rw [show f_X2_seekOne_14 (fun M x2 => f_X2_seekOne_7 (nI F) f M x2) (nI F) (nI i) FU Mi 1 = _ from a1, show f_X12_spy_48 (fun x2 x3 x4 x5 => f_X12_spy_36 N x1 f x2 x3 x4 x5) N x1 (nI i) FU (nI c) x3 x4 1 = _ from a2]
      exact ih (i + 1) M2 c2 y3 y4 (by omega) (by omega) (by omega) a3 a4 a5
theorem s_spy {M N : Mm} (R : Rel M N) (x : Int32) : ∃ r M2, f_X11_spy M x = some (r, M2) ∧ f_X12_spy N x = some r ∧ Rel M2 N := by
  obtain ⟨p, F, H⟩ := id R
  have hF := H.1.2.2.2.2.1
  obtain ⟨n, hn, f1, f2, f3⟩ := H.2.2.2.2.2.2.1
  unfold f_X11_spy f_X12_spy
  rw [e_isAmong, bd_s, show f_X12_in x.toInt64 (0 : Int64) (2 : Int64) = some (b2 (inR x 0 2)) from e_inI x 0 2, bd_s, f1, f2]
  by_cases g : inR x 0 2
  · rw [if_neg (fun q => b2_0.mp q g), if_neg (fun q => b2_0.mp q g)]
    by_cases g0 : nI n = 0
    · rw [if_pos g0, if_pos g0]
      exact ⟨_, _, rfl, rfl, R⟩
    · rw [if_neg g0, if_neg g0, H.ld, H.1.2.2.2.2.2.1]
      unfold f_X2_seekOne
      rw [wr_e]
      have w0 : (wI M 98 1 0).1 98 0 = nI n := by rw [mIn (by decide)]; exact f1
      obtain ⟨M2, c, y3, y4, a1, a2, a3, a4, a5, a6⟩ := spy_out (M := wI M 98 1 0) (N := N) (fl := N.1 14) (x1 := x) hF (show n ≤ 10 by omega) w0 (fun j hj => by rw [wI_o (by decide)]; exact f3 j hj) f2 (fun _ _ => rfl) H.1.2.2.2.2.2.2 FU 0 (wI M 98 1 0) 0 (-4) (-4) (by omega) (by show F < 0 + 5000; omega) (by omega) (fun _ _ => rfl) w0 ⟨mIs _ _ _ _, fun _ => ⟨rfl, rfl⟩, fun z => absurd rfl z⟩
      have hR : Rel M2 N := ⟨p, F, H.cg (fun b q1 q2 q3 => by rw [a3 b q1, wI_o q1]) (by rw [a4, f1]) (fun _ _ _ _ => rfl) (fun _ _ => rfl)⟩
      rw [show f_X2_seekOne_7 (nI F) FU (wI M 98 1 0) 0 = _ from a1, bd_s, show f_X12_spy_36 N x FU 0 (-4) (-4) 0 = _ from a2, a5.1]
      unfold f_X12_spy_107 f_X12_spy_126 f_X11_spy_85
      by_cases x0 : x = 0
      · rw [if_pos x0, if_pos x0]
        exact ⟨_, _, rfl, rfl, hR⟩
      · rw [if_neg x0, if_neg x0]
        by_cases c0 : c = 0
        · subst c0
          obtain ⟨u1, u2⟩ := a5.2.1 rfl
          rw [if_pos (show nI 0 = 0 from rfl), u1, u2, ite_self]
          exact ⟨_, _, rfl, rfl, hR⟩
        · obtain ⟨u1, u2⟩ := a5.2.2 c0
          rw [if_neg (nI_ne0 (by omega) (by omega)), u1, u2]
          by_cases x1 : x = 1
          · rw [if_pos x1, if_pos x1]
            exact ⟨_, _, rfl, rfl, hR⟩
          · rw [if_neg x1, if_neg x1]
            exact ⟨_, _, rfl, rfl, hR⟩
  · rw [if_pos (b2_0.mpr g), if_pos (b2_0.mpr g)]
    exact ⟨_, _, rfl, rfl, R⟩
