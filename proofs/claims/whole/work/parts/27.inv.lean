-- WHAT A PAGE KEEPS TO
def MnI (r : Pg) (t : Nat) : Prop := ∀ k, k < 20 → isB (r (t + 7 * k)) ∧ (r (t + 7 * k) = 1 → ∃ n, n ≤ 99 ∧ r (t + 7 * k + 4) = nI n)
def LnI (r : Pg) (t : Nat) : Prop := ∀ i, i < 10 → inR (r (t + 160 + i)) (-9) 9
def SnI (r : Pg) (t : Nat) : Prop := ∀ h, h < 12 → ∃ v, v ≤ 9 ∧ r (t + 171 + h) = nI v
def HrI (r : Pg) (t : Nat) : Prop := ∃ h, h ≤ 12 ∧ r (t + 170) = nI h
def InvR (r : Pg) (t : Nat) : Prop := MnI r t ∧ LnI r t ∧ SnI r t ∧ HrI r t ∧ BrI (fun x => r (t + x))
theorem reach_n {q x i : Nat} (hq : q ≤ 20) (hx : x < 10) (hi : i < 10) : ∃ y, y ≤ 20 ∧ reachP (nI q) (nI x) i = nI y := by
  have h : ∀ q < 21, ∀ x < 10, ∀ i < 10, ∃ y < 21, reachP (nI q) (nI x) i = nI y := by decide +kernel
  obtain ⟨y, hy, e⟩ := h q (by omega) x hx i hi
  exact ⟨y, by omega, e⟩
theorem sum_n {g : Nat → Int32} {b : Nat} : ∀ c, (∀ j, j < c → ∃ y, y ≤ b ∧ g j = nI y) → ∃ w, w ≤ b * c ∧ sumI g c = nI w := by
  intro c
  induction c with
  | zero => intro _; exact ⟨0, by omega, rfl⟩
  | succ c ih =>
    intro h
    obtain ⟨w, hw, ew⟩ := ih (fun j hj => h j (by omega))
    obtain ⟨y, hy, ey⟩ := h c (by omega)
    exact ⟨w + y, by rw [Nat.mul_succ]; omega, by show sumI g c + g c = _; rw [ew, ey, nI_add]⟩
theorem warm_n {P : Pg} {i : Nat} {h : Int32} (hi : i < 10) (hB : BrI P) : ∃ w, w ≤ 120 ∧ warmP P i h = nI w := by
  obtain ⟨c, h6, hc, hb⟩ := hB
  unfold warmP
  rw [hc, nI_clamp (by omega)]
  obtain ⟨w, hw, e⟩ := sum_n (g := wterm P i h) (b := 20) c (fun j hj => by
    obtain ⟨⟨x, hx, ex⟩, ⟨q, hq, eq⟩, -, -⟩ := hb j hj
    unfold wterm
    by_cases g : inR h (P (185 + 4 * j)) (P (186 + 4 * j))
    · rw [if_pos g, ex, eq]
      exact reach_n hq hx hi
    · rw [if_neg g]
      exact ⟨0, by omega, rfl⟩)
  exact ⟨w, by omega, e⟩
theorem iMin_n {a b : Nat} (ha : a < 2 ^ 31) (hb : b < 2 ^ 31) : iMin (nI a) (nI b) = nI (min a b) := by
  unfold iMin
  by_cases h : b < a
  · rw [if_pos (nI_lt h ha), Nat.min_eq_right (by omega)]
  · rw [if_neg (nI_nlt (by omega) hb), Nat.min_eq_left (by omega)]
theorem loss_n {k : Int32} {f s : Nat} (hf : f ≤ 120) (hs : s ≤ 10) : ∃ q, q ≤ 130 ∧ loss k (nI f) (nI s) = nI q := by
  unfold loss
  rw [nI_add]
  by_cases h1 : k = 1
  · rw [if_pos h1]
    refine ⟨(f + s) / 2, by omega, ?_⟩
    show nI (f + s) / nI 2 = _
    rw [pk_div (by omega) (by omega) (by omega)]
  · rw [if_neg h1]
    by_cases h2 : k = 2
    · rw [if_pos h2]
      exact ⟨f, by omega, rfl⟩
    · rw [if_neg h2]
      by_cases h3 : k = 3
      · rw [if_pos h3]
        refine ⟨min (f + s) 2, by omega, ?_⟩
        show iMin (nI (f + s)) (nI 2) = _
        rw [iMin_n (by omega) (by omega)]
      · rw [if_neg h3]
        exact ⟨f + s, by omega, rfl⟩
theorem head_n {n q : Nat} (hn : n ≤ 99) (hq : q ≤ 130) : nI n - iMin (nI n) (nI q) = nI (n - q) := by
  rw [iMin_n (by omega) (by omega), pk_sub (by omega)]
  exact congrArg nI (by omega)
/-- a man behind his melting -/
theorem sd_man {r : Pg} {t k0 si wi f s : Nat} (hk : k0 < 20) (hsi : t + 140 ≤ si) (hwi : t + 140 ≤ wi) (hf : f ≤ 120) (hs : s ≤ 10) (H : MnI r t) : MnI (sd r (t + 7 * k0) si wi (nI f) (nI s)) t := by
  intro k hk2
  obtain ⟨hB, hh⟩ := H k hk2
  by_cases e : k = k0
  · subst e
    unfold sd
    by_cases h0 : r (t + 7 * k) = 1
    · rw [if_pos h0]
      by_cases g : gone r (t + 7 * k) wi (nI f) (nI s)
      · rw [if_pos g, zap_in (by omega) (by omega)]
        exact ⟨Or.inl rfl, fun z => absurd z (by decide)⟩
      · rw [if_neg g, r1_o (by omega) (by omega) (by omega) (by omega), r1_4 (by omega)]
        refine ⟨hB, fun _ => ?_⟩
        obtain ⟨n, hn, en⟩ := hh h0
        obtain ⟨q, hq, eq⟩ := loss_n (k := r (t + 7 * k + 1)) hf hs
        unfold o4
        rw [eq, en, head_n hn hq]
        exact ⟨n - q, by omega, rfl⟩
    · rw [if_neg h0]
      exact ⟨hB, hh⟩
  · rw [sd_o (by omega) (by omega) (by omega), sd_o (by omega) (by omega) (by omega)]
    exact ⟨hB, hh⟩
theorem line_I (w e : Prop) [Decidable w] [Decidable e] {v : Int32} (h : inR v (-9) 9) : inR (lineF w e v) (-9) 9 := by
  unfold lineF inR at *
  by_cases w : w <;> by_cases e : e <;> simp only [w, e, true_and, false_and, not_true_eq_false, not_false_eq_true, if_false] <;> first | exact h | (split <;> grind)
theorem mvl_o {r T : Pg} {m0 m1 li x : Nat} (h : x ≠ li) : mvl r T m0 m1 li x = r x := upd_ne h
/-- all but the men, the snow, the water and the line of a furlong -/
theorem hourF_o {r T : Pg} {t i x : Nat} {fire sun z : Int32} (hi : i < 10) (h0 : x < mo t 0 i ∨ mo t 0 i + 7 ≤ x) (h1 : x < mo t 1 i ∨ mo t 1 i + 7 ≤ x) (h2 : x ≠ t + 140 + i) (h3 : x ≠ t + 150 + i) (h4 : x ≠ t + 160 + i) : hourF r T t i fire sun z x = r x := by
  unfold hourF
  rw [mvl_o h4, fr_o h2 h3, sd_o h1 h2 h3, sd_o h0 h2 h3, sn_o h2 h3]
theorem hourF_hi {r T : Pg} {t i x : Nat} {fire sun z : Int32} (hi : i < 10) (h : t + 170 ≤ x ∨ x < t) : hourF r T t i fire sun z x = r x := by
  have a0 := mo_le (at_ := t) (s := 0) (by decide) hi
  have a1 := mo_le (at_ := t) (s := 1) (by decide) hi
  have b0 : t ≤ mo t 0 i := by unfold mo; omega
  have b1 : t ≤ mo t 1 i := by unfold mo; omega
  exact hourF_o hi (by omega) (by omega) (by omega) (by omega) (by omega)
theorem BrI.same {P P2 : Pg} (h : BrI P) (h2 : ∀ x, 183 ≤ x → x < 208 → P2 x = P x) : BrI P2 := by
  obtain ⟨c, h6, hc, hb⟩ := h
  refine ⟨c, h6, by rw [h2 207 (by decide) (by decide)]; exact hc, fun b hb2 => ?_⟩
  rw [h2 _ (by omega) (by omega), h2 _ (by omega) (by omega), h2 _ (by omega) (by omega), h2 _ (by omega) (by omega)]
  exact hb b hb2
theorem hourF_I {r T : Pg} {t i f s : Nat} {z : Int32} (hi : i < 10) (hf : f ≤ 120) (hs : s ≤ 10) (H : InvR r t) : InvR (hourF r T t i (nI f) (nI s) z) t := by
  obtain ⟨h1, h2, h3, h4, h5⟩ := H
  have hn : MnI (sn r (t + 140 + i) (t + 150 + i) (nI f + nI s)) t := fun k hk => by
    rw [sn_o (by omega) (by omega), sn_o (by omega) (by omega)]
    exact h1 k hk
  have hA := sd_man (k0 := 10 * 0 + i) (si := t + 140 + i) (wi := t + 150 + i) (f := f) (s := s) (by omega) (by omega) (by omega) hf hs hn
  have hB := sd_man (k0 := 10 * 1 + i) (si := t + 140 + i) (wi := t + 150 + i) (f := f) (s := s) (by omega) (by omega) (by omega) hf hs hA
  refine ⟨fun k hk => ?_, fun j hj => ?_, fun h hh => ?_, ?_, ?_⟩
  · unfold hourF
    rw [mvl_o (by omega), mvl_o (by omega), fr_o (by omega) (by omega), fr_o (by omega) (by omega)]
    exact hB k hk
  · unfold hourF
    by_cases e : j = i
    · subst e
      unfold mvl
      rw [upd_eq]
      refine line_I _ _ ?_
      rw [fr_o (by omega) (by omega), sd_o (by unfold mo; omega) (by omega) (by omega), sd_o (by unfold mo; omega) (by omega) (by omega), sn_o (by omega) (by omega)]
      exact h2 j hj
    · rw [mvl_o (by omega), fr_o (by omega) (by omega), sd_o (by unfold mo; omega) (by omega) (by omega), sd_o (by unfold mo; omega) (by omega) (by omega), sn_o (by omega) (by omega)]
      exact h2 j hj
  · rw [hourF_hi hi (by omega)]
    exact h3 h hh
  · obtain ⟨h, hh, e⟩ := h4
    exact ⟨h, hh, by rw [hourF_hi hi (by omega)]; exact e⟩
  · exact h5.same (fun x hx hx2 => hourF_hi hi (by omega))
