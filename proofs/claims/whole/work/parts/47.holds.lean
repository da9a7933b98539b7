theorem SN_c {g g' : Nat → Nat} {h : Nat} (e : ∀ q, q < 12 → g q = g' q) : ∀ n, h + n ≤ 12 → SN g h n = SN g' h n := by
  intro n
  induction n with
  | zero => intro _; rfl
  | succ n ih =>
    intro hn
    show SN g h n + g (h + n) = SN g' h n + g' (h + n)
    rw [ih (by omega), e (h + n) (by omega)]
theorem lsN_c {r R : Pg} {s i q : Nat} {x : Int32} (hs : s < 2) (hi : i < 10) (hq : q < 12) (hB : BrI R) (e : ∀ x, x < 630 → r x = R x) : lsN r s i x q = lsN R s i x q := by
  unfold lsN lsI
  rw [e _ (by unfold mo; omega), e _ (by omega), warm_c hB (fun x q1 q2 => e x (by omega))]
theorem suit_c {r R T : Pg} {s i : Nat} (hs : s < 2) (hi : i < 10) (e : ∀ x, x < 630 → r x = R x) : suit r T (mo 0 s i) ↔ suit R T (mo 0 s i) := by
  have hm : mo 0 s i + 7 ≤ 140 := by unfold mo; omega
  unfold suit
  rw [e _ (by omega), e _ (by omega), e _ (by omega)]
theorem RelP.bI {p F : Nat} {M N : Mm} (H : RelP p F M N) : BrI (N.1 1) := by
  have hB := H.2.1.2.1.2.2.2.2
  rw [sh0] at hB
  exact hB
theorem hold_spec2 {p F h0 s i n k T : Nat} {M N : Mm} {r : Pg} {x4 : Int32} (H : RelP p F M N) (hr : ∀ x, x < 630 → r x = N.1 1 x) (e1 : N.1 1 170 = nI h0) (hh : h0 ≤ 12) (hs : s < 2) (hi : i < F) (m0 : N.1 1 (mo 0 s i) = 1) (hn : N.1 1 (mo 0 s i + 4) = nI n) (hk : n + k ≤ 99) (hT1 : 1 ≤ T) (hT2 : T ≤ 99) (eT : N.1 3 0 = nI T) :
    ∃ w r2, f_X12_holdsTo (wR N 1 r) (nI s) (nI i) (nI k) x4 = some (w, wR N 1 r2) ∧ (∀ x, x < 630 → r2 x = N.1 1 x) ∧ ((¬ (suit (N.1 1) (N.1 3) (mo 0 s i) ∧ T ≤ n + k) ∧ w = -1) ∨ (suit (N.1 1) (N.1 3) (mo 0 s i) ∧ ∃ e, w = nI (h0 + e) ∧ h0 + e ≤ 12 ∧ T + SN (lsN (N.1 1) s i x4) h0 e ≤ n + k ∧ (h0 + e < 12 → n + k < T + SN (lsN (N.1 1) s i x4) h0 (e + 1)))) := by
  have hF := H.1.2.2.2.2.1
  have hm : mo 0 s i + 7 ≤ 140 := by unfold mo; omega
  obtain ⟨w, r2, q1, q2, q3⟩ := hold_spec (x4 := x4) (H.cgn hr) (by rw [wR_s, hr _ (by omega)]; exact e1) hh hs hi (by rw [wR_s, hr _ (by omega)]; exact m0) (by rw [wR_s, hr _ (by omega)]; exact hn) hk hT1 hT2 (by rw [wR_3]; exact eT)
  rw [wR_s] at q2 q3
  rw [wR_3] at q3
  rw [wR_R] at q1
  have hsu := suit_c (T := N.1 3) hs (show i < 10 by omega) hr
  have hc : ∀ q, q < 12 → lsN r s i x4 q = lsN (N.1 1) s i x4 q := fun q hq => lsN_c hs (by omega) hq H.bI hr
  refine ⟨w, r2, q1, fun x hx => (q2 x hx).trans (hr x hx), ?_⟩
  rcases q3 with ⟨z1, z2⟩ | ⟨z1, e, z2, z3, z4, z5⟩
  · exact Or.inl ⟨fun y => z1 ⟨hsu.mpr y.1, y.2⟩, z2⟩
  · refine Or.inr ⟨hsu.mp z1, e, z2, z3, ?_, fun y => ?_⟩
    · rw [← SN_c hc e z3]
      exact z4
    · rw [← SN_c hc (e + 1) (by omega)]
      exact z5 y
def hdN (R : Pg) (s i : Nat) : Nat := (R (mo 0 s i + 4)).toNatClampNeg
/-- the heat a man needs to have on his head from now on to hold to the hour -/
def dm (R : Pg) (T s i h0 t : Nat) : Nat := T + SN (lsN R s i 0) h0 (t - h0)
def nd (R Tr : Pg) (T s i h0 t : Nat) : Int32 := if suit R Tr (mo 0 s i) ∧ hdN R s i + (dm R T s i h0 t - hdN R s i) ≤ 99 then nI (dm R T s i h0 t - hdN R s i) else -4
theorem RelP.hd {p F s i : Nat} {M N : Mm} (H : RelP p F M N) (hs : s < 2) (hi : i < F) (m0 : N.1 1 (mo 0 s i) = 1) : hdN (N.1 1) s i ≤ 99 ∧ N.1 1 (mo 0 s i + 4) = nI (hdN (N.1 1) s i) := by
  have hF := H.1.2.2.2.2.1
  obtain ⟨n, hn, e⟩ := (H.2.1.2.1.1 (10 * s + i) (by omega)).2 m0
  unfold hdN
  rw [show N.1 1 (mo 0 s i + 4) = nI n from e, nI_clamp (by omega)]
  exact ⟨hn, rfl⟩
theorem dm_le {p F s i h0 t T : Nat} {M N : Mm} (H : RelP p F M N) (hi : i < F) (hT : T ≤ 99) (ht : h0 ≤ t) (h12 : t ≤ 12) : dm (N.1 1) T s i h0 t ≤ 1659 := by
  have hF := H.1.2.2.2.2.1
  have := SN_le (g := lsN (N.1 1) s i 0) (h := h0) (fun q hq => (ls_n (s := s) (x := 0) (show i < 10 by omega) hq H.2.1.2.1).1) (t - h0) (by omega)
  unfold dm
  omega
theorem e_needX {p F h0 s i t T : Nat} {M N : Mm} (H : RelP p F M N) (e1 : N.1 1 170 = nI h0) (hs : s < 2) (hi : i < F) (eT : N.1 3 0 = nI T) (hT2 : T ≤ 99) (ht : h0 ≤ t) (h12 : t ≤ 12) :
    f_X4_needOf M (lx p) (nI s) (nI i) (nI t) = some (nd (N.1 1) (N.1 3) T s i h0 t) := by
  have hF := H.1.2.2.2.2.1
  have e2 : M.1 (lx p + 5) 0 = nI h0 := by rw [H.2.1.1.2.2.1]; exact e1
  have hm := H.2.1.1.1 (10 * s + i) (by omega)
  rw [show 0 + 7 * (10 * s + i) = mo 0 s i from rfl] at hm
  unfold f_X4_needOf f_X4_needOf_56 nd
  rw [e_manOf hs (by omega), bd_s, e_suits H.2.2.1.1 hm, bd_s]
  by_cases g : suit (N.1 1) (N.1 3) (mo 0 s i)
  · obtain ⟨a1, a2⟩ := H.hd hs hi g.1
    obtain ⟨f1, f2, f3, f4, -⟩ := hm.2.2 g.1
    have hd := dm_le (s := s) H hi hT2 ht h12
    rw [if_neg (fun q => b2_0.mp q g), e_lack H e1 e2 hs hi a2 a1 g.1 eT hT2 ht h12, bd_s, f4, a2, nI_add]
    unfold dm at hd ⊢
    by_cases q : hdN (N.1 1) s i + (T + SN (lsN (N.1 1) s i 0) h0 (t - h0) - hdN (N.1 1) s i) ≤ 99
    · rw [if_pos (show nI _ ≤ (99 : Int32) from nI_le (b := 99) q (by omega)), if_pos ⟨g, q⟩]
    · rw [if_neg (show ¬ nI _ ≤ (99 : Int32) from nI_ge (a := 99) (by omega) (by omega)), if_neg (fun z => q z.2)]
  · rw [if_pos (b2_0.mpr g), if_neg (fun z => g z.1)]
theorem e_needY {p F h0 s i t T : Nat} {M N : Mm} {r : Pg} (H : RelP p F M N) (hr : ∀ x, x < 630 → r x = N.1 1 x) (e1 : N.1 1 170 = nI h0) (hh : h0 ≤ 12) (hs : s < 2) (hi : i < F) (eT : N.1 3 0 = nI T) (hT1 : 1 ≤ T) (hT2 : T ≤ 99) (ht : h0 ≤ t) (h12 : t ≤ 12) :
    ∃ r2, f_X12_needOf (wR N 1 r) (nI s) (nI i) (nI t) = some (nd (N.1 1) (N.1 3) T s i h0 t, wR N 1 r2) ∧ ∀ x, x < 630 → r2 x = N.1 1 x := by
  have hF := H.1.2.2.2.2.1
  have hm : mo 0 s i + 7 ≤ 140 := by unfold mo; omega
  unfold f_X12_needOf nd
  rw [show f_X12_isThere (wR N 1 r) (0 : Int32) (nI s) (nI i) = _ from isThere_y (t := 0) hs (by omega) (by omega), bd_s, wR_s, hr _ (by omega)]
  by_cases g : N.1 1 (mo 0 s i) = 1
  · obtain ⟨a1, a2⟩ := H.hd hs hi g
    rw [if_neg (fun q => b2_0.mp q g), e_manAt hs (by omega), bd_s, show nI (7 * (10 * s + i)) + (4 : Int32) = nI (mo 0 s i + 4) from nIa (b := 4) (by unfold mo; omega), ck_n (by omega) (by omega), nI_clamp (by omega), hr _ (by omega), a2, nm_x]
    have loop : ∀ f k (r : Pg), hdN (N.1 1) s i + k ≤ 100 → 100 < hdN (N.1 1) s i + k + f → (∀ x, x < 630 → r x = N.1 1 x) → (∀ k', k' < k → ¬ (suit (N.1 1) (N.1 3) (mo 0 s i) ∧ dm (N.1 1) T s i h0 t ≤ hdN (N.1 1) s i + k')) → ∃ r2, f_X12_needOf_30 (nI s) (nI i) (nI t) (nI (hdN (N.1 1) s i)) f (wR N 1 r) (nI k) = some (if suit (N.1 1) (N.1 3) (mo 0 s i) ∧ hdN (N.1 1) s i + (dm (N.1 1) T s i h0 t - hdN (N.1 1) s i) ≤ 99 then nI (dm (N.1 1) T s i h0 t - hdN (N.1 1) s i) else -4, wR N 1 r2) ∧ ∀ x, x < 630 → r2 x = N.1 1 x := by
      intro f
      induction f with
      | zero => intro k r h1 h2; omega
      | succ f ih =>
        intro k r h1 h2 h3 h4
        have st : f_X12_needOf_30 (nI s) (nI i) (nI t) (nI (hdN (N.1 1) s i)) (f + 1) (wR N 1 r) (nI k) = b_X12_needOf_30 (fun M x5 => f_X12_needOf_30 (nI s) (nI i) (nI t) (nI (hdN (N.1 1) s i)) f M x5) (nI s) (nI i) (nI t) (nI (hdN (N.1 1) s i)) (wR N 1 r) (nI k) := rfl
        rw [st]
        unfold b_X12_needOf_30
        rw [nI_add]
        by_cases e : hdN (N.1 1) s i + k = 100
        · rw [e, if_pos (by decide)]
          refine ⟨r, ?_, h3⟩
          rw [if_neg (fun z => h4 (k - 1) (by omega) ⟨z.1, by omega⟩)]
        · rw [if_neg (show ¬ (99 : Int32) < nI (hdN (N.1 1) s i + k) from nI_nlt (b := hdN (N.1 1) s i + k) (a := 99) (by omega) (by omega))]
          obtain ⟨w, r2, w1, w2, w3⟩ := hold_spec2 (x4 := 0) (k := k) H h3 e1 hh hs hi g a2 (by omega) hT1 hT2 eT
          have hl := hold_lt (e := 0) ht h12 w3
          rw [show T + SN (lsN (N.1 1) s i 0) h0 (t - h0) = dm (N.1 1) T s i h0 t from rfl] at hl
          clear w3
          rw [w1, bd_s, n1]
          by_cases q : w < nI t
          · rw [if_pos q]
            refine ih (k + 1) r2 (by omega) (by omega) w2 (fun k' hk' => ?_)
            by_cases z : k' = k
            · subst z
              exact fun y => (hl.mpr y) q
            · exact h4 k' (by omega)
          · rw [if_neg q]
            obtain ⟨u1, u2⟩ := hl.mp q
            refine ⟨r2, ?_, w2⟩
            have hk : dm (N.1 1) T s i h0 t - hdN (N.1 1) s i = k := by
              by_cases z : k = 0
              · omega
              · have := h4 (k - 1) (by omega)
                have : ¬ dm (N.1 1) T s i h0 t ≤ hdN (N.1 1) s i + (k - 1) := fun y => this ⟨u1, y⟩
                omega
            rw [hk, if_pos ⟨u1, by omega⟩]
    exact loop FU 0 r (by omega) (by show 100 < hdN (N.1 1) s i + 0 + 5000; omega) hr (fun k' hk' => absurd hk' (by omega))
  · rw [if_pos (b2_0.mpr g), if_neg (fun z => g z.1.1)]
    exact ⟨r, rfl, hr⟩
theorem s_need {M N : Mm} (R : Rel M N) (x y z : Int32) : ∃ r N2, f_X11_need M x y z = some r ∧ f_X12_need N x y z = some (r, N2) ∧ Rel M N2 := by
  obtain ⟨p, F, H⟩ := id R
  obtain ⟨h, hh, e1, e2⟩ := H.hr
  have hF := H.1.2.2.2.2.1
  obtain ⟨T, hT1, hT2, eT⟩ := H.2.2.1.2.1
  unfold f_X11_need f_X12_need f_X11_need_23 f_X12_need_33 f_X12_need_34
  rw [e_isSide, e_ySide, bd_s, bd_s, H.fX, H.fY, bd_s, bd_s, H.nX, e_yAhead, bd_s, bd_s]
  by_cases g1 : inR x 0 1
  · rw [if_neg (fun q => b2_0.mp q g1), if_neg (fun q => b2_0.mp q g1)]
    by_cases g2 : inR y 0 (nI (F - 1))
    · rw [if_neg (fun q => b2_0.mp q g2), if_neg (fun q => b2_0.mp q g2)]
      by_cases g3 : inR z (N.1 1 170) 12
      · rw [if_neg (fun q => b2_0.mp q g3), if_neg (fun q => b2_0.mp q g3)]
        obtain ⟨s, hs, rfl⟩ := side_n g1
        obtain ⟨i, hi, rfl⟩ := fur_n H.1.2.2.2.1 hF g2
        obtain ⟨t, t1, t2, rfl⟩ := now_n e1 hh g3
        obtain ⟨r2, k1, k2⟩ := e_needY (r := N.1 1) H (fun _ _ => rfl) e1 hh hs hi eT hT1 hT2 t1 t2
        rw [wR_self] at k1
        rw [H.ld, e_needX H e1 hs hi eT hT2 t1 t2, bd_s, k1, bd_s]
        exact ⟨_, _, rfl, rfl, p, F, H.cgn k2⟩
      · rw [if_pos (b2_0.mpr g3), if_pos (b2_0.mpr g3)]
        exact ⟨_, _, rfl, rfl, R⟩
    · rw [if_pos (b2_0.mpr g2), if_pos (b2_0.mpr g2)]
      exact ⟨_, _, rfl, rfl, R⟩
  · rw [if_pos (b2_0.mpr g1), if_pos (b2_0.mpr g1)]
    exact ⟨_, _, rfl, rfl, R⟩
/-- who holds to the hour, as bits -/
def hm (P : Nat → Prop) [DecidablePred P] : Nat → Int32
  | 0 => 0
  | n + 1 => if P n then hm P n ||| ((1 : Int32) <<< (nI n &&& 31)) else hm P n
abbrev hl (R Tr : Pg) (T s h0 t i : Nat) : Prop := suit R Tr (mo 0 s i) ∧ dm R T s i h0 t ≤ hdN R s i
theorem nd_0 {p F h0 s i t T : Nat} {M N : Mm} (H : RelP p F M N) (hs : s < 2) (hi : i < F) (hT2 : T ≤ 99) (ht : h0 ≤ t) (h12 : t ≤ 12) : nd (N.1 1) (N.1 3) T s i h0 t = 0 ↔ hl (N.1 1) (N.1 3) T s h0 t i := by
  have hd := dm_le (s := s) H hi hT2 ht h12
  unfold nd hl
  by_cases g : suit (N.1 1) (N.1 3) (mo 0 s i)
  · obtain ⟨a1, a2⟩ := H.hd hs hi g.1
    by_cases q : hdN (N.1 1) s i + (dm (N.1 1) T s i h0 t - hdN (N.1 1) s i) ≤ 99
    · rw [if_pos ⟨g, q⟩]
      constructor
      · intro z
        have := (nI_eq (b := 0) (by omega) (by omega)).mp z
        exact ⟨g, by omega⟩
      · intro z
        rw [show dm (N.1 1) T s i h0 t - hdN (N.1 1) s i = 0 by have := z.2; omega]
        rfl
    · rw [if_neg (fun z => q z.2)]
      exact ⟨fun z => absurd z (by decide), fun z => absurd z.2 (by omega)⟩
  · rw [if_neg (fun z => g z.1)]
    exact ⟨fun z => absurd z (by decide), fun z => absurd z.1 g⟩
theorem e_holders {p F h0 s t T : Nat} {M N : Mm} (H : RelP p F M N) (e1 : N.1 1 170 = nI h0) (hs : s < 2) (eT : N.1 3 0 = nI T) (hT2 : T ≤ 99) (ht : h0 ≤ t) (h12 : t ≤ 12) : f_X4_holders M (lx p) (nI s) (nI t) = some (hm (hl (N.1 1) (N.1 3) T s h0 t) F) := by
  have hF := H.1.2.2.2.2.1
  have loop : ∀ f j, j ≤ F → F < j + f → f_X4_holders_5 M (lx p) (nI s) (nI t) f (hm (hl (N.1 1) (N.1 3) T s h0 t) j) (nI j) = some (hm (hl (N.1 1) (N.1 3) T s h0 t) F) := by
    intro f
    induction f with
    | zero => intro j h1 h2; omega
    | succ f ih =>
      intro j h1 h2
      show b_X4_holders_5 (fun x3 x4 => f_X4_holders_5 M (lx p) (nI s) (nI t) f x3 x4) M (lx p) (nI s) (nI t) (hm (hl (N.1 1) (N.1 3) T s h0 t) j) (nI j) = _
      unfold b_X4_holders_5 f_X4_holders_32
      rw [H.1.2.2.2.2.2.1]
      by_cases e : j = F
      · subst e
        rw [if_pos (nI_le (Nat.le_refl _) (by omega))]
      · have h := ih (j + 1) (by omega) (by omega)
        rw [show hm (hl (N.1 1) (N.1 3) T s h0 t) (j + 1) = if hl (N.1 1) (N.1 3) T s h0 t j then hm (hl (N.1 1) (N.1 3) T s h0 t) j ||| ((1 : Int32) <<< (nI j &&& 31)) else hm (hl (N.1 1) (N.1 3) T s h0 t) j from rfl] at h
        rw [if_neg (nI_ge (by omega) (by omega)), e_needX H e1 hs (by omega) eT hT2 ht h12, bd_s, nm_x, n1]
        have hz := nd_0 (T := T) H hs (show j < F by omega) hT2 ht h12
        by_cases g : hl (N.1 1) (N.1 3) T s h0 t j
        · rw [if_pos (hz.mpr g)]
          rw [if_pos g] at h
          exact h
        · rw [if_neg (fun y => g (hz.mp y))]
          rw [if_neg g] at h
          exact h
  exact loop FU 0 (by omega) (by show F < 0 + 5000; omega)
theorem s_holds {M N : Mm} (R : Rel M N) (x z : Int32) : ∃ r N2, f_X11_holds M x z = some r ∧ f_X12_holds N x z = some (r, N2) ∧ Rel M N2 := by
  obtain ⟨p, F, H⟩ := id R
  obtain ⟨h, hh, e1, e2⟩ := H.hr
  have hF := H.1.2.2.2.2.1
  obtain ⟨T, hT1, hT2, eT⟩ := H.2.2.1.2.1
  unfold f_X11_holds f_X12_holds f_X11_holds_15 f_X12_holds_15
  rw [e_isSide, e_ySide, bd_s, bd_s, H.nX, e_yAhead, bd_s, bd_s]
  by_cases g1 : inR x 0 1
  · rw [if_neg (fun q => b2_0.mp q g1), if_neg (fun q => b2_0.mp q g1)]
    by_cases g3 : inR z (N.1 1 170) 12
    · rw [if_neg (fun q => b2_0.mp q g3), if_neg (fun q => b2_0.mp q g3)]
      obtain ⟨s, hs, rfl⟩ := side_n g1
      obtain ⟨t, t1, t2, rfl⟩ := now_n e1 hh g3
      have loop : ∀ f j (r : Pg), j ≤ F → F < j + f → (∀ x, x < 630 → r x = N.1 1 x) → ∃ r2, f_X12_holds_22 (nI s) (nI t) f (wR N 1 r) (hm (hl (N.1 1) (N.1 3) T s h t) j) (nI j) = some (hm (hl (N.1 1) (N.1 3) T s h t) F, wR N 1 r2) ∧ ∀ x, x < 630 → r2 x = N.1 1 x := by
        intro f
        induction f with
        | zero => intro j r h1 h2; omega
        | succ f ih =>
          intro j r h1 h2 h3
          have st : f_X12_holds_22 (nI s) (nI t) (f + 1) (wR N 1 r) (hm (hl (N.1 1) (N.1 3) T s h t) j) (nI j) = b_X12_holds_22 (fun M x3 x4 => f_X12_holds_22 (nI s) (nI t) f M x3 x4) (nI s) (nI t) (wR N 1 r) (hm (hl (N.1 1) (N.1 3) T s h t) j) (nI j) := rfl
          rw [st]
          unfold b_X12_holds_22 f_X12_holds_63 f_X12_holds_64
          rw [wR_0, H.1.2.2.2.2.2.2]
          by_cases e : j = F
          · subst e
            rw [if_pos (nI_le (Nat.le_refl _) (by omega))]
            exact ⟨r, rfl, h3⟩
          · have hmm : mo 0 s j + 7 ≤ 140 := by unfold mo; omega
            rw [if_neg (nI_ge (by omega) (by omega)), show f_X12_isThere (wR N 1 r) (0 : Int32) (nI s) (nI j) = _ from isThere_y (t := 0) hs (by omega) (by omega), bd_s, wR_s, h3 _ (by omega), n1]
            have hst : hm (hl (N.1 1) (N.1 3) T s h t) (j + 1) = if hl (N.1 1) (N.1 3) T s h t j then hm (hl (N.1 1) (N.1 3) T s h t) j ||| ((1 : Int32) <<< (nI j &&& 31)) else hm (hl (N.1 1) (N.1 3) T s h t) j := rfl
            by_cases g : N.1 1 (mo 0 s j) = 1
            · obtain ⟨a1, a2⟩ := H.hd hs (show j < F by omega) g
              obtain ⟨w, r2, w1, w2, w3⟩ := hold_spec2 (x4 := 0) (k := 0) H h3 e1 hh hs (show j < F by omega) g a2 (by omega) hT1 hT2 eT
              have hq := hold_lt (e := 0) t1 t2 w3
              clear w3
              rw [if_neg (fun q => b2_0.mp q g), show f_X12_holdsTo (wR N 1 r) (nI s) (nI j) (0 : Int32) (0 : Int32) = _ from w1, bd_s]
              by_cases q : w < nI t
              · rw [if_pos q, nm_x, Int32.or_zero]
                rw [if_neg (show ¬ hl (N.1 1) (N.1 3) T s h t j from fun y => (hq.mpr y) q)] at hst
                rw [← hst]
                exact ih (j + 1) r2 (by omega) (by omega) w2
              · rw [if_neg q, nm_x]
                rw [if_pos (show hl (N.1 1) (N.1 3) T s h t j from hq.mp q)] at hst
                rw [← hst]
                exact ih (j + 1) r2 (by omega) (by omega) w2
            · rw [if_pos (b2_0.mpr g), nm_x, Int32.or_zero]
              rw [if_neg (show ¬ hl (N.1 1) (N.1 3) T s h t j from fun y => g y.1.1)] at hst
              rw [← hst]
              exact ih (j + 1) r (by omega) (by omega) h3
      obtain ⟨r2, k1, k2⟩ := loop FU 0 (N.1 1) (by omega) (by show F < 0 + 5000; omega) (fun _ _ => rfl)
      rw [wR_self] at k1
      rw [H.ld, e_holders H e1 hs eT hT2 t1 t2, bd_s]
      exact ⟨_, _, rfl, k1, p, F, H.cgn k2⟩
    · rw [if_pos (b2_0.mpr g3), if_pos (b2_0.mpr g3)]
      exact ⟨_, _, rfl, rfl, R⟩
  · rw [if_pos (b2_0.mpr g1), if_pos (b2_0.mpr g1)]
    exact ⟨_, _, rfl, rfl, R⟩
