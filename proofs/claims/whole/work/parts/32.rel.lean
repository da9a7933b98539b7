-- THE RELATION of the class's memory M and the reference's N
/-- nobody and nothing beyond the furlongs -/
def Bey (r : Pg) (t F : Nat) : Prop := (∀ s i, s < 2 → F ≤ i → i < 10 → r (mo t s i) = 0) ∧ ∀ i, F ≤ i → i < 10 → r (t + 140 + i) = 0 ∧ r (t + 150 + i) = 0
def lx (p : Nat) : Nat := 141 + 36 * p
def RA (p F : Nat) (M N : Mm) : Prop := p < 2 ∧ M.1 0 9 = nI p ∧ M.1 0 10 = nI (1 - p) ∧ 1 ≤ F ∧ F ≤ 10 ∧ M.1 (lx p) 0 = nI F ∧ N.1 0 1 = nI F
def RB (p F : Nat) (M N : Mm) : Prop := ScR M (lx p + 5) (N.1 1) 0 ∧ InvR (N.1 1) 0 ∧ Bey (N.1 1) 0 F
def RC (p : Nat) (M N : Mm) : Prop := LwR M (lx p + 2) (N.1 3) ∧ (∃ T, 1 ≤ T ∧ T ≤ 99 ∧ N.1 3 0 = nI T) ∧ (∃ c, c ≤ 10 ∧ M.1 (lx p) 1 = nI c ∧ N.1 0 6 = nI c) ∧ ∀ h, h < 12 → M.1 (lx p + 1) h = N.1 2 h
def RD (p F : Nat) (M N : Mm) : Prop := ∃ c, c ≤ 8 ∧ M.1 (lx p) 4 = nI c ∧ N.1 0 5 = nI c ∧ ∀ h, h < c → M.1 (lx p + 3) h = N.1 4 (2 * h) ∧ M.1 (lx p + 4) h = N.1 4 (2 * h + 1) ∧ ∃ x, x < F ∧ N.1 4 (2 * h) = nI x
def RE (F : Nat) (M N : Mm) : Prop := ∀ k, k < 2 → M.1 35 k = N.1 15 k ∧ isB (N.1 15 k) ∧ (N.1 15 k = 1 → ScR M (36 + 31 * k) (N.1 1) (210 * (k + 1)) ∧ InvR (N.1 1) (210 * (k + 1)) ∧ Bey (N.1 1) (210 * (k + 1)) F)
def RT (M N : Mm) : Prop := (∃ n, n ≤ 400 ∧ M.1 1 1 = nI n ∧ N.1 0 17 = nI n ∧ ∀ j, j < n → ∃ b, b < 256 ∧ N.1 9 j = nI b ∧ M.1 2 j = vp_nar .byte (nI b)) ∧ M.1 1 3 = N.1 0 18
def RF (F : Nat) (M N : Mm) : Prop := ∃ n, n ≤ F ∧ M.1 98 0 = nI n ∧ N.1 0 30 = nI n ∧ ∀ j, j < n → M.1 99 j = N.1 14 j
def RS (M N : Mm) : Prop := ∀ k, k < 4 → (N.1 16 k = -4 ∧ M.1 (133 + 2 * k) 0 = 0) ∨ ∃ n z, n ≤ 2 ∧ z ≤ 40 ∧ N.1 16 k = nI n ∧ M.1 (133 + 2 * k) 0 = 1 ∧ M.1 (133 + 2 * k) 3 = nI n ∧ M.1 (133 + 2 * k) 1 = nI z ∧ N.1 17 k = nI z ∧ ∀ j, j < 40 → M.1 (134 + 2 * k) j = N.1 18 (40 * k + j)
def cutsL : List Nat := [0, 8, 11, 16, 22, 26, 29, 36, 41, 45, 49, 54, 58, 64, 70, 75, 79]
def letL : List Nat := [102, 117, 114, 108, 111, 110, 103, 115, 115, 117, 110, 102, 114, 111, 115, 116, 116, 114, 101, 97, 116, 121, 115, 110, 111, 119, 109, 97, 110, 98, 114, 97, 122, 105, 101, 114, 104, 111, 117, 115, 101, 119, 101, 115, 116, 101, 97, 115, 116, 112, 108, 97, 105, 110, 105, 99, 101, 100, 115, 104, 97, 100, 101, 100, 112, 97, 99, 107, 101, 100, 99, 104, 105, 108, 100, 98, 97, 114, 101]
def RW (p : Nat) (M : Mm) : Prop := ∀ k, k < 20 → isB (M.1 (lx (1 - p) + 16 + k) 6)
def RZ (p : Nat) (M N : Mm) : Prop := M.1 0 11 = N.1 0 35 ∧ (∀ j, j < 17 → N.1 10 j = nI (cutsL.getD j 0)) ∧ (∀ j, j < 79 → N.1 11 j = nI (letL.getD j 0)) ∧ (∀ j, j < 10 → M.1 127 j = 0) ∧ RW p M
def RelP (p F : Nat) (M N : Mm) : Prop := RA p F M N ∧ RB p F M N ∧ RC p M N ∧ RD p F M N ∧ RE F M N ∧ RT M N ∧ RF F M N ∧ RS M N ∧ RZ p M N
def Rel (M N : Mm) : Prop := ∃ p F, RelP p F M N
theorem ld_n {p : Nat} (h : p < 2) : ld (nI p) = lx p := by
  have h2 : ∀ p < 2, ld (nI p) = lx p := by decide +kernel
  exact h2 p h
theorem ScR.c {M M2 : Mm} {a t : Nat} {r r2 : Pg} (H : ScR M a r t) (hb6 : (r (t + 207)).toNatClampNeg ≤ 6) (h1 : ∀ j, j < 31 → M2.1 (a + j) = M.1 (a + j)) (h2 : ∀ x, x < 208 → r2 (t + x) = r (t + x)) : ScR M2 a r2 t := by
  obtain ⟨hm, hs, hh0, hsun, hbr⟩ := H
  have e : ∀ x, t ≤ x → x < t + 208 → r2 x = r x := fun x q1 q2 => by rw [show x = t + (x - t) by omega]; exact h2 _ (by omega)
  refine ⟨fun k hk => ?_, fun i hi => ?_, ?_, fun h hh => ?_, ?_⟩
  · refine (hm k hk).same ?_ (fun f hf => e _ (by omega) (by omega))
    have := h1 (11 + k) (by omega)
    rw [← Nat.add_assoc] at this
    exact this
  · rw [h1 2 (by decide), h1 3 (by decide), h1 4 (by decide), e _ (by omega) (by omega), e _ (by omega) (by omega), e _ (by omega) (by omega)]
    exact hs i hi
  · rw [show M2.1 a = M.1 a from h1 0 (by decide), e _ (by omega) (by omega)]
    exact hh0
  · rw [h1 5 (by decide), e _ (by omega) (by omega)]
    exact hsun h hh
  · refine hbr.same (fun j hj => ?_) (fun x q1 q2 => h2 x (by omega)) hb6
    have := h1 (6 + j) (by omega)
    rw [← Nat.add_assoc] at this
    exact this
theorem InvR.c {r r2 : Pg} {t : Nat} (H : InvR r t) (h2 : ∀ x, x < 208 → r2 (t + x) = r (t + x)) : InvR r2 t := by
  obtain ⟨h1, h3, h4, ⟨h, hh, h5⟩, h6⟩ := H
  have e : ∀ x, t ≤ x → x < t + 208 → r2 x = r x := fun x q1 q2 => by rw [show x = t + (x - t) by omega]; exact h2 _ (by omega)
  refine ⟨fun k hk => ?_, fun j hj => ?_, fun h9 hh9 => ?_, ⟨h, hh, ?_⟩, h6.same (fun x _ q2 => h2 x q2)⟩
  · rw [e _ (by omega) (by omega), e _ (by omega) (by omega)]
    exact h1 k hk
  · rw [e _ (by omega) (by omega)]
    exact h3 j hj
  · rw [e _ (by omega) (by omega)]
    exact h4 h9 hh9
  · rw [e _ (by omega) (by omega)]
    exact h5
theorem Bey.c {r r2 : Pg} {t F : Nat} (H : Bey r t F) (h2 : ∀ x, x < 208 → r2 (t + x) = r (t + x)) : Bey r2 t F := by
  have e : ∀ x, t ≤ x → x < t + 208 → r2 x = r x := fun x q1 q2 => by rw [show x = t + (x - t) by omega]; exact h2 _ (by omega)
  refine ⟨fun s i hs h1 h3 => ?_, fun i h1 h3 => ?_⟩
  · rw [e _ (by unfold mo; omega) (by unfold mo; omega)]
    exact H.1 s i hs h1 h3
  · rw [e _ (by omega) (by omega), e _ (by omega) (by omega)]
    exact H.2 i h1 h3
theorem InvR.b6 {r : Pg} {t : Nat} (H : InvR r t) : (r (t + 207)).toNatClampNeg ≤ 6 := by
  obtain ⟨c, h6, -, hc⟩ := clampc H.2.2.2.2
  have hc' : (r (t + 207)).toNatClampNeg = c := hc
  omega
/-- what both leave as it was but for their rooms for trials -/
theorem RelP.cg {p F : Nat} {M N M2 N2 : Mm} (H : RelP p F M N) (m1 : ∀ b, b ≠ 98 → (b < 3 ∨ 34 ≤ b) → (b < 100 ∨ b = 127 ∨ 132 ≤ b) → M2.1 b = M.1 b) (m2 : M2.1 98 0 = M.1 98 0) (n1 : ∀ b, b ≠ 1 → b ≠ 12 → b ≠ 13 → N2.1 b = N.1 b) (n2 : ∀ x, x < 630 → N2.1 1 x = N.1 1 x) : RelP p F M2 N2 := by
  obtain ⟨⟨a1, a2, a3, a4, a5, a6, a7⟩, ⟨b1, b2, b3⟩, ⟨c1, c2, c3, c4⟩, hD, hE, hT, hF, hS, hZ⟩ := H
  have hl : lx p = 141 ∨ lx p = 177 := by unfold lx; omega
  have z0 : M2.1 0 = M.1 0 := m1 0 (by decide) (by decide) (by decide)
  have y0 : N2.1 0 = N.1 0 := n1 0 (by decide) (by decide) (by decide)
  refine ⟨⟨a1, by rw [z0]; exact a2, by rw [z0]; exact a3, a4, a5, by rw [m1 _ (by omega) (by omega) (by omega)]; exact a6, by rw [y0]; exact a7⟩, ⟨?_, ?_, ?_⟩, ⟨?_, ?_, ?_, fun h hh => ?_⟩, ?_, fun k hk => ?_, ?_, ?_, fun k hk => ?_, ?_⟩
  · exact b1.c b2.b6 (fun j hj => m1 _ (by omega) (by omega) (by omega)) (fun x hx => n2 _ (by omega))
  · exact b2.c (fun x hx => n2 _ (by omega))
  · exact b3.c (fun x hx => n2 _ (by omega))
  · unfold LwR
    rw [m1 _ (by omega) (by omega) (by omega), n1 3 (by decide) (by decide) (by decide)]
    exact c1
  · rw [n1 3 (by decide) (by decide) (by decide)]
    exact c2
  · rw [m1 _ (by omega) (by omega) (by omega), y0]
    exact c3
  · rw [m1 _ (by omega) (by omega) (by omega), n1 2 (by decide) (by decide) (by decide)]
    exact c4 h hh
  · unfold RD
    rw [m1 (lx p) (by omega) (by omega) (by omega), m1 (lx p + 3) (by omega) (by omega) (by omega), m1 (lx p + 4) (by omega) (by omega) (by omega), y0, n1 4 (by decide) (by decide) (by decide)]
    exact hD
  · obtain ⟨e1, e2, e3⟩ := hE k hk
    rw [m1 35 (by decide) (by decide) (by decide), n1 15 (by decide) (by decide) (by decide)]
    refine ⟨e1, e2, fun h => ?_⟩
    obtain ⟨g1, g2, g3⟩ := e3 h
    exact ⟨g1.c g2.b6 (fun j hj => m1 _ (by omega) (by omega) (by omega)) (fun x hx => n2 _ (by omega)), g2.c (fun x hx => n2 _ (by omega)), g3.c (fun x hx => n2 _ (by omega))⟩
  · unfold RT
    rw [m1 1 (by decide) (by decide) (by decide), m1 2 (by decide) (by decide) (by decide), y0, n1 9 (by decide) (by decide) (by decide)]
    exact hT
  · unfold RF
    rw [m2, m1 99 (by decide) (by decide) (by decide), y0, n1 14 (by decide) (by decide) (by decide)]
    exact hF
  · rw [n1 16 (by decide) (by decide) (by decide), n1 17 (by decide) (by decide) (by decide), n1 18 (by decide) (by decide) (by decide), m1 (133 + 2 * k) (by omega) (by omega) (by omega), m1 (134 + 2 * k) (by omega) (by omega) (by omega)]
    exact hS k hk
  · unfold RZ
    have hl2 : lx (1 - p) + lx p = 318 := by unfold lx; omega
    rw [z0, y0, n1 10 (by decide) (by decide) (by decide), n1 11 (by decide) (by decide) (by decide), m1 127 (by decide) (by decide) (by decide)]
    exact ⟨hZ.1, hZ.2.1, hZ.2.2.1, hZ.2.2.2.1, fun k hk => by rw [m1 _ (by omega) (by omega) (by omega)]; exact hZ.2.2.2.2 k hk⟩
/-- the scene that is has moved, nothing else -/
theorem RelP.sc {p F : Nat} {M N M2 N2 : Mm} (H : RelP p F M N) (m1 : ∀ b, (b < lx p + 5 ∨ lx p + 36 ≤ b) → M2.1 b = M.1 b) (n1 : ∀ b, b ≠ 1 → N2.1 b = N.1 b) (n2 : ∀ x, 210 ≤ x → N2.1 1 x = N.1 1 x) (hB : RB p F M2 N2) : RelP p F M2 N2 := by
  obtain ⟨⟨a1, a2, a3, a4, a5, a6, a7⟩, -, ⟨c1, c2, c3, c4⟩, hD, hE, hT, hF, hS, hZ⟩ := H
  have hl : lx p = 141 ∨ lx p = 177 := by unfold lx; omega
  have z0 : M2.1 0 = M.1 0 := m1 0 (by omega)
  have y0 : N2.1 0 = N.1 0 := n1 0 (by decide)
  refine ⟨⟨a1, by rw [z0]; exact a2, by rw [z0]; exact a3, a4, a5, by rw [m1 _ (by omega)]; exact a6, by rw [y0]; exact a7⟩, hB, ⟨?_, ?_, ?_, fun h hh => ?_⟩, ?_, fun k hk => ?_, ?_, ?_, fun k hk => ?_, ?_⟩
  · unfold LwR
    rw [m1 _ (by omega), n1 3 (by decide)]
    exact c1
  · rw [n1 3 (by decide)]
    exact c2
  · rw [m1 _ (by omega), y0]
    exact c3
  · rw [m1 _ (by omega), n1 2 (by decide)]
    exact c4 h hh
  · unfold RD
    rw [m1 (lx p) (by omega), m1 (lx p + 3) (by omega), m1 (lx p + 4) (by omega), y0, n1 4 (by decide)]
    exact hD
  · obtain ⟨e1, e2, e3⟩ := hE k hk
    rw [m1 35 (by omega), n1 15 (by decide)]
    refine ⟨e1, e2, fun h => ?_⟩
    obtain ⟨g1, g2, g3⟩ := e3 h
    exact ⟨g1.c g2.b6 (fun j hj => m1 _ (by omega)) (fun x hx => n2 _ (by omega)), g2.c (fun x hx => n2 _ (by omega)), g3.c (fun x hx => n2 _ (by omega))⟩
  · unfold RT
    rw [m1 1 (by omega), m1 2 (by omega), y0, n1 9 (by decide)]
    exact hT
  · unfold RF
    rw [m1 98 (by omega), m1 99 (by omega), y0, n1 14 (by decide)]
    exact hF
  · rw [n1 16 (by decide), n1 17 (by decide), n1 18 (by decide), m1 (133 + 2 * k) (by omega), m1 (134 + 2 * k) (by omega)]
    exact hS k hk
  · unfold RZ
    have hl2 : lx (1 - p) + lx p = 318 := by unfold lx; omega
    rw [z0, y0, n1 10 (by decide), n1 11 (by decide), m1 127 (by omega)]
    exact ⟨hZ.1, hZ.2.1, hZ.2.2.1, hZ.2.2.2.1, fun k hk => by rw [m1 _ (by omega)]; exact hZ.2.2.2.2 k hk⟩
