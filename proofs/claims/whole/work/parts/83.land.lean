-- LAND
/-- the text and the draft moved, nothing else -/
theorem RelP.tx {p F : Nat} {M N M2 N2 : Mm} (H : RelP p F M N) (m1 : ∀ b, b ≠ 1 → (b < lx (1 - p) ∨ lx (1 - p) + 36 ≤ b) → M2.1 b = M.1 b) (n1 : ∀ b, b ≠ 0 → (b < 5 ∨ 8 < b) → N2.1 b = N.1 b) (n0 : ∀ j, (j < 11 ∨ 24 < j) → N2.1 0 j = N.1 0 j) (hT : RT M2 N2) (hW : RW p M2) : RelP p F M2 N2 := by
  obtain ⟨⟨a1, a2, a3, a4, a5, a6, a7⟩, ⟨b1, b2, b3⟩, ⟨c1, c2, ⟨d, hd, d1, d2⟩, c4⟩, ⟨c, c8, e1, e2, e3⟩, hE, -, ⟨f, f4, f1, f2, f3⟩, hS, hZ1, hZ2, hZ3, hZ4, -⟩ := H
  have hl : (lx p = 141 ∧ lx (1 - p) = 177) ∨ (lx p = 177 ∧ lx (1 - p) = 141) := by unfold lx; omega
  have y1 : N2.1 1 = N.1 1 := n1 1 (by decide) (by decide)
  have ml : ∀ j, j < 36 → M2.1 (lx p + j) = M.1 (lx p + j) := fun j hj => m1 _ (by omega) (by omega)
  have ml0 : M2.1 (lx p) = M.1 (lx p) := ml 0 (by omega)
  have z0 : M2.1 0 = M.1 0 := m1 0 (by decide) (by omega)
  refine ⟨⟨a1, by rw [z0]; exact a2, by rw [z0]; exact a3, a4, a5, by rw [ml0]; exact a6, by rw [n0 1 (by decide)]; exact a7⟩, ⟨?_, by rw [y1]; exact b2, by rw [y1]; exact b3⟩, ⟨?_, ?_, ⟨d, hd, by rw [ml0]; exact d1, by rw [n0 6 (by decide)]; exact d2⟩, fun h hh => ?_⟩, ⟨c, c8, by rw [ml0]; exact e1, by rw [n0 5 (by decide)]; exact e2, fun h hh => ?_⟩, fun k hk => ?_, hT, ⟨f, f4, by rw [m1 98 (by decide) (by omega)]; exact f1, by rw [n0 30 (by decide)]; exact f2, fun j hj => ?_⟩, fun k hk => ?_, ?_, ?_, ?_, ?_, hW⟩
  · rw [y1]
    exact b1.c b2.b6 (fun j hj => m1 _ (by omega) (by omega)) (fun x hx => rfl)
  · unfold LwR
    rw [ml 2 (by omega), n1 3 (by decide) (by decide)]
    exact c1
  · rw [n1 3 (by decide) (by decide)]
    exact c2
  · rw [ml 1 (by omega), n1 2 (by decide) (by decide)]
    exact c4 h hh
  · rw [ml 3 (by omega), ml 4 (by omega), n1 4 (by decide) (by decide)]
    exact e3 h hh
  · obtain ⟨e1, e2, e3⟩ := hE k hk
    rw [m1 35 (by decide) (by omega), n1 15 (by decide) (by decide), y1]
    refine ⟨e1, e2, fun h => ?_⟩
    obtain ⟨g1, g2, g3⟩ := e3 h
    exact ⟨g1.c g2.b6 (fun j hj => m1 _ (by omega) (by omega)) (fun x hx => rfl), g2, g3⟩
  · rw [m1 99 (by decide) (by omega), n1 14 (by decide) (by decide)]
    exact f3 j hj
  · rw [n1 16 (by decide) (by decide), n1 17 (by decide) (by decide), n1 18 (by decide) (by decide), m1 (133 + 2 * k) (by omega) (by omega), m1 (134 + 2 * k) (by omega) (by omega)]
    exact hS k hk
  · rw [z0, n0 35 (by decide)]
    exact hZ1
  · rw [n1 10 (by decide) (by decide)]
    exact hZ2
  · rw [n1 11 (by decide) (by decide)]
    exact hZ3
  · rw [m1 127 (by decide) (by omega)]
    exact hZ4
/-- the draft is the land now -/
theorem land_in {p F F2 hi : Nat} {M N M2 N2 X Y : Mm} (H : RelP p F M N) (D : DR (lx (1 - p)) X Y) (hhi : X.1 1 11 = nI hi) (hF : X.1 (lx (1 - p)) 0 = nI F2) (h12 : 1 ≤ F2 ∧ F2 ≤ 10) (hi9 : hi ≤ 9) (hlt : hi < F2)
    (mo : ∀ c, c ≠ 0 → c ≠ 1 → c ≠ 98 → c ≠ 35 → (c < lx (1 - p) ∨ lx (1 - p) + 36 ≤ c) → M2.1 c = M.1 c) (md : ∀ j, j < 36 → M2.1 (lx (1 - p) + j) = X.1 (lx (1 - p) + j)) (m9 : M2.1 0 9 = nI (1 - p)) (m10 : M2.1 0 10 = nI p) (m11 : M2.1 0 11 = M.1 0 11) (m98 : M2.1 98 0 = 0) (m35 : ∀ k, k < 2 → M2.1 35 k = 0) (m1 : M2.1 1 1 = 0) (m3 : M2.1 1 3 = 0)
    (no : ∀ c, c ≠ 0 → c ≠ 1 → c ≠ 2 → c ≠ 3 → c ≠ 4 → c ≠ 15 → (c < 5 ∨ 8 < c) → N2.1 c = N.1 c) (np : ∀ j, j < 210 → N2.1 1 j = Y.1 5 j) (nh : ∀ j, j < 16 → N2.1 4 j = Y.1 8 j) (nf : ∀ h, h < 12 → N2.1 2 h = Y.1 6 h) (nt : ∀ t, t < 3 → N2.1 3 t = Y.1 7 t) (nk : ∀ k, k < 2 → N2.1 15 k = 0) (n01 : N2.1 0 1 = Y.1 0 12) (n05 : N2.1 0 5 = Y.1 0 11) (n30 : N2.1 0 30 = 0) (n06 : N2.1 0 6 = 3) (n17 : N2.1 0 17 = 0) (n18 : N2.1 0 18 = 0) (n35 : N2.1 0 35 = N.1 0 35) : RelP (1 - p) F2 M2 N2 := by
  obtain ⟨⟨a1, a2, a3, a4, a5, a6, a7⟩, ⟨b1, b2, b3⟩, -, -, -, -, -, hS, hZ1, hZ2, hZ3, hZ4, -⟩ := H
  have hl : (lx p = 141 ∧ lx (1 - p) = 177) ∨ (lx p = 177 ∧ lx (1 - p) = 141) := by unfold lx; omega
  have hpp : 1 - (1 - p) = p := by omega
  obtain ⟨⟨F3, g1, g2, g3, g4⟩, d2, d3, ⟨⟨l0, l1, l2⟩, ⟨T, t1, t2, t3⟩⟩, ⟨hi3, sd, ss, ⟨u1, u2, u3⟩, ⟨e1, e2⟩, -, -, ⟨c, c8, c1, c2, c4⟩, e7, -⟩, s1, s2⟩ := D
  have eF : F3 = F2 := (nI_eq (by omega) (by omega)).mp (g3.symm.trans hF)
  have eh : hi3 = hi := (nI_eq (by omega) (by omega)).mp (e1.symm.trans hhi)
  subst eF eh
  have md0 : M2.1 (lx (1 - p)) = X.1 (lx (1 - p)) := md 0 (by omega)
  have pe : ∀ x, x < 208 → N2.1 1 (0 + x) = Y.1 5 (0 + x) := fun x hx => by rw [Nat.zero_add]; exact np x (by omega)
  refine ⟨⟨by omega, m9, by rw [hpp]; exact m10, h12.1, h12.2, by rw [md0]; exact hF, by rw [n01]; exact g4⟩, ⟨?_, s2.c pe, ?_⟩, ⟨⟨?_, ?_, ?_⟩, ⟨T, t1, t2, by rw [nt 0 (by decide)]; exact t3⟩, ⟨3, by decide, by rw [md0]; exact d2, n06⟩, fun h hh => ?_⟩, ⟨c, c8, by rw [md0]; exact c1, by rw [n05]; exact c2, fun h hh => ?_⟩, fun k hk => ?_, ⟨⟨0, by decide, m1, n17, fun j hj => absurd hj (by omega)⟩, by rw [m3, n18]⟩, ⟨0, by omega, m98, n30, fun j hj => absurd hj (by omega)⟩, fun k hk => ?_, ?_, ?_, ?_, ?_, fun k hk => ?_⟩
  · exact s1.c s2.b6 (fun j hj => by rw [show lx (1 - p) + 5 + j = lx (1 - p) + (5 + j) by omega]; exact md _ (by omega)) pe
  · have e8 : Bey (Y.1 5) 0 F3 := ⟨fun s i hs q1 q2 => e7.1 s i hs (by omega) q2, fun i q1 q2 => e7.2 i (by omega) q2⟩
    exact e8.c pe
  · rw [md 2 (by omega), nt 0 (by decide)]
    exact l0
  · rw [md 2 (by omega), nt 1 (by decide)]
    exact l1
  · rw [md 2 (by omega), nt 2 (by decide)]
    exact l2
  · rw [md 1 (by omega), nf h hh]
    exact d3 h hh
  · obtain ⟨q1, q2, x, q3, q4⟩ := c4 h hh
    rw [md 3 (by omega), md 4 (by omega), nh _ (by omega), nh _ (by omega)]
    exact ⟨q1, q2, x, by omega, q4⟩
  · rw [m35 k hk, nk k hk]
    exact ⟨rfl, Or.inl rfl, fun z => absurd z (by decide)⟩
  · rw [no 16 (by decide) (by decide) (by decide) (by decide) (by decide) (by decide) (by decide), no 17 (by decide) (by decide) (by decide) (by decide) (by decide) (by decide) (by decide), no 18 (by decide) (by decide) (by decide) (by decide) (by decide) (by decide) (by decide), mo (133 + 2 * k) (by omega) (by omega) (by omega) (by omega) (by omega), mo (134 + 2 * k) (by omega) (by omega) (by omega) (by omega) (by omega)]
    exact hS k hk
  · rw [m11, n35]
    exact hZ1
  · rw [no 10 (by decide) (by decide) (by decide) (by decide) (by decide) (by decide) (by decide)]
    exact hZ2
  · rw [no 11 (by decide) (by decide) (by decide) (by decide) (by decide) (by decide) (by decide)]
    exact hZ3
  · rw [mo 127 (by decide) (by decide) (by decide) (by decide) (by omega)]
    exact hZ4
  · rw [hpp, mo (lx p + 16 + k) (by omega) (by omega) (by omega) (by omega) (by omega), show lx p + 16 + k = lx p + 5 + 11 + k by omega]
    exact (b1.1 k hk).1.2
