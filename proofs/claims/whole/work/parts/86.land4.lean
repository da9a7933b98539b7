theorem tell_0F {d : Nat} {M : Mm} : f_X9_tell_40 d FU M 0 = f_X9_tell_95 M d 0 := tell_0 (f := 4999)
theorem land_bF {g : Gg} {N : Mm} (h : BR g N) (x : Int32) : f_X12_land_92 FU N x = f_X12_land_116 N x := land_b h 4999 x
theorem land_bad {p F n : Nat} {M N M0 N0 Mf Nf : Mm} {x : Int32} {b : Nat → Nat} (H : RelP p F M N) (hMo : ∀ j, j ≠ 1 → (j < lx (1 - p) ∨ lx (1 - p) + 36 ≤ j) → M0.1 j = M.1 j) (hNo : ∀ j, j ≠ 0 → (j < 5 ∨ 8 < j) → N0.1 j = N.1 j) (hN0 : ∀ j, (j < 11 ∨ 24 < j) → N0.1 0 j = N.1 0 j) (Fl : FS (b, n, lx (1 - p), M0, N0) Mf Nf) : WW (landT Mf) (f_X12_land_116 Nf x) := by
  obtain ⟨f1, ⟨f2, ⟨c, c1, c6, e19⟩, -⟩, f3, f4⟩ := id Fl
  unfold f_X12_land_116
  rw [if_neg Fl.2.1.ne.1]
  exact land_no (n := 0) (b := fun _ => 0) H hMo hNo hN0 f1 f2 c1 c6 e19 f3 f4
theorem land_end {p F n L q : Nat} {M N M0 N0 M3 N3 X Y : Mm} {b : Nat → Nat} (H : RelP p F M N) (hMo : ∀ j, j ≠ 1 → (j < lx (1 - p) ∨ lx (1 - p) + 36 ≤ j) → M0.1 j = M.1 j) (hNo : ∀ j, j ≠ 0 → (j < 5 ∨ 8 < j) → N0.1 j = N.1 j) (hN0 : ∀ j, (j < 11 ∨ 24 < j) → N0.1 0 j = N.1 0 j) (A3 : AS (gl (b, n, lx (1 - p), M0, N0) L) X Y n q M3 N3) (D3 : DR (lx (1 - p)) X Y) : WW (bd (f_X9_tell_95 M3 (lx (1 - p)) 1) landT) (f_X12_land_116 N3 (nI L)) := by
  have hl : (lx p = 141 ∧ lx (1 - p) = 177) ∨ (lx p = 177 ∧ lx (1 - p) = 141) := by have := H.1.1; unfold lx; omega
  obtain ⟨⟨F2, g1, g2, g3, g4⟩, -, -, -, ⟨hi, sd, ss, ⟨v1, v2, v3⟩, ⟨e1, e2⟩, -⟩, -⟩ := id D3
  have k11 : M3.1 1 11 = nI hi := by rw [A3.1.1.1 1 11 (by decide)]; exact e1
  have kd0 : M3.1 (lx (1 - p)) 0 = nI F2 := by rw [A3.1.1.1 (lx (1 - p)) 0 (by omega)]; exact g3
  have k15 : N3.1 0 15 = nI hi := by rw [A3.1.2.1.1 0 15 (by decide)]; exact e2
  have k12 : N3.1 0 12 = nI F2 := by rw [A3.1.2.1.1 0 12 (by decide)]; exact g4
  obtain ⟨m2, -⟩ := A3.ln
  unfold f_X9_tell_95 f_X9_tell_121 f_X12_land_116
  rw [if_neg (by decide), k11, kd0, if_pos A3.1.2.2.2.2.1, k15, k12]
  by_cases z : hi < F2
  · rw [if_pos (nI_lt z (by omega)), if_pos (nI_lt z (by omega)), bd_s]
    exact land_yes H D3 A3.1.1.1 A3.1.2.1.1 (fun j q1 q2 => (A3.1.1.2.1.1 j q1 q2).trans (wI_o q1)) A3.1.2.1.2 hMo hNo hN0 e1 g3 ⟨g1, g2⟩ v1 z A3.1.2.2.2.1.1 A3.1.2.2.2.2.1 m2
  · rw [if_neg (nI_nlt (by omega) (by omega)), if_neg (nI_nlt (by omega) (by omega))]
    obtain ⟨B6a, B6b, B6c⟩ := A3.bad (c := 6) (by decide) (by decide)
    have m1 : M3.1 1 1 = M3.1 1 6 := by
      rw [A3.2.2.1, A3.1.1.1 1 1 (by decide)]
      exact A3.1.1.2.2.1
    rw [m1, show f_X9_refuse M3 6 (M3.1 1 6) = _ from B6a, bd_s, show f_X12_fails N3 6 = _ from B6b, bd_s, bd_s]
    obtain ⟨f1, ⟨f2, ⟨c, c1, c6, e19⟩, -⟩, f3, f4⟩ := B6c.gl
    exact land_no (n := 0) (b := fun _ => 0) H hMo hNo hN0 f1 f2 c1 c6 e19 f3 f4
theorem land_go {p F n : Nat} {M N M0 N0 : Mm} {b : Nat → Nat} (H : RelP p F M N) (hn : n ≤ 400) (hMo : ∀ j, j ≠ 1 → (j < lx (1 - p) ∨ lx (1 - p) + 36 ≤ j) → M0.1 j = M.1 j) (hNo : ∀ j, j ≠ 0 → (j < 5 ∨ 8 < j) → N0.1 j = N.1 j) (hN0 : ∀ j, (j < 11 ∨ 24 < j) → N0.1 0 j = N.1 0 j) (hg : OKg (b, n, lx (1 - p), M0, N0)) (C : CS (gl (b, n, lx (1 - p), M0, N0) 0) M0 N0 0 M0 N0) (D : DR (lx (1 - p)) M0 N0) : WW (bd (bd (f_X9_readToken M0) fun p16 => nm (p16.1) fun v17 => f_X9_tell_40 (lx (1 - p)) FU p16.2 v17) landT) (f_X12_land_88 N0 0) := by
  unfold f_X12_land_88
  rcases tok_sim (gl_ok hg 0) C with ⟨M2, N2, st, q, t1, t2, t3, A⟩ | ⟨M2, N2, t1, t2, Fl⟩
  · rw [t1, t2, bd_s, bd_s]
    dsimp only
    rw [nm_x]
    have e1 : n - st < 402 := by omega
    have e2 : (402 : Nat) < FU := by decide
    rcases tell_loop hg 402 FU FU 0 M0 N0 st q M2 N2 e1 e2 e2 (Nat.zero_le _) A D with ⟨L2, X2, Y2, q2, M3, N3, u1, u2, A3, D3⟩ | ⟨L2, M3, N3, u1, u2, Fl⟩
    · dsimp only at u1 u2 A3 D3
      rw [u1]
      have u3 : f_X12_land_92 FU N2 0 = f_X12_land_116 N3 (nI L2) := u2
      rw [u3]
      exact land_end H hMo hNo hN0 A3 D3
    · dsimp only at u1 u2
      rw [u1]
      have u3 : f_X12_land_92 FU N2 0 = f_X12_land_116 N3 (nI L2) := u2
      rw [u3]
      unfold f_X9_tell_95 f_X9_tell_121
      rw [if_pos rfl, bd_s]
      exact land_bad H hMo hNo hN0 Fl
  · rw [t1, t2, bd_s, bd_s]
    dsimp only
    rw [nm_x, tell_0F, land_bF Fl.2.1]
    unfold f_X9_tell_95 f_X9_tell_121
    rw [if_pos rfl, bd_s]
    exact land_bad H hMo hNo hN0 Fl.gl
