theorem land_prep {p F n : Nat} {M N M1 M0 N0 : Mm} (H : RelP p F M N) (hn : n ≤ 400) (r1 : M.1 1 1 = nI n) (r2 : N.1 0 17 = nI n) (r3 : ∀ j, j < n → ∃ b, b < 256 ∧ N.1 9 j = nI b ∧ M.1 2 j = vp_nar .byte (nI b)) (w1 : ∀ c, (c < lx (1 - p) ∨ lx (1 - p) + 36 ≤ c) → M1.1 c = M.1 c) (w2 : M1.1 (lx (1 - p)) 0 = 5 ∧ M1.1 (lx (1 - p)) 1 = 3 ∧ M1.1 (lx (1 - p)) 4 = 0) (w3 : ∀ h, h < 12 → M1.1 (lx (1 - p) + 1) h = 0) (w4 : M1.1 (lx (1 - p) + 2) 0 = 1 ∧ M1.1 (lx (1 - p) + 2) 1 = 0 ∧ M1.1 (lx (1 - p) + 2) 2 = 0) (w5 : M1.1 (lx (1 - p) + 5) 0 = 0) (w6 : ∀ k, k < 20 → M1.1 (lx (1 - p) + 5 + 11 + k) 0 = 0 ∧ M1.1 (lx (1 - p) + 5 + 11 + k) 6 = M.1 (lx (1 - p) + 5 + 11 + k) 6) (w7 : ∀ i, i < 10 → M1.1 (lx (1 - p) + 5 + 2) i = 0 ∧ M1.1 (lx (1 - p) + 5 + 3) i = 0 ∧ M1.1 (lx (1 - p) + 5 + 4) i = 0) (w8 : ∀ h, h < 12 → M1.1 (lx (1 - p) + 5 + 5) h = 0) (w9 : M1.1 (lx (1 - p) + 5 + 6) 0 = 0)
    (xr : ∀ c, c ≠ 1 → M0.1 c = M1.1 c) (xv : M0.1 1 2 = 0 ∧ M0.1 1 3 = 0 ∧ M0.1 1 7 = 0 ∧ M0.1 1 9 = 0 ∧ M0.1 1 10 = 0 ∧ M0.1 1 11 = 0) (x1 : M0.1 1 1 = nI n)
    (yr : ∀ c, c ≠ 0 → c ≠ 5 → c ≠ 6 → c ≠ 7 → N0.1 c = N.1 c) (ys : ∀ j, j ≠ 19 → j ≠ 21 → j ≠ 13 → j ≠ 14 → j ≠ 15 → j ≠ 12 → j ≠ 11 → N0.1 0 j = N.1 0 j) (yv : N0.1 0 11 = 0 ∧ N0.1 0 12 = 5 ∧ N0.1 0 13 = 0 ∧ N0.1 0 14 = 0 ∧ N0.1 0 15 = 0 ∧ N0.1 0 19 = 0 ∧ N0.1 0 21 = 0) (y3 : ∀ j, j < 210 → N0.1 5 j = 0) (y4 : ∀ h, h < 12 → N0.1 6 h = 0) (y5 : ∀ t, t < 3 → N0.1 7 t = if t = 0 then 1 else 0) :
    WW (bd (bd (f_X9_readToken M0) fun p16 => nm (p16.1) fun v17 => f_X9_tell_40 (lx (1 - p)) FU p16.2 v17) landT) (f_X12_land_88 N0 0) := by
  have hl : (lx p = 141 ∧ lx (1 - p) = 177) ∨ (lx p = 177 ∧ lx (1 - p) = 141) := by have := H.1.1; unfold lx; omega
  obtain ⟨-, z2, z3, -, hW⟩ := H.2.2.2.2.2.2.2.2
  have hb : ∀ j, j < n → (N.1 9 j).toNatClampNeg < 256 ∧ N.1 9 j = nI (N.1 9 j).toNatClampNeg := fun j hj => by
    obtain ⟨b, b1, b3, -⟩ := r3 j hj
    rw [b3, nI_clamp (by omega)]
    exact ⟨b1, rfl⟩
  have i6 : ∀ k, k < 20 → isB (M0.1 (lx (1 - p) + 16 + k) 6) := fun k hk => by
    rw [xr _ (by omega), show lx (1 - p) + 16 + k = lx (1 - p) + 5 + 11 + k by omega, (w6 k hk).2, show lx (1 - p) + 5 + 11 + k = lx (1 - p) + 16 + k by omega]
    exact hW k hk
  refine land_go (n := n) (b := fun j => (N.1 9 j).toNatClampNeg) H hn (fun j q1 q2 => (xr j q1).trans (w1 j q2)) (fun j q1 q2 => yr j q1 (by omega) (by omega) (by omega)) (fun j q => ys j (by omega) (by omega) (by omega) (by omega) (by omega) (by omega) (by omega)) ⟨⟨hn, fun j hj => (hb j hj).1⟩, ⟨x1, fun j hj => ?_⟩, ⟨?_, fun j hj => ?_⟩, ?_, fun j hj => ?_, fun j hj => ?_⟩ ⟨⟨TXo.r _, ⟨fun c h1 h2 => (wI_o h1).symm, i6⟩, x1, xv.1.trans (mIs _ _ _ _).symm⟩, ⟨TYo.r _, fun _ _ _ => rfl, fun _ _ => rfl⟩, Nat.zero_le _, ⟨xv.2.1, xv.2.2.1⟩, yv.2.2.2.2.2.1, yv.2.2.2.2.2.2⟩ (DR0 ?_ (fun h hh => ?_) ?_ ?_ (fun k hk => ⟨?_, ?_⟩) (fun i hi => ?_) (fun h hh => ?_) ?_ ⟨xv.2.2.2.1, xv.2.2.2.2.1, xv.2.2.2.2.2⟩ ⟨yv.1, yv.2.1, yv.2.2.1, yv.2.2.2.1, yv.2.2.2.2.1⟩ y3 y4 y5)
  · obtain ⟨b, b1, b3, b4⟩ := r3 j hj
    dsimp only
    rw [xr 2 (by decide), w1 2 (by omega), b4, b3, nI_clamp (by omega)]
  · dsimp only
    rw [ys 17 (by decide) (by decide) (by decide) (by decide) (by decide) (by decide) (by decide)]
    exact r2
  · dsimp only
    rw [yr 9 (by decide) (by decide) (by decide) (by decide)]
    exact (hb j hj).2
  · dsimp only
    omega
  · dsimp only
    rw [yr 10 (by decide) (by decide) (by decide) (by decide)]
    exact z2 j hj
  · dsimp only
    rw [yr 11 (by decide) (by decide) (by decide) (by decide)]
    exact z3 j hj
  · rw [xr _ (by omega)]
    exact w2
  · rw [xr _ (by omega)]
    exact w3 h hh
  · rw [xr _ (by omega)]
    exact w4
  · rw [xr _ (by omega)]
    exact w5
  · rw [xr _ (by omega)]
    exact (w6 k hk).1
  · have := i6 k hk
    rw [show lx (1 - p) + 16 + k = lx (1 - p) + 5 + 11 + k by omega] at this
    exact this
  · rw [xr _ (by omega), xr _ (by omega), xr _ (by omega)]
    exact w7 i hi
  · rw [xr _ (by omega)]
    exact w8 h hh
  · rw [xr _ (by omega)]
    exact w9
theorem land_x (M : Mm) : f_X11_land M = bd (f_X4_wipe M (ld (M.1 0 10))) fun p2 => bd (f_X9_tell p2 (ld (p2.1 0 10))) landT := rfl
theorem tell_x (M : Mm) (d : Nat) : f_X9_tell M d = bd (f_X9_readToken (wI (wI (wI (wI (wI (wI (wI M 1 2 0) 1 3 0) 1 4 0) 1 7 0) 1 9 0) 1 10 0) 1 11 0)) fun p16 => nm (p16.1) fun v17 => f_X9_tell_40 d FU p16.2 v17 := rfl
theorem land_y (N : Mm) : f_X12_land N = f_X12_land_39 0 FU (wI (wI (wI (wI (wI (wI (wI N 0 19 0) 0 21 0) 0 13 0) 0 14 0) 0 15 0) 0 12 5) 0 11 0) 0 := by
  rw [f_X12_land, wr_e, wr_e, wr_e, wr_e, wr_e, wr_e, wr_e]
theorem s_land {M N : Mm} (R : Rel M N) : WW (f_X11_land M) (f_X12_land N) := by
  obtain ⟨p, F, H⟩ := id R
  have hl : (lx p = 141 ∧ lx (1 - p) = 177) ∨ (lx p = 177 ∧ lx (1 - p) = 141) := by have := H.1.1; unfold lx; omega
  obtain ⟨⟨n, hn, r1, r2, r3⟩, -⟩ := H.2.2.2.2.2.1
  have hd : ld (M.1 0 10) = lx (1 - p) := by rw [H.1.2.2.1]; exact ld_n (by omega)
  obtain ⟨M1, w0, w1, w2, w3, w4, w5, w6, w7, w8, w9⟩ := e_wipe (M := M) (d := lx (1 - p))
  rw [land_x, land_y, hd, w0, bd_s, w1 0 (by omega), hd, tell_x]
  obtain ⟨N0, y1, y2, y3, y4, y5⟩ := reset_loop (x1 := 0) FU 0 (wI (wI (wI (wI (wI (wI (wI N 0 19 0) 0 21 0) 0 13 0) 0 14 0) 0 15 0) 0 12 5) 0 11 0) (by omega) (by decide) (fun j hj => absurd hj (by omega)) (fun j _ hj => absurd hj (by omega)) (fun j _ hj => absurd hj (by omega))
  have y1' : f_X12_land_39 0 FU (wI (wI (wI (wI (wI (wI (wI N 0 19 0) 0 21 0) 0 13 0) 0 14 0) 0 15 0) 0 12 5) 0 11 0) 0 = f_X12_land_88 N0 0 := y1
  rw [y1']
  have y0 := y2 0 (by decide) (by decide) (by decide)
  refine land_prep H hn r1 r2 r3 w1 w2 w3 w4 w5 w6 w7 w8 w9 (fun c q => ?_) ?_ ?_ (fun c q0 q5 q6 q7 => ?_) (fun j q1 q2 q3 q4 q5 q6 q7 => ?_) ?_ y3 y4 y5
  · rw [wI_o q, wI_o q, wI_o q, wI_o q, wI_o q, wI_o q, wI_o q]
  · simp [mI]
  · rw [mIn (by decide), mIn (by decide), mIn (by decide), mIn (by decide), mIn (by decide), mIn (by decide), mIn (by decide), w1 1 (by omega)]
    exact r1
  · rw [y2 c q5 q6 q7, wI_o q0, wI_o q0, wI_o q0, wI_o q0, wI_o q0, wI_o q0, wI_o q0]
  · rw [y0, mIn (by omega), mIn (by omega), mIn (by omega), mIn (by omega), mIn (by omega), mIn (by omega), mIn (by omega)]
  · rw [y0]
    simp [mI]
