-- THE FIRST RELATION
theorem Ni_z {c : Nat} (h0 : c ≠ 0) (h3 : c ≠ 3) (h10 : c ≠ 10) (h11 : c ≠ 11) (h16 : c ≠ 16) : Ni.1 c = fun _ => 0 := by
  unfold Ni
  dsimp only
  rw [if_neg h0, if_neg h3, if_neg h10, if_neg h11, if_neg h16]
theorem Ni_0 : Ni.1 0 = fun j => if j = 1 then 5 else if j = 6 then 3 else 0 := rfl
theorem rel0_sc {M : Mm} {a : Nat} (h0 : M.1 a 0 = 0) (hm : ∀ k, k < 20 → M.1 (a + 11 + k) 0 = 0 ∧ M.1 (a + 11 + k) 6 = 0) (hs : ∀ i, i < 10 → M.1 (a + 2) i = 0 ∧ M.1 (a + 3) i = 0 ∧ M.1 (a + 4) i = 0) (hh : ∀ h, h < 12 → M.1 (a + 5) h = 0) (hb : M.1 (a + 6) 0 = 0) : ScR M a (fun _ => 0) 0 := by
  refine ⟨fun k hk => ⟨⟨(hm k hk).1, Or.inl (hm k hk).2⟩, Or.inl rfl, fun h => absurd (show (0 : Int32) = 1 from h) (by decide)⟩, hs, h0, hh, hb, fun b hb => ?_⟩
  exact absurd hb (by simp)
theorem rel0_inv : InvR (fun _ => 0) 0 := by
  refine ⟨fun k hk => ⟨Or.inl rfl, fun h => absurd (show (0 : Int32) = 1 from h) (by decide)⟩, fun i hi => show inR (0 : Int32) (-9) 9 by decide, fun h hh => ⟨0, by decide, rfl⟩, ⟨0, by decide, rfl⟩, ⟨0, by decide, rfl, fun b hb => absurd hb (Nat.not_lt_zero b)⟩⟩
theorem rel0 {Ma Mb : Mm} (hMa : f_X4_wipe Mz 141 = some Ma) (hMb : f_X4_wipe Mz 177 = some Mb) : Rel (Mi Ma Mb) Ni := by
  obtain ⟨M1, e1, -, ⟨a0, a1, a4⟩, fr, ⟨l0, l1, l2⟩, s0, men, sw, sun, br⟩ := e_wipe (M := Mz) (d := 141)
  obtain rfl : M1 = Ma := Option.some.inj (e1.symm.trans hMa)
  obtain ⟨M2, e2, -, -, -, -, -, men2, -, -, -⟩ := e_wipe (M := Mz) (d := 177)
  obtain rfl : M2 = Mb := Option.some.inj (e2.symm.trans hMb)
  have hl : lx 0 = 141 := rfl
  have hl1 : lx (1 - 0) = 177 := rfl
  have A : ∀ c, 141 ≤ c → c < 177 → (Mi M1 M2).1 c = M1.1 c := fun c h1 h2 => (Mi_a h1 h2).1
  have Zc : ∀ c, c < 141 → c ≠ 0 → (Mi M1 M2).1 c = fun _ => 0 := fun c h1 h2 => Mi_z h1 h2
  have Nz : ∀ c, c ≠ 0 → c ≠ 3 → c ≠ 10 → c ≠ 11 → c ≠ 16 → Ni.1 c = fun _ => 0 := fun c h0 h3 h10 h11 h16 => Ni_z h0 h3 h10 h11 h16
  refine ⟨0, 5, ⟨by decide, ?_, ?_, by decide, by decide, ?_, ?_⟩, ⟨?_, ?_, ?_⟩, ⟨?_, ?_, ?_, fun h hh => ?_⟩, ?_, fun k hk => ?_, ⟨?_, ?_⟩, ?_, fun k hk => ?_, ?_, fun j hj => ?_, fun j hj => ?_, fun j hj => ?_, fun k hk => ?_⟩
  · rw [Mi_0]; rfl
  · rw [Mi_0]; rfl
  · rw [hl, A 141 (by decide) (by decide), a0]; rfl
  · rw [Ni_0]; rfl
  · rw [hl, Nz 1 (by decide) (by decide) (by decide) (by decide) (by decide)]
    refine rel0_sc ?_ (fun k hk => ?_) (fun i hi => ?_) (fun h hh => ?_) ?_
    · rw [A _ (by decide) (by decide)]; exact s0
    · rw [A _ (by omega) (by omega)]
      exact ⟨(men k hk).1, (men k hk).2⟩
    · rw [A _ (by decide) (by decide), A _ (by decide) (by decide), A _ (by decide) (by decide)]
      exact sw i hi
    · rw [A _ (by decide) (by decide)]; exact sun h hh
    · rw [A _ (by decide) (by decide)]; exact br
  · rw [Nz 1 (by decide) (by decide) (by decide) (by decide) (by decide)]
    exact rel0_inv
  · rw [Nz 1 (by decide) (by decide) (by decide) (by decide) (by decide)]
    exact ⟨fun _ _ _ _ _ => rfl, fun _ _ _ => ⟨rfl, rfl⟩⟩
  · unfold LwR
    rw [hl, A _ (by decide) (by decide), l0, l1, l2]
    exact ⟨by decide +kernel, by decide +kernel, by decide +kernel⟩
  · exact ⟨1, by decide, by decide, by decide +kernel⟩
  · refine ⟨3, by decide, ?_, ?_⟩
    · rw [hl, A 141 (by decide) (by decide), a1]; rfl
    · rw [Ni_0]; rfl
  · rw [hl, A _ (by decide) (by decide), Nz 2 (by decide) (by decide) (by decide) (by decide) (by decide)]
    exact fr h hh
  · refine ⟨0, by decide, ?_, ?_, fun h hh => absurd hh (Nat.not_lt_zero h)⟩
    · rw [hl, A 141 (by decide) (by decide), a4]; rfl
    · rw [Ni_0]; rfl
  · rw [Zc 35 (by decide) (by decide), Nz 15 (by decide) (by decide) (by decide) (by decide) (by decide)]
    exact ⟨rfl, Or.inl rfl, fun h => absurd (show (0 : Int32) = 1 from h) (by decide)⟩
  · refine ⟨0, by decide, ?_, ?_, fun j hj => absurd hj (Nat.not_lt_zero j)⟩
    · rw [Zc 1 (by decide) (by decide)]; rfl
    · rw [Ni_0]; rfl
  · rw [Zc 1 (by decide) (by decide), Ni_0]; rfl
  · refine ⟨0, by decide, ?_, ?_, fun j hj => absurd hj (Nat.not_lt_zero j)⟩
    · rw [Zc 98 (by decide) (by decide)]; rfl
    · rw [Ni_0]; rfl
  · refine Or.inl ⟨?_, ?_⟩
    · have : ∀ k, k < 4 → Ni.1 16 k = -4 := by decide +kernel
      exact this k hk
    · rw [Zc _ (by omega) (by omega)]
  · rw [Mi_0, Ni_0]; rfl
  · have : ∀ j, j < 17 → Ni.1 10 j = nI (cutsL.getD j 0) := by decide +kernel
    exact this j hj
  · have : ∀ j, j < 79 → Ni.1 11 j = nI (letL.getD j 0) := by decide +kernel
    exact this j hj
  · rw [Zc 127 (by decide) (by decide)]
  · rw [hl1, (Mi_b (by omega)).1]
    have := (men2 k hk).2
    rw [show 177 + 5 + 11 + k = 177 + 16 + k by omega] at this
    exact Or.inl this
