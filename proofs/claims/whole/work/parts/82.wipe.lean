-- WIPED, RESET, TAKEN
theorem wipe_loop {a : Nat} : ∀ f k Mi, k ≤ 20 → 20 < k + f → ∃ M2, f_X7_wipe_7 a f Mi (nI k) = f_X7_wipe_29 M2 a ∧ ∀ c j, M2.1 c j = if a + 11 + k ≤ c ∧ c < a + 31 ∧ j = 0 then 0 else Mi.1 c j := by
  intro f
  induction f with
  | zero => intro k Mi h1 h2; omega
  | succ f ih =>
    intro k Mi h1 h2
    have st : f_X7_wipe_7 a (f + 1) Mi (nI k) = b_X7_wipe_7 (fun M x1 => f_X7_wipe_7 a f M x1) a Mi (nI k) := rfl
    rw [st]
    unfold b_X7_wipe_7
    by_cases e : k = 20
    · subst e
      rw [if_pos (by decide)]
      exact ⟨Mi, rfl, fun c j => by rw [if_neg (by omega)]⟩
    · rw [if_neg (show ¬ (20 : Int32) ≤ nI k from nI_ge (b := 20) (by omega) (by omega)), ck_n (show k < 20 by omega) (by omega), nI_clamp (by omega), wr_e, n1]
      obtain ⟨M2, a1, a2⟩ := ih (k + 1) (wI Mi (a + 1 + 10 + k) 0 0) (by omega) (by omega)
      refine ⟨M2, a1, fun c j => ?_⟩
      rw [a2, mI]
      by_cases z : a + 11 + k ≤ c ∧ c < a + 31 ∧ j = 0
      · rw [if_pos z]
        by_cases y : c = a + 11 + k
        · rw [if_neg (by omega), if_pos (by omega)]
        · rw [if_pos (by omega)]
      · rw [if_neg z, if_neg (by omega), if_neg (by omega)]
theorem e_wipe {M : Mm} {d : Nat} : ∃ M1, f_X4_wipe M d = some M1 ∧ (∀ c, (c < d ∨ d + 36 ≤ c) → M1.1 c = M.1 c) ∧ (M1.1 d 0 = 5 ∧ M1.1 d 1 = 3 ∧ M1.1 d 4 = 0) ∧ (∀ h, h < 12 → M1.1 (d + 1) h = 0) ∧ (M1.1 (d + 2) 0 = 1 ∧ M1.1 (d + 2) 1 = 0 ∧ M1.1 (d + 2) 2 = 0) ∧ M1.1 (d + 5) 0 = 0 ∧ (∀ k, k < 20 → M1.1 (d + 5 + 11 + k) 0 = 0 ∧ M1.1 (d + 5 + 11 + k) 6 = M.1 (d + 5 + 11 + k) 6) ∧ (∀ i, i < 10 → M1.1 (d + 5 + 2) i = 0 ∧ M1.1 (d + 5 + 3) i = 0 ∧ M1.1 (d + 5 + 4) i = 0) ∧ (∀ h, h < 12 → M1.1 (d + 5 + 5) h = 0) ∧ M1.1 (d + 5 + 6) 0 = 0 := by
  unfold f_X4_wipe f_X5_wipe f_X7_wipe
  simp only [wr_e, bd_s]
  obtain ⟨M2, a1, a2⟩ := wipe_loop (a := d + 5) FU 0 (wI (wI (wI (wI (wI (fillI (wI (wI M d 0 5) d 1 3) (d + 1) 12 0) (d + 2) 0 1) (d + 2) 1 0) (d + 2) 2 0) d 4 0) (d + 5) 0 0) (by omega) (by decide)
  rw [show f_X7_wipe_7 (d + 5) FU (wI (wI (wI (wI (wI (fillI (wI (wI M d 0 5) d 1 3) (d + 1) 12 0) (d + 2) 0 1) (d + 2) 1 0) (d + 2) 2 0) d 4 0) (d + 5) 0 0) 0 = _ from a1]
  unfold f_X7_wipe_29
  simp only [wr_e, bd_s]
  -- what lies below the scene's rows
  have lo : ∀ c j, (c < d + 5 + 2 ∨ d + 5 + 7 ≤ c) → (wI (fillI (fillI (fillI (fillI M2 (d + 5 + 2) 10 0) (d + 5 + 3) 10 0) (d + 5 + 4) 10 0) (d + 5 + 5) 12 0) (d + 5 + 6) 0 0).1 c j = M2.1 c j := fun c j hc => by
    rw [mIn (by omega), mF, if_neg (by omega), mF, if_neg (by omega), mF, if_neg (by omega), mF, if_neg (by omega)]
  refine ⟨_, rfl, fun c hc => funext fun j => ?_, ⟨?_, ?_, ?_⟩, fun h hh => ?_, ⟨?_, ?_, ?_⟩, ?_, fun k hk => ⟨?_, ?_⟩, fun i hi => ⟨?_, ?_, ?_⟩, fun h hh => ?_, mIs _ _ _ _⟩
  · rw [lo c j (by omega), a2, if_neg (by omega), mIn (by omega), mIn (by omega), mIn (by omega), mIn (by omega), mIn (by omega), mF, if_neg (by omega), mIn (by omega), mIn (by omega)]
  · rw [lo d 0 (by omega), a2, if_neg (by omega), mIn (by omega), mIn (by omega), mIn (by omega), mIn (by omega), mIn (by omega), mF, if_neg (by omega), mIn (by omega), mIs]
  · rw [lo d 1 (by omega), a2, if_neg (by omega), mIn (by omega), mIn (by omega), mIn (by omega), mIn (by omega), mIn (by omega), mF, if_neg (by omega), mIs]
  · rw [lo d 4 (by omega), a2, if_neg (by omega), mIn (by omega), mIs]
  · rw [lo (d + 1) h (by omega), a2, if_neg (by omega), mIn (by omega), mIn (by omega), mIn (by omega), mIn (by omega), mIn (by omega), mF, if_pos ⟨rfl, hh⟩]
  · rw [lo (d + 2) 0 (by omega), a2, if_neg (by omega), mIn (by omega), mIn (by omega), mIn (by omega), mIn (by omega), mIs]
  · rw [lo (d + 2) 1 (by omega), a2, if_neg (by omega), mIn (by omega), mIn (by omega), mIn (by omega), mIs]
  · rw [lo (d + 2) 2 (by omega), a2, if_neg (by omega), mIn (by omega), mIn (by omega), mIs]
  · rw [lo (d + 5) 0 (by omega), a2, if_neg (by omega), mIs]
  · rw [lo _ 0 (by omega), a2, if_pos (by omega)]
  · rw [lo _ 6 (by omega), a2, if_neg (by omega), mIn (by omega), mIn (by omega), mIn (by omega), mIn (by omega), mIn (by omega), mF, if_neg (by omega), mIn (by omega), mIn (by omega)]
  · rw [mIn (by omega), mF, if_neg (by omega), mF, if_neg (by omega), mF, if_neg (by omega), mF, if_pos ⟨rfl, hi⟩]
  · rw [mIn (by omega), mF, if_neg (by omega), mF, if_neg (by omega), mF, if_pos ⟨rfl, hi⟩]
  · rw [mIn (by omega), mF, if_neg (by omega), mF, if_pos ⟨rfl, hi⟩]
  · rw [mIn (by omega), mF, if_pos ⟨rfl, hh⟩]
theorem rem_n {k d : Nat} {D : Int32} (hD : D = nI d) (hk : k < 2 ^ 31) (h0 : 0 < d) (hd : d < 2 ^ 31) : nI k - nI k / D * D = nI (k % d) := by
  rw [hD]
  exact pk_rem hk h0 hd
theorem reset_loop {x1 : Int32} : ∀ f k Ni, k ≤ 210 → 210 < k + f → (∀ j, j < k → Ni.1 5 j = 0) → (∀ h, h < 12 → h < k → Ni.1 6 h = 0) → (∀ t, t < 3 → t < k → Ni.1 7 t = if t = 0 then 1 else 0) →
    ∃ N2, f_X12_land_39 x1 f Ni (nI k) = f_X12_land_88 N2 x1 ∧ (∀ c, c ≠ 5 → c ≠ 6 → c ≠ 7 → N2.1 c = Ni.1 c) ∧ (∀ j, j < 210 → N2.1 5 j = 0) ∧ (∀ h, h < 12 → N2.1 6 h = 0) ∧ ∀ t, t < 3 → N2.1 7 t = if t = 0 then 1 else 0 := by
  intro f
  induction f with
  | zero => intro k Ni h1 h2; omega
  | succ f ih =>
    intro k Ni h1 h2 w5 w6 w7
    have st : f_X12_land_39 x1 (f + 1) Ni (nI k) = b_X12_land_39 (fun M x2 => f_X12_land_39 x1 f M x2) x1 Ni (nI k) := rfl
    rw [st]
    unfold b_X12_land_39 f_X12_land_81
    by_cases e : k = 210
    · subst e
      rw [if_pos (by decide)]
      exact ⟨Ni, rfl, fun _ _ _ _ => rfl, w5, fun h hh => w6 h hh (by omega), fun t ht => w7 t ht (by omega)⟩
    · rw [if_neg (show ¬ (210 : Int32) ≤ nI k from nI_ge (b := 210) (by omega) (by omega)), ck_n (show k < 210 by omega) (by omega), nI_clamp (by omega), wr_e, rem_n (d := 12) (D := 12) rfl (by omega) (by decide) (by decide), ck_n (Nat.mod_lt _ (by decide)) (by decide), nI_clamp (by omega), wr_e, rem_n (d := 3) (D := 3) rfl (by omega) (by decide) (by decide), ck_n (Nat.mod_lt _ (by decide)) (by decide), ck_n (Nat.mod_lt _ (by decide)) (by decide), nI_clamp (by omega), n1]
      have fin : ∀ v : Int32, v = (if k % 3 = 0 then 1 else 0) → ∃ N2, f_X12_land_39 x1 f (wI (wI (wI Ni 5 k 0) 6 (k % 12) 0) 7 (k % 3) v) (nI (k + 1)) = f_X12_land_88 N2 x1 ∧ (∀ c, c ≠ 5 → c ≠ 6 → c ≠ 7 → N2.1 c = Ni.1 c) ∧ (∀ j, j < 210 → N2.1 5 j = 0) ∧ (∀ h, h < 12 → N2.1 6 h = 0) ∧ ∀ t, t < 3 → N2.1 7 t = if t = 0 then 1 else 0 := by
        intro v hv
        obtain ⟨N2, a1, a2, a3, a4, a5⟩ := ih (k + 1) (wI (wI (wI Ni 5 k 0) 6 (k % 12) 0) 7 (k % 3) v) (by omega) (by omega) (fun j hj => by
          rw [wI_o (by decide), wI_o (by decide)]
          by_cases z : j = k
          · rw [z, mIs]
          · rw [mIn (by omega)]
            exact w5 j (by omega)) (fun h hh hk => by
          rw [wI_o (by decide)]
          by_cases z : h = k % 12
          · rw [z, mIs]
          · rw [mIn (by omega), wI_o (by decide)]
            exact w6 h hh (by omega)) (fun t ht hk => by
          by_cases z : t = k % 3
          · rw [z, mIs]
            exact hv
          · rw [mIn (by omega), wI_o (by decide), wI_o (by decide)]
            exact w7 t ht (by omega))
        exact ⟨N2, a1, fun c c1 c2 c3 => by rw [a2 c c1 c2 c3, wI_o c3, wI_o c2, wI_o c1], a3, a4, a5⟩
      by_cases z : k % 3 = 0
      · rw [if_pos (show nI (k % 3) = 0 by rw [z]; rfl), wr_e]
        exact fin 1 (by rw [if_pos z])
      · rw [if_neg (nI_ne0 (by omega) (by omega)), wr_e]
        exact fin 0 (by rw [if_neg z])
theorem takes_2 {N : Mm} : ∀ f k Ni, k ≤ 210 → 210 < k + f → (∀ c, c ≠ 1 → Ni.1 c = N.1 c) → (∀ j, Ni.1 1 j = if j < k then N.1 5 j else N.1 1 j) →
    ∃ N2, f_X12_takes_2 f Ni (nI k) = f_X12_takes_27 N2 ∧ (∀ c, c ≠ 1 → N2.1 c = N.1 c) ∧ ∀ j, N2.1 1 j = if j < 210 then N.1 5 j else N.1 1 j := by
  intro f
  induction f with
  | zero => intro k Ni h1 h2; omega
  | succ f ih =>
    intro k Ni h1 h2 w1 w2
    have st : f_X12_takes_2 (f + 1) Ni (nI k) = b_X12_takes_2 (fun M x1 => f_X12_takes_2 f M x1) Ni (nI k) := rfl
    rw [st]
    unfold b_X12_takes_2
    by_cases e : k = 210
    · subst e
      rw [if_pos (by decide)]
      exact ⟨Ni, rfl, w1, w2⟩
    · rw [if_neg (show ¬ (210 : Int32) ≤ nI k from nI_ge (b := 210) (by omega) (by omega)), ck_n (show k < 210 by omega) (by omega), ck_n (show k < 840 by omega) (by omega), nI_clamp (by omega), wr_e, n1, w1 5 (by decide)]
      exact ih (k + 1) (wI Ni 1 k (N.1 5 k)) (by omega) (by omega) (fun c hc => by rw [wI_o hc]; exact w1 c hc) (fun j => by
        by_cases z : j = k
        · rw [z, mIs, if_pos (by omega)]
        · rw [mIn (by omega), w2]
          by_cases y : j < k
          · rw [if_pos y, if_pos (by omega)]
          · rw [if_neg y, if_neg (by omega)])
theorem takes_29 {N : Mm} : ∀ f k Ni, k ≤ 16 → 16 < k + f → (∀ c, c ≠ 2 → c ≠ 3 → c ≠ 4 → Ni.1 c = N.1 c) → (∀ j, j < k → Ni.1 4 j = N.1 8 j) → (∀ h, h < 12 → h < k → Ni.1 2 h = N.1 6 h) → (∀ t, t < 3 → t < k → Ni.1 3 t = N.1 7 t) →
    ∃ N2, f_X12_takes_29 f Ni (nI k) = f_X12_takes_87 N2 ∧ (∀ c, c ≠ 2 → c ≠ 3 → c ≠ 4 → N2.1 c = N.1 c) ∧ (∀ j, j < 16 → N2.1 4 j = N.1 8 j) ∧ (∀ h, h < 12 → N2.1 2 h = N.1 6 h) ∧ ∀ t, t < 3 → N2.1 3 t = N.1 7 t := by
  intro f
  induction f with
  | zero => intro k Ni h1 h2; omega
  | succ f ih =>
    intro k Ni h1 h2 w0 w4 w2 w3
    have st : f_X12_takes_29 (f + 1) Ni (nI k) = b_X12_takes_29 (fun M x1 => f_X12_takes_29 f M x1) Ni (nI k) := rfl
    rw [st]
    unfold b_X12_takes_29
    by_cases e : k = 16
    · subst e
      rw [if_pos (by decide)]
      exact ⟨Ni, rfl, w0, w4, fun h hh => w2 h hh (by omega), fun t ht => w3 t ht (by omega)⟩
    · rw [if_neg (show ¬ (16 : Int32) ≤ nI k from nI_ge (b := 16) (by omega) (by omega)), ck_n (show k < 16 by omega) (by omega)]
      simp only [rem_n (k := k) (d := 12) (D := 12) rfl (by omega) (by decide) (by decide), rem_n (k := k) (d := 3) (D := 3) rfl (by omega) (by decide) (by decide), wr_e, nI_clamp (show k < 2 ^ 31 by omega), nI_clamp (show k % 12 < 2 ^ 31 by omega), nI_clamp (show k % 3 < 2 ^ 31 by omega)]
      rw [ck_n (Nat.mod_lt _ (by decide)) (by decide), ck_n (Nat.mod_lt _ (by decide)) (by decide), n1, wI_o (show 6 ≠ 4 by decide), wI_o (show 7 ≠ 2 by decide), wI_o (show 7 ≠ 4 by decide), w0 8 (by decide) (by decide) (by decide), w0 6 (by decide) (by decide) (by decide), w0 7 (by decide) (by decide) (by decide)]
      exact ih (k + 1) _ (by omega) (by omega) (fun c c1 c2 c3 => by rw [wI_o c2, wI_o c1, wI_o c3]; exact w0 c c1 c2 c3) (fun j hj => by
        rw [wI_o (by decide), wI_o (by decide)]
        by_cases z : j = k
        · rw [z, mIs]
        · rw [mIn (by omega)]
          exact w4 j (by omega)) (fun h hh hk => by
        rw [wI_o (by decide)]
        by_cases z : h = k % 12
        · rw [z, mIs]
        · rw [mIn (by omega), wI_o (by decide)]
          exact w2 h hh (by omega)) (fun t ht hk => by
        by_cases z : t = k % 3
        · rw [z, mIs]
        · rw [mIn (by omega), wI_o (by decide), wI_o (by decide)]
          exact w3 t ht (by omega))
theorem e_takes (N : Mm) : ∃ N2, f_X12_takes N = some N2 ∧ (∀ c, c ≠ 0 → c ≠ 1 → c ≠ 2 → c ≠ 3 → c ≠ 4 → c ≠ 15 → N2.1 c = N.1 c) ∧ (∀ j, j < 210 → N2.1 1 j = N.1 5 j) ∧ (∀ j, j < 16 → N2.1 4 j = N.1 8 j) ∧ (∀ h, h < 12 → N2.1 2 h = N.1 6 h) ∧ (∀ t, t < 3 → N2.1 3 t = N.1 7 t) ∧ (∀ k, k < 2 → N2.1 15 k = 0) ∧ N2.1 0 1 = N.1 0 12 ∧ N2.1 0 5 = N.1 0 11 ∧ N2.1 0 30 = 0 ∧ ∀ j, j ≠ 1 → j ≠ 5 → j ≠ 30 → N2.1 0 j = N.1 0 j := by
  obtain ⟨N1, a1, a2, a3⟩ := takes_2 (N := N) FU 0 N (by omega) (by decide) (fun _ _ => rfl) (fun j => by rw [if_neg (by omega)])
  obtain ⟨N2, b1, b3, b4, b5, b6⟩ := takes_29 (N := N1) FU 0 N1 (by omega) (by decide) (fun _ _ _ _ => rfl) (fun j hj => absurd hj (by omega)) (fun j _ hj => absurd hj (by omega)) (fun j _ hj => absurd hj (by omega))
  unfold f_X12_takes
  rw [show f_X12_takes_2 FU N 0 = _ from a1]
  unfold f_X12_takes_27
  rw [show f_X12_takes_29 FU N1 0 = _ from b1]
  unfold f_X12_takes_87
  have r0 : N2.1 0 = N.1 0 := by rw [b3 0 (by decide) (by decide) (by decide), a2 0 (by decide)]
  simp only [wr_e]
  refine ⟨_, rfl, fun c c0 c1 c2 c3 c4 c15 => ?_, fun j hj => ?_, fun j hj => ?_, fun j hj => ?_, fun j hj => ?_, fun k hk => ?_, ?_, ?_, ?_, fun j j1 j5 j30 => ?_⟩
  · rw [wI_o c15, wI_o c15, wI_o c0, wI_o c0, wI_o c0, b3 c c2 c3 c4, a2 c c1]
  · rw [wI_o (by decide), wI_o (by decide), wI_o (by decide), wI_o (by decide), wI_o (by decide), b3 1 (by decide) (by decide) (by decide), a3, if_pos hj]
  · rw [wI_o (by decide), wI_o (by decide), wI_o (by decide), wI_o (by decide), wI_o (by decide), b4 j hj, a2 8 (by decide)]
  · rw [wI_o (by decide), wI_o (by decide), wI_o (by decide), wI_o (by decide), wI_o (by decide), b5 j hj, a2 6 (by decide)]
  · rw [wI_o (by decide), wI_o (by decide), wI_o (by decide), wI_o (by decide), wI_o (by decide), b6 j hj, a2 7 (by decide)]
  · have hk2 : k = 0 ∨ k = 1 := by omega
    rcases hk2 with rfl | rfl
    · rw [mIn (by decide)]
      exact mIs _ _ _ _
    · exact mIs _ _ _ _
  · rw [wI_o (by decide), wI_o (by decide), mIn (by decide), mIn (by decide), mIs, r0]
  · rw [wI_o (by decide), wI_o (by decide), mIn (by decide), mIs, mIn (by decide), r0]
  · rw [wI_o (by decide), wI_o (by decide), mIs]
  · rw [wI_o (by decide), wI_o (by decide), mIn (by omega), mIn (by omega), mIn (by omega), r0]
