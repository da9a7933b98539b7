theorem ln_treaty {g : Gg} (hg : OKg g) {X Y M N : Mm} {st q : Nat} (A : AS g X Y st q M N) (D : DR g.2.2.1 X Y) : LSg g q (f_X9_readTreaty M (g.2.2.1 + 2)) (bd (f_X12_readOnce N 3) f_X12_readLine_82) := by
  have hd : 141 ≤ g.2.2.1 := by have := hg.2.2.2.1; omega
  unfold f_X9_readTreaty f_X9_readTreaty_19
  have cl : ∀ N, bd (f_X12_readOnce_17 N 3) f_X12_readLine_82 = bd (f_X12_step (wI N 0 13 ((N.1 0 13) ||| ((1 : Int32) <<< ((3 : Int32) &&& 31))))) fun N1 => bd (f_X12_number N1 1 99) fun p => bd (f_X12_number (wI p.2 7 0 p.1) 0 3) fun p => bd (f_X12_number (wI p.2 7 1 p.1) 0 1) fun p => f_X12_readLine_82 (wI p.2 7 2 p.1) := fun N => by
    unfold f_X12_readOnce_17 f_X12_readOnce_110
    simp only [wr_e, bd_bd, if_true, bd_s, show ¬ ((3 : Int32) = 0) by decide, if_false]
    rfl
  have b3 : ∀ r, BS g fun N => f_X12_readLine_82 (wI N 7 2 r) := fun r => BS_w (K := f_X12_readLine_82) (v := fun _ => r) (Or.inl (by decide)) BS_82
  have b2 : ∀ r, BS g fun N => bd (f_X12_number (wI N 7 1 r) 0 1) fun p => f_X12_readLine_82 (wI p.2 7 2 p.1) := fun r => BS_w (K := fun N => bd (f_X12_number N 0 1) fun p => f_X12_readLine_82 (wI p.2 7 2 p.1)) (v := fun _ => r) (Or.inl (by decide)) (BS_num b3)
  have b1 : ∀ r, BS g fun N => bd (f_X12_number (wI N 7 0 r) 0 3) fun p => bd (f_X12_number (wI p.2 7 1 p.1) 0 1) fun p => f_X12_readLine_82 (wI p.2 7 2 p.1) := fun r => BS_w (K := fun N => bd (f_X12_number N 0 3) fun p => bd (f_X12_number (wI p.2 7 1 p.1) 0 1) fun p => f_X12_readLine_82 (wI p.2 7 2 p.1)) (v := fun _ => r) (Or.inl (by decide)) (BS_num b2)
  rcases first_sim (w := 3) hg (by decide) A D with ⟨sd, A2, D2, e1, e2, e3⟩ | ⟨M2, N2, e1, e2, F⟩
  · rw [show f_X9_isFirst M 8 = _ from e1, show f_X12_readOnce N 3 = _ from e2, bd_s, show bd (f_X12_readOnce_17 N (nI 3)) f_X12_readLine_82 = _ from cl N, show N.1 0 13 ||| (1 : Int32) <<< ((3 : Int32) &&& 31) = nI sd from e3]
    dsimp only
    rw [if_neg (by decide)]
    refine seq_rn (lo := 1) (hi := 99) hg A2.1 PW.id (by decide) (by decide) b1 (fun v M3 N3 st3 q3 h1 h2 h3 A3 hv => ?_)
    dsimp only
    rw [wr_e, hv]
    have D3 := D2.law (k := 0) hd (fun _ => ⟨h1, h2⟩)
    refine seq_rn (lo := 0) (hi := 3) (P := fun N => wI N 7 0 (nI v)) hg (A3.1.wX (OX.d (by omega) (by omega) (by omega) (by omega)) (nI v)) (PW.w (Or.inl (by decide)) (nI v)) (by decide) (by decide) b2 (fun v4 M4 N4 st4 q4 h41 h42 h43 A4 hv4 => ?_)
    dsimp only
    rw [wr_e, hv4]
    have D4 := D3.law (k := 1) (v := v4) hd (fun z => absurd z (by decide))
    refine seq_rn (lo := 0) (hi := 1) (P := fun N => wI N 7 1 (nI v4)) hg (A4.1.wX (OX.d (by omega) (by omega) (by omega) (by omega)) (nI v4)) (PW.w (Or.inl (by decide)) (nI v4)) (by decide) (by decide) b3 (fun v5 M5 N5 st5 q5 h51 h52 h53 A5 hv5 => ?_)
    dsimp only
    rw [wr_e, hv5]
    have D5 := D4.law (k := 2) (v := v5) hd (fun z => absurd z (by decide))
    exact (seq_semi (P := fun N => wI N 7 2 (nI v5)) hg (A5.1.wX (OX.d (by omega) (by omega) (by omega) (by omega)) (nI v5)) (PW.w (Or.inl (by decide)) (nI v5)) D5 (by have := A3.2.1; have := A4.2.1; have := A5.2.1; omega)).ck
  · rw [show f_X9_isFirst M 8 = _ from e1, show f_X12_readOnce N 3 = _ from e2, bd_s, show bd (f_X12_readOnce_17 N2 (nI 3)) f_X12_readLine_82 = _ from cl N2]
    dsimp only
    rw [if_pos rfl]
    exact LSg.bad (K := fun N2 => bd (f_X12_step (wI N2 0 13 ((N2.1 0 13) ||| ((1 : Int32) <<< ((3 : Int32) &&& 31))))) fun N1 => bd (f_X12_number N1 1 99) fun p => bd (f_X12_number (wI p.2 7 0 p.1) 0 3) fun p => bd (f_X12_number (wI p.2 7 1 p.1) 0 1) fun p => f_X12_readLine_82 (wI p.2 7 2 p.1)) F (BS_w (K := fun N => bd (f_X12_step N) fun N1 => bd (f_X12_number N1 1 99) fun p => bd (f_X12_number (wI p.2 7 0 p.1) 0 3) fun p => bd (f_X12_number (wI p.2 7 1 p.1) 0 1) fun p => f_X12_readLine_82 (wI p.2 7 2 p.1)) (v := fun N2 => (N2.1 0 13) ||| ((1 : Int32) <<< ((3 : Int32) &&& 31))) (Or.inr (by decide)) (BS_step (BS_num b1)))
-- hours of sun or frost
def hca (d kd : Nat) : Nat := if kd = 1 then d + 5 + 5 else d + 1
def hra (kd : Nat) : Nat := if kd = 1 then 5 else 6
def hrs' (kd h : Nat) : Nat := if kd = 1 then 171 + h else h
theorem DR.hr {d kd h v : Nat} {X Y : Mm} (D : DR d X Y) (hd : 141 ≤ d) (hh : h < 12) (hv : v ≤ 9) : DR d (wI X (hca d kd) h (nI v)) (wI Y (hra kd) (hrs' kd h) (nI v)) := by
  unfold hca hra hrs'
  by_cases e : kd = 1
  · rw [if_pos e, if_pos e, if_pos e]
    exact D.sun hd hh hv
  · rw [if_neg e, if_neg e, if_neg e]
    exact D.frost hd
theorem hca_o {g : Gg} (hg : OKg g) (kd k : Nat) : OX g (hca g.2.2.1 kd) k := by
  have := hg.2.2.2.1
  unfold hca
  split <;> exact OX.d (by omega) (by omega) (by omega) (by omega)
theorem hra_o (kd k : Nat) : OY (hra kd) k := by
  unfold hra
  split <;> exact Or.inl (by decide)
theorem hrs_b {g : Gg} {N : Mm} (h : BR g N) (x1 : Int32) (f : Nat) (x2 : Int32) : f_X12_readHours_2 x1 (f + 1) N x2 = some N := by
  show b_X12_readHours_2 (fun M x2 => f_X12_readHours_2 x1 f M x2) x1 N x2 = _
  unfold b_X12_readHours_2 f_X12_readHours_86
  rw [if_neg h.ne.1]
theorem BS_hrs {g : Gg} {x1 x2 : Int32} {f : Nat} : BS g fun N => bd (f_X12_readHours_2 x1 (f + 1) N x2) f_X12_readLine_82 := fun N h => by
  show ∃ N2, bd (f_X12_readHours_2 x1 (f + 1) N x2) f_X12_readLine_82 = _ ∧ _
  rw [hrs_b h, bd_s]
  exact BS_82 N h
/-- an hour told: behind the number -/
theorem hrs_40 {g : Gg} {X Y M N : Mm} {st q kd h f : Nat} (hkd : kd ≤ 1) (hh : h < 12) (A : AS g X Y st q M N) : (∃ v, v ≤ 9 ∧ M.1 1 8 = nI v ∧ f_X9_isNumber M 0 9 = some (1, M) ∧ bd (f_X12_readHours_40 (fun M x2 => f_X12_readHours_2 (nI kd) (f + 1) M x2) N (nI kd) (nI h)) f_X12_readLine_82 = bd (f_X12_step N) fun N3 => bd (if N3.1 0 19 = 0 then f_X12_readHours_2 (nI kd) (f + 1) (wI N3 (hra kd) (hrs' kd h) (nI v)) (nI (h + 1)) else f_X12_readHours_2 (nI kd) (f + 1) N3 (nI h)) f_X12_readLine_82) ∨ ∃ M2 N2, f_X9_isNumber M 0 9 = some (0, M2) ∧ bd (f_X12_readHours_40 (fun M x2 => f_X12_readHours_2 (nI kd) (f + 1) M x2) N (nI kd) (nI h)) f_X12_readLine_82 = f_X12_readLine_82 N2 ∧ FS g M2 N2 := by
  unfold f_X12_readHours_40 f_X12_readHours_80 f_X12_readHours_83 f_X12_number f_X12_number_21
  rcases num_sim (lo := 0) (hi := 9) A (by decide) (by decide) with ⟨v, v1, v2, v3, v4, v5, v6⟩ | ⟨M3, N3, v5, v6, F⟩
  · refine Or.inl ⟨v, v2, v3, v5, ?_⟩
    rw [show f_X12_looks N 0 9 = _ from v6, bd_s, if_pos A.1.2.2.2.2.1, v4]
    simp only [bd_bd, nm_x, bd_s]
    have wr1 : ∀ N3 : Mm, (if nI kd = 0 then ck (inn (nI h) 12) (wr (wI N3 6 (nI h).toNatClampNeg (nI v)) fun M7 => f_X12_readHours_2 (nI kd) (f + 1) M7 (nI h + 1)) else ck (inn (171 + nI h) 210) (wr (wI N3 5 (171 + nI h).toNatClampNeg (nI v)) fun M10 => f_X12_readHours_2 (nI kd) (f + 1) M10 (nI h + 1))) = f_X12_readHours_2 (nI kd) (f + 1) (wI N3 (hra kd) (hrs' kd h) (nI v)) (nI (h + 1)) := fun N3 => by
      unfold hra hrs'
      have hk : kd = 0 ∨ kd = 1 := by omega
      rcases hk with rfl | rfl
      · rw [if_pos (show nI 0 = 0 from rfl), ck_n hh (by omega), wr_e, nI_clamp (by omega), n1, if_neg (show ¬ 0 = 1 by decide), if_neg (show ¬ 0 = 1 by decide)]
      · rw [if_neg (show ¬ nI 1 = 0 by decide), ix171, ck_n (by omega) (by omega), wr_e, nI_clamp (by omega), n1, if_pos (show 1 = 1 from rfl), if_pos (show 1 = 1 from rfl)]
    simp only [wr1]
  · refine Or.inr ⟨M3, N3, v5, ?_, F⟩
    rw [show f_X12_looks N 0 9 = _ from v6, bd_s, if_neg F.2.1.ne.1, step_b F.2.1, bd_s, bd_s]
    dsimp only
    rw [nm_x, if_neg F.2.1.ne.1, hrs_b F.2.1, bd_s]
theorem semi_3 {g : Gg} {X Y M N : Mm} {st q q0 : Nat} (A : AS g X Y st q M N) (D : DR g.2.2.1 X Y) (h : q0 ≤ q) (k3 : M.1 1 5 = 3) : LSg g q0 (some (1, M)) (f_X12_readLine_82 N) := by
  have := semi_A (q0 := q0) A D h
  unfold f_X9_isSemicolon f_X9_isSemicolon_20 f_X9_isSemicolon_25 at this
  rw [if_pos k3, ck_t (Or.inr rfl)] at this
  exact this
theorem hrs_loop {g : Gg} (hg : OKg g) {kd q0 : Nat} (hkd : kd ≤ 1) : ∀ e h f ff X Y M N q v, h + e = 12 → 1 ≤ h → e < f → e < ff → q0 ≤ q → CS g X Y q M N → DR g.2.2.1 X (wI Y (hra kd) (hrs' kd (h - 1)) (nI v)) →
    LSg g q0 (f_X9_readHours_29 (hca g.2.2.1 kd) 9 f M (nI h)) (bd (f_X12_step N) fun N3 => bd (if N3.1 0 19 = 0 then f_X12_readHours_2 (nI kd) (ff + 1) (wI N3 (hra kd) (hrs' kd (h - 1)) (nI v)) (nI h) else f_X12_readHours_2 (nI kd) (ff + 1) N3 (nI (h - 1))) f_X12_readLine_82) := by
  have hd : 141 ≤ g.2.2.1 := by have := hg.2.2.2.1; omega
  intro e
  induction e with
  | zero =>
    intro h f ff X Y M N q v he h1 hf hff hq C D
    obtain ⟨f, rfl⟩ : ∃ m, f = m + 1 := ⟨f - 1, by omega⟩
    obtain rfl : h = 12 := by omega
    show LSg g q0 (b_X9_readHours_29 (fun M x4 => f_X9_readHours_29 (hca g.2.2.1 kd) 9 f M x4) (hca g.2.2.1 kd) 9 M (nI 12)) _
    unfold b_X9_readHours_29 f_X9_readHours_80 f_X9_readHours_113
    rw [if_pos (by decide)]
    rcases tok_sim hg C with ⟨M2, N2, st, q2, e1, e2, h3, A⟩ | ⟨M2, N2, e1, e2, F⟩
    · have A2 := A.wY (hra_o kd (hrs' kd (12 - 1))) (nI v)
      rw [e1, e2, bd_s, bd_s, if_pos A.1.2.2.2.2.1]
      dsimp only
      rw [if_neg (by decide)]
      have st' : ∀ N, f_X12_readHours_2 (nI kd) (ff + 1) N (nI 12) = b_X12_readHours_2 (fun M x2 => f_X12_readHours_2 (nI kd) ff M x2) (nI kd) N (nI 12) := fun N => rfl
      rw [st']
      unfold b_X12_readHours_2 f_X12_readHours_21 f_X12_readHours_86
      rw [if_pos A2.1.2.2.2.2.1, if_neg (show ¬ nI 12 = 0 by decide)]
      obtain ⟨B5a, B5b, B5c⟩ := A2.bad (c := 5) (by decide) (by decide)
      by_cases k : M2.1 1 5 = 2
      · have k2 : (wI N2 (hra kd) (hrs' kd (12 - 1)) (nI v)).1 0 23 = 2 := by
          obtain ⟨kind, val, -, -, -, -, u8, u9, -⟩ := A2.2.2.2.2
          rw [u9, ← u8]
          exact k
        obtain ⟨ff, rfl⟩ : ∃ m, ff = m + 1 := ⟨ff - 1, by omega⟩
        rw [if_pos k, if_pos k2, if_pos k2, if_pos (show nI 12 = 12 by decide), show f_X9_refuse M2 5 (M2.1 1 6) = _ from B5a, bd_s, show f_X12_fails (wI N2 (hra kd) (hrs' kd (12 - 1)) (nI v)) 5 = _ from B5b, bd_s, ck_t (Or.inl rfl)]
        unfold f_X12_readHours_40 f_X12_readHours_83
        rw [number_b B5c.2.1, bd_s]
        dsimp only
        rw [nm_x, if_neg B5c.2.1.ne.1, hrs_b B5c.2.1, bd_s]
        exact LSg.bad B5c BS_82
      · have k2 : ¬ (wI N2 (hra kd) (hrs' kd (12 - 1)) (nI v)).1 0 23 = 2 := by
          obtain ⟨kind, val, -, -, -, -, u8, u9, -⟩ := A2.2.2.2.2
          rw [u9, ← u8]
          exact k
        rw [if_neg k, if_neg k2, bd_s]
        have s := semi_A (q0 := q0) A2 D (by have := A2.2.1; omega)
        exact s.ck
    · rw [e1, e2, bd_s, bd_s, if_neg F.2.1.ne.1]
      dsimp only
      rw [if_pos rfl]
      exact LSg.bad (K := fun N2 => bd (f_X12_readHours_2 (nI kd) (ff + 1) N2 (nI (12 - 1))) f_X12_readLine_82) F BS_hrs
  | succ e ih =>
    intro h f ff X Y M N q v he h1 hf hff hq C D
    obtain ⟨f, rfl⟩ : ∃ m, f = m + 1 := ⟨f - 1, by omega⟩
    show LSg g q0 (b_X9_readHours_29 (fun M x4 => f_X9_readHours_29 (hca g.2.2.1 kd) 9 f M x4) (hca g.2.2.1 kd) 9 M (nI h)) _
    unfold b_X9_readHours_29
    rw [if_neg (show ¬ (12 : Int32) ≤ nI h from nI_ge (b := 12) (by omega) (by omega))]
    rcases tok_sim hg C with ⟨M2, N2, st, q2, e1, e2, h3, A⟩ | ⟨M2, N2, e1, e2, F⟩
    · have A2 := A.wY (hra_o kd (hrs' kd (h - 1))) (nI v)
      rw [e1, e2, bd_s, bd_s, if_pos A.1.2.2.2.2.1]
      dsimp only
      rw [if_neg (by decide)]
      have st' : ∀ N, f_X12_readHours_2 (nI kd) (ff + 1) N (nI h) = b_X12_readHours_2 (fun M x2 => f_X12_readHours_2 (nI kd) ff M x2) (nI kd) N (nI h) := fun N => rfl
      rw [st']
      unfold b_X12_readHours_2 f_X12_readHours_21 f_X12_readHours_86
      rw [if_pos A2.1.2.2.2.2.1, if_neg (nI_ne0 (by omega) (by omega))]
      by_cases k3 : M2.1 1 5 = 3
      · have k2 : ¬ (wI N2 (hra kd) (hrs' kd (h - 1)) (nI v)).1 0 23 = 2 := by
          obtain ⟨kind, val, -, -, -, -, u8, u9, -⟩ := A2.2.2.2.2
          rw [u9, ← u8, k3]
          decide
        rw [if_pos k3, if_neg k2, bd_s]
        exact semi_3 A2 D (by have := A2.2.1; omega) k3
      · rw [if_neg k3]
        by_cases k : M2.1 1 5 = 2
        · have k2 : (wI N2 (hra kd) (hrs' kd (h - 1)) (nI v)).1 0 23 = 2 := by
            obtain ⟨kind, val, -, -, -, -, u8, u9, -⟩ := A2.2.2.2.2
            rw [u9, ← u8]
            exact k
          obtain ⟨ff, rfl⟩ : ∃ m, ff = m + 1 := ⟨ff - 1, by omega⟩
          rw [if_pos k2, if_pos k2, if_neg (show ¬ nI h = 12 from fun z => absurd ((nI_eq (b := 12) (by omega) (by omega)).mp z) (by omega))]
          rcases hrs_40 (f := ff) hkd (show h < 12 by omega) A2 with ⟨v2, c1, c2, c3, c4⟩ | ⟨M3, N3, c3, c4, F⟩
          · rw [c3, c4, bd_s]
            dsimp only
            rw [if_neg (by decide), ck_n (show h < 12 by omega) (by omega), nI_clamp (by omega), wr_e, c2, n1]
            exact ih (h + 1) f ff (wI X (hca g.2.2.1 kd) h (nI v2)) _ (wI M2 (hca g.2.2.1 kd) h (nI v2)) _ q2 v2 (by omega) (by omega) (by omega) (by omega) (by have := A2.2.1; omega) (A2.1.wX (hca_o hg kd h) (nI v2)) (D.hr hd (by omega) c1)
          · rw [c3, c4, bd_s]
            dsimp only
            rw [if_pos rfl]
            exact LSg.bad F BS_82
        · have k2 : ¬ (wI N2 (hra kd) (hrs' kd (h - 1)) (nI v)).1 0 23 = 2 := by
            obtain ⟨kind, val, -, -, -, -, u8, u9, -⟩ := A2.2.2.2.2
            rw [u9, ← u8]
            exact k
          rw [if_neg k2, bd_s]
          have s := semi_A (q0 := q0) A2 D (by have := A2.2.1; omega)
          obtain ⟨B2a, B2b, B2c⟩ := A2.bad (c := 2) (by decide) (by decide)
          unfold f_X9_isNumber
          unfold f_X9_isSemicolon at s
          rw [if_neg k3, show f_X9_refuse M2 2 (M2.1 1 6) = _ from B2a, bd_s] at s
          rw [if_neg k, show f_X9_refuse M2 2 (M2.1 1 6) = _ from B2a, bd_s, ck_t (Or.inl rfl), bd_s]
          dsimp only at s ⊢
          rw [if_pos rfl]
          unfold f_X9_isSemicolon_25 at s
          rw [if_pos rfl, ck_t (Or.inl rfl)] at s
          exact s
    · rw [e1, e2, bd_s, bd_s, if_neg F.2.1.ne.1]
      dsimp only
      rw [if_pos rfl]
      exact LSg.bad (K := fun N2 => bd (f_X12_readHours_2 (nI kd) (ff + 1) N2 (nI (h - 1))) f_X12_readLine_82) F BS_hrs
