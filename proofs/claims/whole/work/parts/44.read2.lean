-- A SHEET READ
theorem RelP.w2 {p F : Nat} {M N M2 : Mm} {r : Pg} (H : RelP p F M N) (m1 : ∀ b, (b < lx p + 5 ∨ lx p + 36 ≤ b) → M2.1 b = M.1 b) (n2 : ∀ x, 210 ≤ x → r x = N.1 1 x) (h1 : ScR M2 (lx p + 5) r 0) (h2 : InvR r 0) (h3 : Bey r 0 F) : RelP p F M2 (wR N 1 r) :=
  H.sc m1 (fun b hb => wR_ne hb) (fun x hx => by rw [wR_s]; exact n2 x hx) ⟨by rw [wR_s]; exact h1, by rw [wR_s]; exact h2, by rw [wR_s]; exact h3⟩
theorem read_copy {M N : Mm} {p F k o c : Nat} {x2 x3 x4 x5 : Int32} (hk : k < 4) (hoc : o + c ≤ 40) (hc : c ≤ 12) (hx : 0 < c → x3 = nI o) (hcell : ∀ j, j < c → M.1 (133 + 2 * k + 1) (o + j) = N.1 18 (40 * k + o + j) ∧ ∃ v, v ≤ 9 ∧ N.1 18 (40 * k + o + j) = nI v) : ∀ n j Mi Ni, j ≤ c → c < j + n → RelP p F Mi Ni → (∀ b, b ≠ lx p + 5 + 5 → Mi.1 b = M.1 b) → (∀ b, b ≠ 1 → Ni.1 b = N.1 b) →
    ∃ M2 N2, f_X11_read_92 x2 x3 x4 (133 + 2 * k) (nI c) n Mi (nI j) = f_X11_read_128 M2 x2 x4 (133 + 2 * k) (nI c) ∧ f_X12_read_172 (nI k) x3 x5 (nI c) n Ni (nI j) = f_X12_read_210 N2 x5 (nI c) ∧ RelP p F M2 N2 ∧ (∀ b, b ≠ lx p + 5 + 5 → M2.1 b = M.1 b) ∧ ∀ b, b ≠ 1 → N2.1 b = N.1 b := by
  intro n
  induction n with
  | zero => intro j Mi Ni h1 h2; omega
  | succ n ih =>
    intro j Mi Ni h1 h2 H h4 h5
    have st : f_X11_read_92 x2 x3 x4 (133 + 2 * k) (nI c) (n + 1) Mi (nI j) = b_X11_read_92 (fun M x7 => f_X11_read_92 x2 x3 x4 (133 + 2 * k) (nI c) n M x7) x2 x3 x4 (133 + 2 * k) (nI c) Mi (nI j) := rfl
    have st2 : f_X12_read_172 (nI k) x3 x5 (nI c) (n + 1) Ni (nI j) = b_X12_read_172 (fun M x7 => f_X12_read_172 (nI k) x3 x5 (nI c) n M x7) (nI k) x3 x5 (nI c) Ni (nI j) := rfl
    rw [st, st2]
    unfold b_X11_read_92 b_X12_read_172
    by_cases e : j = c
    · subst e
      rw [if_pos (nI_le (Nat.le_refl _) (by omega)), if_pos (nI_le (Nat.le_refl _) (by omega))]
      exact ⟨Mi, Ni, rfl, rfl, H, h4, h5⟩
    · have hx3 := hx (by omega)
      subst hx3
      have hl : lx p = 141 ∨ lx p = 177 := by have := H.1.1; unfold lx; omega
      obtain ⟨q1, v, hv, q2⟩ := hcell j (by omega)
      rw [if_neg (nI_ge (by omega) (by omega)), if_neg (nI_ge (by omega) (by omega)), nI_add, ck_n (by omega) (by omega), ck_n (by omega) (by omega), nI_clamp (by omega), nI_clamp (by omega), wr_e, n1, H.ld, show (40 : Int32) * nI k = nI (40 * k) from pk_mul 40 k, nI_add, nI_add, ck_n (by omega) (by omega), show (171 : Int32) + nI j = nI (171 + j) from nIa (a := 171) rfl, ck_n (by omega) (by omega), nI_clamp (by omega), nI_clamp (by omega), wr_e, h4 _ (by omega), h5 18 (by decide), q1, q2]
      refine ih (j + 1) _ _ (by omega) (by omega) ?_ (fun b hb => by rw [wI_o hb]; exact h4 b hb) (fun b hb => by rw [wI_o hb]; exact h5 b hb)
      rw [wI_R Ni]
      have hS := ScR.sun (v := nI v) (show j < 12 by omega) H.2.1.2.1.b6 H.2.1.1
      have hI := InvR.sun (show j < 12 by omega) hv H.2.1.2.1
      rw [show 0 + 171 + j = 171 + j by omega] at hS hI
      exact H.w2 (fun b hb => wI_o (by omega)) (fun x hx => upd_ne (by omega)) hS hI (H.2.1.2.2.up (fun s i hs q1 q2 => by unfold mo; omega) (fun i q1 q2 => ⟨by omega, by omega⟩))
def ft (N : Mm) (k : Nat) (x2 x3 : Int32) (j : Nat) : Int32 := if N.1 16 k = -4 then 1 else if N.1 16 k = x2 then (if (0 : Int64) ≤ x3.toInt64 + (nI j).toInt64 ∧ x3.toInt64 + (nI j).toInt64 ≤ (N.1 17 k - 1).toInt64 then 0 else 2) else 3
theorem e_ft {N : Mm} {k L j : Nat} {x2 x3 : Int32} {kk : Int32 → Int32 → Option (Int32 × Mm)} (hk : k < 4) (hL : L ≤ 12) (hj : j < L) : b_X12_read_45 kk N (nI k) x2 x3 (nI L) 0 (nI j) = f_X12_read_113 kk N (nI k) x2 x3 (nI L) (nI j) (ft N k x2 x3 j) := by
  unfold b_X12_read_45 ft
  rw [if_neg (nI_ge hj (by omega)), if_pos rfl, ck_n hk (by omega), nI_clamp (by omega)]
  by_cases g1 : N.1 16 k = -4
  · rw [if_pos g1, if_pos g1]
  · rw [if_neg g1, if_neg g1]
    by_cases g2 : N.1 16 k = x2
    · rw [if_pos g2, if_pos g2, e_in, bd_s]
      by_cases g3 : (0 : Int64) ≤ x3.toInt64 + (nI j).toInt64 ∧ x3.toInt64 + (nI j).toInt64 ≤ (N.1 17 k - 1).toInt64
      · rw [if_neg (fun q => b2_0.mp q g3), if_pos g3]
      · rw [if_pos (b2_0.mpr g3), if_neg g3]
    · rw [if_neg g2, if_neg g2]
theorem read_check {M N : Mm} {k o c L : Nat} {x2 x3 fc : Int32} (hk : k < 4) (hoc : o + c ≤ 40) (hcL : c ≤ L) (hL : L ≤ 12) (hx : 0 < c → x3 = nI o) (hcell : ∀ j, j < c → M.1 (133 + 2 * k + 1) (o + j) = N.1 18 (40 * k + o + j)) (hft : ∀ j, j < c → ft N k x2 x3 j = 0) (hfe : c < L → ft N k x2 x3 c = fc ∧ ¬ fc = 0) (hfc : c = L → fc = 0) : ∀ n j, j ≤ c → c + 1 < j + n → (∀ i, i < j → ∃ v, v ≤ 9 ∧ N.1 18 (40 * k + o + i) = nI v) →
    (∃ w, f_X11_read_51 M x2 x3 (nI L) (133 + 2 * k) (nI c) n (nI j) = some (w, M) ∧ f_X12_read_45 N (nI k) x2 x3 (nI L) n 0 (nI j) = some (w, N)) ∨ ((∀ i, i < c → ∃ v, v ≤ 9 ∧ N.1 18 (40 * k + o + i) = nI v) ∧ f_X11_read_51 M x2 x3 (nI L) (133 + 2 * k) (nI c) n (nI j) = f_X11_read_89 M x2 x3 (nI L) (133 + 2 * k) (nI c) ∧ f_X12_read_45 N (nI k) x2 x3 (nI L) n 0 (nI j) = f_X12_read_169 N (nI k) x3 fc (nI c)) := by
  intro n
  induction n with
  | zero => intro j h1 h2; omega
  | succ n ih =>
    intro j h1 h2 h3
    have st : f_X11_read_51 M x2 x3 (nI L) (133 + 2 * k) (nI c) (n + 1) (nI j) = b_X11_read_51 (fun x7 => f_X11_read_51 M x2 x3 (nI L) (133 + 2 * k) (nI c) n x7) M x2 x3 (nI L) (133 + 2 * k) (nI c) (nI j) := rfl
    have st2 : f_X12_read_45 N (nI k) x2 x3 (nI L) (n + 1) 0 (nI j) = b_X12_read_45 (fun x5 x6 => f_X12_read_45 N (nI k) x2 x3 (nI L) n x5 x6) N (nI k) x2 x3 (nI L) 0 (nI j) := rfl
    rw [st, st2]
    by_cases e : j = c
    · subst e
      refine Or.inr ⟨h3, ?_, ?_⟩
      · unfold b_X11_read_51
        rw [if_pos (nI_le (Nat.le_refl _) (by omega))]
      · by_cases e2 : j = L
        · unfold b_X12_read_45
          rw [hfc e2, ← e2, if_pos (nI_le (Nat.le_refl _) (by omega))]
        · obtain ⟨f1, f2⟩ := hfe (by omega)
          rw [e_ft hk hL (by omega), f1]
          unfold f_X12_read_113 f_X12_read_151 f_X12_read_163
          rw [if_neg f2, if_neg f2, nm_x, Int32.add_zero]
          obtain ⟨n, rfl⟩ : ∃ m, n = m + 1 := ⟨n - 1, by omega⟩
          have st3 : f_X12_read_45 N (nI k) x2 x3 (nI L) (n + 1) fc (nI j) = b_X12_read_45 (fun x5 x6 => f_X12_read_45 N (nI k) x2 x3 (nI L) n x5 x6) N (nI k) x2 x3 (nI L) fc (nI j) := rfl
          show f_X12_read_45 N (nI k) x2 x3 (nI L) (n + 1) fc (nI j) = _
          rw [st3]
          unfold b_X12_read_45
          rw [if_neg (nI_ge (by omega) (by omega)), if_neg f2]
    · have hx3 := hx (by omega)
      subst hx3
      have hc := hcell j (by omega)
      rw [e_ft hk hL (by omega), hft j (by omega)]
      unfold b_X11_read_51 f_X12_read_113 f_X12_read_151 f_X12_read_163
      rw [if_neg (nI_ge (by omega) (by omega)), if_pos rfl, if_pos rfl, nI_add, ck_n (by omega) (by omega), nI_clamp (by omega), hc, e_isAmong, bd_s, n1, show (40 : Int32) * nI k = nI (40 * k) from pk_mul 40 k, nI_add, nI_add, ck_n (by omega) (by omega), nI_clamp (by omega), show f_X12_in (N.1 18 (40 * k + o + j)).toInt64 (0 : Int64) (9 : Int64) = some (b2 (inR (N.1 18 (40 * k + o + j)) 0 9)) from e_inI _ 0 9, bd_s, nm_x]
      by_cases g : inR (N.1 18 (40 * k + o + j)) 0 9
      · rw [if_neg (fun q => b2_0.mp q g), if_neg (fun q => b2_0.mp q g)]
        refine ih (j + 1) (by omega) (by omega) (fun i hi => ?_)
        by_cases z : i = j
        · subst z
          exact inR_n (n := 9) (by omega) g
        · exact h3 i (by omega)
      · rw [if_pos (b2_0.mpr g), if_pos (b2_0.mpr g)]
        exact Or.inl ⟨_, rfl, rfl⟩
theorem read_fin {M N : Mm} {p F k o c L : Nat} {x2 x3 fc : Int32} (H : RelP p F M N) (hk : k < 4) (hoc : o + c ≤ 40) (hcL : c ≤ L) (hL : L ≤ 12) (hx : 0 < c → x3 = nI o) (hcell : ∀ j, j < c → M.1 (133 + 2 * k + 1) (o + j) = N.1 18 (40 * k + o + j)) (hft : ∀ j, j < c → ft N k x2 x3 j = 0) (hfe : c < L → ft N k x2 x3 c = fc ∧ ¬ fc = 0) (hfc : c = L → fc = 0) (hff : c < L → ∀ M2 : Mm, M2.1 (133 + 2 * k) = M.1 (133 + 2 * k) → f_X8_faultFor M2 (133 + 2 * k) x2 = some fc) :
    WW (f_X11_read_51 M x2 x3 (nI L) (133 + 2 * k) (nI c) FU 0) (f_X12_read_45 N (nI k) x2 x3 (nI L) FU 0 0) := by
  have hl : lx p = 141 ∨ lx p = 177 := by have := H.1.1; unfold lx; omega
  rcases read_check (M := M) hk hoc hcL hL hx hcell hft hfe hfc FU 0 (by omega) (by show c + 1 < 0 + 5000; omega) (fun i hi => absurd hi (by omega)) with ⟨w, w1, w2⟩ | ⟨w0, w1, w2⟩
  · rw [show f_X11_read_51 M x2 x3 (nI L) (133 + 2 * k) (nI c) FU 0 = _ from w1, show f_X12_read_45 N (nI k) x2 x3 (nI L) FU 0 0 = _ from w2]
    exact WW.no ⟨p, F, H⟩ w
  · rw [show f_X11_read_51 M x2 x3 (nI L) (133 + 2 * k) (nI c) FU 0 = _ from w1, show f_X12_read_45 N (nI k) x2 x3 (nI L) FU 0 0 = _ from w2]
    obtain ⟨M2, N2, c1, c2, H2, c4, c5⟩ := read_copy (x2 := x2) (x4 := nI L) (x5 := fc) hk hoc (by omega) hx (fun j hj => ⟨hcell j hj, w0 j hj⟩) FU 0 M N (by omega) (by show c < 0 + 5000; omega) H (fun _ _ => rfl) (fun _ _ => rfl)
    unfold f_X11_read_89 f_X12_read_169
    rw [show f_X11_read_92 x2 x3 (nI L) (133 + 2 * k) (nI c) FU M 0 = _ from c1, show f_X12_read_172 (nI k) x3 fc (nI c) FU N 0 = _ from c2]
    have key : WW (f_X11_read_146 M2 (nI c) fc) (f_X12_read_210 N2 fc (nI c)) := by
      unfold f_X11_read_146 f_X12_read_210
      rw [wr_e, wr_e]
      refine ⟨_, _, _, rfl, rfl, p, F, H2.st (fun b q0 q1 q2 q3 => wI_o q0) (fun j hj => mIn (by omega)) (fun b q0 q9 q16 => wI_o q0) (fun j q1 q2 => mIn (by omega)) (H2.2.2.2.2.2.1.c (wI_o (by decide)) (wI_o (by decide)) (wI_o (by decide)) (mIn (by decide)) (mIn (by decide))) (H2.2.2.2.2.2.2.2.1.c (fun b q1 q2 => wI_o (by omega)) (wI_o (by decide)) (wI_o (by decide)) (wI_o (by decide))) ?_⟩
      rw [mIs, mIs]
    unfold f_X11_read_128
    by_cases e : c = L
    · subst e
      rw [if_pos (nI_le (Nat.le_refl _) (by omega)), ← hfc rfl]
      exact key
    · rw [if_neg (nI_ge (by omega) (by omega)), hff (by omega) M2 (c4 _ (by omega)), bd_s]
      exact key
theorem inZ {a z : Nat} (hz : z ≤ 40) (ha : a < 100) : inR (nI a) 0 (nI z - 1) ↔ a < z := by
  constructor
  · intro h
    obtain ⟨j, hj, e⟩ := cnt_n (by omega) h
    have := (nI_eq (by omega) (by omega)).mp e
    omega
  · intro h
    rw [nF (by omega)]
    exact inR_i (by omega) (by omega)
theorem l_add {a b : Nat} (h : a + b < 2 ^ 31) : (nI a).toInt64 + (nI b).toInt64 = (nI (a + b)).toInt64 := by
  rw [nI_l (by omega), nI_l (by omega), nI_l h, lN_add]
theorem in64 {v x y : Int32} : (x.toInt64 ≤ v.toInt64 ∧ v.toInt64 ≤ y.toInt64) ↔ inR v x y := by
  unfold inR
  rw [Int32.toInt64_le, Int32.toInt64_le]
theorem s_read {M N : Mm} (R : Rel M N) (x1 x2 x3 x4 : Int32) : WW (f_X11_read M x1 x2 x3 x4) (f_X12_read N x1 x2 x3 x4) := by
  obtain ⟨p, F, H⟩ := id R
  unfold f_X11_read f_X12_read f_X11_read_27 f_X12_read_37
  rw [e_isSheet, bd_s, show f_X12_in x1.toInt64 (0 : Int64) (3 : Int64) = some (b2 (inR x1 0 3)) from e_inI x1 0 3, bd_s, e_isAmong, bd_s, show f_X12_in x2.toInt64 (0 : Int64) (2 : Int64) = some (b2 (inR x2 0 2)) from e_inI x2 0 2, bd_s, e_isAmong, bd_s, show f_X12_in x4.toInt64 (0 : Int64) (12 : Int64) = some (b2 (inR x4 0 12)) from e_inI x4 0 12, bd_s]
  by_cases g1 : inR x1 0 3
  · rw [if_neg (fun q => b2_0.mp q g1), if_neg (fun q => b2_0.mp q g1)]
    by_cases g2 : inR x2 0 2
    · rw [if_neg (fun q => b2_0.mp q g2), if_neg (fun q => b2_0.mp q g2)]
      by_cases g3 : inR x4 0 12
      · rw [if_neg (fun q => b2_0.mp q g3), if_neg (fun q => b2_0.mp q g3)]
        obtain ⟨k, hk, rfl⟩ := in3n g1
        obtain ⟨L, hL, rfl⟩ := inR_n (n := 12) (by omega) g3
        rw [ck_n hk (by omega), nI_clamp (by omega), nm_x, show 132 + 1 + 2 * k = 133 + 2 * k by omega]
        unfold f_X8_readable f_X8_readable_29
        have z0 : (some 0 : Option Int32) = some (nI 0) := rfl
        rcases H.2.2.2.2.2.2.2.1 k hk with ⟨q1, q2⟩ | ⟨n, w, hn, hw, h3, h4, h5, h6, h7, h8⟩
        · rw [q2, if_pos rfl, z0, bd_s]
          refine read_fin (o := 0) (fc := if L = 0 then 0 else 1) H hk (by omega) (by omega) hL (fun z => absurd z (by omega)) (fun j hj => absurd hj (by omega)) (fun j hj => absurd hj (by omega)) (fun hl => ?_) (fun hl => by rw [if_pos hl.symm]) (fun hl M2 hM => ?_)
          · rw [if_neg (by omega)]
            unfold ft
            rw [if_pos q1]
            exact ⟨rfl, by decide⟩
          · unfold f_X8_faultFor
            rw [hM, q2, if_pos rfl, if_neg (by omega)]
        · rw [h4, if_neg (by decide), h5, h6]
          have n4 : ¬ N.1 16 k = -4 := by rw [h3]; exact nI_ne4 (by omega)
          by_cases g4 : x2 = nI n
          · rw [if_pos g4, e_isAmong, bd_s]
            by_cases g5 : inR x3 0 (nI w - 1)
            · rw [if_neg (fun q => b2_0.mp q g5)]
              obtain ⟨o, ho, rfl⟩ := cnt_n (by omega) g5
              rw [show nI w - nI o = nI (w - o) from pk_sub (by omega), iMin_n (by omega) (by omega), bd_s]
              have hin : ∀ j, j ≤ 12 → (((0 : Int64) ≤ (nI o).toInt64 + (nI j).toInt64 ∧ (nI o).toInt64 + (nI j).toInt64 ≤ (N.1 17 k - 1).toInt64) ↔ o + j < w) := fun j hj => by
                rw [l_add (by omega), h7]
                exact (in64 (x := 0)).trans (inZ hw (by omega))
              refine read_fin (o := o) (fc := if min L (w - o) = L then 0 else 2) H hk (by omega) (by omega) hL (fun _ => rfl) (fun j hj => ?_) (fun j hj => ?_) (fun hl => ?_) (fun hl => by rw [if_pos hl]) (fun hl M2 hM => ?_)
              · have := h8 (o + j) (by omega)
                rw [show 134 + 2 * k = 133 + 2 * k + 1 by omega, ← Nat.add_assoc] at this
                exact this
              · unfold ft
                rw [if_neg n4, if_pos (by rw [h3, g4]), if_pos ((hin j (by omega)).mpr (by omega))]
              · unfold ft
                rw [if_neg n4, if_pos (show N.1 16 k = x2 by rw [h3, g4]), if_neg (fun z => by have := (hin _ (by omega)).mp z; omega), if_neg (show ¬ min L (w - o) = L by omega)]
                exact ⟨rfl, by decide⟩
              · unfold f_X8_faultFor f_X8_faultFor_22
                rw [hM, h4, if_neg (by decide), h5, if_pos g4, if_neg (by omega)]
            · rw [if_pos (b2_0.mpr g5), z0, bd_s]
              refine read_fin (o := 0) (fc := if L = 0 then 0 else 2) H hk (by omega) (by omega) hL (fun z => absurd z (by omega)) (fun j hj => absurd hj (by omega)) (fun j hj => absurd hj (by omega)) (fun hl => ?_) (fun hl => by rw [if_pos hl.symm]) (fun hl M2 hM => ?_)
              · rw [if_neg (by omega)]
                unfold ft
                rw [if_neg n4, if_pos (by rw [h3, g4]), show x3.toInt64 + (nI 0).toInt64 = x3.toInt64 from Int64.add_zero _, h7, if_neg (show ¬ ((0 : Int64) ≤ x3.toInt64 ∧ x3.toInt64 ≤ (nI w - 1).toInt64) from fun z => g5 ((in64 (x := 0)).mp z))]
                exact ⟨rfl, by decide⟩
              · unfold f_X8_faultFor f_X8_faultFor_22
                rw [hM, h4, if_neg (by decide), h5, if_pos g4, if_neg (by omega)]
          · rw [if_neg g4, z0, bd_s]
            refine read_fin (o := 0) (fc := if L = 0 then 0 else 3) H hk (by omega) (by omega) hL (fun z => absurd z (by omega)) (fun j hj => absurd hj (by omega)) (fun j hj => absurd hj (by omega)) (fun hl => ?_) (fun hl => by rw [if_pos hl.symm]) (fun hl M2 hM => ?_)
            · rw [if_neg (by omega)]
              unfold ft
              rw [if_neg n4, if_neg (fun z => g4 (by rw [← z, h3]))]
              exact ⟨rfl, by decide⟩
            · unfold f_X8_faultFor f_X8_faultFor_22
              rw [hM, h4, if_neg (by decide), h5, if_neg g4, if_neg (by omega)]
      · rw [if_pos (b2_0.mpr g3), if_pos (b2_0.mpr g3)]
        exact WW.no R _
    · rw [if_pos (b2_0.mpr g2), if_pos (b2_0.mpr g2)]
      exact WW.no R _
  · rw [if_pos (b2_0.mpr g1), if_pos (b2_0.mpr g1)]
    exact WW.no R _
