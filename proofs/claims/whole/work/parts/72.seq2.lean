theorem seq_rn {g : Gg} (hg : OKg g) {X Y Y2 M N : Mm} {q q0 lo hi : Nat} {P : Mm → Mm} {K : Int32 × Mm → Option (Int32 × Mm)} {KN : Int32 × Mm → Option Mm} (C : CS g X Y q M N) (p : PW g Y Y2 P) (hl : lo ≤ 999) (hh : hi ≤ 999) (hB : ∀ r, BS g fun N => KN (r, N))
    (hK : ∀ v M2 N2 st2 q2, lo ≤ v → v ≤ hi → q ≤ st2 → AS g X Y2 st2 q2 M2 N2 → M2.1 1 8 = nI v → LSg g q0 (K (1, M2)) (bd (f_X12_step N2) fun N3 => KN (nI v, N3))) :
    LSg g q0 (bd (f_X9_readNumber M (nI lo) (nI hi)) fun p => if p.1 = 0 then some (0, p.2) else K p) (bd (f_X12_step N) fun N1 => bd (f_X12_number (P N1) (nI lo) (nI hi)) KN) := by
  unfold f_X9_readNumber f_X9_readNumber_20 f_X9_readNumber_21
  rcases tok_sim hg C with ⟨M2, N2, st, q2, e1, e2, h, A⟩ | ⟨M2, N2, e1, e2, F⟩
  · rw [e1, e2, bd_s, bd_s]
    dsimp only
    rw [if_neg (by decide)]
    have A2 := p.1 _ _ _ _ _ A
    unfold f_X12_number f_X12_number_21
    rcases num_sim A2 hl hh with ⟨v, v1, v2, v3, v4, v5, v6⟩ | ⟨M3, N3, v5, v6, F⟩
    · rw [v5, v6, bd_s, bd_s]
      dsimp only
      rw [if_neg (by decide), ck_t (Or.inr rfl), bd_s, if_pos A2.1.2.2.2.2.1, v4]
      dsimp only
      rw [if_neg (by decide), bd_bd]
      exact hK v M2 _ st q2 v1 v2 h A2 v3
    · rw [v5, v6, bd_s, bd_s]
      dsimp only
      rw [if_pos rfl, ck_t (Or.inl rfl), bd_s, if_neg F.2.1.ne.1]
      dsimp only
      rw [if_pos rfl, step_b F.2.1, bd_s, bd_s]
      exact LSg.bad (K := fun N => KN (nI lo, N)) F (hB _)
  · rw [e1, e2, bd_s, bd_s]
    dsimp only
    rw [if_pos rfl, ck_t (Or.inl rfl), bd_s]
    dsimp only
    rw [if_pos rfl, number_b (F.p p).2.1, bd_s]
    exact LSg.bad (K := fun N => KN (nI lo, N)) (F.p p) (hB _)
theorem iMax_nn {a b : Nat} (ha : a < 2 ^ 31) (hb : b < 2 ^ 31) : iMax (nI a) (nI b) = nI (max a b) := by
  unfold iMax
  by_cases g : a < b
  · rw [if_pos (nI_lt g hb), Nat.max_eq_right (by omega)]
  · rw [if_neg (nI_nlt (by omega) ha), Nat.max_eq_left (by omega)]
theorem seq_rf {g : Gg} (hg : OKg g) {X Y Y2 M N : Mm} {q q0 hi : Nat} {P : Mm → Mm} {K : Int32 × Mm → Option (Int32 × Mm)} {KN : Int32 × Mm → Option Mm} (C : CS g X Y q M N) (p : PW g Y Y2 P) (h9 : hi ≤ 9) (x11 : X.1 1 11 = nI hi) (y15 : Y2.1 0 15 = nI hi) (hB : BS g fun N => KN (0, N))
    (hK : ∀ v M2 N2 st2 q2, v ≤ 9 → q ≤ st2 → AS g (wI X 1 11 (nI (max hi v))) (wI Y2 0 15 (nI (max hi v))) st2 q2 M2 N2 → M2.1 1 8 = nI v → LSg g q0 (K (1, M2)) (KN (nI v, N2))) :
    LSg g q0 (bd (f_X9_readFurlong M) fun p => if p.1 = 0 then some (0, p.2) else K p) (bd (f_X12_step N) fun N1 => bd (f_X12_furlongHere (P N1)) KN) := by
  unfold f_X9_readFurlong f_X9_readNumber f_X9_readNumber_20 f_X9_readNumber_21
  rcases tok_sim hg C with ⟨M2, N2, st, q2, e1, e2, h, A⟩ | ⟨M2, N2, e1, e2, F⟩
  · rw [e1, e2, bd_s, bd_s]
    dsimp only
    rw [if_neg (by decide)]
    have A2 := p.1 _ _ _ _ _ A
    have t15 : (P N2).1 0 15 = nI hi := by rw [A2.1.2.1.1 0 15 (by decide)]; exact y15
    have t11 : M2.1 1 11 = nI hi := by rw [A2.1.1.1 1 11 (by decide)]; exact x11
    unfold f_X12_furlongHere f_X12_furlongHere_22 f_X12_furlongHere_40
    rcases num_sim (lo := 0) (hi := 9) A2 (by decide) (by decide) with ⟨v, v1, v2, v3, v4, v5, v6⟩ | ⟨M3, N3, v5, v6, F⟩
    · rw [show f_X9_isNumber M2 0 9 = _ from v5, show f_X12_looks (P N2) 0 9 = _ from v6, bd_s, bd_s]
      dsimp only
      rw [if_neg (by decide), ck_t (Or.inr rfl), bd_s, if_pos A2.1.2.2.2.2.1, v4, t15]
      dsimp only
      rw [if_neg (by decide), wr_e, bd_s, v3, t11, iMax_nn (by omega) (by omega)]
      have A3 := (A2.wX (a := 1) (k := 11) (OX.s (by decide)) (nI (max hi v))).wY (a := 0) (k := 15) (Or.inr (by decide)) (nI (max hi v))
      have m8 : (wI M2 1 11 (nI (max hi v))).1 1 8 = nI v := by rw [mIn (by decide)]; exact v3
      dsimp only
      rw [if_neg (by decide)]
      by_cases z : v ≤ hi
      · rw [if_pos (nI_le z (by omega)), wr_e, bd_s, show nI hi = nI (max hi v) from congrArg nI (by omega)]
        exact hK v _ _ st q2 v2 h A3 m8
      · rw [if_neg (nI_ge (by omega) (by omega)), wr_e, bd_s, show wI (P N2) 0 15 (nI v) = wI (P N2) 0 15 (nI (max hi v)) from congrArg (fun z => wI (P N2) 0 15 (nI z)) (by omega)]
        exact hK v _ _ st q2 v2 h A3 m8
    · rw [show f_X9_isNumber M2 0 9 = _ from v5, show f_X12_looks (P N2) 0 9 = _ from v6, bd_s, bd_s]
      dsimp only
      rw [if_pos rfl, ck_t (Or.inl rfl), bd_s, if_neg F.2.1.ne.1]
      dsimp only
      rw [if_pos rfl, bd_s]
      dsimp only
      rw [if_pos rfl]
      have w : ∀ v, LSg g q0 (some (0, M3)) (KN (0, wI N3 0 15 v)) := fun v => LSg.bad (K := fun N => KN (0, N)) (F.p (Y := Y) (PW.w (a := 0) (k := 15) (Or.inr (by decide)) v)) hB
      by_cases z : (0 : Int32) ≤ N3.1 0 15
      · rw [if_pos z, wr_e, bd_s]
        exact w _
      · rw [if_neg z, wr_e, bd_s]
        exact w _
  · rw [e1, e2, bd_s, bd_s]
    dsimp only
    rw [if_pos rfl, ck_t (Or.inl rfl), bd_s]
    dsimp only
    rw [if_pos rfl, bd_s]
    dsimp only
    rw [if_pos rfl]
    exact LSg.bad (K := fun N => bd (f_X12_furlongHere N) KN) (F.p p) (BS_fur hB)
/-- the slot of the number is free at a name -/
theorem AS.w8 {g : Gg} {X Y M N : Mm} {st q : Nat} (h : AS g X Y st q M N) (h5 : M.1 1 5 = 1) (v : Int32) : AS g X Y st q (wI M 1 8 v) N := by
  obtain ⟨⟨⟨a1, a2⟩, a3, a5, ⟨a6, a7⟩, a8, a9⟩, u1, u2, u3, kind, val, u4, u5, u6, u7, u8, u9, u10⟩ := h
  rw [h5] at u8
  have k1 : 1 = kind := (nI_eq (a := 1) (by omega) (by omega)).mp u8
  refine ⟨⟨⟨a1.w (by decide), a2⟩, a3, a5, ⟨by rw [mIn (by decide)]; exact a6, by rw [mIn (by decide)]; exact a7⟩, a8, a9⟩, u1, by rw [mIn (by decide)]; exact u2, u3, kind, val, u4, u5, u6, u7, by rw [mIn (by decide), h5]; exact u8, u9, fun z => absurd z (by omega)⟩
theorem named_5 {M : Mm} {w : Nat} (h : f_X9_isNamed M w = some 1) : M.1 1 5 = 1 := by
  unfold f_X9_isNamed f_X9_isNamed_24 at h
  by_cases z : M.1 1 5 = 1
  · exact z
  · rw [if_neg z] at h
    exact absurd (Option.some.inj h) (by decide)
theorem seq_rs {g : Gg} (hg : OKg g) {X Y Y2 M N : Mm} {q q0 : Nat} {P : Mm → Mm} {K : Int32 × Mm → Option (Int32 × Mm)} {KN : Int32 × Mm → Option Mm} (C : CS g X Y q M N) (p : PW g Y Y2 P) (hB : ∀ s, s ≤ 1 → BS g fun N => KN (nI s, N))
    (hK : ∀ s M2 N2 st2 q2, s ≤ 1 → q ≤ st2 → AS g X Y2 st2 q2 M2 N2 → M2.1 1 8 = nI s → LSg g q0 (K (1, M2)) (bd (f_X12_step N2) fun N3 => KN (nI s, N3))) :
    LSg g q0 (bd (f_X9_readSide M) fun p => if p.1 = 0 then some (0, p.2) else K p) (bd (f_X12_step N) fun N1 => bd (f_X12_name (P N1) 8 9) KN) := by
  unfold f_X9_readSide
  rcases tok_sim hg C with ⟨M2, N2, st, q2, e1, e2, h, A⟩ | ⟨M2, N2, e1, e2, F⟩
  · rw [e1, e2, bd_s, bd_s]
    dsimp only
    rw [if_neg (by decide)]
    have A2 := p.1 _ _ _ _ _ A
    obtain ⟨B2a, B2b, B2c⟩ := A2.bad (c := 2) (by decide) (by decide)
    obtain ⟨r, n1, n2⟩ := name_sim hg A2
    unfold f_X12_name f_X12_name_24
    rw [n1, bd_s, show f_X12_in r.toInt64 (8 : Int32).toInt64 (9 : Int32).toInt64 = some (b2 (inR r 8 9)) from e_inI r 8 9, bd_s]
    have bad : f_X9_isNamed M2 8 = some 0 → f_X9_isNamed M2 9 = some 0 → ¬ inR r 8 9 → LSg g q0 (bd (bd (f_X9_isNamed M2 8) fun p5 => if p5 = 0 then (bd (f_X9_isNamed M2 9) fun p8 => if p8 = 0 then (bd (f_X9_refuse M2 (2 : Int32) (M2.1 1 6)) fun p11 => ck (isB p11.1) <| some (p11.1, p11.2)) else (wr (wI M2 1 8 (1 : Int32)) fun M13 => some ((1 : Int32), M13))) else (wr (wI M2 1 8 (0 : Int32)) fun M15 => some ((1 : Int32), M15))) fun p => if p.1 = 0 then some (0, p.2) else K p) (bd (if b2 (inR r 8 9) = 0 then bd (f_X12_fails (P N2) 2) fun p7 => bd (f_X12_step p7) fun p2 => some ((8 : Int32) - 8, p2) else bd (f_X12_step (P N2)) fun p2 => some (r - 8, p2)) KN) := by
      intro i8 i9 hr
      rw [i8, bd_s, if_pos rfl, i9, bd_s, if_pos rfl, show f_X9_refuse M2 2 (M2.1 1 6) = _ from B2a, bd_s]
      dsimp only
      rw [ck_t (Or.inl rfl), bd_s]
      dsimp only
      rw [if_pos rfl, if_pos (b2_0.mpr hr), show f_X12_fails (P N2) 2 = _ from B2b, bd_s, step_b B2c.2.1, bd_s, bd_s]
      exact LSg.bad (K := fun N => KN (nI 0, N)) B2c (hB 0 (by decide))
    have good : ∀ s, s ≤ 1 → r = nI (8 + s) → (∀ v, v < 16 → f_X9_isNamed M2 v = some (if v = 8 + s then 1 else 0)) → LSg g q0 (bd (bd (f_X9_isNamed M2 8) fun p5 => if p5 = 0 then (bd (f_X9_isNamed M2 9) fun p8 => if p8 = 0 then (bd (f_X9_refuse M2 (2 : Int32) (M2.1 1 6)) fun p11 => ck (isB p11.1) <| some (p11.1, p11.2)) else (wr (wI M2 1 8 (1 : Int32)) fun M13 => some ((1 : Int32), M13))) else (wr (wI M2 1 8 (0 : Int32)) fun M15 => some ((1 : Int32), M15))) fun p => if p.1 = 0 then some (0, p.2) else K p) (bd (if b2 (inR r 8 9) = 0 then bd (f_X12_fails (P N2) 2) fun p7 => bd (f_X12_step p7) fun p2 => some ((8 : Int32) - 8, p2) else bd (f_X12_step (P N2)) fun p2 => some (r - 8, p2)) KN) := by
      intro s hs er hv
      have h5 : M2.1 1 5 = 1 := named_5 (w := 8 + s) (by rw [hv (8 + s) (by omega), if_pos rfl])
      have A3 := A2.w8 h5 (nI s)
      have hin : inR r 8 9 := by
        rw [er]
        exact ⟨nI_le (a := 8) (by omega) (by omega), nI_le (b := 9) (by omega) (by omega)⟩
      have goal := hK s _ _ st q2 hs h A3 (mIs _ _ _ _)
      rw [if_neg (fun z => b2_0.mp z hin), show r - 8 = nI s from by rw [er]; rw [show nI (8 + s) - 8 = nI (8 + s - 8) from pk_sub (b := 8) (by omega), show 8 + s - 8 = s by omega]]
      have hs2 : s = 0 ∨ s = 1 := by omega
      rcases hs2 with rfl | rfl
      · rw [hv 8 (by decide), if_pos rfl, bd_s, if_neg (by decide), wr_e, bd_s]
        dsimp only
        rw [if_neg (by decide), bd_bd]
        exact goal
      · rw [hv 8 (by decide), if_neg (by decide), bd_s, if_pos rfl, hv 9 (by decide), if_pos rfl, bd_s, if_neg (by decide), wr_e, bd_s]
        dsimp only
        rw [if_neg (by decide), bd_bd]
        exact goal
    rcases n2 with ⟨er, i⟩ | ⟨w, hw, er, i⟩
    · exact bad (i 8 (by decide)) (i 9 (by decide)) (by rw [er]; decide)
    · by_cases z : 8 ≤ w ∧ w ≤ 9
      · exact good (w - 8) (by omega) (by rw [er]; exact congrArg nI (by omega)) (fun v hv => by rw [i v hv, show 8 + (w - 8) = w by omega])
      · refine bad (by rw [i 8 (by decide), if_neg (by omega)]) (by rw [i 9 (by decide), if_neg (by omega)]) (fun y => z ?_)
        rw [er] at y
        exact ⟨(nI_leI (a := 8) (by omega) (by omega)).mp y.1, (nI_leI (b := 9) (by omega) (by omega)).mp y.2⟩
  · rw [e1, e2, bd_s, bd_s]
    dsimp only
    rw [if_pos rfl, bd_s]
    dsimp only
    rw [if_pos rfl]
    exact LSg.bad (K := fun N => bd (f_X12_name N 8 9) KN) (F.p p) (BS_name hg (lo := 8) (hi := 9) (by decide) (by decide) (fun s hs => hB s (by omega)))
/-- the semicolon at the token -/
theorem semi_A {g : Gg} {X Y M N : Mm} {st q q0 : Nat} (A : AS g X Y st q M N) (D : DR g.2.2.1 X Y) (h : q0 ≤ q) : LSg g q0 (f_X9_isSemicolon M) (f_X12_readLine_82 N) := by
  obtain ⟨B2a, B2b, B2c⟩ := A.bad (c := 2) (by decide) (by decide)
  have A2 := A
  obtain ⟨⟨a1, a3, a5, ⟨a6, a7⟩, a8, a9⟩, u1, u2, u3, kind, val, u4, u5, u6, u7, u8, u9, u10⟩ := A
  unfold f_X9_isSemicolon f_X9_isSemicolon_25 f_X9_isSemicolon_20 f_X9_isSemicolon_25 f_X12_readLine_82 f_X12_readLine_102
  rw [u8, u9, if_pos a8]
  by_cases k : kind = 3
  · rw [if_pos (show nI kind = 3 by rw [k]; rfl), if_pos (show nI kind = 3 by rw [k]; rfl), ck_t (Or.inr rfl)]
    exact Or.inl ⟨X, Y, st, q, M, N, rfl, by cases f_X12_step N <;> rfl, A2, D, h⟩
  · have k3 : ¬ nI kind = 3 := fun z => k ((nI_eq (b := 3) (by omega) (by omega)).mp z)
    rw [if_neg k3, if_neg k3, show f_X9_refuse M 2 (M.1 1 6) = _ from B2a, bd_s]
    dsimp only
    rw [if_pos rfl, ck_t (Or.inl rfl), show f_X12_fails N 2 = _ from B2b, bd_s, step_b B2c.2.1, bd_s]
    exact Or.inr ⟨_, _, rfl, rfl, B2c⟩
theorem seq_semi {g : Gg} (hg : OKg g) {X Y Y2 M N : Mm} {q q0 : Nat} {P : Mm → Mm} (C : CS g X Y q M N) (p : PW g Y Y2 P) (D : DR g.2.2.1 X Y2) (h0 : q0 ≤ q) : LSg g q0 (f_X9_readSemicolon M) (bd (f_X12_step N) fun N1 => f_X12_readLine_82 (P N1)) := by
  unfold f_X9_readSemicolon f_X9_readSemicolon_18 f_X9_readSemicolon_19
  rcases tok_sim hg C with ⟨M2, N2, st, q2, e1, e2, h, A⟩ | ⟨M2, N2, e1, e2, F⟩
  · rw [e1, e2, bd_s, bd_s]
    dsimp only
    rw [if_neg (by decide)]
    have A2 := p.1 _ _ _ _ _ A
    rcases semi_A (q0 := q0) A2 D (by have := A2.2.1; omega) with ⟨X3, Y3, st3, q3, M3, N3, b1, b3⟩ | ⟨M3, N3, b1, b3⟩
    · exact Or.inl ⟨X3, Y3, st3, q3, M3, N3, by rw [b1, bd_s]; dsimp only; rw [if_neg (by decide), ck_t (Or.inr rfl)], b3⟩
    · exact Or.inr ⟨M3, N3, by rw [b1, bd_s]; dsimp only; rw [if_pos rfl, ck_t (Or.inl rfl)], b3⟩
  · rw [e1, e2, bd_s, bd_s]
    dsimp only
    rw [if_pos rfl, ck_t (Or.inl rfl)]
    exact LSg.bad (F.p p) BS_82
