-- A HOUSE'S LINE
theorem DR.house {d c v hi : Nat} {y : Int32} {X Y : Mm} (D : DR d X Y) (hd : 141 ≤ d) (hc : c < 8) (h11 : Y.1 0 11 = nI c) (h15 : Y.1 0 15 = nI hi) (h9 : hi ≤ 9) (hv : v ≤ hi) : DR d (wI (wI (wI X (d + 3) c (nI v)) (d + 4) c y) d 4 (nI (c + 1))) (wI (wI (wI Y 8 (2 * c) (nI v)) 8 (2 * c + 1) y) 0 11 (nI (c + 1))) := by
  obtain ⟨s1, s2⟩ := D.ns (X2 := wI (wI (wI X (d + 3) c (nI v)) (d + 4) c y) d 4 (nI (c + 1))) (Y2 := wI (wI (wI Y 8 (2 * c) (nI v)) 8 (2 * c + 1) y) 0 11 (nI (c + 1))) (fun j _ => by rw [wI_o (by omega), wI_o (by omega), wI_o (by omega)]) (by rw [wI_o (by decide), wI_o (by decide), wI_o (by decide)])
  obtain ⟨⟨F, f1, f2, f3, f4⟩, d2, d3, ⟨d4, d5⟩, ⟨hi2, sd, ss, u, ⟨e1, e2⟩, e3, e4, ⟨c2, c8, c1, c3, c4⟩, e6⟩, -, -⟩ := D
  rw [h11] at c3
  have : c = c2 := (nI_eq (by omega) (by omega)).mp c3
  subst this
  have eh := e2
  rw [h15] at eh
  have : hi = hi2 := (nI_eq (by omega) (by omega)).mp eh
  subst this
  have x1 : ∀ j, j ≠ d → j ≠ d + 3 → j ≠ d + 4 → (wI (wI (wI X (d + 3) c (nI v)) (d + 4) c y) d 4 (nI (c + 1))).1 j = X.1 j := fun j q1 q2 q3 => by rw [wI_o q1, wI_o q3, wI_o q2]
  have xd : ∀ j, j ≠ 4 → (wI (wI (wI X (d + 3) c (nI v)) (d + 4) c y) d 4 (nI (c + 1))).1 d j = X.1 d j := fun j q => by rw [mIn (by omega), wI_o (by omega), wI_o (by omega)]
  have y1 : ∀ j, j ≠ 0 → j ≠ 8 → (wI (wI (wI Y 8 (2 * c) (nI v)) 8 (2 * c + 1) y) 0 11 (nI (c + 1))).1 j = Y.1 j := fun j q1 q2 => by rw [wI_o q1, wI_o q2, wI_o q2]
  have y0 : ∀ j, j ≠ 11 → (wI (wI (wI Y 8 (2 * c) (nI v)) 8 (2 * c + 1) y) 0 11 (nI (c + 1))).1 0 j = Y.1 0 j := fun j q => by rw [mIn (by omega), wI_o (by decide), wI_o (by decide)]
  refine ⟨⟨F, f1, f2, by rw [xd 0 (by decide)]; exact f3, by rw [y0 12 (by decide)]; exact f4⟩, by rw [xd 1 (by decide)]; exact d2, by rw [x1 (d + 1) (by omega) (by omega) (by omega), y1 6 (by decide) (by decide)]; exact d3, ⟨?_, by rw [y1 7 (by decide) (by decide)]; exact d5⟩, ⟨hi, sd, ss, u, ⟨by rw [x1 1 (by omega) (by omega) (by omega)]; exact e1, by rw [y0 15 (by decide)]; exact e2⟩, ⟨by rw [x1 1 (by omega) (by omega) (by omega)]; exact e3.1, by rw [y0 13 (by decide)]; exact e3.2⟩, ⟨by rw [x1 1 (by omega) (by omega) (by omega)]; exact e4.1, by rw [y0 14 (by decide)]; exact e4.2⟩, ⟨c + 1, by omega, mIs _ _ _ _, mIs _ _ _ _, fun h hh => ?_⟩, by rw [y1 5 (by decide) (by decide)]; exact e6⟩, s1, s2⟩
  · unfold LwR
    rw [x1 (d + 2) (by omega) (by omega) (by omega), y1 7 (by decide) (by decide)]
    exact d4
  · rw [wI_o (show d + 3 ≠ d by omega), wI_o (show d + 3 ≠ d + 4 by omega), wI_o (show d + 4 ≠ d by omega), wI_o (show 8 ≠ 0 by decide)]
    by_cases z : h = c
    · subst z
      refine ⟨?_, ?_, v, hv, ?_⟩
      · rw [mIs, mIn (by omega), mIs]
      · rw [mIs, mIs]
      · rw [mIn (by omega), mIs]
    · rw [mIn (by omega), mIn (by omega), mIn (by omega), mIn (by omega), mIn (by omega), mIn (by omega), mIn (by omega)]
      exact c4 h (by omega)
theorem tok_sim2 {g : Gg} (hg : OKg g) {X Y M N : Mm} {q : Nat} (C : CS g X Y q M N) : (∃ M2 N2 st q2, f_X9_readToken M = some (1, M2) ∧ f_X12_step N = some N2 ∧ q ≤ st ∧ AS g X Y st q2 M2 N2) ∨ ∃ M2 N2, f_X9_readToken M = some (0, M2) ∧ f_X12_step N = some N2 ∧ FS g M2 N2 ∧ TYo Y N2 := by
  have k9 := (tok hg.1 C.2.2.1)
  rcases tok_sim hg C with h | ⟨M2, N2, e1, e2, F⟩
  · exact Or.inl h
  · refine Or.inr ⟨M2, N2, e1, e2, F, ?_⟩
    obtain ⟨⟨a1, a2⟩, ⟨a3, a4⟩, a5, ⟨a6, a7⟩, a8, a9⟩ := C
    obtain ⟨st, sp, kind, val, -, -, -, -, -, -, -, -, k9⟩ := k9
    obtain ⟨N3, n1, n2, -⟩ := k9 N ((a4.o a3).tn hg) a8 a9
    rw [e2] at n1
    rw [Option.some.inj n1]
    exact a3.t n2
theorem num_sim2 {g : Gg} {X Y M N : Mm} {st q : Nat} (A : AS g X Y st q M N) {lo hi : Nat} (hl : lo ≤ 999) (hh : hi ≤ 999) : (∃ v, lo ≤ v ∧ v ≤ hi ∧ M.1 1 8 = nI v ∧ N.1 0 24 = nI v ∧ f_X9_isNumber M (nI lo) (nI hi) = some (1, M) ∧ f_X12_looks N (nI lo) (nI hi) = some N) ∨ ∃ M2 N2, f_X9_isNumber M (nI lo) (nI hi) = some (0, M2) ∧ f_X12_looks N (nI lo) (nI hi) = some N2 ∧ FS g M2 N2 ∧ N2.1 0 11 = N.1 0 11 := by
  rcases num_sim A hl hh with h | ⟨M2, N2, e1, e2, F⟩
  · exact Or.inl h
  · refine Or.inr ⟨M2, N2, e1, e2, F, ?_⟩
    have z := A.1.2.2.2.2.1
    unfold f_X12_looks f_X12_looks_20 f_X12_looks_47 at e2
    rw [if_pos z, fails_0 z, fails_0 z, bd_s, bd_s] at e2
    by_cases k : N.1 0 23 = 2
    · rw [if_pos k, if_pos z, show f_X12_in (N.1 0 24).toInt64 (nI lo).toInt64 (nI hi).toInt64 = some (b2 (inR (N.1 0 24) (nI lo) (nI hi))) from e_inI _ _ _, bd_s] at e2
      by_cases y : inR (N.1 0 24) (nI lo) (nI hi)
      · rw [if_neg (fun q => b2_0.mp q y)] at e2
        rw [← Option.some.inj e2]
      · rw [if_pos (b2_0.mpr y)] at e2
        rw [← Option.some.inj e2, mIn (by decide), mIn (by decide)]
    · rw [if_neg k, if_neg (by rw [mIn (by decide), mIs]; decide)] at e2
      rw [← Option.some.inj e2, mIn (by decide), mIn (by decide)]
theorem fur_A {g : Gg} {X Y M0 M N : Mm} {st q hi : Nat} (A : AS g X Y st q M N) (t : f_X9_readToken M0 = some (1, M)) (h9 : hi ≤ 9) (x11 : X.1 1 11 = nI hi) (y15 : Y.1 0 15 = nI hi) : (∃ v, v ≤ 9 ∧ M.1 1 8 = nI v ∧ f_X9_readFurlong M0 = some (1, wI M 1 11 (nI (max hi v))) ∧ f_X12_furlongHere N = some (nI v, wI N 0 15 (nI (max hi v)))) ∨ ∃ M3 N3, f_X9_readFurlong M0 = some (0, M3) ∧ f_X12_furlongHere N = some (0, N3) ∧ FS g M3 N3 ∧ N3.1 0 11 = N.1 0 11 := by
  have t15 : N.1 0 15 = nI hi := by rw [A.1.2.1.1 0 15 (by decide)]; exact y15
  have t11 : M.1 1 11 = nI hi := by rw [A.1.1.1 1 11 (by decide)]; exact x11
  unfold f_X9_readFurlong f_X9_readNumber f_X9_readNumber_20 f_X9_readNumber_21 f_X12_furlongHere f_X12_furlongHere_22 f_X12_furlongHere_40
  rw [t, bd_s]
  dsimp only
  rw [if_neg (by decide)]
  rcases num_sim2 (lo := 0) (hi := 9) A (by decide) (by decide) with ⟨v, v1, v2, v3, v4, v5, v6⟩ | ⟨M3, N3, v5, v6, F, h11⟩
  · rw [show f_X9_isNumber M 0 9 = _ from v5, show f_X12_looks N 0 9 = _ from v6, bd_s, bd_s]
    dsimp only
    rw [if_neg (by decide), ck_t (Or.inr rfl), bd_s, if_pos A.1.2.2.2.2.1, v4, t15]
    dsimp only
    rw [if_neg (by decide), wr_e, v3, t11, iMax_nn (by omega) (by omega)]
    refine Or.inl ⟨v, v2, rfl, rfl, ?_⟩
    by_cases z : v ≤ hi
    · rw [if_pos (nI_le z (by omega)), wr_e, show max hi v = hi by omega]
    · rw [if_neg (nI_ge (by omega) (by omega)), wr_e, show max hi v = v by omega]
  · rw [show f_X9_isNumber M 0 9 = _ from v5, show f_X12_looks N 0 9 = _ from v6, bd_s, bd_s]
    dsimp only
    rw [if_pos rfl, ck_t (Or.inl rfl), bd_s, if_neg F.2.1.ne.1]
    dsimp only
    rw [if_pos rfl]
    have w : ∀ v, FS g M3 (wI N3 0 15 v) ∧ (wI N3 0 15 v).1 0 11 = N.1 0 11 := fun v => ⟨F.p (Y := Y) (PW.w (a := 0) (k := 15) (Or.inr (by decide)) v), by rw [mIn (by decide)]; exact h11⟩
    by_cases z : (0 : Int32) ≤ N3.1 0 15
    · rw [if_pos z, wr_e]
      exact Or.inr ⟨_, _, rfl, rfl, w _⟩
    · rw [if_neg z, wr_e]
      exact Or.inr ⟨_, _, rfl, rfl, w _⟩
def hK3 (p : Int32 × Mm) : Option Mm := bd (f_X12_name p.2 8 9) fun p16 => if p16.1 = 0 then bd (f_X12_readHouse_75 p16.2 (((2 : Int32) * (p.2.1 0 11)) + (1 : Int32)) (0 - p.1)) f_X12_readLine_82 else bd (f_X12_readHouse_75 p16.2 (((2 : Int32) * (p.2.1 0 11)) + (1 : Int32)) p.1) f_X12_readLine_82
def hK2 (c : Nat) (p : Int32 × Mm) : Option Mm := bd (f_X12_step (wI p.2 8 (2 * c) p.1)) fun N => bd (f_X12_number N 0 9) hK3
theorem cHo {N : Mm} {c : Nat} (hc : c < 8) (h : N.1 0 11 = nI c) : bd (f_X12_readHouse N) f_X12_readLine_82 = bd (f_X12_step N) fun p3 => bd (f_X12_furlongHere p3) fun p5 => bd (ck (inn ((2 : Int32) * (p3.1 0 11)) 16) <| some (wI p5.2 8 ((2 : Int32) * (p3.1 0 11)).toNatClampNeg p5.1)) fun M6 => bd (f_X12_step M6) fun N => bd (f_X12_number N 0 9) hK3 := by
  have ne : ¬ nI c = 8 := fun z => absurd ((nI_eq (b := 8) (by omega) (by omega)).mp z) (by omega)
  unfold f_X12_readHouse hK3
  simp only [h, if_neg ne, bd_bd, bd_ck, bd_wr, bd_nm, nm_x, bd_ite, bd_s, wr_e]
theorem i2c {c : Nat} (hc : c < 8) : (2 : Int32) * nI c = nI (2 * c) ∧ (2 : Int32) * nI c + 1 = nI (2 * c + 1) := by
  have e : (2 : Int32) * nI c = nI (2 * c) := pk_mul 2 c
  exact ⟨e, by rw [e, n1]⟩
theorem h75 {N : Mm} {c : Nat} (hc : c < 8) (y : Int32) : bd (f_X12_readHouse_75 N ((2 : Int32) * nI c + 1) y) f_X12_readLine_82 = f_X12_readLine_82 (wI (wI N 8 (2 * c + 1) y) 0 11 ((wI N 8 (2 * c + 1) y).1 0 11 + 1)) := by
  unfold f_X12_readHouse_75
  rw [(i2c hc).2, ck_n (by omega) (by decide), nI_clamp (by omega), wr_e, wr_e, bd_s]
theorem BS_75 {g : Gg} {c : Nat} {y : Int32} : BS g fun N => f_X12_readLine_82 (wI (wI N 8 (2 * c + 1) y) 0 11 ((wI N 8 (2 * c + 1) y).1 0 11 + 1)) := BS_w (K := fun N => wr (wI N 0 11 (N.1 0 11 + 1)) f_X12_readLine_82) (v := fun _ => y) (Or.inl (by decide)) (BS_w (v := fun N => N.1 0 11 + 1) (Or.inr (by decide)) BS_82)
theorem hK3_b {g : Gg} (hg : OKg g) {N : Mm} {c : Nat} (hc : c < 8) (b : BR g N) (h : N.1 0 11 = nI c) (r : Int32) : ∃ N2, hK3 (r, N) = some N2 ∧ BR g N2 ∧ N2.1 0 19 = N.1 0 19 ∧ N2.1 0 20 = N.1 0 20 := by
  obtain ⟨s, hs, e⟩ := name_b hg b (lo := 8) (hi := 9) (by decide) (by decide)
  unfold hK3
  dsimp only
  rw [show f_X12_name N 8 9 = _ from e, bd_s]
  dsimp only
  rw [h, h75 hc, h75 hc]
  by_cases z : nI s = 0
  · rw [if_pos z]
    exact BS_75 N b
  · rw [if_neg z]
    exact BS_75 N b
theorem hK2_b {g : Gg} (hg : OKg g) {N : Mm} {c : Nat} (hc : c < 8) (b : BR g N) (h : N.1 0 11 = nI c) (r : Int32) : ∃ N2, hK2 c (r, N) = some N2 ∧ BR g N2 ∧ N2.1 0 19 = N.1 0 19 ∧ N2.1 0 20 = N.1 0 20 := by
  obtain ⟨b1, b3, b4⟩ := b.w (a := 8) (k := 2 * c) (Or.inl (by decide)) r
  unfold hK2
  dsimp only
  rw [step_b b1, bd_s, number_b b1, bd_s]
  obtain ⟨N2, a1, a2, a3, a4⟩ := hK3_b hg hc b1 (by rw [wI_o (by decide)]; exact h) 0
  exact ⟨N2, a1, a2, a3.trans b3, a4.trans b4⟩
theorem LSg.bad2 {g : Gg} {q0 : Nat} {M N : Mm} {K : Option Mm} (F : FS g M N) (h : ∃ N2, K = some N2 ∧ BR g N2 ∧ N2.1 0 19 = N.1 0 19 ∧ N2.1 0 20 = N.1 0 20) : LSg g q0 (some (0, M)) K := by
  obtain ⟨f1, f2, f3, f4⟩ := F
  obtain ⟨N2, a1, a2, a3, a4⟩ := h
  exact Or.inr ⟨M, N2, rfl, a1, f1, a2, f3.trans a3.symm, f4.trans a4.symm⟩
theorem side_A {g : Gg} (hg : OKg g) {X Y M0 M N : Mm} {st q : Nat} (A : AS g X Y st q M N) (t : f_X9_readToken M0 = some (1, M)) : (∃ s, s ≤ 1 ∧ f_X9_readSide M0 = some (1, wI M 1 8 (nI s)) ∧ AS g X Y st q (wI M 1 8 (nI s)) N ∧ f_X12_name N 8 9 = bd (f_X12_step N) fun p2 => some (nI s, p2)) ∨ ∃ M3 N3, f_X9_readSide M0 = some (0, M3) ∧ f_X12_name N 8 9 = some (nI 0, N3) ∧ FS g M3 N3 := by
  obtain ⟨B2a, B2b, B2c⟩ := A.bad (c := 2) (by decide) (by decide)
  obtain ⟨r, n1, n2⟩ := name_sim hg A
  unfold f_X9_readSide f_X12_name f_X12_name_24
  rw [t, bd_s, n1, bd_s, show f_X12_in r.toInt64 (8 : Int32).toInt64 (9 : Int32).toInt64 = some (b2 (inR r 8 9)) from e_inI r 8 9, bd_s]
  dsimp only
  rw [if_neg (by decide)]
  have cases2 : (∃ s, s ≤ 1 ∧ r = nI (8 + s) ∧ ∀ v, v < 16 → f_X9_isNamed M v = some (if v = 8 + s then 1 else 0)) ∨ (f_X9_isNamed M 8 = some 0 ∧ f_X9_isNamed M 9 = some 0 ∧ ¬ inR r 8 9) := by
    rcases n2 with ⟨er, i⟩ | ⟨w, hw, er, i⟩
    · exact Or.inr ⟨i 8 (by decide), i 9 (by decide), by rw [er]; decide⟩
    · by_cases z : 8 ≤ w ∧ w ≤ 9
      · exact Or.inl ⟨w - 8, by omega, by rw [er]; exact congrArg nI (by omega), fun v hv => by rw [i v hv, show 8 + (w - 8) = w by omega]⟩
      · refine Or.inr ⟨by rw [i 8 (by decide), if_neg (by omega)], by rw [i 9 (by decide), if_neg (by omega)], fun y => z ?_⟩
        rw [er] at y
        exact ⟨(nI_leI (a := 8) (by omega) (by omega)).mp y.1, (nI_leI (b := 9) (by omega) (by omega)).mp y.2⟩
  rcases cases2 with ⟨s, hs, er, hv⟩ | ⟨i8, i9, hr⟩
  · have h5 : M.1 1 5 = 1 := named_5 (w := 8 + s) (by rw [hv (8 + s) (by omega), if_pos rfl])
    have hin : inR r 8 9 := by
      rw [er]
      exact ⟨nI_le (a := 8) (by omega) (by omega), nI_le (b := 9) (by omega) (by omega)⟩
    refine Or.inl ⟨s, hs, ?_, A.w8 h5 (nI s), ?_⟩
    · have hs2 : s = 0 ∨ s = 1 := by omega
      rw [hv 8 (by decide), hv 9 (by decide)]
      rcases hs2 with rfl | rfl <;> rfl
    · rw [if_neg (fun z => b2_0.mp z hin), show r - 8 = nI s from by rw [er]; rw [show nI (8 + s) - 8 = nI (8 + s - 8) from pk_sub (b := 8) (by omega), show 8 + s - 8 = s by omega]]
  · refine Or.inr ⟨_, _, ?_, ?_, B2c⟩
    · rw [i8, i9, bd_s, if_pos rfl, bd_s, if_pos rfl, show f_X9_refuse M 2 (M.1 1 6) = _ from B2a, bd_s, ck_t (Or.inl rfl)]
    · rw [if_pos (b2_0.mpr hr), show f_X12_fails N 2 = _ from B2b, bd_s, step_b B2c.2.1, bd_s]
      rfl
theorem PW11 {g : Gg} {Y : Mm} {c : Nat} (h : Y.1 0 11 = nI c) : PW g Y (wI Y 0 11 (nI (c + 1))) (fun N => wI N 0 11 (N.1 0 11 + 1)) := ⟨fun X st q M N A => by
  have e : N.1 0 11 + 1 = nI (c + 1) := by
    rw [A.1.2.1.1 0 11 (by decide), h]
    exact n1 c
  dsimp only
  rw [e]
  exact A.wY (Or.inr (by decide)) _, fun N b => b.w (Or.inr (by decide)) _⟩
theorem e_putHouse {M : Mm} {d c : Nat} {x1 x2 : Int32} (h : M.1 d 4 = nI c) (hc : c < 8) : f_X4_putHouse M d x1 x2 = some (wI (wI (wI M (d + 3) c x1) (d + 4) c x2) d 4 (nI (c + 1))) := by
  unfold f_X4_putHouse f_X4_putHouse_39
  rw [h, if_neg (show ¬ (8 : Int32) ≤ nI c from nI_ge (b := 8) hc (by omega))]
  simp only [wr_e, wI_o (show d ≠ d + 3 by omega), wI_o (show d ≠ d + 4 by omega), h, nI_clamp (show c < 2 ^ 31 by omega), n1]
  rw [ck_n hc (by decide), ck_n hc (by decide)]
