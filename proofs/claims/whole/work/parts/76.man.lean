-- A MAN'S LINE
theorem DR.man {d s i hi : Nat} {X Y X2 Y2 : Mm} (D : DR d X Y) (hd : 141 ≤ d) (hs : s < 2) (hi9 : hi ≤ 9) (hh : i ≤ hi) (e : Y.1 0 15 = nI hi) (hx : ∀ c, c ≠ d + 5 + 11 + (10 * s + i) → X2.1 c = X.1 c) (hy : ∀ c, c ≠ 5 → Y2.1 c = Y.1 c) (h5 : ∀ x, (x < 7 * (10 * s + i) ∨ 7 * (10 * s + i) + 7 ≤ x) → Y2.1 5 x = Y.1 5 x) (hm : MnR X2 (d + 5 + 11 + (10 * s + i)) (Y2.1 5) (7 * (10 * s + i))) (h1 : Y2.1 5 (7 * (10 * s + i)) = 1) (hv : ∃ n, n ≤ 99 ∧ Y2.1 5 (7 * (10 * s + i) + 4) = nI n) : DR d X2 Y2 := by
  have hb := D.hb
  have S := D.2.2.2.2.2.1
  have I := D.2.2.2.2.2.2
  have mone : ∀ k, k < 20 → k ≠ 10 * s + i → ∀ f, f < 7 → Y2.1 5 (0 + 7 * k + f) = Y.1 5 (0 + 7 * k + f) := fun k hk hn f hf => h5 _ (by omega)
  refine D.sc (fun c hc => hx c (by omega)) hy ?_ ?_ (fun hi2 h9 e2 hB => ?_) (fun z k hk hz => ?_)
  · obtain ⟨hmn, hsn, hh0, hsun, hbr⟩ := S
    refine ⟨fun k hk => ?_, fun j hj => ?_, ?_, fun h hh2 => ?_, hbr.same (fun j hj => hx _ (by omega)) (fun x q1 q2 => h5 _ (by omega)) hb⟩
    · by_cases z : k = 10 * s + i
      · subst z
        rw [show 0 + 7 * (10 * s + i) = 7 * (10 * s + i) by omega]
        exact hm
      · exact (hmn k hk).same (hx _ (by omega)) (fun f hf => mone k hk z f (by omega))
    · rw [hx (d + 5 + 2) (by omega), hx (d + 5 + 3) (by omega), hx (d + 5 + 4) (by omega), h5 _ (by omega), h5 _ (by omega), h5 _ (by omega)]
      exact hsn j hj
    · rw [hx (d + 5) (by omega), h5 _ (by omega)]
      exact hh0
    · rw [hx (d + 5 + 5) (by omega), h5 _ (by omega)]
      exact hsun h hh2
  · obtain ⟨i1, i2, i3, ⟨h, hh2, i4⟩, i5⟩ := I
    refine ⟨fun k hk => ?_, fun j hj => ?_, fun h9 hh9 => ?_, ⟨h, hh2, by rw [h5 _ (by omega)]; exact i4⟩, i5.same (fun x q1 q2 => h5 _ (by omega))⟩
    · by_cases z : k = 10 * s + i
      · subst z
        rw [show 0 + 7 * (10 * s + i) = 7 * (10 * s + i) by omega, h1]
        exact ⟨Or.inr rfl, fun _ => hv⟩
      · rw [h5 _ (by omega), h5 _ (by omega)]
        exact i1 k hk
    · rw [h5 _ (by omega)]
      exact i2 j hj
    · rw [h5 _ (by omega)]
      exact i3 h9 hh9
  · rw [e] at e2
    have : hi = hi2 := (nI_eq (by omega) (by omega)).mp e2
    subst this
    refine ⟨fun s2 i2 hs2 q1 q2 => ?_, fun j q1 q2 => ?_⟩
    · rw [h5 _ (by unfold mo; omega)]
      exact hB.1 s2 i2 hs2 q1 q2
    · rw [h5 _ (by omega), h5 _ (by omega)]
      exact hB.2 j q1 q2
  · by_cases y : k = 10 * s + i
    · subst y
      rw [h1] at hz
      exact absurd hz (by decide)
    · rw [h5 _ (by omega)] at hz ⊢
      exact z k hk hz
def drs (m : Nat) (N : Mm) : Option Mm := if N.1 0 19 = 0 then (if N.1 0 23 = 1 then bd (f_X12_name N 15 15) fun p => f_X12_readLine_82 (wI p.2 5 (m + 6) 1) else f_X12_readLine_82 N) else f_X12_readLine_82 N
def mt5 (m : Nat) (p : Int32 × Mm) : Option Mm := drs m (wI (wI p.2 5 (m + 5) p.1) 5 m 1)
def mt4 (m : Nat) (p : Int32 × Mm) : Option Mm := bd (f_X12_number (wI p.2 5 (m + 4) p.1) 0 3) (mt5 m)
def mt3 (m : Nat) (p : Int32 × Mm) : Option Mm := bd (f_X12_number (wI p.2 5 (m + 3) p.1) 0 99) (mt4 m)
def mt2 (m : Nat) (p : Int32 × Mm) : Option Mm := bd (f_X12_number (wI p.2 5 (m + 2) p.1) 0 99) (mt3 m)
def mt1 (m : Nat) (p : Int32 × Mm) : Option Mm := bd (f_X12_number (wI p.2 5 (m + 1) p.1) 0 99) (mt2 m)
theorem BS_m5 {g : Gg} (m : Nat) (r : Int32) : BS g fun N => mt5 m (r, N) := BS_w (K := fun N => wr (wI N 5 m 1) (drs m)) (v := fun _ => r) (Or.inl (by decide)) (BS_w (K := drs m) (v := fun _ => 1) (Or.inl (by decide)) (BS_if (A := fun N => if N.1 0 23 = 1 then bd (f_X12_name N 15 15) fun p => f_X12_readLine_82 (wI p.2 5 (m + 6) 1) else f_X12_readLine_82 N) BS_82))
theorem BS_m4 {g : Gg} (m : Nat) (r : Int32) : BS g fun N => mt4 m (r, N) := BS_w (K := fun N => bd (f_X12_number N 0 3) (mt5 m)) (v := fun _ => r) (Or.inl (by decide)) (BS_num (BS_m5 m))
theorem BS_m3 {g : Gg} (m : Nat) (r : Int32) : BS g fun N => mt3 m (r, N) := BS_w (K := fun N => bd (f_X12_number N 0 99) (mt4 m)) (v := fun _ => r) (Or.inl (by decide)) (BS_num (BS_m4 m))
theorem BS_m2 {g : Gg} (m : Nat) (r : Int32) : BS g fun N => mt2 m (r, N) := BS_w (K := fun N => bd (f_X12_number N 0 99) (mt3 m)) (v := fun _ => r) (Or.inl (by decide)) (BS_num (BS_m3 m))
theorem BS_m1 {g : Gg} (m : Nat) (r : Int32) : BS g fun N => mt1 m (r, N) := BS_w (K := fun N => bd (f_X12_number N 0 99) (mt2 m)) (v := fun _ => r) (Or.inl (by decide)) (BS_num (BS_m2 m))
theorem c46 {m : Nat} (hm : m + 7 ≤ 210) (N : Mm) : bd (f_X12_readMan_46 N (nI m)) f_X12_readLine_82 = bd (f_X12_step N) fun N1 => bd (f_X12_name N1 10 14) (mt1 m) := by
  have k : ∀ j, j < 7 → ∀ (x : Option Mm), ck (inn (nI (m + j)) 210) x = x := fun j hj x => ck_n (by omega) (by decide)
  have k0 : ∀ (x : Option Mm), ck (inn (nI m) 210) x = x := fun x => ck_n (by omega) (by decide)
  have c : ∀ j, j < 7 → (nI (m + j)).toNatClampNeg = m + j := fun j hj => nI_clamp (by omega)
  unfold f_X12_readMan_46 f_X12_readMan_166 mt1 mt2 mt3 mt4 mt5 drs
  simp only [bd_bd, bd_ck, bd_wr, bd_ite, bd_s, show nI m + 1 = nI (m + 1) from nIa (b := 1) rfl, show nI m + 2 = nI (m + 2) from nIa (b := 2) rfl, show nI m + 3 = nI (m + 3) from nIa (b := 3) rfl, show nI m + 4 = nI (m + 4) from nIa (b := 4) rfl, show nI m + 5 = nI (m + 5) from nIa (b := 5) rfl, show nI m + 6 = nI (m + 6) from nIa (b := 6) rfl, k 1 (by decide), k 2 (by decide), k 3 (by decide), k 4 (by decide), k 5 (by decide), k 6 (by decide), k0, c 1 (by decide), c 2 (by decide), c 3 (by decide), c 4 (by decide), c 5 (by decide), c 6 (by decide), nI_clamp (show m < 2 ^ 31 by omega), wr_e]
theorem BS_46 {g : Gg} (hg : OKg g) {m : Nat} (hm : m + 7 ≤ 210) : BS g fun N => bd (f_X12_readMan_46 N (nI m)) f_X12_readLine_82 := by
  have e : (fun N => bd (f_X12_readMan_46 N (nI m)) f_X12_readLine_82) = fun N => bd (f_X12_step N) fun N1 => bd (f_X12_name N1 (nI 10) (nI 14)) (mt1 m) := funext fun N => c46 hm N
  rw [e]
  exact BS_step (BS_name hg (by decide) (by decide) (fun s _ => BS_m1 m (nI s)))
theorem kind_x {M : Mm} {a s : Nat} (hs : s ≤ 4) (i : ∀ v, v < 16 → f_X9_isNamed M v = some (if v = 10 + s then 1 else 0)) {M0 : Mm} (t : f_X9_readToken M0 = some (1, M)) : f_X9_readKind M0 a = some (1, wI M a 1 (nI s)) := by
  unfold f_X9_readKind f_X9_readKind_104
  have hs5 : s = 0 ∨ s = 1 ∨ s = 2 ∨ s = 3 ∨ s = 4 := by omega
  rw [t, bd_s]
  dsimp only
  rw [if_neg (by decide), i 10 (by decide), i 11 (by decide), i 12 (by decide), i 13 (by decide), i 14 (by decide)]
  rcases hs5 with rfl | rfl | rfl | rfl | rfl <;> rfl
theorem kind_n {M : Mm} {a : Nat} (i : ∀ v, 10 ≤ v → v ≤ 14 → f_X9_isNamed M v = some 0) {M0 : Mm} (t : f_X9_readToken M0 = some (1, M)) : f_X9_readKind M0 a = some (0, wI (wI M 1 3 2) 1 4 (M.1 1 6)) := by
  unfold f_X9_readKind
  rw [t, bd_s]
  dsimp only
  rw [if_neg (by decide), i 10 (by decide) (by decide), i 11 (by decide) (by decide), i 12 (by decide) (by decide), i 13 (by decide) (by decide), i 14 (by decide) (by decide)]
  rfl
theorem seq_rk {g : Gg} (hg : OKg g) {X Y M N : Mm} {q q0 a : Nat} {K : Int32 × Mm → Option (Int32 × Mm)} {KN : Int32 × Mm → Option Mm} (C : CS g X Y q M N) (hB : ∀ s, s ≤ 4 → BS g fun N => KN (nI s, N))
    (hK : ∀ s M2 N2 st2 q2, s ≤ 4 → q ≤ st2 → AS g X Y st2 q2 M2 N2 → LSg g q0 (K (1, wI M2 a 1 (nI s))) (bd (f_X12_step N2) fun N3 => KN (nI s, N3))) :
    LSg g q0 (bd (f_X9_readKind M a) fun p => if p.1 = 0 then some (0, p.2) else K p) (bd (f_X12_step N) fun N1 => bd (f_X12_name N1 10 14) KN) := by
  rcases tok_sim hg C with ⟨M2, N2, st, q2, e1, e2, h, A2⟩ | ⟨M2, N2, e1, e2, F⟩
  · obtain ⟨B2a, B2b, B2c⟩ := A2.bad (c := 2) (by decide) (by decide)
    obtain ⟨r, n1, n2⟩ := name_sim hg A2
    rw [e2, bd_s]
    unfold f_X12_name f_X12_name_24
    rw [n1, bd_s, show f_X12_in r.toInt64 (10 : Int32).toInt64 (14 : Int32).toInt64 = some (b2 (inR r 10 14)) from e_inI r 10 14, bd_s]
    have bad : (∀ v, 10 ≤ v → v ≤ 14 → f_X9_isNamed M2 v = some 0) → ¬ inR r 10 14 → LSg g q0 (bd (f_X9_readKind M a) fun p => if p.1 = 0 then some (0, p.2) else K p) (bd (if b2 (inR r 10 14) = 0 then bd (f_X12_fails N2 2) fun p7 => bd (f_X12_step p7) fun p2 => some ((10 : Int32) - 10, p2) else bd (f_X12_step N2) fun p2 => some (r - 10, p2)) KN) := by
      intro i hr
      rw [kind_n (a := a) i e1, bd_s]
      dsimp only
      rw [if_pos rfl, if_pos (b2_0.mpr hr), show f_X12_fails N2 2 = _ from B2b, bd_s, step_b B2c.2.1, bd_s, bd_s]
      exact LSg.bad (K := fun N => KN (nI 0, N)) B2c (hB 0 (by decide))
    rcases n2 with ⟨er, i⟩ | ⟨w, hw, er, i⟩
    · exact bad (fun v h1 h2 => i v (by omega)) (by rw [er]; decide)
    · by_cases z : 10 ≤ w ∧ w ≤ 14
      · have hin : inR r 10 14 := by
          rw [er]
          exact ⟨nI_le (a := 10) (by omega) (by omega), nI_le (b := 14) (by omega) (by omega)⟩
        rw [kind_x (a := a) (s := w - 10) (by omega) (fun v hv => by rw [i v hv, show 10 + (w - 10) = w by omega]) e1, bd_s]
        dsimp only
        rw [if_neg (by decide), if_neg (fun z => b2_0.mp z hin), bd_bd, show r - 10 = nI (w - 10) from by rw [er]; exact pk_sub (b := 10) (by omega)]
        exact hK (w - 10) M2 N2 st q2 (by omega) h A2
      · refine bad (fun v h1 h2 => by rw [i v (by omega), if_neg (by omega)]) (fun y => z ?_)
        rw [er] at y
        exact ⟨(nI_leI (a := 10) (by omega) (by omega)).mp y.1, (nI_leI (b := 14) (by omega) (by omega)).mp y.2⟩
  · unfold f_X9_readKind
    rw [e1, e2, bd_s, bd_s]
    dsimp only
    rw [if_pos rfl, bd_s]
    dsimp only
    rw [if_pos rfl]
    exact LSg.bad (K := fun N => bd (f_X12_name N 10 14) KN) F (BS_name hg (lo := 10) (hi := 14) (by decide) (by decide) (fun s hs => hB s (by omega)))
/-- the dress and the end of the line -/
theorem seq_dress {g : Gg} (hg : OKg g) {X Y Y2 M N : Mm} {q q0 a m : Nat} {P : Mm → Mm} (C : CS g X Y q M N) (p : PW g Y Y2 P) (ha : ∀ v, isB v → OXv g a 6 v) (hm : a ≠ 1) (h0 : q0 ≤ q) (D1 : DR g.2.2.1 (wI X a 6 1) Y2) (D0 : DR g.2.2.1 (wI X a 6 0) (wI Y2 5 (m + 6) 1)) : LSg g q0 (f_X9_readDress M a) (bd (f_X12_step N) fun N1 => drs m (P N1)) := by
  unfold f_X9_readDress
  rcases tok_sim hg C with ⟨M2, N2, st, q2, e1, e2, h, A⟩ | ⟨M2, N2, e1, e2, F⟩
  · rw [e1, e2, bd_s, bd_s]
    dsimp only
    rw [if_neg (by decide)]
    have A2 := p.1 _ _ _ _ _ A
    have hq : q0 ≤ q2 := by have := A2.2.1; omega
    obtain ⟨B2a, B2b, B2c⟩ := A2.bad (c := 2) (by decide) (by decide)
    obtain ⟨r, n1, n2⟩ := name_sim hg A2
    unfold drs f_X9_readDress_24 f_X9_readDress_45
    rw [if_pos A2.1.2.2.2.2.1]
    have no : f_X9_isNamed M2 15 = some 0 → ¬ inR r 15 15 → LSg g q0 (bd (f_X9_isNamed M2 15) fun p5 => if p5 = 0 then ck (isB (1 : Int32)) (wr (wI M2 a 6 1) fun M1 => if M1.1 a 6 = 0 then bd (f_X9_readSemicolon M1) fun p6 => ck (isB p6.1) (some (p6.1, p6.2)) else bd (f_X9_isSemicolon M1) fun p8 => ck (isB p8.1) (some (p8.1, p8.2))) else ck (isB (0 : Int32)) (wr (wI M2 a 6 0) fun M1 => if M1.1 a 6 = 0 then bd (f_X9_readSemicolon M1) fun p6 => ck (isB p6.1) (some (p6.1, p6.2)) else bd (f_X9_isSemicolon M1) fun p8 => ck (isB p8.1) (some (p8.1, p8.2)))) (if (P N2).1 0 23 = 1 then bd (f_X12_name (P N2) 15 15) fun p => f_X12_readLine_82 (wI p.2 5 (m + 6) 1) else f_X12_readLine_82 (P N2)) := by
      intro i hr
      rw [i, bd_s, if_pos rfl, ck_t (Or.inr rfl), wr_e, mIs, if_neg (by decide)]
      have A3 := A2.wV (a := a) (k := 6) (ha 1 (Or.inr rfl))
      have sm := semi_A (q0 := q0) A3 D1 hq
      by_cases k : (P N2).1 0 23 = 1
      · obtain ⟨B3a, B3b, B3c⟩ := A3.bad (c := 2) (by decide) (by decide)
        have k5 : ¬ (wI M2 a 6 1).1 1 5 = 3 := by
          obtain ⟨kind, val, -, -, -, -, u8, u9, -⟩ := A3.2.2.2.2
          rw [u8, ← u9, k]
          decide
        rw [if_pos k]
        unfold f_X12_name f_X12_name_24 f_X9_isSemicolon f_X9_isSemicolon_25
        rw [if_neg k5, show f_X9_refuse (wI M2 a 6 1) 2 ((wI M2 a 6 1).1 1 6) = _ from B3a, bd_s]
        dsimp only
        rw [if_pos rfl, ck_t (Or.inl rfl), bd_s]
        dsimp only
        rw [ck_t (Or.inl rfl), n1, bd_s, show f_X12_in r.toInt64 (15 : Int32).toInt64 (15 : Int32).toInt64 = some (b2 (inR r 15 15)) from e_inI r 15 15, bd_s, if_pos (b2_0.mpr hr), show f_X12_fails (P N2) 2 = _ from B3b, bd_s, step_b B3c.2.1, bd_s, bd_s]
        exact LSg.bad (K := fun N => f_X12_readLine_82 (wI N 5 (m + 6) 1)) B3c (BS_w (K := f_X12_readLine_82) (v := fun _ => 1) (Or.inl (by decide)) BS_82)
      · rw [if_neg k]
        exact sm.ck
    rcases n2 with ⟨er, i⟩ | ⟨w, hw, er, i⟩
    · exact no (i 15 (by decide)) (by rw [er]; decide)
    · by_cases z : w = 15
      · have hin : inR r 15 15 := by
          rw [er, z]
          decide
        have i15 : f_X9_isNamed M2 15 = some 1 := by rw [i 15 (by decide), if_pos z.symm]
        have k : (P N2).1 0 23 = 1 := by
          obtain ⟨kind, val, -, -, -, -, u8, u9, -⟩ := A2.2.2.2.2
          rw [u9, ← u8]
          exact named_5 i15
        rw [i15, bd_s, if_neg (by decide), ck_t (Or.inl rfl), wr_e, mIs, if_pos rfl, if_pos k]
        unfold f_X12_name f_X12_name_24
        rw [n1, bd_s, show f_X12_in r.toInt64 (15 : Int32).toInt64 (15 : Int32).toInt64 = some (b2 (inR r 15 15)) from e_inI r 15 15, bd_s, if_neg (fun z => b2_0.mp z hin), bd_bd]
        exact (seq_semi (P := fun N => wI N 5 (m + 6) 1) hg (A2.1.wV (ha 0 (Or.inl rfl))) (PW.w (Or.inl (by decide)) 1) D0 hq).ck
      · refine no (by rw [i 15 (by decide), if_neg (by omega)]) (fun y => z ?_)
        rw [er] at y
        have := (nI_leI (a := 15) (by omega) (by omega)).mp y.1
        omega
  · rw [e1, e2, bd_s, bd_s]
    dsimp only
    rw [if_pos rfl]
    exact LSg.bad (K := drs m) (F.p p) (BS_if (A := fun N => if N.1 0 23 = 1 then bd (f_X12_name N 15 15) fun p => f_X12_readLine_82 (wI p.2 5 (m + 6) 1) else f_X12_readLine_82 N) BS_82)
