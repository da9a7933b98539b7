-- the reference's sum over the sets of hours
theorem nI_b31 {x j : Nat} (hx : x < 2 ^ 31) : (nI x).toBitVec.getLsbD j = x.testBit j := by
  show (Int32.ofNat x).toBitVec.getLsbD j = _
  rw [Int32.toBitVec_ofNat', BitVec.getLsbD_ofNat]
  by_cases e : j < 32
  · simp [e]
  · have : x.testBit j = false := Nat.testBit_lt_two_pow (Nat.lt_of_lt_of_le hx (Nat.pow_le_pow_right (n := 2) (by decide) (show 31 ≤ j by omega)))
    simp [this]
theorem bt_t31 {x i : Nat} (hx : x < 2 ^ 31) (hi : i < 31) : bt (nI x) i = if x.testBit i then 1 else 0 := by
  obtain ⟨b, hb, e⟩ := bt_n (nI x) i
  have h := bt_bit (x := nI x) hi
  rw [nI_b31 hx] at h
  by_cases g : x.testBit i = true
  · rw [if_pos g, e]
    have : b ≠ 0 := fun z => by
      rw [z] at e
      have := h.mp e
      rw [g] at this
      exact absurd this (by decide)
    exact congrArg nI (show b = 1 by omega)
  · have g2 : x.testBit i = false := by simpa using g
    rw [h.mpr g2, if_neg g]
theorem sh_amt : ∀ k, k ≤ 12 → ((nI k &&& 31).toBitVec.smod 32).toNat = k := by decide +kernel
theorem sh_n {x now t : Nat} (hx : x < 2 ^ t) (ht : now + t ≤ 12) : nI x <<< (nI now &&& 31) = nI (x * 2 ^ now) ∧ x * 2 ^ now < 4096 := by
  have h : x * 2 ^ now < 4096 := by
    have h1 : x * 2 ^ now < 2 ^ t * 2 ^ now := Nat.mul_lt_mul_of_pos_right hx (Nat.pow_pos (by decide))
    rw [← Nat.pow_add] at h1
    have h2 : 2 ^ (t + now) ≤ 2 ^ 12 := Nat.pow_le_pow_right (by decide) (by omega)
    exact Nat.lt_of_lt_of_le h1 h2
  exact ⟨pk_shlN _ now (sh_amt now (by omega)) (by omega), h⟩
theorem ls_bit {R : Pg} {s i now j t x : Nat} (hx : x < 2 ^ t) (ht : now + t ≤ 12) (hj : j < t) : lsN R s i (nI x <<< (nI now &&& 31)) (now + j) = if x.testBit j then lsN R s i 4095 (now + j) else lsN R s i 0 (now + j) := by
  obtain ⟨h1, h2⟩ := sh_n hx ht
  have hb : (x * 2 ^ now).testBit (now + j) = x.testBit j := by
    rw [← Nat.shiftLeft_eq, Nat.testBit_shiftLeft, Nat.add_sub_cancel_left]
    simp
  have hz : ∀ y, bt (nI x <<< (nI now &&& 31)) (now + j) = bt y (now + j) → lsN R s i (nI x <<< (nI now &&& 31)) (now + j) = lsN R s i y (now + j) := fun y e => by
    unfold lsN lsI
    rw [e]
  have e : bt (nI x <<< (nI now &&& 31)) (now + j) = if x.testBit j then 1 else 0 := by
    rw [h1, bt_t31 (by omega) (by omega), hb]
  by_cases g : x.testBit j = true
  · rw [if_pos g]
    exact hz 4095 (by rw [e, if_pos g, bt_all _ (by omega)])
  · rw [if_neg g]
    exact hz 0 (by rw [e, if_neg g, bt_0])
theorem SN_ml {R : Pg} {s i now t x : Nat} (hx : x < 2 ^ t) (ht : now + t ≤ 12) : ∀ n, n ≤ t → SN (lsN R s i (nI x <<< (nI now &&& 31))) now n = ml (fun j => lsN R s i 0 (now + j)) (fun j => lsN R s i 4095 (now + j)) n x := by
  intro n
  induction n with
  | zero => intro _; rfl
  | succ n ih =>
    intro hn
    show SN _ now n + lsN R s i (nI x <<< (nI now &&& 31)) (now + n) = ml _ _ n x + (if x.testBit n then _ else _)
    rw [ih (by omega), ls_bit hx ht (by omega)]
theorem od108 {N : Mm} {x1 x2 x3 x4 : Int32} {j6 j8 : Int64} {c t x : Nat} {k93 : Mm → Int64 → Int32 → Option (Int64 × Mm)} (hc : c ≤ 10) (ec : N.1 0 6 = nI c) (ht : t ≤ 12) (hx : x < 2 ^ t) : ∀ n j, j ≤ t → t < j + n →
    f_X12_odds_108 k93 N x1 x2 x3 x4 (nI t) j6 j8 (nI x) n (lN (wt c j x)) (nI j) = f_X12_odds_153 k93 N x1 x2 x3 x4 (nI t) j6 j8 (nI x) (lN (wt c t x)) := by
  have hx31 : x < 2 ^ 31 := Nat.lt_of_lt_of_le hx (Nat.pow_le_pow_right (by decide) (by omega))
  intro n
  induction n with
  | zero => intro j q1 q2; omega
  | succ n ih =>
    intro j q1 q2
    have st : f_X12_odds_108 k93 N x1 x2 x3 x4 (nI t) j6 j8 (nI x) (n + 1) (lN (wt c j x)) (nI j) = b_X12_odds_108 k93 (fun j11 x13 => f_X12_odds_108 k93 N x1 x2 x3 x4 (nI t) j6 j8 (nI x) n j11 x13) N x1 x2 x3 x4 (nI t) j6 j8 (nI x) (lN (wt c j x)) (nI j) := rfl
    rw [st]
    unfold b_X12_odds_108 f_X12_odds_144
    by_cases e : j = t
    · subst e
      rw [if_pos (nI_le (Nat.le_refl _) (by omega))]
    · have hw : wt c (j + 1) x = wt c j x * (if x.testBit j then c else 10 - c) := rfl
      rw [if_neg (nI_ge (by omega) (by omega)), show (nI x >>> (nI j &&& 31)) &&& 1 = bt (nI x) j from rfl, bt_t31 hx31 (by omega), ec, show (10 : Int32) - nI c = nI (10 - c) from pk_sub (a := 10) hc, nI_l (by omega), nI_l (by omega), lN_mul, lN_mul, nm_x, nm_x, n1]
      by_cases g : x.testBit j = true
      · rw [if_pos g] at hw
        rw [if_pos g, if_pos rfl, ← hw]
        exact ih (j + 1) (by omega) (by omega)
      · rw [if_neg g] at hw
        rw [if_neg g, if_neg (by decide), ← hw]
        exact ih (j + 1) (by omega) (by omega)
def gO (R Tr : Pg) (T s i now t c : Nat) : Nat → Nat := fun x => wt c t x * (if suit R Tr (mo 0 s i) ∧ T + ml (fun j => lsN R s i 0 (now + j)) (fun j => lsN R s i 4095 (now + j)) t x ≤ hdN R s i then 0 else 1)
theorem one_sh : ∀ t, t ≤ 12 → (1 : Int32) <<< (nI t &&& 31) = nI (2 ^ t) := by decide +kernel
theorem od93 {M N : Mm} {p F now t s i c T : Nat} {x4 : Int32} {j6 : Int64} (H : RelP p F M N) (hs : s < 2) (hi : i < F) (m0 : N.1 1 (mo 0 s i) = 1) (eN : N.1 1 170 = nI now) (ht : now + t ≤ 12) (hc : c ≤ 10) (ec : N.1 0 6 = nI c) (hT1 : 1 ≤ T) (hT : T ≤ 99) (eT : N.1 3 0 = nI T) : ∀ n x r, x ≤ 2 ^ t → 2 ^ t < x + n → (∀ y, y < 630 → r y = N.1 1 y) →
    ∃ r2, f_X12_odds_93 (nI s) (nI i) (nI (now + t)) x4 (nI t) j6 n (wR N 1 r) (lN (sg (gO (N.1 1) (N.1 3) T s i now t c) x)) (nI x) = f_X12_odds_195 (wR N 1 r2) x4 j6 (lN (sg (gO (N.1 1) (N.1 3) T s i now t c) (2 ^ t))) ∧ ∀ y, y < 630 → r2 y = N.1 1 y := by
  have p12 : 2 ^ t ≤ 2 ^ 12 := Nat.pow_le_pow_right (by decide) (by omega)
  have w12 : ∀ x, wt c t x < 2 ^ 63 := fun x => Nat.lt_of_le_of_lt (wt_le hc t x) (Nat.lt_of_le_of_lt (Nat.pow_le_pow_right (by decide) (show t ≤ 12 by omega)) (by decide))
  obtain ⟨h1, h2⟩ := H.hd hs hi m0
  intro n
  induction n with
  | zero => intro x r q1 q2; omega
  | succ n ih =>
    intro x r q1 q2 hr
    have st : f_X12_odds_93 (nI s) (nI i) (nI (now + t)) x4 (nI t) j6 (n + 1) (wR N 1 r) (lN (sg (gO (N.1 1) (N.1 3) T s i now t c) x)) (nI x) = b_X12_odds_93 (fun M j8 x10 => f_X12_odds_93 (nI s) (nI i) (nI (now + t)) x4 (nI t) j6 n M j8 x10) (nI s) (nI i) (nI (now + t)) x4 (nI t) j6 (wR N 1 r) (lN (sg (gO (N.1 1) (N.1 3) T s i now t c) x)) (nI x) := rfl
    rw [st]
    unfold b_X12_odds_93
    rw [one_sh t (by omega)]
    by_cases e : x = 2 ^ t
    · rw [e, if_pos (Int32.le_refl _)]
      exact ⟨r, rfl, hr⟩
    · have hx : x < 2 ^ t := by omega
      rw [if_neg (nI_ge (by omega) (by omega)), show f_X12_odds_108 (fun M j8 x10 => f_X12_odds_93 (nI s) (nI i) (nI (now + t)) x4 (nI t) j6 n M j8 x10) (wR N 1 r) (nI s) (nI i) (nI (now + t)) x4 (nI t) j6 (lN (sg (gO (N.1 1) (N.1 3) T s i now t c) x)) (nI x) FU 1 0 = _ from od108 (N := wR N 1 r) hc (by rw [wR_ne (by decide)]; exact ec) (by omega) (show x < 2 ^ t by omega) FU 0 (by omega) (by show t < 0 + 5000; omega)]
      unfold f_X12_odds_153 f_X12_odds_185 f_X12_odds_186
      have hS : sg (gO (N.1 1) (N.1 3) T s i now t c) (x + 1) = sg (gO (N.1 1) (N.1 3) T s i now t c) x + gO (N.1 1) (N.1 3) T s i now t c x := rfl
      by_cases g : wt c t x = 0
      · have hg : gO (N.1 1) (N.1 3) T s i now t c x = 0 := by
          unfold gO
          rw [g, Nat.zero_mul]
        have hS0 : sg (gO (N.1 1) (N.1 3) T s i now t c) (x + 1) = sg (gO (N.1 1) (N.1 3) T s i now t c) x := by rw [hS, hg]; rfl
        rw [if_pos ((lg0 (w12 x)).2.mpr g), nm_x, Int64.add_zero, n1, ← hS0]
        exact ih (x + 1) r (by omega) (by omega) hr
      · rw [if_neg (fun z => g ((lg0 (w12 x)).2.mp z)), hnow_n (show (wR N 1 r).1 1 170 = nI now by rw [wR_row, hr _ (by decide)]; exact eN), bd_s]
        obtain ⟨w, r2, a1, a2, a3⟩ := hold_spec2 (k := 0) (r := r) (x4 := nI x <<< (nI now &&& 31)) H hr eN (by omega) hs hi m0 h2 (by omega) hT1 hT eT
        have a4 := hold_lt (n := hdN (N.1 1) s i) (t := now + t) (e := 0) (Nat.le_add_right _ _) ht a3
        clear a3
        rw [Nat.add_sub_cancel_left, SN_ml hx ht t (Nat.le_refl _), Int32.not_lt] at a4
        rw [show f_X12_holdsTo (wR N 1 r) (nI s) (nI i) 0 (nI x <<< (nI now &&& 31)) = _ from a1, bd_s]
        by_cases g2 : nI (now + t) ≤ w
        · have hg : gO (N.1 1) (N.1 3) T s i now t c x = 0 := by
            unfold gO
            rw [if_pos (a4.mp g2), Nat.mul_zero]
          have hS0 : sg (gO (N.1 1) (N.1 3) T s i now t c) (x + 1) = sg (gO (N.1 1) (N.1 3) T s i now t c) x := by rw [hS, hg]; rfl
          rw [if_pos g2, nm_x, Int64.add_zero, n1, ← hS0]
          exact ih (x + 1) r2 (by omega) (by omega) a2
        · have hg : gO (N.1 1) (N.1 3) T s i now t c x = wt c t x := by
            unfold gO
            rw [if_neg (fun z => g2 (a4.mpr z)), Nat.mul_one]
          rw [hg] at hS
          rw [if_neg g2, nm_x, lN_add, n1, ← hS]
          exact ih (x + 1) r2 (by omega) (by omega) a2
theorem gO_num {R Tr : Pg} {T s i now t c : Nat} (hc : c ≤ 10) (hT1 : 1 ≤ T) : sg (gO R Tr T s i now t c) (2 ^ t) = numO R Tr T s i now t c := by
  unfold numO
  by_cases g : suit R Tr (mo 0 s i)
  · rw [if_pos g]
    refine sg_c (fun v _ => ?_)
    unfold gO
    by_cases e : T + ml (fun j => lsN R s i 0 (now + j)) (fun j => lsN R s i 4095 (now + j)) t v ≤ hdN R s i
    · rw [if_pos ⟨g, e⟩, if_neg (by omega)]
    · rw [if_neg (fun z => e z.2), if_pos (by omega)]
  · rw [if_neg g, ← sets_1 hc t]
    refine sg_c (fun v _ => ?_)
    unfold gO
    rw [if_neg (fun z => g z.1)]
theorem od66 {N : Mm} {x1 x2 x3 x4 : Int32} {t : Nat} (ht : t ≤ 12) : ∀ n j, j ≤ t → t < j + n → f_X12_odds_66 N x1 x2 x3 x4 (nI t) n (lN (10 ^ j)) (nI j) = f_X12_odds_87 N x1 x2 x3 x4 (nI t) (lN (10 ^ t)) := by
  intro n
  induction n with
  | zero => intro j q1 q2; omega
  | succ n ih =>
    intro j q1 q2
    have st : f_X12_odds_66 N x1 x2 x3 x4 (nI t) (n + 1) (lN (10 ^ j)) (nI j) = b_X12_odds_66 (fun j6 x8 => f_X12_odds_66 N x1 x2 x3 x4 (nI t) n j6 x8) N x1 x2 x3 x4 (nI t) (lN (10 ^ j)) (nI j) := rfl
    rw [st]
    unfold b_X12_odds_66
    by_cases e : j = t
    · subst e
      rw [if_pos (nI_le (Nat.le_refl _) (by omega))]
    · rw [if_neg (nI_ge (by omega) (by omega)), nm_x, ten_S, n1]
      exact ih (j + 1) (by omega) (by omega)
def WJ (x y : Option (Int64 × Mm)) : Prop := ∃ r M N, x = some (r, M) ∧ y = some (r, N) ∧ Rel M N
theorem WJ.no {M N : Mm} (R : Rel M N) (r : Int64) : WJ (some (r, M)) (some (r, N)) := ⟨r, M, N, rfl, rfl, R⟩
theorem s_odds {M N : Mm} (R : Rel M N) (x1 x2 x3 x4 : Int32) : WJ (f_X11_odds M x1 x2 x3 x4) (f_X12_odds N x1 x2 x3 x4) := by
  obtain ⟨p, F, H⟩ := id R
  have hF := H.1.2.2.2.2.1
  obtain ⟨now, hnow, eN, eM⟩ := H.hr
  unfold f_X11_odds f_X12_odds f_X11_odds_33 f_X12_odds_34
  rw [e_isSide, e_ySide, bd_s, bd_s]
  by_cases g1 : inR x1 0 1
  · rw [if_neg (fun q => b2_0.mp q g1), if_neg (fun q => b2_0.mp q g1), H.fX, H.fY, bd_s, bd_s]
    obtain ⟨s, hs, rfl⟩ := side_n g1
    by_cases g2 : inR x2 0 (nI (F - 1))
    · rw [if_neg (fun q => b2_0.mp q g2), if_neg (fun q => b2_0.mp q g2), H.nX, e_yAhead, bd_s, bd_s]
      obtain ⟨i, hi, rfl⟩ := fur_n H.1.2.2.2.1 H.1.2.2.2.2.1 g2
      by_cases g3 : inR x3 (N.1 1 170) 12
      · rw [if_neg (fun q => b2_0.mp q g3), if_neg (fun q => b2_0.mp q g3), e_isAmong, bd_s, show f_X12_in x4.toInt64 (0 : Int64) (1 : Int64) = some (b2 (inR x4 0 1)) from e_inI x4 0 1, bd_s]
        by_cases g4 : inR x4 0 1
        · rw [if_neg (fun q => b2_0.mp q g4), if_neg (fun q => b2_0.mp q g4), H.ld, e_manOf hs (by omega), bd_s, show f_X12_isThere N 0 (nI s) (nI i) = some (b2 (N.1 1 (mo 0 s i) = 1)) from isThere_y (t := 0) hs (by omega) (by decide), bd_s]
          have hm := H.2.1.1.1 (10 * s + i) (by omega)
          rw [show 0 + 7 * (10 * s + i) = mo 0 s i from rfl] at hm
          by_cases m0 : N.1 1 (mo 0 s i) = 1
          · rw [eN] at g3
            obtain ⟨y, hy, rfl⟩ : ∃ y, y ≤ 12 ∧ x3 = nI y := inR_n (n := 12) (by omega) ⟨Int32.le_trans (nI_pos' (n := now) (by omega)) g3.1, g3.2⟩
            have hny : now ≤ y := (nI_leI (by omega) (by omega)).mp g3.1
            obtain ⟨t, rfl⟩ : ∃ t, y = now + t := ⟨y - now, by omega⟩
            obtain ⟨⟨T, hT1, hT2, eT⟩, ⟨c, hc, c1, c2⟩, -⟩ := H.2.2.1.2
            have p10 : 10 ^ t ≤ 10 ^ 12 := Nat.pow_le_pow_right (by decide) (by omega)
            have p0 : 0 < 10 ^ t := Nat.pow_pos (by decide)
            obtain ⟨M2, a1, a2, a3, a4, a5⟩ := e_weighO H hs hi m0 eN hy hc c1 hT2 eT
            obtain ⟨r2, b1, b3⟩ := od93 (x4 := x4) (j6 := lN (10 ^ t)) H hs hi m0 eN hy hc c2 hT1 hT2 eT FU 0 (N.1 1) (Nat.zero_le _) (by
              have : 2 ^ t ≤ 2 ^ 12 := Nat.pow_le_pow_right (by decide) (by omega)
              show 2 ^ t < 0 + 5000
              omega) (fun _ _ => rfl)
            rw [wR_self] at b1
            rw [if_neg (show ¬ M.1 (lx p + 5 + 11 + (10 * s + i)) 0 = 0 by rw [hm.1.1, m0]; decide), if_neg (fun q => b2_0.mp q m0), a1, bd_s, hnow_n eN, bd_s, nm_x, show nI (now + t) - nI now = nI t from by rw [pk_sub (by omega), Nat.add_sub_cancel_left], show f_X12_odds_66 N (nI s) (nI i) (nI (now + t)) x4 (nI t) FU 1 0 = _ from od66 (show t ≤ 12 by omega) FU 0 (by omega) (by show t < 0 + 5000; omega)]
            unfold f_X12_odds_87 f_X11_odds_95
            rw [show f_X12_odds_93 (nI s) (nI i) (nI (now + t)) x4 (nI t) (lN (10 ^ t)) FU N 0 0 = _ from b1, gO_num hc hT1, a3, a4]
            unfold f_X12_odds_195
            rw [e_lowest a5 p10 p0, bd_s]
            have R2 : Rel M2 (wR N 1 r2) := ⟨p, F, (H.m1 a2).cgn b3⟩
            by_cases x0 : x4 = 0
            · rw [if_pos x0, if_pos x0]
              exact WJ.no R2 _
            · rw [if_neg x0, if_neg x0]
              exact WJ.no R2 _
          · have z : N.1 1 (mo 0 s i) = 0 := by
              rcases hm.2.1 with z | z
              · exact z
              · exact absurd z m0
            rw [if_pos (show M.1 (lx p + 5 + 11 + (10 * s + i)) 0 = 0 by rw [hm.1.1, z]), if_pos (b2_0.mpr m0)]
            exact WJ.no R _
        · rw [if_pos (b2_0.mpr g4), if_pos (b2_0.mpr g4)]
          exact WJ.no R _
      · rw [if_pos (b2_0.mpr g3), if_pos (b2_0.mpr g3)]
        exact WJ.no R _
    · rw [if_pos (b2_0.mpr g2), if_pos (b2_0.mpr g2)]
      exact WJ.no R _
  · rw [if_pos (b2_0.mpr g1), if_pos (b2_0.mpr g1)]
    exact WJ.no R _
