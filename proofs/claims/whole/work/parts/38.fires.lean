-- BRAZIERS LIT AND QUENCHED, THE FELT HEATS
theorem ScR.fire {M M2 : Mm} {a t : Nat} {r r2 : Pg} (H : ScR M a r t) (h1 : ∀ j, (j < 6 ∨ (11 ≤ j ∧ j < 31)) → M2.1 (a + j) = M.1 (a + j)) (h2 : ∀ x, x < 183 → r2 (t + x) = r (t + x)) (hb : BrR M2 (a + 6) (fun x => r2 (t + x))) : ScR M2 a r2 t := by
  obtain ⟨hm, hs, hh0, hsun, -⟩ := H
  have e : ∀ x, t ≤ x → x < t + 183 → r2 x = r x := fun x q1 q2 => by rw [show x = t + (x - t) by omega]; exact h2 _ (by omega)
  refine ⟨fun k hk => (hm k hk).same (by have := h1 (11 + k) (by omega); rw [← Nat.add_assoc] at this; exact this) (fun f hf => e _ (by omega) (by omega)), fun j hj => ?_, ?_, fun h hh => ?_, hb⟩
  · rw [h1 2 (by omega), h1 3 (by omega), h1 4 (by omega), e _ (by omega) (by omega), e _ (by omega) (by omega), e _ (by omega) (by omega)]
    exact hs j hj
  · rw [e _ (by omega) (by omega)]
    have := h1 0 (by omega)
    rw [show M2.1 a = M.1 a from this]
    exact hh0
  · rw [h1 5 (by omega), e _ (by omega) (by omega)]
    exact hsun h hh
theorem InvR.fire {r r2 : Pg} {t : Nat} (H : InvR r t) (h2 : ∀ x, x < 183 → r2 (t + x) = r (t + x)) (hb : BrI (fun x => r2 (t + x))) : InvR r2 t := by
  obtain ⟨i1, i2, i3, ⟨h, hh, i4⟩, -⟩ := H
  have e : ∀ x, t ≤ x → x < t + 183 → r2 x = r x := fun x q1 q2 => by rw [show x = t + (x - t) by omega]; exact h2 _ (by omega)
  refine ⟨fun k hk => ?_, fun j hj => ?_, fun h9 hh9 => ?_, ⟨h, hh, by rw [e _ (by omega) (by omega)]; exact i4⟩, hb⟩
  · rw [e _ (by omega) (by omega), e _ (by omega) (by omega)]
    exact i1 k hk
  · rw [e _ (by omega) (by omega)]
    exact i2 j hj
  · rw [e _ (by omega) (by omega)]
    exact i3 h9 hh9
theorem RelP.fires {p F : Nat} {M N M2 : Mm} {r : Pg} (H : RelP p F M N) (m1 : ∀ b, (b < lx p + 5 + 6 ∨ lx p + 5 + 6 + 5 ≤ b) → M2.1 b = M.1 b) (n2 : ∀ x, (x < 183 ∨ 208 ≤ x) → r x = N.1 1 x) (hb : BrR M2 (lx p + 5 + 6) r) (hi : BrI r) : Rel M2 (wR N 1 r) := by
  refine H.w1 (fun b hb => m1 b (by omega)) (fun x hx => n2 x (by omega)) (H.2.1.1.fire (fun j hj => m1 _ (by omega)) (fun x hx => n2 _ (by omega)) (by rw [sh0]; exact hb)) (H.2.1.2.1.fire (fun x hx => n2 _ (by omega)) (by rw [sh0]; exact hi)) ⟨fun s i hs q1 q2 => ?_, fun i q1 q2 => ?_⟩
  · rw [n2 _ (by unfold mo; omega)]
    exact H.2.1.2.2.1 s i hs q1 q2
  · rw [n2 _ (by omega), n2 _ (by omega)]
    exact H.2.1.2.2.2 i q1 q2
theorem e_isFull {M : Mm} {b c : Nat} (h : M.1 b 0 = nI c) (hc : c ≤ 6) : f_X0_isFull M b = some (if c < 6 then 0 else 1) := by
  unfold f_X0_isFull f_X0_isFull_14
  rw [h]
  by_cases e : c < 6
  · rw [if_pos (show nI c < 6 from nI_lt (b := 6) e (by omega)), if_pos e]
    rfl
  · rw [if_neg (show ¬ nI c < 6 from nI_nlt (b := 6) (by omega) (by omega)), if_neg e]
    rfl
theorem s_light {M N : Mm} (R : Rel M N) (x1 x2 x3 x4 : Int32) : WW (f_X11_light M x1 x2 x3 x4) (f_X12_light N x1 x2 x3 x4) := by
  obtain ⟨p, F, H⟩ := id R
  obtain ⟨c, h6, hc, hc2, hb, hBI⟩ := H.br
  unfold f_X11_light f_X12_light f_X11_light_18 f_X11_light_41 f_X12_light_41
  rw [H.fX, H.fY, bd_s, bd_s, H.ld]
  by_cases g1 : inR x1 0 (nI (F - 1))
  · rw [if_neg (fun q => b2_0.mp q g1), if_neg (fun q => b2_0.mp q g1), e_isAmong, bd_s, show f_X12_in x2.toInt64 (1 : Int64) (20 : Int64) = some (b2 (inR x2 1 20)) from e_inI x2 1 20, bd_s]
    by_cases g2 : inR x2 1 20
    · rw [if_neg (fun q => b2_0.mp q g2), if_neg (fun q => b2_0.mp q g2), e_isHour, e_yHour, bd_s, bd_s]
      by_cases g3 : inR x3 0 11
      · rw [if_neg (fun q => b2_0.mp q g3), if_neg (fun q => b2_0.mp q g3), e_isHour, bd_s, show f_X12_in x4.toInt64 x3.toInt64 (11 : Int64) = some (b2 (inR x4 x3 11)) from e_inI x4 x3 11, bd_s]
        by_cases g4 : inR x4 x3 11
        · have g5 : inR x4 0 11 := ⟨Int32.le_trans g3.1 g4.1, g4.2⟩
          rw [if_neg (fun q => b2_0.mp q g5), if_neg (fun q => b2_0.mp q g4), if_pos g4.1, nm_x, nm_x, e_isFull hc2 h6, bd_s, show (207 : Int32).toNatClampNeg = 207 from rfl, hc]
          by_cases g6 : c < 6
          · rw [if_pos g6, if_pos rfl, if_neg (show ¬ nI c = 6 from fun z => by have := (nI_eq (a := c) (b := 6) (by omega) (by omega)).mp z; omega)]
            obtain ⟨f, hf, rfl⟩ := fur_n H.1.2.2.2.1 H.1.2.2.2.2.1 g1
            obtain ⟨q, hq, rfl⟩ := inR_n (v := x2) (n := 20) (by omega) ⟨Int32.le_trans (by decide) g2.1, g2.2⟩
            obtain ⟨u, hu, rfl⟩ := hour_n g3
            obtain ⟨v, hv, rfl⟩ := hour_n g5
            have hF10 := H.1.2.2.2.2.1
            unfold f_X0_put
            have cc : (nI c).toNatClampNeg = c := nI_clamp (by omega)
            have e0 : (183 : Int32) + 4 * nI c = nI (183 + 4 * c) := by rw [show (4 : Int32) * nI c = nI (4 * c) from pk_mul 4 c]; exact nIa (a := 183) rfl
            have e1 : nI (183 + 4 * c) + 1 = nI (184 + 4 * c) := nIa (b := 1) (by omega)
            have e2 : nI (183 + 4 * c) + 2 = nI (185 + 4 * c) := nIa (b := 2) (by omega)
            have e3 : nI (183 + 4 * c) + 3 = nI (186 + 4 * c) := nIa (b := 3) (by omega)
            have d0 : (nI (183 + 4 * c)).toNatClampNeg = 183 + 4 * c := nI_clamp (by omega)
            have d1 : (nI (184 + 4 * c)).toNatClampNeg = 184 + 4 * c := nI_clamp (by omega)
            have d2 : (nI (185 + 4 * c)).toNatClampNeg = 185 + 4 * c := nI_clamp (by omega)
            have d3 : (nI (186 + 4 * c)).toNatClampNeg = 186 + 4 * c := nI_clamp (by omega)
            rw [e_isFull hc2 h6, bd_s, if_pos g6, if_pos rfl]
            simp only [wr_e, e0, e1, e2, e3, d0, d1, d2, d3]
            rw [ck_n (show 183 + 4 * c < 840 by omega) (by omega), ck_n (show 184 + 4 * c < 840 by omega) (by omega), ck_n (show 185 + 4 * c < 840 by omega) (by omega), ck_n (show 186 + 4 * c < 840 by omega) (by omega)]
            rw [hc2, ck_n g6 (by omega), cc, mIn (by omega), hc2, ck_n g6 (by omega), cc, mIn (by omega), mIn (by omega), hc2, ck_n g6 (by omega), cc, mIn (by omega), mIn (by omega), mIn (by omega), hc2, ck_n g6 (by omega), cc, mIn (by omega), mIn (by omega), mIn (by omega), mIn (by omega), hc2, bd_s, mIs, n1, mIn (by omega), mIn (by omega), mIn (by omega), mIn (by omega), hc, n1]
            refine ⟨_, _, _, rfl, rfl, ?_⟩
            rw [wI_R N, wIR, wIR, wIR, wIR]
            refine H.fires (fun b hb => ?_) (fun x hx => ?_) ⟨?_, fun j hj => ?_⟩ ⟨c + 1, by omega, upd_eq _ _ _, fun j hj => ?_⟩
            · rw [wI_o (by omega), wI_o (by omega), wI_o (by omega), wI_o (by omega), wI_o (by omega)]
            · rw [upd_ne (by omega), upd_ne (by omega), upd_ne (by omega), upd_ne (by omega), upd_ne (by omega)]
            · rw [mIs, upd_eq]
            · rw [upd_eq, nI_clamp (by omega)] at hj
              rw [wI_o (show lx p + 5 + 6 + 1 ≠ lx p + 5 + 6 by omega), wI_o (show lx p + 5 + 6 + 1 ≠ lx p + 5 + 6 + 4 by omega), wI_o (show lx p + 5 + 6 + 1 ≠ lx p + 5 + 6 + 3 by omega), wI_o (show lx p + 5 + 6 + 1 ≠ lx p + 5 + 6 + 2 by omega)]
              rw [wI_o (show lx p + 5 + 6 + 2 ≠ lx p + 5 + 6 by omega), wI_o (show lx p + 5 + 6 + 2 ≠ lx p + 5 + 6 + 4 by omega), wI_o (show lx p + 5 + 6 + 2 ≠ lx p + 5 + 6 + 3 by omega)]
              rw [wI_o (show lx p + 5 + 6 + 3 ≠ lx p + 5 + 6 by omega), wI_o (show lx p + 5 + 6 + 3 ≠ lx p + 5 + 6 + 4 by omega), wI_o (show lx p + 5 + 6 + 4 ≠ lx p + 5 + 6 by omega)]
              by_cases e : j = c
              · subst e
                rw [mIs, mIs, mIs, mIs, upd_ne (by omega), upd_ne (by omega), upd_ne (by omega), upd_ne (by omega), upd_eq, upd_ne (by omega), upd_ne (by omega), upd_ne (by omega), upd_eq, upd_ne (by omega), upd_ne (by omega), upd_eq, upd_ne (by omega), upd_eq]
                exact ⟨rfl, rfl, rfl, rfl⟩
              · have hj2 := hb j (by omega)
                rw [mIn (by omega), mIn (by omega), mIn (by omega), mIn (by omega), mIn (by omega), mIn (by omega), mIn (by omega), mIn (by omega), mIn (by omega), mIn (by omega)]
                rw [upd_ne (by omega), upd_ne (by omega), upd_ne (by omega), upd_ne (by omega), upd_ne (by omega), upd_ne (by omega), upd_ne (by omega), upd_ne (by omega), upd_ne (by omega), upd_ne (by omega), upd_ne (by omega), upd_ne (by omega), upd_ne (by omega), upd_ne (by omega), upd_ne (by omega), upd_ne (by omega), upd_ne (by omega), upd_ne (by omega), upd_ne (by omega), upd_ne (by omega)]
                exact hj2
            · by_cases e : j = c
              · subst e
                refine ⟨⟨f, by omega, ?_⟩, ⟨q, hq, ?_⟩, ⟨u, hu, ?_⟩, ⟨v, hv, ?_⟩⟩
                · rw [upd_ne (by omega), upd_ne (by omega), upd_ne (by omega), upd_ne (by omega), upd_eq]
                · rw [upd_ne (by omega), upd_ne (by omega), upd_ne (by omega), upd_eq]
                · rw [upd_ne (by omega), upd_ne (by omega), upd_eq]
                · rw [upd_ne (by omega), upd_eq]
              · obtain ⟨c', hc', ec', hcb⟩ := hBI
                rw [ec'] at hc
                have := (nI_eq (by omega) (by omega)).mp hc
                subst this
                obtain ⟨b1, b2, b3, b4⟩ := hcb j (by omega)
                refine ⟨?_, ?_, ?_, ?_⟩
                · rw [upd_ne (by omega), upd_ne (by omega), upd_ne (by omega), upd_ne (by omega), upd_ne (by omega)]; exact b1
                · rw [upd_ne (by omega), upd_ne (by omega), upd_ne (by omega), upd_ne (by omega), upd_ne (by omega)]; exact b2
                · rw [upd_ne (by omega), upd_ne (by omega), upd_ne (by omega), upd_ne (by omega), upd_ne (by omega)]; exact b3
                · rw [upd_ne (by omega), upd_ne (by omega), upd_ne (by omega), upd_ne (by omega), upd_ne (by omega)]; exact b4
          · have : c = 6 := by omega
            subst this
            rw [if_neg g6, if_neg (by decide), if_pos (show nI 6 = 6 from rfl)]
            exact WW.no R _
        · rw [if_pos (b2_0.mpr g4)]
          by_cases g5 : inR x4 0 11
          · rw [if_neg (fun q => b2_0.mp q g5), if_neg (fun q => g4 ⟨q, g5.2⟩)]
            exact WW.no R _
          · rw [if_pos (b2_0.mpr g5)]
            exact WW.no R _
      · rw [if_pos (b2_0.mpr g3), if_pos (b2_0.mpr g3)]
        exact WW.no R _
    · rw [if_pos (b2_0.mpr g2), if_pos (b2_0.mpr g2)]
      exact WW.no R _
  · rw [if_pos (b2_0.mpr g1), if_pos (b2_0.mpr g1)]
    exact WW.no R _
theorem take_loop {M : Mm} {b c k : Nat} (hc : c ≤ 6) (hk : k < c) : ∀ n j Mi, k + 1 ≤ j → j ≤ c → c < j + n → Mi.1 b 0 = nI c → (∀ f, 1 ≤ f → f ≤ 4 → ∀ i, Mi.1 (b + f) i = if k ≤ i ∧ i + 1 < j then M.1 (b + f) (i + 1) else M.1 (b + f) i) → (∀ d, (d < b ∨ b + 5 ≤ d) → Mi.1 d = M.1 d) →
    ∃ M2, f_X0_takeAway_4 b n Mi (nI j) = some M2 ∧ M2.1 b 0 = nI (c - 1) ∧ (∀ f, 1 ≤ f → f ≤ 4 → ∀ i, M2.1 (b + f) i = if k ≤ i ∧ i + 1 < c then M.1 (b + f) (i + 1) else M.1 (b + f) i) ∧ ∀ d, (d < b ∨ b + 5 ≤ d) → M2.1 d = M.1 d := by
  intro n
  induction n with
  | zero => intro j Mi h1 h2 h3; omega
  | succ n ih =>
    intro j Mi h1 h2 h3 h4 h5 h6
    have st : f_X0_takeAway_4 b (n + 1) Mi (nI j) = b_X0_takeAway_4 (fun M x2 => f_X0_takeAway_4 b n M x2) b Mi (nI j) := rfl
    rw [st]
    unfold b_X0_takeAway_4 f_X0_takeAway_74
    rw [h4]
    by_cases e : j = c
    · subst e
      rw [if_pos (nI_le (Nat.le_refl _) (by omega)), wr_e, nF (by omega)]
      refine ⟨_, rfl, mIs _ _ _ _, fun f q1 q2 i => ?_, fun d hd => ?_⟩
      · rw [wI_o (by omega)]
        exact h5 f q1 q2 i
      · rw [wI_o (by omega)]
        exact h6 d hd
    · rw [if_neg (nI_ge (by omega) (by omega)), nF (by omega), ck_n (by omega) (by omega), ck_n (by omega) (by omega), nI_clamp (by omega), nI_clamp (by omega)]
      simp only [wr_e]
      rw [n1]
      refine ih (j + 1) _ (by omega) (by omega) (by omega) ?_ (fun f q1 q2 i => ?_) (fun d hd => ?_)
      · rw [wI_o (by omega), wI_o (by omega), wI_o (by omega), wI_o (by omega)]
        exact h4
      · have old : ∀ f, 1 ≤ f → f ≤ 4 → (if i = j - 1 then Mi.1 (b + f) j else Mi.1 (b + f) i) = if k ≤ i ∧ i + 1 < j + 1 then M.1 (b + f) (i + 1) else M.1 (b + f) i := by
          intro f q1 q2
          rw [h5 f q1 q2 j, h5 f q1 q2 i, if_neg (show ¬ (k ≤ j ∧ j + 1 < j) by omega)]
          by_cases z : i = j - 1
          · rw [if_pos z, if_pos (show k ≤ i ∧ i + 1 < j + 1 by omega), show i + 1 = j by omega]
          · rw [if_neg z]
            by_cases y : k ≤ i ∧ i + 1 < j
            · rw [if_pos y, if_pos (by omega)]
            · rw [if_neg y, if_neg (by omega)]
        rw [← old f q1 q2]
        have hf : f = 1 ∨ f = 2 ∨ f = 3 ∨ f = 4 := by omega
        rcases hf with rfl | rfl | rfl | rfl
        · rw [wI_o (by omega), wI_o (by omega), wI_o (by omega), mI]
          simp
        · rw [wI_o (by omega), wI_o (by omega), mI, wI_o (by omega)]
          simp
        · rw [wI_o (by omega), mI, wI_o (by omega), wI_o (by omega)]
          simp
        · rw [mI, wI_o (by omega), wI_o (by omega), wI_o (by omega)]
          simp
      · rw [wI_o (by omega), wI_o (by omega), wI_o (by omega), wI_o (by omega)]
        exact h6 d hd
theorem quench_loop {N : Mm} {c k : Nat} (hc : c ≤ 5) (hk : k ≤ c) {r : Pg} : ∀ n x (q : Pg), 4 * k ≤ x → x ≤ 4 * c → 4 * c < x + n → q 207 = nI c → (∀ y, y ≠ 207 → q y = if 183 + 4 * k ≤ y ∧ y < 183 + x then r (y + 4) else r y) →
    ∃ q2, f_X12_quench_38 n (wR N 1 q) (nI x) = some (nI c, wR N 1 q2) ∧ q2 207 = nI c ∧ ∀ y, y ≠ 207 → q2 y = if 183 + 4 * k ≤ y ∧ y < 183 + 4 * c then r (y + 4) else r y := by
  intro n
  induction n with
  | zero => intro x q h1 h2 h3; omega
  | succ n ih =>
    intro x q h1 h2 h3 h4 h5
    have st : f_X12_quench_38 (n + 1) (wR N 1 q) (nI x) = b_X12_quench_38 (fun M x2 => f_X12_quench_38 n M x2) (wR N 1 q) (nI x) := rfl
    rw [st]
    unfold b_X12_quench_38 f_X12_quench_80
    rw [wR_s, show (207 : Int32).toNatClampNeg = 207 from rfl, h4, show (4 : Int32) * nI c = nI (4 * c) from pk_mul 4 c]
    by_cases e : x = 4 * c
    · subst e
      rw [if_pos (nI_le (Nat.le_refl _) (by omega))]
      exact ⟨q, rfl, h4, h5⟩
    · have e0 : (183 : Int32) + nI x = nI (183 + x) := nIa (a := 183) rfl
      have e4 : nI (183 + x) + 4 = nI (183 + x + 4) := nIa (b := 4) rfl
      rw [if_neg (nI_ge (by omega) (by omega)), e0, e4, ck_n (by omega) (by omega), ck_n (by omega) (by omega), nI_clamp (by omega), nI_clamp (by omega), wr_e, wIR, n1]
      refine ih (x + 1) _ (by omega) (by omega) (by omega) (by rw [upd_ne (by omega)]; exact h4) (fun y hy => ?_)
      by_cases z : y = 183 + x
      · subst z
        rw [upd_eq, h5 _ (by omega), if_neg (by omega), if_pos (by omega)]
      · rw [upd_ne z, h5 y hy]
        by_cases w : 183 + 4 * k ≤ y ∧ y < 183 + x
        · rw [if_pos w, if_pos (by omega)]
        · rw [if_neg w, if_neg (by omega)]
theorem s_quench {M N : Mm} (R : Rel M N) (x : Int32) : WW (f_X11_quench M x) (f_X12_quench N x) := by
  obtain ⟨p, F, H⟩ := id R
  obtain ⟨c, h6, hc, hc2, hb, hBI⟩ := H.br
  have hlx : 141 ≤ lx p := by unfold lx; omega
  unfold f_X11_quench f_X12_quench f_X0_takeAway
  rw [e_isBrazier, bd_s, H.ld, hc2, show (207 : Int32).toNatClampNeg = 207 from rfl, hc, show f_X12_in x.toInt64 (0 : Int64) ((nI c - 1).toInt64) = some (b2 (inR x 0 (nI c - 1))) from e_inI x 0 (nI c - 1), bd_s]
  by_cases g : inR x 0 (nI c - 1)
  · rw [if_neg (fun q => b2_0.mp q g), if_neg (fun q => b2_0.mp q g), nm_x, wr_e, nm_x]
    obtain ⟨k, hk, rfl⟩ := cnt_n (by omega) g
    obtain ⟨M2, m1, m2, m3, m4⟩ := take_loop (M := M) (b := lx p + 5 + 6) h6 hk FU (k + 1) M (by omega) (by omega) (by show c < k + 1 + 5000; omega) hc2 (fun f q1 q2 i => by rw [if_neg (by omega)]) (fun d hd => rfl)
    obtain ⟨q2, n2, n3, n4⟩ := quench_loop (N := N) (c := c - 1) (k := k) (r := N.1 1) (by omega) (by omega) FU (4 * k) (upd (N.1 1) 207 (nI (c - 1))) (by omega) (by omega) (by show 4 * (c - 1) < 4 * k + 5000; omega) (upd_eq _ _ _) (fun y hy => by rw [upd_ne hy, if_neg (by omega)])
    rw [n1, m1, bd_s, m4 0 (by omega), H.ld, m2, nF (by omega), show (4 : Int32) * nI k = nI (4 * k) from pk_mul 4 k, wI_R N, n2]
    refine ⟨_, _, _, rfl, rfl, H.fires m4 (fun x hx => ?_) ⟨?_, fun j hj => ?_⟩ ⟨c - 1, by omega, n3, fun j hj => ?_⟩⟩
    · rw [n4 x (by omega), if_neg (by omega)]
    · rw [m2, n3]
    · rw [n3, nI_clamp (by omega)] at hj
      rw [m3 1 (by omega) (by omega), m3 2 (by omega) (by omega), m3 3 (by omega) (by omega), m3 4 (by omega) (by omega), n4 _ (by omega), n4 _ (by omega), n4 _ (by omega), n4 _ (by omega)]
      by_cases z : k ≤ j
      · rw [if_pos (by omega), if_pos (by omega), if_pos (by omega), if_pos (by omega), if_pos (by omega), if_pos (by omega), if_pos (by omega), if_pos (by omega)]
        exact hb (j + 1) (by omega)
      · rw [if_neg (by omega), if_neg (by omega), if_neg (by omega), if_neg (by omega), if_neg (by omega), if_neg (by omega), if_neg (by omega), if_neg (by omega)]
        exact hb j (by omega)
    · obtain ⟨c', hc', ec', hcb⟩ := hBI
      rw [ec'] at hc
      have := (nI_eq (by omega) (by omega)).mp hc
      subst this
      rw [n4 _ (by omega), n4 _ (by omega), n4 _ (by omega), n4 _ (by omega)]
      by_cases z : k ≤ j
      · rw [if_pos (by omega), if_pos (by omega), if_pos (by omega), if_pos (by omega)]
        exact hcb (j + 1) (by omega)
      · rw [if_neg (by omega), if_neg (by omega), if_neg (by omega), if_neg (by omega)]
        exact hcb j (by omega)
  · rw [if_pos (b2_0.mpr g), if_pos (b2_0.mpr g)]
    exact WW.no R _
/-- the felt heats moved, nothing else -/
theorem RelP.ft {p F : Nat} {M N M2 N2 : Mm} (H : RelP p F M N) (m1 : ∀ b, b ≠ 98 → b ≠ 99 → M2.1 b = M.1 b) (n1 : ∀ b, b ≠ 0 → b ≠ 14 → N2.1 b = N.1 b) (n0 : ∀ j, j ≠ 30 → N2.1 0 j = N.1 0 j) (hF : RF F M2 N2) : RelP p F M2 N2 := by
  obtain ⟨⟨a1, a2, a3, a4, a5, a6, a7⟩, ⟨b1, b2, b3⟩, ⟨c1, c2, ⟨d, hd, d1, d2⟩, c4⟩, ⟨c, c8, e1, e2, e3⟩, hE, ⟨⟨n, n4, t1, t2, t3⟩, t4⟩, -, hS, hZ1, hZ2, hZ3⟩ := H
  have hl : lx p = 141 ∨ lx p = 177 := by unfold lx; omega
  have z0 : M2.1 0 = M.1 0 := m1 0 (by decide) (by decide)
  have y1 : N2.1 1 = N.1 1 := n1 1 (by decide) (by decide)
  refine ⟨⟨a1, by rw [z0]; exact a2, by rw [z0]; exact a3, a4, a5, by rw [m1 _ (by omega) (by omega)]; exact a6, by rw [n0 1 (by decide)]; exact a7⟩, ⟨?_, by rw [y1]; exact b2, by rw [y1]; exact b3⟩, ⟨?_, ?_, ⟨d, hd, by rw [m1 _ (by omega) (by omega)]; exact d1, by rw [n0 6 (by decide)]; exact d2⟩, fun h hh => ?_⟩, ⟨c, c8, by rw [m1 _ (by omega) (by omega)]; exact e1, by rw [n0 5 (by decide)]; exact e2, fun h hh => ?_⟩, fun k hk => ?_, ⟨⟨n, n4, by rw [m1 1 (by decide) (by decide)]; exact t1, by rw [n0 17 (by decide)]; exact t2, fun j hj => ?_⟩, ?_⟩, hF, fun k hk => ?_, ?_, ?_, ?_⟩
  · rw [y1]
    exact b1.c b2.b6 (fun j hj => m1 _ (by omega) (by omega)) (fun x hx => rfl)
  · unfold LwR
    rw [m1 _ (by omega) (by omega), n1 3 (by decide) (by decide)]
    exact c1
  · rw [n1 3 (by decide) (by decide)]
    exact c2
  · rw [m1 _ (by omega) (by omega), n1 2 (by decide) (by decide)]
    exact c4 h hh
  · rw [m1 _ (by omega) (by omega), m1 _ (by omega) (by omega), n1 4 (by decide) (by decide)]
    exact e3 h hh
  · obtain ⟨e1, e2, e3⟩ := hE k hk
    rw [m1 35 (by decide) (by decide), n1 15 (by decide) (by decide), y1]
    refine ⟨e1, e2, fun h => ?_⟩
    obtain ⟨g1, g2, g3⟩ := e3 h
    exact ⟨g1.c g2.b6 (fun j hj => m1 _ (by omega) (by omega)) (fun x hx => rfl), g2, g3⟩
  · rw [n1 9 (by decide) (by decide), m1 2 (by decide) (by decide)]
    exact t3 j hj
  · rw [m1 1 (by decide) (by decide), n0 18 (by decide)]
    exact t4
  · rw [n1 16 (by decide) (by decide), n1 17 (by decide) (by decide), n1 18 (by decide) (by decide), m1 (133 + 2 * k) (by omega) (by omega), m1 (134 + 2 * k) (by omega) (by omega)]
    exact hS k hk
  · rw [z0, n0 35 (by decide)]
    exact hZ1
  · rw [n1 10 (by decide) (by decide)]
    exact hZ2
  · have hl2 : lx (1 - p) + lx p = 318 := by unfold lx; omega
    rw [n1 11 (by decide) (by decide), m1 127 (by decide) (by decide)]
    exact ⟨hZ3.1, hZ3.2.1, fun k hk => by rw [m1 _ (by omega) (by omega)]; exact hZ3.2.2 k hk⟩
theorem s_felt {M N : Mm} (R : Rel M N) (x : Int32) : WW (f_X11_felt M x) (f_X12_felt N x) := by
  obtain ⟨p, F, H⟩ := id R
  obtain ⟨⟨a1, a2, a3, a4, a5, a6, a7⟩, hB, hC, hD, hE, hT, ⟨n, hn, f1, f2, f3⟩, hS, hZ⟩ := id H
  unfold f_X11_felt f_X12_felt f_X2_put f_X2_put_29
  rw [e_isAmong, bd_s, show f_X12_in x.toInt64 (0 : Int64) (99 : Int64) = some (b2 (inR x 0 99)) from e_inI x 0 99, bd_s, H.ld, a6, a7, f1, f2]
  by_cases g : inR x 0 99
  · rw [if_neg (fun q => b2_0.mp q g), if_neg (fun q => b2_0.mp q g)]
    by_cases e : n = F
    · subst e
      rw [if_neg (nI_nlt (Nat.le_refl _) (by omega)), if_pos rfl]
      exact WW.no R _
    · rw [if_pos (nI_lt (by omega) (by omega)), if_neg (fun z => e ((nI_eq (by omega) (by omega)).mp z)), if_neg (show ¬ (10 : Int32) ≤ nI n from nI_ge (b := 10) (by omega) (by omega)), ck_n (by omega) (by omega), ck_n (by omega) (by omega), nI_clamp (by omega)]
      simp only [wr_e, bd_s]
      rw [mIs, mIs, mIn (by omega), mIn (by omega), f1, f2, n1]
      have hl : lx p = 141 ∨ lx p = 177 := by unfold lx; omega
      have m0 : ∀ b, b ≠ 98 → b ≠ 99 → (wI (wI M 99 n x) 98 0 (nI (n + 1))).1 b = M.1 b := fun b q1 q2 => by rw [wI_o q1, wI_o q2]
      have k0 : ∀ b, b ≠ 0 → b ≠ 14 → (wI (wI N 14 n x) 0 30 (nI (n + 1))).1 b = N.1 b := fun b q1 q2 => by rw [wI_o q1, wI_o q2]
      have k1 : ∀ j, j ≠ 30 → (wI (wI N 14 n x) 0 30 (nI (n + 1))).1 0 j = N.1 0 j := fun j q => by rw [mIn (by omega), wI_o (by decide)]
      refine ⟨_, _, _, rfl, rfl, p, F, H.ft m0 k0 k1 ⟨n + 1, by omega, mIs _ _ _ _, mIs _ _ _ _, fun j hj => ?_⟩⟩
      rw [wI_o (by decide), wI_o (show (14 : Nat) ≠ 0 by decide)]
      by_cases q : j = n
      · subst q
        rw [mIs, mIs]
      · rw [mIn (by omega), mIn (by omega)]
        exact f3 j (by omega)
  · rw [if_pos (b2_0.mpr g), if_pos (b2_0.mpr g)]
    exact WW.no R _
theorem s_forget {M N : Mm} (R : Rel M N) : WW (f_X11_forget M) (f_X12_forget N) := by
  obtain ⟨p, F, H⟩ := id R
  obtain ⟨n, hn, f1, f2, f3⟩ := H.2.2.2.2.2.2.1
  unfold f_X11_forget f_X12_forget
  rw [nm_x, nm_x, wr_e, wr_e, f1, f2]
  exact ⟨_, _, _, rfl, rfl, p, F, H.ft (fun b q1 q2 => wI_o q1) (fun b q1 q2 => wI_o q1) (fun j q => mIn (by omega)) ⟨0, by omega, mIs _ _ _ _, mIs _ _ _ _, fun j hj => absurd hj (by omega)⟩⟩
