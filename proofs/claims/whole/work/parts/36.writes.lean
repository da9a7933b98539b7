-- WRITES INTO THE SCENE
theorem ScR.snow {M : Mm} {a t i : Nat} {r : Pg} {v : Int32} (hi : i < 10) (hb6 : (r (t + 207)).toNatClampNeg ≤ 6) (H : ScR M a r t) : ScR (wI M (a + 2) i v) a (upd r (t + 140 + i) v) t := by
  obtain ⟨hm, hs, hh0, hsun, hbr⟩ := H
  refine ⟨fun k hk => (hm k hk).same (wI_o (by omega)) (fun f hf => upd_ne (by omega)), fun j hj => ?_, ?_, fun h hh => ?_, hbr.same (fun j hj => wI_o (by omega)) (fun x h1 h2 => upd_ne (by omega)) hb6⟩
  · rw [wI_o (show a + 3 ≠ a + 2 by omega), wI_o (show a + 4 ≠ a + 2 by omega), upd_ne (show t + 150 + j ≠ t + 140 + i by omega), upd_ne (show t + 160 + j ≠ t + 140 + i by omega)]
    refine ⟨?_, (hs j hj).2⟩
    by_cases e : j = i
    · subst e
      rw [mIs, upd_eq]
    · rw [mIn (by omega), upd_ne (by omega)]
      exact (hs j hj).1
  · rw [wI_o (by omega), upd_ne (by omega)]
    exact hh0
  · rw [wI_o (by omega), upd_ne (by omega)]
    exact hsun h hh
theorem ScR.sun {M : Mm} {a t i : Nat} {r : Pg} {v : Int32} (hi : i < 12) (hb6 : (r (t + 207)).toNatClampNeg ≤ 6) (H : ScR M a r t) : ScR (wI M (a + 5) i v) a (upd r (t + 171 + i) v) t := by
  obtain ⟨hm, hs, hh0, hsun, hbr⟩ := H
  refine ⟨fun k hk => (hm k hk).same (wI_o (by omega)) (fun f hf => upd_ne (by omega)), fun j hj => ?_, ?_, fun h hh => ?_, hbr.same (fun j hj => wI_o (by omega)) (fun x h1 h2 => upd_ne (by omega)) hb6⟩
  · rw [wI_o (by omega), wI_o (by omega), wI_o (by omega), upd_ne (by omega), upd_ne (by omega), upd_ne (by omega)]
    exact hs j hj
  · rw [wI_o (by omega), upd_ne (by omega)]
    exact hh0
  · by_cases e : h = i
    · subst e
      rw [mIs, upd_eq]
    · rw [mIn (by omega), upd_ne (by omega)]
      exact hsun h hh
theorem ScR.hour {M : Mm} {a t : Nat} {r : Pg} {v : Int32} (hb6 : (r (t + 207)).toNatClampNeg ≤ 6) (H : ScR M a r t) : ScR (wI M a 0 v) a (upd r (t + 170) v) t := by
  obtain ⟨hm, hs, hh0, hsun, hbr⟩ := H
  refine ⟨fun k hk => (hm k hk).same (wI_o (by omega)) (fun f hf => upd_ne (by omega)), fun j hj => ?_, ?_, fun h hh => ?_, hbr.same (fun j hj => wI_o (by omega)) (fun x h1 h2 => upd_ne (by omega)) hb6⟩
  · rw [wI_o (by omega), wI_o (by omega), wI_o (by omega), upd_ne (by omega), upd_ne (by omega), upd_ne (by omega)]
    exact hs j hj
  · rw [mIs, upd_eq]
  · rw [wI_o (by omega), upd_ne (by omega)]
    exact hsun h hh
theorem ScR.head {M : Mm} {a t k0 : Nat} {r : Pg} {v : Int32} (hk0 : k0 < 20) (hb6 : (r (t + 207)).toNatClampNeg ≤ 6) (H : ScR M a r t) : ScR (wI M (a + 11 + k0) 4 v) a (upd r (t + 7 * k0 + 4) v) t := by
  obtain ⟨hm, hs, hh0, hsun, hbr⟩ := H
  refine ⟨fun k hk => ?_, fun j hj => ?_, ?_, fun h hh => ?_, hbr.same (fun j hj => wI_o (by omega)) (fun x h1 h2 => upd_ne (by omega)) hb6⟩
  · by_cases e : k = k0
    · subst e
      obtain ⟨⟨q0, q6⟩, qb, qf⟩ := hm k hk
      refine ⟨⟨?_, ?_⟩, ?_, fun h1 => ?_⟩
      · rw [mIn (by omega), upd_ne (by omega)]; exact q0
      · rw [mIn (by omega)]; exact q6
      · rw [upd_ne (by omega)]; exact qb
      · rw [upd_ne (by omega)] at h1
        obtain ⟨f1, f2, f3, f4, f5, f6, f7⟩ := qf h1
        rw [mIn (by omega), mIn (by omega), mIn (by omega), mIs, mIn (by omega), mIn (by omega), upd_ne (by omega), upd_ne (by omega), upd_ne (by omega), upd_eq, upd_ne (by omega), upd_ne (by omega)]
        exact ⟨f1, f2, f3, rfl, f5, f6, f7⟩
    · exact (hm k hk).same (wI_o (by omega)) (fun f hf => upd_ne (by omega))
  · rw [wI_o (by omega), wI_o (by omega), wI_o (by omega), upd_ne (by omega), upd_ne (by omega), upd_ne (by omega)]
    exact hs j hj
  · rw [wI_o (by omega), upd_ne (by omega)]
    exact hh0
  · rw [wI_o (by omega), upd_ne (by omega)]
    exact hsun h hh
/-- a page moved in one place that no bound speaks of -/
theorem InvR.snow {r : Pg} {t i : Nat} {v : Int32} (hi : i < 20) (H : InvR r t) : InvR (upd r (t + 140 + i) v) t := by
  obtain ⟨h1, h2, h3, ⟨h, hh, h4⟩, h5⟩ := H
  refine ⟨fun k hk => ?_, fun j hj => ?_, fun h9 hh9 => ?_, ⟨h, hh, by rw [upd_ne (by omega)]; exact h4⟩, h5.same (fun x hx hx2 => upd_ne (by omega))⟩
  · rw [upd_ne (by omega), upd_ne (by omega)]
    exact h1 k hk
  · rw [upd_ne (by omega)]
    exact h2 j hj
  · rw [upd_ne (by omega)]
    exact h3 h9 hh9
theorem InvR.sun {r : Pg} {t i v : Nat} (hi : i < 12) (hv : v ≤ 9) (H : InvR r t) : InvR (upd r (t + 171 + i) (nI v)) t := by
  obtain ⟨h1, h2, h3, ⟨h, hh, h4⟩, h5⟩ := H
  refine ⟨fun k hk => ?_, fun j hj => ?_, fun h9 hh9 => ?_, ⟨h, hh, by rw [upd_ne (by omega)]; exact h4⟩, h5.same (fun x hx hx2 => upd_ne (by omega))⟩
  · rw [upd_ne (by omega), upd_ne (by omega)]
    exact h1 k hk
  · rw [upd_ne (by omega)]
    exact h2 j hj
  · by_cases e : h9 = i
    · subst e
      exact ⟨v, hv, upd_eq _ _ _⟩
    · rw [upd_ne (by omega)]
      exact h3 h9 hh9
theorem InvR.head {r : Pg} {t k0 v : Nat} (hk0 : k0 < 20) (hv : v ≤ 99) (H : InvR r t) : InvR (upd r (t + 7 * k0 + 4) (nI v)) t := by
  obtain ⟨h1, h2, h3, ⟨h, hh, h4⟩, h5⟩ := H
  refine ⟨fun k hk => ?_, fun j hj => ?_, fun h9 hh9 => ?_, ⟨h, hh, by rw [upd_ne (by omega)]; exact h4⟩, h5.same (fun x hx hx2 => upd_ne (by omega))⟩
  · rw [upd_ne (by omega)]
    refine ⟨(h1 k hk).1, fun q => ?_⟩
    by_cases e : k = k0
    · subst e
      exact ⟨v, hv, upd_eq _ _ _⟩
    · rw [upd_ne (by omega)]
      exact (h1 k hk).2 q
  · rw [upd_ne (by omega)]
    exact h2 j hj
  · rw [upd_ne (by omega)]
    exact h3 h9 hh9
theorem Bey.up {r : Pg} {t F x : Nat} {v : Int32} (H : Bey r t F) (h1 : ∀ s i, s < 2 → F ≤ i → i < 10 → mo t s i ≠ x) (h2 : ∀ i, F ≤ i → i < 10 → t + 140 + i ≠ x ∧ t + 150 + i ≠ x) : Bey (upd r x v) t F := by
  refine ⟨fun s i hs q1 q2 => ?_, fun i q1 q2 => ?_⟩
  · rw [upd_ne (h1 s i hs q1 q2)]
    exact H.1 s i hs q1 q2
  · rw [upd_ne (h2 i q1 q2).1, upd_ne (h2 i q1 q2).2]
    exact H.2 i q1 q2
/-- both sides answer alike, and the relation holds behind it -/
def WW (x y : Option (Int32 × Mm)) : Prop := ∃ r M N, x = some (r, M) ∧ y = some (r, N) ∧ Rel M N
theorem WW.no {M N : Mm} (R : Rel M N) (r : Int32) : WW (some (r, M)) (some (r, N)) := ⟨r, M, N, rfl, rfl, R⟩
/-- a row of the state moved, and the scene: the relation again -/
theorem RelP.w1 {p F : Nat} {M N M2 : Mm} {r : Pg} (H : RelP p F M N) (m1 : ∀ b, (b < lx p + 5 ∨ lx p + 36 ≤ b) → M2.1 b = M.1 b) (n2 : ∀ x, 210 ≤ x → r x = N.1 1 x) (h1 : ScR M2 (lx p + 5) r 0) (h2 : InvR r 0) (h3 : Bey r 0 F) : Rel M2 (wR N 1 r) :=
  ⟨p, F, H.sc m1 (fun b hb => wR_ne hb) (fun x hx => by rw [wR_s]; exact n2 x hx) ⟨by rw [wR_s]; exact h1, by rw [wR_s]; exact h2, by rw [wR_s]; exact h3⟩⟩
theorem s_shine {M N : Mm} (R : Rel M N) (x y : Int32) : WW (f_X11_shine M x y) (f_X12_shine N x y) := by
  obtain ⟨p, F, H⟩ := id R
  unfold f_X11_shine f_X12_shine f_X11_shine_17 f_X12_shine_19
  rw [e_isHour, e_yHour, bd_s, bd_s, H.ld]
  by_cases g : inR x 0 11
  · rw [if_neg (fun q => b2_0.mp q g), if_neg (fun q => b2_0.mp q g), e_isAmong, bd_s, show f_X12_in y.toInt64 (0 : Int64) (9 : Int64) = some (b2 (inR y 0 9)) from e_inI y 0 9, bd_s]
    by_cases g2 : inR y 0 9
    · rw [if_neg (fun q => b2_0.mp q g2), if_neg (fun q => b2_0.mp q g2)]
      obtain ⟨h, hh, rfl⟩ := hour_n g
      obtain ⟨v, hv, rfl⟩ := inR_n (n := 9) (by omega) g2
      rw [ck_n hh (by omega), ix171, ck_n (by omega) (by omega), nm_x, nm_x, wr_e, wr_e, nI_clamp (by omega), nI_clamp (by omega), H.2.1.1.2.2.2.1 h hh, show 0 + 171 + h = 171 + h by omega]
      refine ⟨_, _, _, rfl, rfl, ?_⟩
      rw [wI_R N]
      refine H.w1 (fun b hb => wI_o (by omega)) (fun x hx => upd_ne (by omega)) ?_ ?_ ?_
      · have := H.2.1.1.sun (v := nI v) hh H.2.1.2.1.b6
        rw [show 0 + 171 + h = 171 + h by omega] at this
        exact this
      · have := H.2.1.2.1.sun hh hv
        rw [show 0 + 171 + h = 171 + h by omega] at this
        exact this
      · exact H.2.1.2.2.up (fun s i hs q1 q2 => by unfold mo; omega) (fun i q1 q2 => ⟨by omega, by omega⟩)
    · rw [if_pos (b2_0.mpr g2), if_pos (b2_0.mpr g2)]
      exact WW.no R _
  · rw [if_pos (b2_0.mpr g), if_pos (b2_0.mpr g)]
    exact WW.no R _
theorem s_dawn {M N : Mm} (R : Rel M N) : WW (f_X11_dawn M) (f_X12_dawn N) := by
  obtain ⟨p, F, H⟩ := R
  obtain ⟨h, hh, e1, e2⟩ := H.hr
  unfold f_X11_dawn f_X12_dawn f_X12_hourNow
  rw [H.ld, nm_x, wr_e, bd_s, wr_e, show (170 : Int32).toNatClampNeg = 170 from rfl, e1, e2]
  refine ⟨_, _, _, rfl, rfl, ?_⟩
  rw [wI_R N]
  refine H.w1 (fun b hb => wI_o (by omega)) (fun x hx => upd_ne (by omega)) ?_ ?_ ?_
  · exact H.2.1.1.hour (v := 0) H.2.1.2.1.b6
  · exact H.2.1.2.1.hour (h := 0) (by omega)
  · exact H.2.1.2.2.up (fun s i hs q1 q2 => by unfold mo; omega) (fun i q1 q2 => ⟨by omega, by omega⟩)
theorem s_mend {M N : Mm} (R : Rel M N) (x y z : Int32) : WW (f_X11_mend M x y z) (f_X12_mend N x y z) := by
  obtain ⟨p, F, H⟩ := id R
  unfold f_X11_mend f_X12_mend f_X11_mend_25 f_X12_mend_27
  rw [e_isSide, e_ySide, bd_s, bd_s, H.fX, H.fY, bd_s, bd_s, H.ld]
  by_cases g1 : inR x 0 1
  · rw [if_neg (fun q => b2_0.mp q g1), if_neg (fun q => b2_0.mp q g1)]
    by_cases g2 : inR y 0 (nI (F - 1))
    · rw [if_neg (fun q => b2_0.mp q g2), if_neg (fun q => b2_0.mp q g2), e_isAmong, bd_s, show f_X12_in z.toInt64 (0 : Int64) (99 : Int64) = some (b2 (inR z 0 99)) from e_inI z 0 99, bd_s]
      by_cases g3 : inR z 0 99
      · rw [if_neg (fun q => b2_0.mp q g3), if_neg (fun q => b2_0.mp q g3)]
        obtain ⟨s, hs, rfl⟩ := side_n g1
        obtain ⟨i, hi, rfl⟩ := fur_n H.1.2.2.2.1 H.1.2.2.2.2.1 g2
        obtain ⟨w, hw, rfl⟩ := inR_n (n := 99) (by omega) g3
        have hi10 : i < 10 := Nat.lt_of_lt_of_le hi H.1.2.2.2.2.1
        have mk := H.2.1.1.1 (10 * s + i) (by omega)
        have iv := H.2.1.2.1.1 (10 * s + i) (by omega)
        rw [nm_x, e_manOf hs hi10, bd_s, show f_X12_isThere N 0 (nI s) (nI i) = _ from isThere_y (t := 0) hs hi10 (by decide), bd_s, e_manAt hs hi10, bd_s, mo0]
        have hsn := (H.2.1.1.2.1 i hi10).1
        have hSh : ∀ v, ScR (wI (wI M (lx p + 5 + 2) i (N.1 1 (140 + i) - nI w)) (lx p + 5 + 11 + (10 * s + i)) 4 v) (lx p + 5) (upd (upd (N.1 1) (0 + 140 + i) (N.1 1 (140 + i) - nI w)) (0 + 7 * (10 * s + i) + 4) v) 0 := fun v => by
          refine ScR.head (by omega) ?_ (ScR.snow hi10 H.2.1.2.1.b6 H.2.1.1)
          rw [upd_ne (by omega)]
          exact H.2.1.2.1.b6
        have hIn : ∀ v, v ≤ 99 → InvR (upd (upd (N.1 1) (0 + 140 + i) (N.1 1 (140 + i) - nI w)) (0 + 7 * (10 * s + i) + 4) (nI v)) 0 := fun v hv => InvR.head (by omega) hv (InvR.snow (by omega) H.2.1.2.1)
        have hBy : ∀ v, Bey (upd (upd (N.1 1) (0 + 140 + i) (N.1 1 (140 + i) - nI w)) (0 + 7 * (10 * s + i) + 4) v) 0 F := fun v => Bey.up (Bey.up H.2.1.2.2 (fun s i hs q1 q2 => by unfold mo; omega) (fun i q1 q2 => ⟨by omega, by omega⟩)) (fun s' i' hs' q1 q2 => by unfold mo; omega) (fun i q1 q2 => ⟨by omega, by omega⟩)
        generalize hma : lx p + 5 + 11 + (10 * s + i) = ma at mk hSh ⊢
        generalize hm : 0 + 7 * (10 * s + i) = m at mk iv hSh hIn hBy ⊢
        have hm' : 7 * (10 * s + i) = m := by omega
        rw [hm', mk.1.1, ck_n hi10 (by omega), nI_clamp (by omega), hsn, show (140 : Int32) + nI i = nI (140 + i) from nIa (a := 140) rfl, ck_n (by omega) (by omega), show nI m + (4 : Int32) = nI (m + 4) from nIa (b := 4) rfl, nm_x, ck_n (by omega) (by omega), show 0 + 140 + i = 140 + i by omega] at *
        simp only [nI_clamp (show 140 + i < 2 ^ 31 by omega), nI_clamp (show m + 4 < 2 ^ 31 by omega)]
        by_cases t : N.1 1 m = 1
        · rw [if_neg (by rw [t]; decide), if_neg (fun q => b2_0.mp q t)]
          obtain ⟨q1, q2, q3, q4, q5, q6, q7⟩ := mk.2.2 t
          obtain ⟨hd, hd99, ehd⟩ := iv.2 t
          rw [q4, ehd, nI_add]
          by_cases g4 : nI w ≤ N.1 1 (140 + i)
          · rw [if_pos g4, if_pos g4]
            by_cases g5 : nI (hd + w) ≤ 99
            · rw [if_pos g5, if_pos g5]
              have h99 : hd + w ≤ 99 := (nI_leI (by omega) (by omega)).mp (show nI (hd + w) ≤ nI 99 from g5)
              simp only [wr_e]
              rw [wI_o (show ma ≠ lx p + 5 + 2 by omega), q4, ehd, nI_add, mIs, mIn (show ¬ (1 = 1 ∧ 140 + i = m + 4) by omega), mIn (show ¬ (1 = 1 ∧ m + 4 = 140 + i) by omega), mIs]
              refine ⟨_, _, _, rfl, rfl, ?_⟩
              have e : wI (wI N 1 (m + 4) (nI (hd + w))) 1 (140 + i) (N.1 1 (140 + i) - nI w) = wR N 1 (upd (upd (N.1 1) (140 + i) (N.1 1 (140 + i) - nI w)) (m + 4) (nI (hd + w))) := by
                rw [wI_R N, wIR]
                congr 1
                funext x
                unfold upd
                by_cases h1 : x = 140 + i
                · have h2 : ¬ x = m + 4 := by omega
                  simp [h1, show ¬ (140 + i = m + 4) by omega]
                · simp [h1]
              rw [e]
              exact H.w1 (fun b hb => by rw [wI_o (by omega), wI_o (by omega)]) (fun x hx => by rw [upd_ne (by omega), upd_ne (by omega)]) (hSh _) (hIn _ h99) (hBy _)
            · rw [if_neg g5, if_neg g5]
              exact WW.no R _
          · rw [if_neg g4, if_neg g4]
            exact WW.no R _
        · rw [if_pos (isB_1 mk.2.1 t), if_pos (b2_0.mpr t)]
          exact WW.no R _
      · rw [if_pos (b2_0.mpr g3), if_pos (b2_0.mpr g3)]
        exact WW.no R _
    · rw [if_pos (b2_0.mpr g2), if_pos (b2_0.mpr g2)]
      exact WW.no R _
  · rw [if_pos (b2_0.mpr g1), if_pos (b2_0.mpr g1)]
    exact WW.no R _
