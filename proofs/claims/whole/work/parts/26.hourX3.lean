theorem mo_e (t s i : Nat) : mo t s i = t + 7 * (10 * s + i) := rfl
theorem sn_o {r : Pg} {si wi x : Nat} {v : Int32} (h : x ≠ si) (h2 : x ≠ wi) : sn r si wi v x = r x := by unfold sn; rw [upd_ne h2, upd_ne h]
theorem fr_o {r : Pg} {si wi x : Nat} {v : Int32} (h : x ≠ si) (h2 : x ≠ wi) : fr r si wi v x = r x := by unfold fr; rw [upd_ne h, upd_ne h2]
/-- what a side leaves as it was -/
theorem sd_o {r : Pg} {m si wi x : Nat} {fire sun : Int32} (h1 : x < m ∨ m + 7 ≤ x) (h2 : x ≠ si) (h3 : x ≠ wi) : sd r m si wi fire sun x = r x := by
  unfold sd
  by_cases h : r m = 1
  · rw [if_pos h]
    by_cases g : gone r m wi fire sun
    · rw [if_pos g, zap_out h1, upd_ne h2, r1_o h3 (by omega) (by omega) (by omega)]
    · rw [if_neg g, r1_o h3 (by omega) (by omega) (by omega)]
  · rw [if_neg h]
def meltF (r : Pg) (t i : Nat) (fire sun : Int32) : Pg := sd (sd (sn r (t + 140 + i) (t + 150 + i) (fire + sun)) (mo t 0 i) (t + 140 + i) (t + 150 + i) fire sun) (mo t 1 i) (t + 140 + i) (t + 150 + i) fire sun
theorem meltX {M : Mm} {a t i h : Nat} {r : Pg} {fire : Int32} (hi : i < 10) (hh : h < 12) (hB : BrI (fun x => r (t + x))) (H : ScR M a r t) (hf : warmP (fun x => r (t + x)) i (nI h) = fire) :
    ∃ M2, f_X7_meltOn M a (nI i) (nI h) = some M2 ∧ ScR M2 a (meltF r t i fire (r (t + 171 + h))) t ∧ Off M M2 a := by
  obtain ⟨hm, hs, hh0, hsun, hbr⟩ := H
  have ci := nI_clamp (show i < 2 ^ 31 by omega)
  have ch := nI_clamp (show h < 2 ^ 31 by omega)
  have hb6 : (r (t + 207)).toNatClampNeg ≤ 6 := by
    obtain ⟨c, h6, -, hc⟩ := clampc hB
    have hc' : (r (t + 207)).toNatClampNeg = c := hc
    omega
  unfold f_X7_meltOn
  rw [e_warmth hi hB hbr, bd_s, hf]
  show ∃ M2, b_X7_meltOn_16 (fun M x4 x5 => f_X7_meltOn_16 a (nI i) (nI h) fire 4999 M x4 x5) a (nI i) (nI h) fire M 0 (nI 0) = some M2 ∧ _
  have su : M.1 (a + 5) h = r (t + 171 + h) := hsun h hh
  generalize hS0 : r (t + 140 + i) = S0
  generalize hof : iMin S0 (fire + r (t + 171 + h)) = off
  have hA : Mid M a (sn r (t + 140 + i) (t + 150 + i) (fire + r (t + 171 + h))) t i S0 off 0 := by
    refine ⟨fun k hk => (hm k hk).same rfl (fun f hf => sn_o (by omega) (by omega)), fun j hj hji => ?_, fun j hj => ?_, ?_, fun h9 hh9 => ?_, ?_, ?_, ?_, ?_⟩
    · rw [sn_o (by omega) (by omega), sn_o (by omega) (by omega)]
      exact ⟨(hs j hj).1, (hs j hj).2.1⟩
    · rw [sn_o (by omega) (by omega)]
      exact (hs j hj).2.2
    · rw [sn_o (by omega) (by omega)]
      exact hh0
    · rw [sn_o (by omega) (by omega)]
      exact hsun h9 hh9
    · exact hbr.same (fun _ _ => rfl) (fun x h1 h2 => sn_o (by omega) (by omega)) hb6
    · exact (hs i hi).1.trans hS0
    · unfold sn
      rw [upd_ne (by omega), upd_eq, hS0, hof, Int32.add_zero]
    · unfold sn
      rw [upd_eq, hS0, hof, (hs i hi).2.1]
  have c1 : ((sn r (t + 140 + i) (t + 150 + i) (fire + r (t + 171 + h))) (t + 207)).toNatClampNeg ≤ 6 := by rw [sn_o (by omega) (by omega)]; exact hb6
  obtain ⟨M1, f1, e1, hB1, o1⟩ := sideX (s := 0) (k := fun M x4 x5 => f_X7_meltOn_16 a (nI i) (nI h) fire 4999 M x4 x5) (fire := fire) (by decide) hi hh c1 hA
  rw [su] at hB1
  rw [e1]
  show ∃ M2, b_X7_meltOn_16 (fun M x4 x5 => f_X7_meltOn_16 a (nI i) (nI h) fire 4998 M x4 x5) a (nI i) (nI h) fire M1 f1 (nI 1) = some M2 ∧ _
  have su1 : M1.1 (a + 5) h = r (t + 171 + h) := by rw [o1.2.2.1]; exact su
  have c2 : ((sd (sn r (t + 140 + i) (t + 150 + i) (fire + r (t + 171 + h))) (t + 7 * (10 * 0 + i)) (t + 140 + i) (t + 150 + i) fire (r (t + 171 + h))) (t + 207)).toNatClampNeg ≤ 6 := by rw [sd_o (by omega) (by omega) (by omega)]; exact c1
  obtain ⟨M2, f2, e2, hB2, o2⟩ := sideX (s := 1) (k := fun M x4 x5 => f_X7_meltOn_16 a (nI i) (nI h) fire 4998 M x4 x5) (fire := fire) (by decide) hi hh c2 hB1
  rw [su1] at hB2
  rw [e2]
  show ∃ M2', b_X7_meltOn_16 _ a (nI i) (nI h) fire M2 f2 (nI 2) = some M2' ∧ _
  unfold b_X7_meltOn_16
  rw [if_pos (by decide)]
  unfold f_X7_meltOn_124
  rw [ck_n (by omega) (by omega), ck_n (by omega) (by omega), nm_x, wr_e, wr_e, ci, ch]
  have hB3 : Mid M2 a (meltF r t i fire (r (t + 171 + h))) t i S0 off f2 := hB2
  obtain ⟨m1, m2, m3, m4, m5, m6, m7, m8, m9⟩ := hB3
  have su2 : M2.1 (a + 5) h = r (t + 171 + h) := by rw [o2.2.2.1]; exact su1
  rw [m7, su2, hof]
  generalize meltF r t i fire (r (t + 171 + h)) = R at m1 m2 m3 m4 m5 m6 m7 m8 m9 ⊢
  refine ⟨_, rfl, ?_, (o1.tr o2).tr ⟨fun b hb => by rw [wI_o (by omega), wI_o (by omega)], rfl, by rw [wI_o (by omega), wI_o (by omega)], fun j hj => by rw [wI_o (by omega), wI_o (by omega)], by rw [wI_o (by omega), wI_o (by omega)]⟩⟩
  have hrow : ∀ b, b ≠ a + 2 → b ≠ a + 3 → ∀ x y, (wI (wI M2 (a + 3) i x) (a + 2) i y).1 b = M2.1 b := fun b h1 h2 x y => by rw [wI_o h1, wI_o h2]
  refine ⟨fun k hk => (m1 k hk).same (hrow _ (by omega) (by omega) _ _) (fun _ _ => rfl), fun j hj => ?_, ?_, fun h9 hh9 => ?_, ?_⟩
  · by_cases e : j = i
    · subst e
      refine ⟨?_, ?_, ?_⟩
      · rw [mIs, mIn (by omega), m7, m8]
        grind
      · rw [mIn (by omega), mIs, m9]
      · rw [hrow _ (by omega) (by omega)]
        exact m3 j hj
    · rw [mIn (by omega), mIn (by omega), mIn (by omega), mIn (by omega), hrow _ (by omega) (by omega)]
      exact ⟨(m2 j hj e).1, (m2 j hj e).2, m3 j hj⟩
  · rw [hrow _ (by omega) (by omega)]
    exact m4
  · rw [hrow _ (by omega) (by omega)]
    exact m5 h9 hh9
  · refine m6.same (fun j hj => hrow _ (by omega) (by omega) _ _) (fun _ _ _ => rfl) ?_
    have hc := m6.1
    have h0 : R (t + 207) = r (t + 207) := by
      have z1 : M2.1 (a + 6) 0 = R (t + 207) := m6.1
      have z2 : M.1 (a + 6) 0 = r (t + 207) := hbr.1
      have z3 : M2.1 (a + 6) = M.1 (a + 6) := (o1.tr o2).2.2.2.1 0 (by decide)
      rw [← z1, ← z2, z3]
    show (R (t + 207)).toNatClampNeg ≤ 6
    rw [h0]
    exact hb6
theorem freezeX {M : Mm} {a t i : Nat} {r : Pg} {x : Int32} (hi : i < 10) (hb6 : (r (t + 207)).toNatClampNeg ≤ 6) (H : ScR M a r t) :
    ∃ M2, f_X7_freezeOn M a (nI i) x = some M2 ∧ ScR M2 a (fr r (t + 140 + i) (t + 150 + i) x) t ∧ Off M M2 a := by
  obtain ⟨hm, hs, hh0, hsun, hbr⟩ := H
  have ci := nI_clamp (show i < 2 ^ 31 by omega)
  unfold f_X7_freezeOn
  rw [ck_n (by omega) (by omega), nm_x, wr_e, wr_e, ci, (hs i hi).2.1]
  refine ⟨_, rfl, ?_, ⟨fun b hb => by rw [wI_o (by omega), wI_o (by omega)], rfl, by rw [wI_o (by omega), wI_o (by omega)], fun j hj => by rw [wI_o (by omega), wI_o (by omega)], by rw [wI_o (by omega), wI_o (by omega)]⟩⟩
  have hrow : ∀ b, b ≠ a + 2 → b ≠ a + 3 → ∀ x y, (wI (wI M (a + 3) i x) (a + 2) i y).1 b = M.1 b := fun b h1 h2 x y => by rw [wI_o h1, wI_o h2]
  refine ⟨fun k hk => (hm k hk).same (hrow _ (by omega) (by omega) _ _) (fun f hf => fr_o (by omega) (by omega)), fun j hj => ?_, ?_, fun h9 hh9 => ?_, ?_⟩
  · by_cases e : j = i
    · subst e
      refine ⟨?_, ?_, ?_⟩
      · rw [mIs, mIn (by omega), (hs j hj).1]
        unfold fr
        rw [upd_eq]
      · rw [mIn (by omega), mIs]
        unfold fr
        rw [upd_ne (by omega), upd_eq]
      · rw [hrow _ (by omega) (by omega), fr_o (by omega) (by omega)]
        exact (hs j hj).2.2
    · rw [mIn (by omega), mIn (by omega), mIn (by omega), mIn (by omega), hrow _ (by omega) (by omega), fr_o (by omega) (by omega), fr_o (by omega) (by omega), fr_o (by omega) (by omega)]
      exact hs j hj
  · rw [hrow _ (by omega) (by omega), fr_o (by omega) (by omega)]
    exact hh0
  · rw [hrow _ (by omega) (by omega), fr_o (by omega) (by omega)]
    exact hsun h9 hh9
  · exact hbr.same (fun j hj => hrow _ (by omega) (by omega) _ _) (fun x h1 h2 => fr_o (by omega) (by omega)) hb6
/-- the treaty of the class -/
def LwR (M : Mm) (a : Nat) (T : Pg) : Prop := M.1 a 0 = T 0 ∧ M.1 a 1 = T 1 ∧ M.1 a 2 = T 2
abbrev suit (r T : Pg) (m : Nat) : Prop := r m = 1 ∧ T 1 ≤ r (m + 5) ∧ (T 2 = 0 ∨ r (m + 6) = 0)
theorem e_suits {M : Mm} {a b m : Nat} {r T : Pg} (hL : LwR M a T) (hM : MnR M b r m) : f_X5_suits M a b = some (b2 (suit r T m)) := by
  unfold f_X5_suits f_X5_suits_36 f_X5_suits_32 f_X5_suits_37
  rw [ck_t (show isB (0 : Int32) from Or.inl rfl), ck_t (show isB (1 : Int32) from Or.inr rfl), hM.1.1]
  by_cases h0 : r m = 1
  · obtain ⟨-, -, -, -, q5, q6, q7⟩ := hM.2.2 h0
    rw [if_neg (by rw [h0]; decide), q5, q6, hL.2.1, hL.2.2]
    by_cases h1 : r (m + 5) < T 1
    · rw [if_pos h1, b2_f (fun z => absurd z.2.1 (by simpa using h1))]
    · rw [if_neg h1]
      by_cases h2 : T 2 = 0
      · rw [if_pos h2, b2_t ⟨h0, by simpa using h1, Or.inl h2⟩]
      · rw [if_neg h2]
        rcases q7 with g | g
        · rw [if_neg (by rw [g]; decide), b2_t ⟨h0, by simpa using h1, Or.inr g⟩]
        · rw [if_pos (by rw [g]; decide), b2_f (fun z => z.2.2.elim h2 (fun y => by rw [g] at y; exact absurd y (by decide)))]
  · rw [if_pos (isB_1 hM.2.1 h0), b2_f (fun z => h0 z.1)]
/-- who counts there, as bits -/
def cb (w e : Prop) [Decidable w] [Decidable e] : Int32 := (if w then 1 else 0) + (if e then 2 else 0)
theorem cnt_suit {r T : Pg} {m : Nat} : cnt r T m ↔ suit r T m ∧ T 0 ≤ r (m + 4) := ⟨fun h => ⟨⟨h.1, h.2.2.1, h.2.2.2⟩, h.2.1⟩, fun h => ⟨h.1.1, h.2, h.1.2.1, h.1.2.2⟩⟩
theorem counting_step {M : Mm} {l a t s i : Nat} {r T : Pg} {x : Int32} {k : Int32 → Int32 → Option Int32} (hs : s < 2) (hi : i < 10) (hL : LwR M (l + 2) T) (hm : ∀ k, k < 20 → MnR M (a + 11 + k) r (t + 7 * k)) :
    b_X4_counting_5 k M l a (nI i) x (nI s) = k (if cnt r T (mo t s i) then x ||| ((1 : Int32) <<< (nI s &&& 31)) else x) (nI (s + 1)) := by
  unfold b_X4_counting_5 f_X4_counting_54
  have mk := hm (10 * s + i) (by omega)
  rw [if_neg (by show ¬ nI 2 ≤ nI s; exact nI_ge (by omega) (by omega)), e_manOf hs hi, bd_s, e_suits hL mk, bd_s, n1, nm_x, mo_e]
  generalize a + 11 + (10 * s + i) = ma at mk ⊢
  generalize t + 7 * (10 * s + i) = m at mk ⊢
  by_cases h : suit r T m
  · rw [if_neg (by rw [b2_0]; exact fun z => z h), (mk.2.2 h.1).2.2.2.1, hL.1]
    by_cases g : r (m + 4) < T 0
    · rw [if_pos g, if_neg (fun z => absurd (cnt_suit.mp z).2 (by simpa using g))]
    · rw [if_neg g, if_pos (cnt_suit.mpr ⟨h, by simpa using g⟩)]
  · rw [if_pos (by rw [b2_0]; exact h), if_neg (fun z => h (cnt_suit.mp z).1)]
theorem e_counting {M : Mm} {l a t i : Nat} {r T : Pg} (hi : i < 10) (hL : LwR M (l + 2) T) (hm : ∀ k, k < 20 → MnR M (a + 11 + k) r (t + 7 * k)) :
    f_X4_counting M l a (nI i) = some (cb (cnt r T (mo t 0 i)) (cnt r T (mo t 1 i))) := by
  unfold f_X4_counting
  show b_X4_counting_5 (fun x3 x4 => f_X4_counting_5 M l a (nI i) 4999 x3 x4) M l a (nI i) 0 (nI 0) = _
  rw [counting_step (s := 0) (by decide) hi hL hm]
  show b_X4_counting_5 (fun x3 x4 => f_X4_counting_5 M l a (nI i) 4998 x3 x4) M l a (nI i) _ (nI 1) = _
  rw [counting_step (s := 1) (by decide) hi hL hm]
  show b_X4_counting_5 _ M l a (nI i) _ (nI 2) = _
  unfold b_X4_counting_5 cb
  rw [if_pos (by decide)]
  by_cases h0 : cnt r T (mo t 0 i)
  · by_cases h1 : cnt r T (mo t 1 i)
    · rw [if_pos h0, if_pos h1, if_pos h0, if_pos h1]; rfl
    · rw [if_pos h0, if_neg h1, if_pos h0, if_neg h1]; rfl
  · by_cases h1 : cnt r T (mo t 1 i)
    · rw [if_neg h0, if_pos h1, if_neg h0, if_pos h1]; rfl
    · rw [if_neg h0, if_neg h1, if_neg h0, if_neg h1]; rfl
