-- THE LINES
theorem DR.sc {d : Nat} {X Y X2 Y2 : Mm} (D : DR d X Y) (hx : ∀ c, (c = 1 ∨ (d ≤ c ∧ c ≤ d + 4)) → X2.1 c = X.1 c) (hy : ∀ c, c ≠ 5 → Y2.1 c = Y.1 c) (h1 : ScR X2 (d + 5) (Y2.1 5) 0) (h2 : InvR (Y2.1 5) 0) (h3 : ∀ hi, hi ≤ 9 → Y.1 0 15 = nI hi → Bey (Y.1 5) 0 (hi + 1) → Bey (Y2.1 5) 0 (hi + 1)) (h4 : Z6 (Y.1 5) → Z6 (Y2.1 5)) : DR d X2 Y2 := by
  obtain ⟨d1, d2, d3, ⟨d4, d5⟩, ⟨hi, sd, ss, u, ⟨e1, e2⟩, e3, e4, e5, e6⟩, -, -⟩ := D
  have x1 := hx 1 (Or.inl rfl)
  have y0 := hy 0 (by decide)
  refine ⟨by rw [hx d (by omega), y0]; exact d1, by rw [hx d (by omega)]; exact d2, by rw [hx (d + 1) (by omega), hy 6 (by decide)]; exact d3, ⟨?_, by rw [hy 7 (by decide)]; exact d5⟩, ⟨hi, sd, ss, u, by rw [x1, y0]; exact ⟨e1, e2⟩, by rw [x1, y0]; exact e3, by rw [x1, y0]; exact e4, by rw [hx d (by omega), hx (d + 3) (by omega), hx (d + 4) (by omega), y0, hy 8 (by decide)]; exact e5, h3 hi u.1 e2 e6.1, h4 e6.2⟩, h1, h2⟩
  unfold LwR
  rw [hx (d + 2) (by omega), hy 7 (by decide)]
  exact d4
theorem DR.hb {d : Nat} {X Y : Mm} (D : DR d X Y) : (Y.1 5 (0 + 207)).toNatClampNeg ≤ 6 := D.2.2.2.2.2.2.b6
theorem row5 (Y : Mm) (k : Nat) (v : Int32) : (wI Y 5 k v).1 5 = upd (Y.1 5) k v := wI_row Y 5 k v
theorem DR.sun {d h v : Nat} {X Y : Mm} (D : DR d X Y) (hd : 141 ≤ d) (hh : h < 12) (hv : v ≤ 9) : DR d (wI X (d + 5 + 5) h (nI v)) (wI Y 5 (171 + h) (nI v)) := by
  refine D.sc (fun c hc => wI_o (by omega)) (fun c hc => wI_o hc) ?_ ?_ (fun hi h9 _ hb => ?_) (fun z k hk => by rw [row5, upd_ne (by omega), upd_ne (by omega)]; exact z k hk)
  · rw [row5, show 171 + h = 0 + 171 + h by omega]
    exact D.2.2.2.2.2.1.sun hh D.hb
  · rw [row5, show 171 + h = 0 + 171 + h by omega]
    exact D.2.2.2.2.2.2.sun hh hv
  · rw [row5]
    exact hb.up (fun s i _ _ _ => by unfold mo; omega) (fun i _ _ => by omega)
theorem DR.snow {d i v hi : Nat} {X Y : Mm} (D : DR d X Y) (hd : 141 ≤ d) (e : Y.1 0 15 = nI hi) (hi9 : hi ≤ 9) (hh : i ≤ hi) : DR d (wI X (d + 5 + 2) i (nI v)) (wI Y 5 (140 + i) (nI v)) := by
  refine D.sc (fun c hc => wI_o (by omega)) (fun c hc => wI_o hc) ?_ ?_ (fun hi2 h9 e2 hb => ?_) (fun z k hk => by rw [row5, upd_ne (by omega), upd_ne (by omega)]; exact z k hk)
  · rw [row5, show 140 + i = 0 + 140 + i by omega]
    exact D.2.2.2.2.2.1.snow (by omega) D.hb
  · rw [row5, show 140 + i = 0 + 140 + i by omega]
    exact D.2.2.2.2.2.2.snow (by omega)
  · rw [e] at e2
    have : hi = hi2 := (nI_eq (by omega) (by omega)).mp e2
    rw [row5]
    exact hb.up (fun s i _ _ _ => by unfold mo; omega) (fun i _ _ => by omega)
/-- the scene stays -/
theorem DR.ns {d : Nat} {X Y X2 Y2 : Mm} (D : DR d X Y) (hx : ∀ j, j < 31 → X2.1 (d + 5 + j) = X.1 (d + 5 + j)) (hy : Y2.1 5 = Y.1 5) : ScR X2 (d + 5) (Y2.1 5) 0 ∧ InvR (Y2.1 5) 0 := by
  rw [hy]
  exact ⟨D.2.2.2.2.2.1.c D.hb hx (fun _ _ => rfl), D.2.2.2.2.2.2⟩
theorem DR.frost {d h v : Nat} {X Y : Mm} (D : DR d X Y) (hd : 141 ≤ d) : DR d (wI X (d + 1) h (nI v)) (wI Y 6 h (nI v)) := by
  obtain ⟨s1, s2⟩ := D.ns (X2 := wI X (d + 1) h (nI v)) (Y2 := wI Y 6 h (nI v)) (fun j _ => wI_o (by omega)) (wI_o (by decide))
  obtain ⟨d1, d2, d3, ⟨d4, d5⟩, ⟨hi, sd, ss, u, e1, e3, e4, e5, e6⟩, -, -⟩ := D
  have x1 : (wI X (d + 1) h (nI v)).1 1 = X.1 1 := wI_o (by omega)
  have y0 : (wI Y 6 h (nI v)).1 0 = Y.1 0 := wI_o (by decide)
  have xd : (wI X (d + 1) h (nI v)).1 d = X.1 d := wI_o (by omega)
  refine ⟨by rw [xd, y0]; exact d1, by rw [xd]; exact d2, fun j hj => ?_, ⟨?_, by rw [wI_o (by decide)]; exact d5⟩, ⟨hi, sd, ss, u, by rw [x1, y0]; exact e1, by rw [x1, y0]; exact e3, by rw [x1, y0]; exact e4, by rw [xd, y0, wI_o (by omega), wI_o (by omega), wI_o (by omega)]; exact e5, by rw [wI_o (by decide)]; exact e6⟩, s1, s2⟩
  · by_cases e : j = h
    · rw [e, mIs, mIs]
    · rw [mIn (by omega), mIn (by omega)]
      exact d3 j hj
  · unfold LwR
    rw [wI_o (by omega), wI_o (by decide)]
    exact d4
theorem DR.law {d k v : Nat} {X Y : Mm} (D : DR d X Y) (hd : 141 ≤ d) (hv : k = 0 → 1 ≤ v ∧ v ≤ 99) : DR d (wI X (d + 2) k (nI v)) (wI Y 7 k (nI v)) := by
  obtain ⟨s1, s2⟩ := D.ns (X2 := wI X (d + 2) k (nI v)) (Y2 := wI Y 7 k (nI v)) (fun j _ => wI_o (by omega)) (wI_o (by decide))
  obtain ⟨d1, d2, d3, ⟨⟨l0, l1, l2⟩, d5⟩, ⟨hi, sd, ss, u, e1, e3, e4, e5, e6⟩, -, -⟩ := D
  have x1 : (wI X (d + 2) k (nI v)).1 1 = X.1 1 := wI_o (by omega)
  have y0 : (wI Y 7 k (nI v)).1 0 = Y.1 0 := wI_o (by decide)
  have xd : (wI X (d + 2) k (nI v)).1 d = X.1 d := wI_o (by omega)
  have each : ∀ j, X.1 (d + 2) j = Y.1 7 j → (wI X (d + 2) k (nI v)).1 (d + 2) j = (wI Y 7 k (nI v)).1 7 j := fun j hj => by
    by_cases e : j = k
    · rw [e, mIs, mIs]
    · rw [mIn (by omega), mIn (by omega)]
      exact hj
  refine ⟨by rw [xd, y0]; exact d1, by rw [xd]; exact d2, by rw [wI_o (by omega), wI_o (by decide)]; exact d3, ⟨⟨each 0 l0, each 1 l1, each 2 l2⟩, ?_⟩, ⟨hi, sd, ss, u, by rw [x1, y0]; exact e1, by rw [x1, y0]; exact e3, by rw [x1, y0]; exact e4, by rw [xd, y0, wI_o (by omega), wI_o (by omega), wI_o (by omega)]; exact e5, by rw [wI_o (by decide)]; exact e6⟩, s1, s2⟩
  by_cases e : k = 0
  · subst e
    exact ⟨v, (hv rfl).1, (hv rfl).2, mIs _ _ _ _⟩
  · rw [mIn (by omega)]
    exact d5
theorem DR.fur {d v : Nat} {X Y : Mm} (D : DR d X Y) (hd : 141 ≤ d) (h1 : 1 ≤ v) (h2 : v ≤ 10) : DR d (wI X d 0 (nI v)) (wI Y 0 12 (nI v)) := by
  obtain ⟨s1, s2⟩ := D.ns (X2 := wI X d 0 (nI v)) (Y2 := wI Y 0 12 (nI v)) (fun j _ => wI_o (by omega)) (wI_o (by decide))
  obtain ⟨d1, d2, d3, ⟨d4, d5⟩, ⟨hi, sd, ss, u, e1, e3, e4, ⟨c, c8, c1, c2, c3⟩, e6⟩, -, -⟩ := D
  have x1 : (wI X d 0 (nI v)).1 1 = X.1 1 := wI_o (by omega)
  have y0 : ∀ j, j ≠ 12 → (wI Y 0 12 (nI v)).1 0 j = Y.1 0 j := fun j hj => mIn (by omega)
  refine ⟨⟨v, h1, h2, mIs _ _ _ _, mIs _ _ _ _⟩, by rw [mIn (by omega)]; exact d2, by rw [wI_o (by omega), wI_o (by decide)]; exact d3, ⟨?_, by rw [wI_o (by decide)]; exact d5⟩, ⟨hi, sd, ss, u, by rw [x1, y0 15 (by decide)]; exact e1, by rw [x1, y0 13 (by decide)]; exact e3, by rw [x1, y0 14 (by decide)]; exact e4, ⟨c, c8, by rw [mIn (by omega)]; exact c1, by rw [y0 11 (by decide)]; exact c2, by rw [wI_o (by omega), wI_o (by omega), wI_o (by omega)]; exact c3⟩, by rw [wI_o (by decide)]; exact e6⟩, s1, s2⟩
  unfold LwR
  rw [wI_o (by omega), wI_o (by decide)]
  exact d4
/-- said: ones, snow, farthest -/
theorem DR.said {d : Nat} {X Y : Mm} {k kk : Nat} {v : Int32} (D : DR d X Y) (hd : 141 ≤ d) (hk : (k = 9 ∧ kk = 13 ∧ ∃ sd, sd < 16 ∧ v = nI sd) ∨ (k = 10 ∧ kk = 14 ∧ ∃ ss, ss < 1024 ∧ v = nI ss) ∨ (k = 11 ∧ kk = 15 ∧ ∃ h, h ≤ 9 ∧ v = nI h ∧ ∀ hi, hi ≤ 9 → Y.1 0 15 = nI hi → hi ≤ h)) : DR d (wI X 1 k v) (wI Y 0 kk v) := by
  have hkk : 13 ≤ kk ∧ kk ≤ 15 := by omega
  obtain ⟨s1, s2⟩ := D.ns (X2 := wI X 1 k v) (Y2 := wI Y 0 kk v) (fun j _ => wI_o (by omega)) (wI_o (by decide))
  obtain ⟨⟨F, f1, f2, f3, f4⟩, d2, d3, ⟨d4, d5⟩, ⟨hi, sd, ss, ⟨u1, u2, u3⟩, ⟨e1, e2⟩, ⟨e3, e4⟩, ⟨e5, e6⟩, ⟨c, c8, c1, c2, c3⟩, e7⟩, -, -⟩ := D
  refine ⟨⟨F, f1, f2, by rw [wI_o (by omega)]; exact f3, by rw [mIn (by omega)]; exact f4⟩, by rw [wI_o (by omega)]; exact d2, by rw [wI_o (by omega), wI_o (by decide)]; exact d3, ⟨?_, by rw [wI_o (by decide)]; exact d5⟩, ?_, s1, s2⟩
  · unfold LwR
    rw [wI_o (by omega), wI_o (by decide)]
    exact d4
  · rw [wI_o (show 8 ≠ 0 by decide), wI_o (show 5 ≠ 0 by decide), wI_o (show d ≠ 1 by omega), wI_o (show d + 3 ≠ 1 by omega), wI_o (show d + 4 ≠ 1 by omega)]
    rcases hk with ⟨rfl, rfl, z, z1, z2⟩ | ⟨rfl, rfl, z, z1, z2⟩ | ⟨rfl, rfl, z, z1, z2, z3⟩
    · exact ⟨hi, z, ss, ⟨u1, z1, u3⟩, ⟨by rw [mIn (by decide)]; exact e1, by rw [mIn (by decide)]; exact e2⟩, ⟨by rw [mIs]; exact z2, by rw [mIs]; exact z2⟩, ⟨by rw [mIn (by decide)]; exact e5, by rw [mIn (by decide)]; exact e6⟩, ⟨c, c8, c1, by rw [mIn (by decide)]; exact c2, c3⟩, e7⟩
    · exact ⟨hi, sd, z, ⟨u1, u2, z1⟩, ⟨by rw [mIn (by decide)]; exact e1, by rw [mIn (by decide)]; exact e2⟩, ⟨by rw [mIn (by decide)]; exact e3, by rw [mIn (by decide)]; exact e4⟩, ⟨by rw [mIs]; exact z2, by rw [mIs]; exact z2⟩, ⟨c, c8, c1, by rw [mIn (by decide)]; exact c2, c3⟩, e7⟩
    · have hz := z3 hi u1 e2
      refine ⟨z, sd, ss, ⟨z1, u2, u3⟩, ⟨by rw [mIs]; exact z2, by rw [mIs]; exact z2⟩, ⟨by rw [mIn (by decide)]; exact e3, by rw [mIn (by decide)]; exact e4⟩, ⟨by rw [mIn (by decide)]; exact e5, by rw [mIn (by decide)]; exact e6⟩, ⟨c, c8, c1, by rw [mIn (by decide)]; exact c2, fun h hh => ?_⟩, ⟨fun s i hs h1 h2 => e7.1.1 s i hs (by omega) h2, fun i h1 h2 => e7.1.2 i (by omega) h2⟩, e7.2⟩
      obtain ⟨g1, g2, x, g3, g4⟩ := c3 h hh
      exact ⟨g1, g2, x, by omega, g4⟩
theorem once_tab : ∀ sd, sd < 16 → ∀ w, w < 4 → ((nI sd &&& nI (2 ^ w)) = 0 ↔ ¬ ((nI sd >>> (nI w &&& 31)) &&& 1) = 1) ∧ nI sd ||| nI (2 ^ w) = nI (sd ||| 2 ^ w) ∧ nI sd ||| (1 : Int32) <<< (nI w &&& 31) = nI (sd ||| 2 ^ w) ∧ sd ||| 2 ^ w < 16 := by decide +kernel
/-- the one line of its kind: class and reference -/
theorem first_sim {g : Gg} (hg : OKg g) {X Y M N : Mm} {st q w : Nat} (hw : w < 4) (A : AS g X Y st q M N) (D : DR g.2.2.1 X Y) : (∃ sd, AS g (wI X 1 9 (nI sd)) (wI Y 0 13 (nI sd)) st q (wI M 1 9 (nI sd)) (wI N 0 13 (nI sd)) ∧ DR g.2.2.1 (wI X 1 9 (nI sd)) (wI Y 0 13 (nI sd)) ∧ f_X9_isFirst M (nI (2 ^ w)) = some (1, wI M 1 9 (nI sd)) ∧ f_X12_readOnce N (nI w) = f_X12_readOnce_17 N (nI w) ∧ N.1 0 13 ||| (1 : Int32) <<< (nI w &&& 31) = nI sd) ∨ ∃ M2 N2, f_X9_isFirst M (nI (2 ^ w)) = some (0, M2) ∧ f_X12_readOnce N (nI w) = f_X12_readOnce_17 N2 (nI w) ∧ FS g M2 N2 := by
  obtain ⟨B4a, B4b, B4c⟩ := A.bad (c := 4) (by decide) (by decide)
  obtain ⟨hi, sd, ss, ⟨u1, u2, u3⟩, ⟨e1, e2⟩, ⟨e3, e4⟩, -⟩ := D.2.2.2.2.1
  have m9 : M.1 1 9 = nI sd := by rw [A.1.1.1 1 9 (by decide)]; exact e3
  have n13 : N.1 0 13 = nI sd := by rw [A.1.2.1.1 0 13 (by decide)]; exact e4
  obtain ⟨t1, t2, t3, t4⟩ := once_tab sd u2 w hw
  unfold f_X9_isFirst f_X12_readOnce
  rw [m9, n13, t2]
  by_cases z : (nI sd &&& nI (2 ^ w)) = 0
  · rw [if_pos z, if_neg (t1.mp z), wr_e]
    exact Or.inl ⟨sd ||| 2 ^ w, (A.wX (OX.s (by decide)) _).wY (Or.inr (by decide)) _, D.said (by have := hg.2.2.2.1; omega) (Or.inl ⟨rfl, rfl, _, t4, rfl⟩), rfl, rfl, t3⟩
  · rw [if_neg z, if_pos (by
      by_cases y : ((nI sd >>> (nI w &&& 31)) &&& 1) = 1
      · exact y
      · exact absurd (t1.mpr y) z), show f_X9_refuse M 4 (M.1 1 6) = _ from B4a, bd_s, ck_t (Or.inl rfl), show f_X12_fails N 4 = _ from B4b, bd_s]
    exact Or.inr ⟨_, _, rfl, rfl, B4c⟩
theorem ln_furlongs {g : Gg} (hg : OKg g) {X Y M N : Mm} {st q : Nat} (A : AS g X Y st q M N) (D : DR g.2.2.1 X Y) : LSg g q (f_X9_readFurlongs M g.2.2.1) (bd (f_X12_readOnce N 0) f_X12_readLine_82) := by
  have hd : 141 ≤ g.2.2.1 := by have := hg.2.2.2.1; omega
  unfold f_X9_readFurlongs f_X9_readFurlongs_18
  have cl : ∀ N, bd (f_X12_readOnce_17 N 0) f_X12_readLine_82 = bd (f_X12_step (wI N 0 13 ((N.1 0 13) ||| ((1 : Int32) <<< ((0 : Int32) &&& 31))))) fun N1 => bd (f_X12_number N1 1 10) fun p => f_X12_readLine_82 (wI p.2 0 12 p.1) := fun N => by
    unfold f_X12_readOnce_17 f_X12_readOnce_110
    simp only [wr_e, bd_bd, if_true, bd_s]
  have hB : ∀ r, BS g fun N => f_X12_readLine_82 (wI N 0 12 r) := fun r => BS_w (K := f_X12_readLine_82) (v := fun _ => r) (Or.inr (by decide)) BS_82
  rcases first_sim (w := 0) hg (by decide) A D with ⟨sd, A2, D2, e1, e2, e3⟩ | ⟨M2, N2, e1, e2, F⟩
  · rw [show f_X9_isFirst M 1 = _ from e1, show f_X12_readOnce N 0 = _ from e2, bd_s, show bd (f_X12_readOnce_17 N (nI 0)) f_X12_readLine_82 = _ from cl N, show N.1 0 13 ||| (1 : Int32) <<< ((0 : Int32) &&& 31) = nI sd from e3]
    dsimp only
    rw [if_neg (by decide)]
    refine seq_rn (lo := 1) (hi := 10) hg A2.1 PW.id (by decide) (by decide) hB (fun v M3 N3 st3 q3 h1 h2 h3 A3 hv => ?_)
    dsimp only
    rw [wr_e, hv]
    exact (seq_semi hg (A3.1.wX (OX.d (by omega) (by omega) (by omega) (by omega)) (nI v)) (PW.w (Or.inr (by decide)) (nI v)) (D2.fur hd h1 h2) (by have := A3.2.1; omega)).ck
  · rw [show f_X9_isFirst M 1 = _ from e1, show f_X12_readOnce N 0 = _ from e2, bd_s, show bd (f_X12_readOnce_17 N2 (nI 0)) f_X12_readLine_82 = _ from cl N2]
    dsimp only
    rw [if_pos rfl]
    exact LSg.bad (K := fun N2 => bd (f_X12_step (wI N2 0 13 ((N2.1 0 13) ||| ((1 : Int32) <<< ((0 : Int32) &&& 31))))) fun N1 => bd (f_X12_number N1 1 10) fun p => f_X12_readLine_82 (wI p.2 0 12 p.1)) F (BS_w (K := fun N => bd (f_X12_step N) fun N1 => bd (f_X12_number N1 1 10) fun p => f_X12_readLine_82 (wI p.2 0 12 p.1)) (v := fun N2 => (N2.1 0 13) ||| ((1 : Int32) <<< ((0 : Int32) &&& 31))) (Or.inr (by decide)) (BS_step (BS_num hB)))
