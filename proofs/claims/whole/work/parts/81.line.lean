-- ANY LINE
theorem line_sim {g : Gg} (hg : OKg g) {X Y M N : Mm} {st q : Nat} (A : AS g X Y st q M N) (D : DR g.2.2.1 X Y) : LSg g q (f_X9_readLine M g.2.2.1) (f_X12_readLine N) := by
  obtain ⟨B2a, B2b, B2c⟩ := A.bad (c := 2) (by decide) (by decide)
  obtain ⟨r, n1, n2⟩ := name_sim hg A
  unfold f_X9_readLine f_X12_readLine
  rw [n1, bd_s, show f_X12_in r.toInt64 (0 : Int64) (7 : Int64) = some (b2 (inR r 0 7)) from e_inI r 0 7, bd_s]
  have bad : (∀ v, v < 8 → f_X9_isNamed M v = some 0) → f_X9_readLine M g.2.2.1 = some (0, wI (wI M 1 3 2) 1 4 (M.1 1 6)) := fun i => by
    unfold f_X9_readLine
    rw [i 0 (by decide), i 1 (by decide), i 2 (by decide), i 3 (by decide), i 4 (by decide), i 5 (by decide), i 6 (by decide), i 7 (by decide)]
    rfl
  unfold f_X9_readLine at bad
  rcases n2 with ⟨er, i⟩ | ⟨w, hw, er, i⟩
  · rw [bad (fun v hv => i v (by omega)), if_pos (b2_0.mpr (by rw [er]; decide)), show f_X12_fails N 2 = _ from B2b, bd_s]
    exact Or.inr ⟨_, _, rfl, rfl, B2c⟩
  · by_cases z : w < 8
    · have hin : inR r 0 7 := by
        rw [er]
        exact ⟨nI_pos' (by omega), nI_le (b := 7) (by omega) (by omega)⟩
      rw [if_neg (fun q => b2_0.mp q hin), er, i 0 (by decide), i 1 (by decide), i 2 (by decide), i 3 (by decide), i 4 (by decide), i 5 (by decide), i 6 (by decide), i 7 (by decide)]
      clear bad n1 er hin i
      have hw8 : w = 0 ∨ w = 1 ∨ w = 2 ∨ w = 3 ∨ w = 4 ∨ w = 5 ∨ w = 6 ∨ w = 7 := by omega
      rcases hw8 with rfl | rfl | rfl | rfl | rfl | rfl | rfl | rfl
      · exact (ln_furlongs hg A D).ck
      · exact (ln_hours hg (w := 1) (kd := 1) (Or.inl ⟨rfl, rfl⟩) A D).ck
      · exact (ln_hours hg (w := 2) (kd := 0) (Or.inr ⟨rfl, rfl⟩) A D).ck
      · exact (ln_treaty hg A D).ck
      · exact (ln_snow hg A D).ck
      · exact (ln_man hg A D).ck
      · exact (ln_brazier hg A D).ck
      · exact (ln_house hg A D).ck
    · rw [bad (fun v hv => by rw [i v (by omega), if_neg (by omega)]), if_pos (b2_0.mpr (fun y => by
        rw [er] at y
        have := (nI_leI (b := 7) (by omega) (by omega)).mp y.2
        omega)), show f_X12_fails N 2 = _ from B2b, bd_s]
      exact Or.inr ⟨_, _, rfl, rfl, B2c⟩
def gl (g : Gg) (L : Nat) : Gg := (g.1, g.2.1, g.2.2.1, wI g.2.2.2.1 1 2 (nI L), g.2.2.2.2)
theorem gl_ok {g : Gg} (hg : OKg g) (L : Nat) : OKg (gl g L) := ⟨hg.1, hg.2.1.w (by decide), hg.2.2.1, hg.2.2.2.1, hg.2.2.2.2.1, hg.2.2.2.2.2⟩
theorem FS.gl {g : Gg} {L : Nat} {M N : Mm} (h : FS (gl g L) M N) : FS g M N := ⟨⟨fun c h1 h2 => (h.1.1 c h1 h2).trans (wI_o h1), h.1.2⟩, h.2⟩
/-- one line more -/
theorem AS.ln {g : Gg} {L : Nat} {X Y M N : Mm} {st q : Nat} (h : AS (gl g L) X Y st q M N) : M.1 1 2 = nI L ∧ AS (gl g (L + 1)) (wI X 1 2 (nI (L + 1))) Y st q (wI M 1 2 (nI (L + 1))) N := by
  obtain ⟨⟨⟨a1, ⟨a2, a10, a11⟩⟩, a3, a5, ⟨a6, a7⟩, a8, a9⟩, u1, u2, u3, kind, val, u4, u5, u6, u7, u8, u9, u10⟩ := h
  refine ⟨?_, ⟨⟨a1.ww 1 2 _, ⟨⟨fun c h1 h2 => ?_, fun k hk => ?_⟩, ?_, ?_⟩⟩, a3, a5, ⟨?_, ?_⟩, a8, a9⟩, u1, ?_, u3, kind, val, u4, u5, u6, u7, ?_, u9, ?_⟩
  · rw [a1 1 2 (by decide), a11]
    exact mIs _ _ _ _
  · rw [wI_o h1, a2.1 c h1 h2]
    show (wI g.2.2.2.1 1 2 (nI L)).1 c = (wI g.2.2.2.1 1 2 (nI (L + 1))).1 c
    rw [wI_o h1, wI_o h1]
  · rw [wI_o (by omega)]
    exact a2.2 k hk
  · rw [mIn (by decide)]
    exact a10
  · rw [mIs]
    exact (mIs _ _ _ _).symm
  · rw [mIn (by decide)]
    exact a6
  · rw [mIn (by decide)]
    exact a7
  · rw [mIn (by decide)]
    exact u2
  · rw [mIn (by decide)]
    exact u8
  · rw [mIn (by decide)]
    exact u10
theorem DR.ln {d : Nat} {X Y : Mm} {v : Int32} (D : DR d X Y) (hd : 141 ≤ d) : DR d (wI X 1 2 v) Y := by
  obtain ⟨s1, s2⟩ := D.ns (X2 := wI X 1 2 v) (Y2 := Y) (fun j _ => wI_o (by omega)) rfl
  obtain ⟨d1, d2, d3, ⟨d4, d5⟩, ⟨hi, sd, ss, u, e1, e3, e4, e5, e6⟩, -, -⟩ := D
  refine ⟨by rw [wI_o (by omega)]; exact d1, by rw [wI_o (by omega)]; exact d2, by rw [wI_o (by omega)]; exact d3, ⟨?_, d5⟩, ⟨hi, sd, ss, u, by rw [mIn (by decide)]; exact e1, by rw [mIn (by decide)]; exact e3, by rw [mIn (by decide)]; exact e4, by rw [wI_o (by omega), wI_o (by omega), wI_o (by omega)]; exact e5, e6⟩, s1, s2⟩
  unfold LwR
  rw [wI_o (by omega)]
  exact d4
theorem tell_0 {d f : Nat} {M : Mm} : f_X9_tell_40 d (f + 1) M 0 = f_X9_tell_95 M d 0 := by
  show b_X9_tell_40 (fun M x2 => f_X9_tell_40 d f M x2) d M 0 = _
  unfold b_X9_tell_40
  by_cases z : (400 : Int32) ≤ M.1 1 2
  · rw [if_pos z]
  · rw [if_neg z, if_pos rfl]
theorem land_b {g : Gg} {N : Mm} (h : BR g N) (f : Nat) (x : Int32) : f_X12_land_92 (f + 1) N x = f_X12_land_116 N x := by
  show b_X12_land_92 (fun M x1 => f_X12_land_92 f M x1) N x = _
  unfold b_X12_land_92
  rw [if_neg h.ne.1]
theorem tell_loop {g : Gg} (hg : OKg g) : ∀ e f ff L X Y st q M N, g.2.1 - st < e → e < f → e < ff → L ≤ st → AS (gl g L) X Y st q M N → DR g.2.2.1 X Y →
    (∃ L2 X2 Y2 q2 M2 N2, f_X9_tell_40 g.2.2.1 f M 1 = f_X9_tell_95 M2 g.2.2.1 1 ∧ f_X12_land_92 ff N (nI L) = f_X12_land_116 N2 (nI L2) ∧ AS (gl g L2) X2 Y2 g.2.1 q2 M2 N2 ∧ DR g.2.2.1 X2 Y2) ∨ ∃ L2 M2 N2, f_X9_tell_40 g.2.2.1 f M 1 = f_X9_tell_95 M2 g.2.2.1 0 ∧ f_X12_land_92 ff N (nI L) = f_X12_land_116 N2 (nI L2) ∧ FS g M2 N2 := by
  have hd : 141 ≤ g.2.2.1 := by have := hg.2.2.2.1; omega
  have hn : g.2.1 ≤ 400 := hg.1.1
  intro e
  induction e with
  | zero => intro f ff L X Y st q M N h; omega
  | succ e ih =>
    intro f ff L X Y st q M N h1 h2 h3 h4 A D
    obtain ⟨f, rfl⟩ : ∃ m, f = m + 1 := ⟨f - 1, by omega⟩
    obtain ⟨ff, rfl⟩ : ∃ m, ff = m + 1 := ⟨ff - 1, by omega⟩
    obtain ⟨m2, -⟩ := A.ln
    have stx : f_X9_tell_40 g.2.2.1 (f + 1) M 1 = b_X9_tell_40 (fun M x2 => f_X9_tell_40 g.2.2.1 f M x2) g.2.2.1 M 1 := rfl
    have sty : f_X12_land_92 (ff + 1) N (nI L) = b_X12_land_92 (fun M x1 => f_X12_land_92 ff M x1) N (nI L) := rfl
    rw [stx, sty]
    unfold b_X9_tell_40 b_X12_land_92
    rw [m2, if_pos A.1.2.2.2.2.1]
    obtain ⟨kind, val, k1, k2, k3, k4, k5, k6, -⟩ := A.2.2.2.2
    have hqn : q ≤ g.2.1 := A.1.2.2.1
    rw [k5, k6]
    by_cases z : kind = 0
    · have hs : st = g.2.1 := k4 z
      have ed : ∀ x : Option Mm, (if (400 : Int32) ≤ nI L then f_X9_tell_95 M g.2.2.1 1 else if (1 : Int32) = 0 then f_X9_tell_95 M g.2.2.1 1 else if nI kind = 0 then f_X9_tell_95 M g.2.2.1 1 else x) = f_X9_tell_95 M g.2.2.1 1 := fun x => by
        by_cases y : (400 : Int32) ≤ nI L
        · rw [if_pos y]
        · rw [if_neg y, if_neg (by decide), if_pos (by rw [z]; rfl)]
      rw [ed, if_pos (by rw [z]; rfl)]
      subst hs
      exact Or.inl ⟨L, X, Y, q, M, N, rfl, rfl, A, D⟩
    · have hlt := k3 z
      have kz : ¬ nI kind = 0 := nI_ne0 (by omega) (by omega)
      rw [if_neg (show ¬ (400 : Int32) ≤ nI L from nI_ge (b := 400) (by omega) (by omega)), if_neg (by decide), if_neg kz, if_neg kz]
      unfold f_X9_tell_80 f_X9_tell_81
      rcases line_sim (gl_ok hg L) A D with ⟨X3, Y3, st3, q3, M3, N3, c1, c2, A3, D3, c5⟩ | ⟨M3, N3, c1, c2, F⟩
      · rw [show f_X9_readLine M g.2.2.1 = _ from c1, c2, bd_s]
        dsimp only
        rw [if_neg (by decide)]
        rcases tok_sim (gl_ok hg L) A3.1 with ⟨M4, N4, st4, q4, t1, t2, t3, A4⟩ | ⟨M4, N4, t1, t2, F⟩
        · obtain ⟨m42, A5⟩ := A4.ln
          rw [t1, t2, bd_s, bd_s]
          dsimp only
          rw [if_neg (by decide), wr_e, m42, n1]
          exact ih f ff (L + 1) _ Y3 st4 q4 _ N4 (by have := A4.2.1; have := A4.1.2.2.1; omega) (by omega) (by omega) (by omega) A5 (D3.ln hd)
        · obtain ⟨f, rfl⟩ : ∃ m, f = m + 1 := ⟨f - 1, by omega⟩
          obtain ⟨ff, rfl⟩ : ∃ m, ff = m + 1 := ⟨ff - 1, by omega⟩
          rw [t1, t2, bd_s, bd_s]
          dsimp only
          rw [if_pos rfl, wr_e, n1, tell_0, land_b F.2.1]
          have F2 := F.gl
          exact Or.inr ⟨L + 1, _, N4, rfl, rfl, ⟨fun c y1 y2 => (wI_o y1).trans (F2.1.1 c y1 y2), fun k hk => by rw [wI_o (by omega)]; exact F2.1.2 k hk⟩, F2.2.1, by rw [mIn (by decide)]; exact F2.2.2.1, by rw [mIn (by decide)]; exact F2.2.2.2⟩
      · obtain ⟨f, rfl⟩ : ∃ m, f = m + 1 := ⟨f - 1, by omega⟩
        obtain ⟨ff, rfl⟩ : ∃ m, ff = m + 1 := ⟨ff - 1, by omega⟩
        rw [show f_X9_readLine M g.2.2.1 = _ from c1, c2, bd_s, bd_s]
        dsimp only
        rw [if_pos rfl, wr_e, n1, tell_0, land_b F.2.1]
        have F2 := F.gl
        exact Or.inr ⟨L + 1, _, N3, rfl, rfl, ⟨fun c y1 y2 => (wI_o y1).trans (F2.1.1 c y1 y2), fun k hk => by rw [wI_o (by omega)]; exact F2.1.2 k hk⟩, F2.2.1, by rw [mIn (by decide)]; exact F2.2.2.1, by rw [mIn (by decide)]; exact F2.2.2.2⟩
