/-- a call of the reference that writes, one of the class that doesn't -/
def tk (A B : Int32 → Int32) (w : Int32) : Nat → Nat → Int32
  | 0, _ => -4
  | n + 1, v => if A (nI v) = B (nI v) then (if w = 0 then nI v else A (nI v)) else tk A B w n (v + 1)
theorem nI_ne4 {v : Nat} (h : v < 2 ^ 31) : ¬ nI v = -4 := fun z => by
  have h1 := nI_pos' h
  rw [z] at h1
  exact absurd h1 (by decide)
theorem suit_T {r T : Pg} {m : Nat} {x : Int32} : suit r (upd T 0 x) m ↔ suit r T m := Iff.rfl
theorem stB_T {r T : Pg} {s i : Nat} {x hd : Int32} : stB r (upd T 0 x) s hd i = stB r T s hd i := rfl
theorem s_talks {M N : Mm} (R : Rel M N) (x : Int32) : ∃ r, f_X11_talks M x = some r ∧ f_X12_talks N x = some (r, N) := by
  obtain ⟨p, F, H⟩ := R
  unfold f_X11_talks f_X12_talks
  rw [e_isAmong, bd_s, show f_X12_in x.toInt64 (0 : Int64) (1 : Int64) = some (b2 (inR x 0 1)) from e_inI x 0 1, bd_s]
  by_cases g : inR x 0 1
  · rw [if_neg (fun q => b2_0.mp q g), if_neg (fun q => b2_0.mp q g), nm_x, show (0 : Int32).toNatClampNeg = 0 from rfl]
    generalize hA : (fun hd => sumI (stB (N.1 1) (N.1 3) 0 hd) F) = A
    generalize hB : (fun hd => sumI (stB (N.1 1) (N.1 3) 1 hd) F) = B
    have xA : ∀ hd, f_X4_strengthBy M (lx p) 0 hd = some (A hd) := fun hd => by rw [← hA]; exact e_strB (s := 0) H (by decide)
    have xB : ∀ hd, f_X4_strengthBy M (lx p) 1 hd = some (B hd) := fun hd => by rw [← hB]; exact e_strB (s := 1) H (by decide)
    have yr : ∀ hd, (wI N 3 0 hd).1 1 = N.1 1 := fun hd => wI_o (by decide)
    have yt : ∀ hd, (wI N 3 0 hd).1 3 = upd (N.1 3) 0 hd := fun hd => wI_row _ _ _ _
    have y0 : ∀ hd, (wI N 3 0 hd).1 0 = N.1 0 := fun hd => wI_o (by decide)
    have yA : ∀ hd, f_X12_strengthOf (wI N 3 0 hd) 0 = some (A hd) := fun hd => by
      have := e_strY (N := wI N 3 0 hd) (F := F) (s := 0) H.1.2.2.2.2.1 (by rw [y0]; exact H.1.2.2.2.2.2.2) (by decide)
      rw [yr, yt, upd_eq] at this
      rw [← hA]
      exact this
    have yB : ∀ hd, f_X12_strengthOf (wI N 3 0 hd) 1 = some (B hd) := fun hd => by
      have := e_strY (N := wI N 3 0 hd) (F := F) (s := 1) H.1.2.2.2.2.1 (by rw [y0]; exact H.1.2.2.2.2.2.2) (by decide)
      rw [yr, yt, upd_eq] at this
      rw [← hB]
      exact this
    have lx1 : ∀ n f v, v + n = 100 → n < f → f_X11_talks_13 M x f (nI v) = some (tk A B x n v) := by
      intro n
      induction n with
      | zero =>
        intro f v h1 h2
        obtain ⟨f, rfl⟩ : ∃ g, f = g + 1 := ⟨f - 1, by omega⟩
        show b_X11_talks_13 _ M x (nI v) = _
        unfold b_X11_talks_13
        rw [if_pos (by show nI 99 < nI v; exact nI_lt (by omega) (by omega))]
        rfl
      | succ n ih =>
        intro f v h1 h2
        obtain ⟨f, rfl⟩ : ∃ g, f = g + 1 := ⟨f - 1, by omega⟩
        show b_X11_talks_13 (fun x2 => f_X11_talks_13 M x f x2) M x (nI v) = _
        unfold b_X11_talks_13 f_X11_talks_42 f_X11_talks_51
        rw [if_neg (by show ¬ nI 99 < nI v; exact nI_nlt (by omega) (by omega)), H.ld, xA, bd_s, xB, bd_s]
        show _ = some (if A (nI v) = B (nI v) then (if x = 0 then nI v else A (nI v)) else tk A B x n (v + 1))
        by_cases e : A (nI v) = B (nI v)
        · rw [if_pos e, if_pos e]
          by_cases q : x = 0
          · rw [if_pos q, if_pos q]
          · rw [if_neg q, if_neg q]
        · rw [if_neg e, if_neg e, n1]
          exact ih f (v + 1) (by omega) (by omega)
    have back : ∀ hd, wI (wI N 3 0 hd) 3 0 (N.1 3 0) = N := fun hd => by
      refine Prod.ext (funext fun b => funext fun j => ?_) rfl
      rw [mI, mI]
      by_cases q : b = 3 ∧ j = 0
      · rw [if_pos q, q.1, q.2]
      · rw [if_neg q, if_neg q]
    have back0 : wI N 3 0 (N.1 3 0) = N := by
      refine Prod.ext (funext fun b => funext fun j => ?_) rfl
      rw [mI]
      by_cases q : b = 3 ∧ j = 0
      · rw [if_pos q, q.1, q.2]
      · rw [if_neg q]
    have wIwI : ∀ hd he, wI (wI N 3 0 hd) 3 0 he = wI N 3 0 he := fun hd he => by
      refine Prod.ext (funext fun b => funext fun j => ?_) rfl
      rw [mI, mI, mI]
      by_cases q : b = 3 ∧ j = 0
      · rw [if_pos q, if_pos q]
      · rw [if_neg q, if_neg q, if_neg q]
    have ly1 : ∀ n f v hd each, v + n = 100 → n + 1 < f → f_X12_talks_28 x (N.1 3 0) f (wI N 3 0 hd) (-4) each (nI v) = some (tk A B x n v, N) := by
      intro n
      induction n with
      | zero =>
        intro f v hd each h1 h2
        obtain ⟨f, rfl⟩ : ∃ g, f = g + 1 := ⟨f - 1, by omega⟩
        show b_X12_talks_28 _ x (N.1 3 0) (wI N 3 0 hd) (-4) each (nI v) = _
        unfold b_X12_talks_28 f_X12_talks_83 f_X12_talks_100 f_X12_talks_106
        rw [if_pos (by show nI 99 < nI v; exact nI_lt (by omega) (by omega)), wr_e, if_pos rfl, show (0 : Int32).toNatClampNeg = 0 from rfl, back]
        rfl
      | succ n ih =>
        intro f v hd each h1 h2
        obtain ⟨f, rfl⟩ : ∃ g, f = g + 2 := ⟨f - 2, by omega⟩
        show b_X12_talks_28 (fun M x3 x4 x5 => f_X12_talks_28 x (N.1 3 0) (f + 1) M x3 x4 x5) x (N.1 3 0) (wI N 3 0 hd) (-4) each (nI v) = _
        unfold b_X12_talks_28 f_X12_talks_69
        rw [if_neg (by show ¬ nI 99 < nI v; exact nI_nlt (by omega) (by omega)), if_pos rfl, wr_e, show (0 : Int32).toNatClampNeg = 0 from rfl, wIwI, yA, bd_s, yB, bd_s]
        show _ = some (if A (nI v) = B (nI v) then (if x = 0 then nI v else A (nI v)) else tk A B x n (v + 1), N)
        rw [bd_s, bd_s, n1]
        by_cases e : A (nI v) = B (nI v)
        · rw [if_pos e, if_pos e]
          show b_X12_talks_28 _ x (N.1 3 0) (wI N 3 0 (nI v)) (nI v) (A (nI v)) (nI (v + 1)) = _
          unfold b_X12_talks_28 f_X12_talks_83 f_X12_talks_100 f_X12_talks_106
          have h4 := nI_ne4 (v := v) (by omega)
          rw [if_neg h4, wr_e, if_neg h4, show (0 : Int32).toNatClampNeg = 0 from rfl, back]
          by_cases q : x = 0
          · rw [if_pos q, if_pos q]
            exact ite_self _
          · rw [if_neg q, if_neg q]
            exact ite_self _
        · rw [if_neg e, if_neg e]
          exact ih (f + 1) (v + 1) (nI v) (A (nI v)) (by omega) (by omega)
    refine ⟨tk A B x 99 1, lx1 99 FU 1 (by omega) (by decide), ?_⟩
    have := ly1 99 FU 1 (N.1 3 0) 0 (by omega) (by decide)
    rw [back0] at this
    exact this
  · rw [if_pos (b2_0.mpr g), if_pos (b2_0.mpr g)]
    exact ⟨_, rfl, rfl⟩
theorem sum_add (f g : Nat → Int32) : ∀ n, sumI (fun i => f i + g i) n = sumI f n + sumI g n := by
  intro n
  induction n with
  | zero => rfl
  | succ n ih =>
    show sumI (fun i => f i + g i) n + (f n + g n) = sumI f n + f n + (sumI g n + g n)
    rw [ih]
    grind
theorem sum_cut (f : Nat → Int32) (a : Nat) : ∀ n, sumI f (a + n) = sumI f a + sumI (fun i => f (a + i)) n := by
  intro n
  induction n with
  | zero => show sumI f a = sumI f a + 0; rw [Int32.add_zero]
  | succ n ih =>
    show sumI f (a + n) + f (a + n) = sumI f a + (sumI (fun i => f (a + i)) n + f (a + n))
    rw [ih, Int32.add_assoc]
theorem sum_0 (f : Nat → Int32) : ∀ n, (∀ j, j < n → f j = 0) → sumI f n = 0 := by
  intro n
  induction n with
  | zero => intro _; rfl
  | succ n ih =>
    intro h
    show sumI f n + f n = 0
    rw [ih (fun j hj => h j (by omega)), h n (by omega)]
    rfl
theorem men_y {N : Mm} {x : Int32} : ∀ n k, k ≤ 20 → 20 < k + n → f_X12_count_4 N x n (sumI (fun k => N.1 1 (7 * k)) k) (nI k) = f_X12_count_28 N x (sumI (fun k => N.1 1 (7 * k)) 20) := by
  intro n
  induction n with
  | zero => intro k h1 h2; omega
  | succ n ih =>
    intro k h1 h2
    show b_X12_count_4 (fun x2 x3 => f_X12_count_4 N x n x2 x3) N x (sumI (fun k => N.1 1 (7 * k)) k) (nI k) = _
    unfold b_X12_count_4
    by_cases e : k = 20
    · subst e
      rw [if_pos (by decide)]
    · rw [if_neg (by show ¬ nI 20 ≤ nI k; exact nI_ge (by omega) (by omega)), show (7 : Int32) * nI k = nI (7 * k) from pk_mul 7 k, ck_n (by omega) (by omega), nI_clamp (by omega), nm_x, n1]
      exact ih (k + 1) (by omega) (by omega)
theorem men_x {M : Mm} {a t : Nat} {r : Pg} (H : ScR M a r t) : f_X7_menInAll M a = some (sumI (fun k => r (t + 7 * k)) 20) := by
  have loop : ∀ n k, k ≤ 20 → 20 < k + n → f_X7_menInAll_4 M a n (sumI (fun k => r (t + 7 * k)) k) (nI k) = some (sumI (fun k => r (t + 7 * k)) 20) := by
    intro n
    induction n with
    | zero => intro k h1 h2; omega
    | succ n ih =>
      intro k h1 h2
      show b_X7_menInAll_4 (fun x1 x2 => f_X7_menInAll_4 M a n x1 x2) M a (sumI (fun k => r (t + 7 * k)) k) (nI k) = _
      unfold b_X7_menInAll_4 f_X7_menInAll_25
      by_cases e : k = 20
      · subst e
        rw [if_pos (by decide)]
      · have mk := H.1 k (by omega)
        rw [if_neg (by show ¬ nI 20 ≤ nI k; exact nI_ge (by omega) (by omega)), ck_n (by omega) (by omega), nI_clamp (by omega), show a + 1 + 10 + k = a + 11 + k by omega, mk.1.1, n1]
        have hs : sumI (fun k => r (t + 7 * k)) (k + 1) = sumI (fun k => r (t + 7 * k)) k + r (t + 7 * k) := rfl
        rcases mk.2.1 with q | q
        · rw [q, Int32.add_zero] at hs
          rw [if_pos q, ← hs]
          exact ih (k + 1) (by omega) (by omega)
        · rw [q] at hs
          rw [if_neg (by rw [q]; decide), ← hs]
          exact ih (k + 1) (by omega) (by omega)
  exact loop FU 0 (by omega) (by decide)
theorem s_count {M N : Mm} (R : Rel M N) (x : Int32) : RO (f_X11_count M x) (f_X12_count N x) := by
  obtain ⟨p, F, H⟩ := R
  obtain ⟨c, h6, hc, hc2, -, -⟩ := H.br
  obtain ⟨d, -, d1, d2, -⟩ := H.2.2.2.1
  obtain ⟨⟨n, -, t1, t2, -⟩, -⟩ := H.2.2.2.2.2.1
  obtain ⟨f, -, f1, f2, -⟩ := H.2.2.2.2.2.2.1
  have k0 := (H.2.2.2.2.1 0 (by decide)).1
  have k1 := (H.2.2.2.2.1 1 (by decide)).1
  have hs := H.2.2.2.2.2.2.2.1 0 (by decide)
  unfold f_X11_count
  rw [show f_X12_count N x = f_X12_count_28 N x (sumI (fun k => N.1 1 (7 * k)) 20) from men_y FU 0 (by omega) (by decide)]
  unfold f_X12_count_28 f_X11_count_99 f_X11_count_113 f_X12_count_107 f_X12_count_121 f_X11_count_149 f_X12_count_150
  have em : sumI (fun k => N.1 1 (0 + 7 * k)) 20 = sumI (fun k => N.1 1 (7 * k)) 20 := sum_c 20 (fun j _ => congrArg (N.1 1) (by omega))
  rw [H.ld, men_x H.2.1.1, bd_s, em, hc2, d1, d2, t1, t2, f1, f2, show (0 : Int32).toNatClampNeg = 0 from rfl, show (1 : Int32).toNatClampNeg = 1 from rfl, show (207 : Int32).toNatClampNeg = 207 from rfl, hc, k0, k1]
  show RO (if x = 0 then _ else if x = 1 then _ else if x = 2 then _ else if x = 3 then _ else if x = 4 then _ else if x = 5 then _ else if x = 6 then (if M.1 133 0 = 0 then some (-4) else some (M.1 133 1)) else _) _
  have h6 : (if M.1 133 0 = 0 then some (-4) else some (M.1 133 1)) = (if N.1 16 0 = -4 then some (-4) else some (N.1 17 0)) := by
    rcases hs with ⟨q1, q2⟩ | ⟨n, z, hn, hz, q1, q2, q3, q4, q5, -⟩
    · rw [q1, if_pos rfl, if_pos (show M.1 133 0 = 0 from q2)]
    · rw [show M.1 133 0 = 1 from q2, if_neg (by decide), q1, if_neg (nI_ne4 (by omega)), q5, show M.1 133 1 = nI z from q4]
  rw [h6]
  generalize (if N.1 16 0 = -4 then some (-4) else some (N.1 17 0)) = w at *
  have hw : ∃ v, w = some v := by
    rw [← h6]
    by_cases q : M.1 133 0 = 0
    · rw [if_pos q]; exact ⟨_, rfl⟩
    · rw [if_neg q]; exact ⟨_, rfl⟩
  obtain ⟨v, rfl⟩ := hw
  have key : ∀ y z : Option Int32, y = z → (∃ r, y = some r) → RO y z := fun y z e ⟨r, hr⟩ => ⟨r, hr, e ▸ hr⟩
  refine key _ _ rfl ?_
  by_cases e0 : x = 0
  · rw [if_pos e0]; exact ⟨_, rfl⟩
  · by_cases e1 : x = 1
    · rw [if_neg e0, if_pos e1]; exact ⟨_, rfl⟩
    · by_cases e2 : x = 2
      · rw [if_neg e0, if_neg e1, if_pos e2]; exact ⟨_, rfl⟩
      · by_cases e3 : x = 3
        · rw [if_neg e0, if_neg e1, if_neg e2, if_pos e3]; exact ⟨_, rfl⟩
        · by_cases e4 : x = 4
          · rw [if_neg e0, if_neg e1, if_neg e2, if_neg e3, if_pos e4]
            by_cases u : N.1 15 0 = 0 <;> by_cases v : N.1 15 1 = 0 <;> simp only [u, v, if_true, if_false] <;> exact ⟨_, rfl⟩
          · by_cases e5 : x = 5
            · rw [if_neg e0, if_neg e1, if_neg e2, if_neg e3, if_neg e4, if_pos e5]; exact ⟨_, rfl⟩
            · by_cases e6 : x = 6
              · rw [if_neg e0, if_neg e1, if_neg e2, if_neg e3, if_neg e4, if_neg e5, if_pos e6]; exact ⟨_, rfl⟩
              · rw [if_neg e0, if_neg e1, if_neg e2, if_neg e3, if_neg e4, if_neg e5, if_neg e6]; exact ⟨_, rfl⟩
