-- HOURS
theorem wterm_c {P Q : Pg} {i n : Nat} {h : Int32} (w1 : Q (183 + 4 * n) = P (183 + 4 * n)) (w2 : Q (184 + 4 * n) = P (184 + 4 * n)) (w3 : Q (185 + 4 * n) = P (185 + 4 * n)) (w4 : Q (186 + 4 * n) = P (186 + 4 * n)) : wterm Q i h n = wterm P i h n := by
  unfold wterm
  simp only [w1, w2, w3, w4]
theorem sum_c {f g : Nat → Int32} : ∀ n, (∀ j, j < n → f j = g j) → sumI f n = sumI g n := by
  intro n
  induction n with
  | zero => intro _; rfl
  | succ n ih =>
    intro h
    show sumI f n + f n = sumI g n + g n
    rw [ih (fun j hj => h j (by omega)), h n (by omega)]
theorem warm_c {P Q : Pg} {i : Nat} {h : Int32} (hB : BrI P) (e : ∀ x, 183 ≤ x → x < 208 → Q x = P x) : warmP Q i h = warmP P i h := by
  obtain ⟨c, h6, hc, hcl⟩ := clampc hB
  have h8 : sumI (wterm Q i h) c = sumI (wterm P i h) c := sum_c c (fun n hn => wterm_c (e _ (by omega) (by omega)) (e _ (by omega) (by omega)) (e _ (by omega) (by omega)) (e _ (by omega) (by omega)))
  have h7 : (Q 207).toNatClampNeg = c := (congrArg Int32.toNatClampNeg (e 207 (by omega) (by omega))).trans hcl
  exact (congrArg (sumI (wterm Q i h)) h7).trans (h8.trans (congrArg (sumI (wterm P i h)) hcl).symm)
def rowF (r T : Pg) (t h : Nat) (sun z : Int32) : Nat → Pg
  | 0 => r
  | i + 1 => hourF (rowF r T t h sun z i) T t i (warmP r i (nI h)) sun z
def hourAll (r T Z : Pg) (t F h : Nat) : Pg := upd (rowF r T t h (r (171 + h)) (Z h) F) (t + 170) (nI (h + 1))
def hrs (r T Z : Pg) (t F h : Nat) : Nat → Pg
  | 0 => r
  | n + 1 => hourAll (hrs r T Z t F h n) T Z t F (h + n)
/-- the sun and the braziers of a page are those of the first -/
def CpR (r : Pg) (t : Nat) : Prop := ∀ x, 171 ≤ x → x < 208 → r (t + x) = r x
theorem rowF_hi {r T : Pg} {t h x : Nat} {sun z : Int32} (hx : t + 170 ≤ x ∨ x < t) : ∀ n, n ≤ 10 → rowF r T t h sun z n x = r x := by
  intro n
  induction n with
  | zero => intro _; rfl
  | succ n ih =>
    intro hn
    show hourF _ T t n _ sun z x = _
    rw [hourF_hi (by omega) hx]
    exact ih (by omega)
theorem br0 {r : Pg} {t : Nat} (hB : BrI (fun x => r (t + x))) (hC : CpR r t) : BrI r := hB.same (fun x h1 h2 => (hC x (by omega) h2).symm)
theorem rowF_I {r T : Pg} {t h s : Nat} {z : Int32} (hs : s ≤ 10) (H : InvR r t) (hC : CpR r t) : ∀ n, n ≤ 10 → InvR (rowF r T t h (nI s) z n) t := by
  intro n
  induction n with
  | zero => intro _; exact H
  | succ n ih =>
    intro hn
    obtain ⟨w, hw, e⟩ := warm_n (i := n) (h := nI h) (by omega) (br0 H.2.2.2.2 hC)
    show InvR (hourF _ T t n _ (nI s) z) t
    rw [e]
    exact hourF_I (by omega) hw hs (ih (by omega))
theorem InvR.hour {r : Pg} {t h : Nat} (H : InvR r t) (hh : h ≤ 12) : InvR (upd r (t + 170) (nI h)) t := by
  obtain ⟨h1, h2, h3, h4, h5⟩ := H
  refine ⟨fun k hk => ?_, fun j hj => ?_, fun h9 hh9 => ?_, ⟨h, hh, upd_eq _ _ _⟩, h5.same (fun x hx hx2 => upd_ne (by omega))⟩
  · rw [upd_ne (by omega), upd_ne (by omega)]
    exact h1 k hk
  · rw [upd_ne (by omega)]
    exact h2 j hj
  · rw [upd_ne (by omega)]
    exact h3 h9 hh9
theorem CpR.up {r q : Pg} {t : Nat} (hC : CpR r t) (h : ∀ x, 171 ≤ x → x < 208 → q (t + x) = r (t + x)) (h2 : ∀ x, 171 ≤ x → x < 208 → q x = r x) : CpR q t := fun x h1 h3 => by rw [h x h1 h3, h2 x h1 h3]; exact hC x h1 h3
/-- which pages there are -/
def PgT (t : Nat) : Prop := t = 0 ∨ 210 ≤ t
theorem hourAll_hi {r T Z : Pg} {t F h x : Nat} (hF : F ≤ 10) (hx : t + 171 ≤ x ∨ x < t) : hourAll r T Z t F h x = r x := by
  unfold hourAll
  rw [upd_ne (by omega), rowF_hi (by omega) F hF]
theorem hourAll_I {r T Z : Pg} {t F h : Nat} (hF : F ≤ 10) (hh : h < 12) (ht : PgT t) (H : InvR r t) (hC : CpR r t) : InvR (hourAll r T Z t F h) t ∧ CpR (hourAll r T Z t F h) t ∧ hourAll r T Z t F h (t + 170) = nI (h + 1) := by
  obtain ⟨s, hs, es⟩ := H.2.2.1 h hh
  have e0 : r (171 + h) = nI s := by rw [← hC (171 + h) (by omega) (by omega), ← es]; exact congrArg r (by omega)
  refine ⟨?_, hC.up (fun x h1 h2 => hourAll_hi hF (by omega)) (fun x h1 h2 => hourAll_hi hF (by rcases ht with rfl | ht <;> omega)), upd_eq _ _ _⟩
  unfold hourAll
  rw [e0]
  exact (rowF_I (by omega) H hC F hF).hour (by omega)
theorem hrs_I {r T Z : Pg} {t F h : Nat} (hF : F ≤ 10) (ht : PgT t) (H : InvR r t) (hC : CpR r t) (hr : r (t + 170) = nI h) : ∀ n, h + n ≤ 12 → InvR (hrs r T Z t F h n) t ∧ CpR (hrs r T Z t F h n) t ∧ hrs r T Z t F h n (t + 170) = nI (h + n) ∧ ∀ x, (t + 171 ≤ x ∨ x < t) → hrs r T Z t F h n x = r x := by
  intro n
  induction n with
  | zero => intro _; exact ⟨H, hC, hr, fun _ _ => rfl⟩
  | succ n ih =>
    intro hn
    obtain ⟨a, b, c, d⟩ := ih (by omega)
    obtain ⟨a2, b2, c2⟩ := hourAll_I (T := T) (Z := Z) (h := h + n) hF (by omega) ht a b
    exact ⟨a2, b2, c2, fun x hx => by show hourAll _ T Z t F (h + n) x = _; rw [hourAll_hi hF hx, d x hx]⟩
-- the reference
theorem goes_loop {N : Mm} {r : Pg} {t h F : Nat} (ht : t + 210 ≤ 840) (htp : PgT t) (hh : h < 12) (hF : F ≤ 10) (hN : N.1 0 1 = nI F) (hB : BrI r) : ∀ n i, i ≤ F → F < i + n → f_X12_goes_13 (nI t) (nI h) n (wR N 1 (rowF r (N.1 3) t h (r (171 + h)) (N.1 2 h) i)) (nI i) = f_X12_goes_44 (wR N 1 (rowF r (N.1 3) t h (r (171 + h)) (N.1 2 h) F)) (nI t) := by
  intro n
  induction n with
  | zero => intro i h1 h2; omega
  | succ n ih =>
    intro i h1 h2
    show b_X12_goes_13 (fun M x3 => f_X12_goes_13 (nI t) (nI h) n M x3) (nI t) (nI h) (wR N 1 (rowF r (N.1 3) t h (r (171 + h)) (N.1 2 h) i)) (nI i) = _
    unfold b_X12_goes_13
    rw [wR_0, hN]
    by_cases e : i = F
    · subst e
      rw [if_pos (nI_le (Nat.le_refl _) (by omega))]
    · rw [if_neg (nI_ge (by omega) (by omega)), show (171 : Int32) + nI h = nI (171 + h) from nIa (a := 171) rfl, ck_n (by omega) (by omega), nI_clamp (by omega), wR_s, rowF_hi (by rcases htp with rfl | q <;> omega) i (by omega)]
      have hb : BrI (rowF r (N.1 3) t h (r (171 + h)) (N.1 2 h) i) := hB.same (fun x x1 x2 => rowF_hi (by rcases htp with rfl | q <;> omega) i (by omega))
      rw [e_melting (by omega) hh (by omega) hb, bd_s, n1, warm_c hB (fun x x1 x2 => rowF_hi (by rcases htp with rfl | q <;> omega) i (by omega))]
      exact ih (i + 1) (by omega) (by omega)
theorem e_goes {N : Mm} {r : Pg} {t h F : Nat} (ht : t + 210 ≤ 840) (htp : PgT t) (hh : h < 12) (hF : F ≤ 10) (hN : N.1 0 1 = nI F) (hB : BrI r) (hr : r (t + 170) = nI h) : f_X12_goes (wR N 1 r) (nI t) = some (wR N 1 (hourAll r (N.1 3) (N.1 2) t F h)) := by
  unfold f_X12_goes
  have e : nI t + (170 : Int32) = nI (t + 170) := nIa (b := 170) rfl
  rw [e, ck_n (by omega) (by omega), nI_clamp (by omega), wR_s, hr, nm_x]
  have hl := goes_loop (N := N) (r := r) ht htp hh hF hN hB FU 0 (by omega) (by show F < 0 + 5000; omega)
  rw [show f_X12_goes_13 (nI t) (nI h) FU (wR N 1 r) 0 = f_X12_goes_13 (nI t) (nI h) FU (wR N 1 (rowF r (N.1 3) t h (r (171 + h)) (N.1 2 h) 0)) (nI 0) from rfl, hl]
  unfold f_X12_goes_44
  rw [e, ck_n (by omega) (by omega), nI_clamp (by omega), wr_e, wR_s, wIR, rowF_hi (by omega) F hF, hr, n1]
  rfl
/-- one page copied over another -/
def cpP (r : Pg) (s t n : Nat) : Pg := fun x => if t ≤ x ∧ x < t + n then r (s + (x - t)) else r x
theorem cpP_in {r : Pg} {s t n x : Nat} (h : x < n) : cpP r s t n (t + x) = r (s + x) := by
  unfold cpP
  rw [if_pos (by omega)]
  exact congrArg r (by omega)
theorem cpP_out {r : Pg} {s t n x : Nat} (h : x < t ∨ t + n ≤ x) : cpP r s t n x = r x := if_neg (by omega)
theorem copies_loop {N : Mm} {r : Pg} {s t : Nat} (hs : s + 210 ≤ 840) (ht : t + 210 ≤ 840) (hst : s + 210 ≤ t ∨ t + 210 ≤ s) : ∀ n i, i ≤ 210 → 210 < i + n → f_X12_copies_2 (nI s) (nI t) n (wR N 1 (cpP r s t i)) (nI i) = some (wR N 1 (cpP r s t 210)) := by
  intro n
  induction n with
  | zero => intro i h1 h2; omega
  | succ n ih =>
    intro i h1 h2
    show b_X12_copies_2 (fun M x3 => f_X12_copies_2 (nI s) (nI t) n M x3) (nI s) (nI t) (wR N 1 (cpP r s t i)) (nI i) = _
    unfold b_X12_copies_2
    by_cases e : i = 210
    · subst e
      rw [if_pos (by decide)]
    · rw [if_neg (by show ¬ nI 210 ≤ nI i; exact nI_ge (by omega) (by omega)), nI_add, nI_add, ck_n (by omega) (by omega), ck_n (by omega) (by omega), wr_e, nI_clamp (by omega), nI_clamp (by omega), wR_s, wIR, n1]
      have hx : upd (cpP r s t i) (t + i) (cpP r s t i (s + i)) = cpP r s t (i + 1) := by
        rw [cpP_out (by omega)]
        funext x
        by_cases hx : x = t + i
        · subst hx
          rw [upd_eq, cpP_in (by omega)]
        · rw [upd_ne hx]
          unfold cpP
          by_cases h3 : t ≤ x ∧ x < t + i
          · rw [if_pos h3, if_pos (by omega)]
          · rw [if_neg h3, if_neg (by omega)]
      rw [hx]
      exact ih (i + 1) (by omega) (by omega)
theorem e_copies {N : Mm} {r : Pg} {s t : Nat} (hs : s + 210 ≤ 840) (ht : t + 210 ≤ 840) (hst : s + 210 ≤ t ∨ t + 210 ≤ s) : f_X12_copies (wR N 1 r) (nI s) (nI t) = some (wR N 1 (cpP r s t 210)) := by
  have h0 : cpP r s t 0 = r := by
    funext x
    exact cpP_out (by omega)
  have h := copies_loop (N := N) (r := r) hs ht hst FU 0 (by omega) (by decide)
  rw [h0] at h
  exact h
theorem wR_self (N : Mm) : wR N 1 (N.1 1) = N := by
  unfold wR
  refine Prod.ext (funext fun b => ?_) rfl
  by_cases h : b = 1 <;> simp [h]
