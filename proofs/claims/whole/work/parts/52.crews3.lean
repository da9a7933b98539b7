theorem lt1 (x : Int32) : x < 1 ↔ x ≤ 0 := by
  rw [Int32.lt_iff_toInt_lt, Int32.le_iff_toInt_le, show (1 : Int32).toInt = 1 from rfl, show (0 : Int32).toInt = 0 from rfl]
  omega
def z0 (D : Nat → Int32) (i : Nat) : Bool := decide (D i = 0)
theorem RelP.m13 {p F b k : Nat} {v : Int32} {M N : Mm} (H : RelP p F M N) (hb : 128 ≤ b) (hb2 : b < 132) : RelP p F (wI M b k v) N := H.cg (fun c q1 q2 q3 => wI_o (by omega)) (by rw [wI_o (by omega)]) (fun _ _ _ _ => rfl) (fun _ _ => rfl)
theorem sendX1 {p F h0 s t T : Nat} {N : Mm} {x4 : Int32} {D : Nat → Int32} (hDe : D = fun i => nd (N.1 1) (N.1 3) T s i h0 t) (e1 : N.1 1 170 = nI h0) (hs : s < 2) (eT : N.1 3 0 = nI T) (hT2 : T ≤ 99) (ht : h0 ≤ t) (h12 : t ≤ 12) : ∀ f j (Mi : Mm), j ≤ F → F < j + f → RelP p F Mi N → (∀ i, i < j → Mi.1 131 i = D i) → Mi.1 130 0 = nI (pB (z0 D) j) → Mi.1 130 1 = 0 → Mi.1 130 2 = 0 →
    ∃ M2, f_X1_send_18 (lx p) (nI s) (nI t) x4 f Mi (nI j) = f_X1_send_68 M2 (lx p) x4 ∧ RelP p F M2 N ∧ (∀ i, i < F → M2.1 131 i = D i) ∧ M2.1 130 0 = nI (pB (z0 D) F) ∧ M2.1 130 1 = 0 ∧ M2.1 130 2 = 0 := by
  intro f
  induction f with
  | zero => intro j Mi q1 q2; omega
  | succ f ih =>
    intro j Mi q1 q2 H k1 k2 k3 k4
    have hF := H.1.2.2.2.2.1
    have st : f_X1_send_18 (lx p) (nI s) (nI t) x4 (f + 1) Mi (nI j) = b_X1_send_18 (fun M x5 => f_X1_send_18 (lx p) (nI s) (nI t) x4 f M x5) (lx p) (nI s) (nI t) x4 Mi (nI j) := rfl
    rw [st]
    unfold b_X1_send_18 f_X1_send_62
    rw [H.1.2.2.2.2.2.1]
    by_cases e : j = F
    · subst e
      rw [if_pos (nI_le (Nat.le_refl _) (by omega))]
      exact ⟨Mi, rfl, H, k1, k2, k3, k4⟩
    · have hDj : nd (N.1 1) (N.1 3) T s j h0 t = D j := by rw [hDe]
      rw [if_neg (nI_ge (by omega) (by omega)), e_needX H e1 hs (show j < F by omega) eT hT2 ht h12, bd_s, ck_n (by omega) (by omega), nI_clamp (by omega), hDj]
      simp only [wr_e]
      rw [mIs, n1]
      have hps : pB (z0 D) (j + 1) = pB (z0 D) j + (z0 D j).toNat := rfl
      have rows : ∀ i, i < j + 1 → (wI Mi 131 j (D j)).1 131 i = D i := fun i hi => by
        by_cases y : i = j
        · subst y; rw [mIs]
        · rw [mIn (by omega)]; exact k1 i (by omega)
      by_cases g : D j = 0
      · rw [if_pos g, mIn (by omega), k2, n1]
        rw [show z0 D j = true from decide_eq_true g] at hps
        refine ih (j + 1) _ (by omega) (by omega) ((H.m13 (by omega) (by omega)).m13 (by omega) (by omega)) (fun i hi => by rw [wI_o (by decide)]; exact rows i hi) ?_ ?_ ?_
        · rw [mIs, hps]; rfl
        · rw [mIn (by decide), wI_o (by decide)]; exact k3
        · rw [mIn (by decide), wI_o (by decide)]; exact k4
      · rw [if_neg g]
        rw [show z0 D j = false from decide_eq_false g] at hps
        refine ih (j + 1) _ (by omega) (by omega) (H.m13 (by omega) (by omega)) rows ?_ ?_ ?_
        · rw [wI_o (by decide), k2, hps]; rfl
        · rw [wI_o (by decide)]; exact k3
        · rw [wI_o (by decide)]; exact k4
theorem wcom (N : Mm) (q r : Pg) (j : Nat) (v : Int32) : wI (wR (wR N 12 q) 1 r) 12 j v = wR (wR N 12 (upd q j v)) 1 r := by
  refine Prod.ext (funext fun b => ?_) rfl
  by_cases e : b = 12
  · subst e
    rw [wI_R, wR_row, wR_ne (by decide), wR_row, wR_ne (by decide), wR_row]
  · rw [wI_o e]
    by_cases e1 : b = 1
    · subst e1
      rw [wR_row, wR_row]
    · rw [wR_ne e1, wR_ne e1, wR_ne e, wR_ne e]
theorem crewY1 {p F h0 s t T : Nat} {M N : Mm} {x3 x4 : Int32} {D Sn : Nat → Int32} (H : RelP p F M N) (hDe : D = fun i => nd (N.1 1) (N.1 3) T s i h0 t) (hSe : Sn = fun i => N.1 1 (140 + i)) (e1 : N.1 1 170 = nI h0) (hh : h0 ≤ 12) (hs : s < 2) (eT : N.1 3 0 = nI T) (hT1 : 1 ≤ T) (hT2 : T ≤ 99) (ht : h0 ≤ t) (h12 : t ≤ 12) : ∀ f j (q r : Pg), j ≤ F → F < j + f → (∀ x, x < 630 → r x = N.1 1 x) → (∀ i, i < j → q i = D i) →
    ∃ q2 r2, f_X12_crews_51 (nI s) (nI t) x3 x4 f (wR (wR N 12 q) 1 r) (nI (pB (z0 D) j)) (hm (cd D Sn) j) (nI j) = f_X12_crews_145 (wR (wR N 12 q2) 1 r2) x3 x4 (nI (pB (z0 D) F)) (hm (cd D Sn) F) ∧ (∀ x, x < 630 → r2 x = N.1 1 x) ∧ ∀ i, i < F → q2 i = D i := by
  have hF := H.1.2.2.2.2.1
  intro f
  induction f with
  | zero => intro j q r q1 q2; omega
  | succ f ih =>
    intro j q r q1 q2 k1 k2
    have st : f_X12_crews_51 (nI s) (nI t) x3 x4 (f + 1) (wR (wR N 12 q) 1 r) (nI (pB (z0 D) j)) (hm (cd D Sn) j) (nI j) = b_X12_crews_51 (fun M x5 x6 x7 => f_X12_crews_51 (nI s) (nI t) x3 x4 f M x5 x6 x7) (nI s) (nI t) x3 x4 (wR (wR N 12 q) 1 r) (nI (pB (z0 D) j)) (hm (cd D Sn) j) (nI j) := rfl
    rw [st]
    unfold b_X12_crews_51
    rw [wR_0, wR_ne (show (0 : Nat) ≠ 12 by decide), H.1.2.2.2.2.2.2]
    by_cases e : j = F
    · subst e
      rw [if_pos (nI_le (Nat.le_refl _) (by omega))]
      exact ⟨q, r, rfl, k1, k2⟩
    · have H2 : RelP p F M (wR N 12 q) := H.cg (fun _ _ _ _ => rfl) rfl (fun b y1 y2 y3 => wR_ne y2) (fun x hx => by rw [wR_ne (by decide)])
      have w1 : (wR N 12 q).1 1 = N.1 1 := wR_ne (by decide)
      have w3 : (wR N 12 q).1 3 = N.1 3 := wR_ne (by decide)
      obtain ⟨r2, n2, n3⟩ := e_needY (r := r) H2 (by rw [w1]; exact k1) (by rw [w1]; exact e1) hh hs (show j < F by omega) (by rw [w3]; exact eT) hT1 hT2 ht h12
      rw [w1, w3, show nd (N.1 1) (N.1 3) T s j h0 t = D j by rw [hDe]] at n2
      rw [w1] at n3
      rw [if_neg (nI_ge (by omega) (by omega)), n2, bd_s, ck_n (by omega) (by omega), nI_clamp (by omega)]
      simp only [wr_e, wcom]
      have row : (wR (wR N 12 (upd q j (D j))) 1 r2).1 12 = upd q j (D j) := by rw [wR_ne (by decide), wR_row]
      have rowS : (wR (wR N 12 (upd q j (D j))) 1 r2).1 1 (140 + j) = Sn j := by rw [wR_s, n3 _ (by omega), hSe]
      have hq : ∀ i, i < j + 1 → upd q j (D j) i = D i := fun i hi => by
        by_cases y : i = j
        · subst y; rw [upd_eq]
        · rw [upd_ne y]; exact k2 i (by omega)
      have hps : pB (z0 D) (j + 1) = pB (z0 D) j + (z0 D j).toNat := rfl
      have hms : hm (cd D Sn) (j + 1) = if cd D Sn j then hm (cd D Sn) j ||| ((1 : Int32) <<< (nI j &&& 31)) else hm (cd D Sn) j := rfl
      have key : ∀ v : Int32, nI (pB (z0 D) j) + v = nI (pB (z0 D) (j + 1)) → ∃ q2 r3, f_X12_crews_92 (fun M x5 x6 x7 => f_X12_crews_51 (nI s) (nI t) x3 x4 f M x5 x6 x7) (wR (wR N 12 (upd q j (D j))) 1 r2) (nI s) (nI t) x3 x4 (hm (cd D Sn) j) (nI j) (nI (pB (z0 D) j)) v = f_X12_crews_145 (wR (wR N 12 q2) 1 r3) x3 x4 (nI (pB (z0 D) F)) (hm (cd D Sn) F) ∧ (∀ x, x < 630 → r3 x = N.1 1 x) ∧ ∀ i, i < F → q2 i = D i := by
        intro v hv
        unfold f_X12_crews_92 f_X12_crews_135 f_X12_crews_136
        rw [nm_x, hv, nm_x, nm_x, ck_n (by omega) (by omega), nI_clamp (by omega), row, upd_eq, show (140 : Int32) + nI j = nI (140 + j) from nIa (a := 140) rfl, ck_n (by omega) (by omega), nI_clamp (by omega), rowS, n1, Int32.or_zero]
        by_cases g1 : D j ≤ 0
        · rw [if_pos g1]
          rw [if_neg (show ¬ cd D Sn j from fun z => z.1 ((lt1 _).mpr g1))] at hms
          rw [← hms]
          exact ih (j + 1) _ r2 (by omega) (by omega) n3 hq
        · rw [if_neg g1]
          by_cases g2 : Sn j < D j
          · rw [if_pos g2]
            rw [if_neg (show ¬ cd D Sn j from fun z => z.2 g2)] at hms
            rw [← hms]
            exact ih (j + 1) _ r2 (by omega) (by omega) n3 hq
          · rw [if_neg g2]
            rw [if_pos (show cd D Sn j from ⟨fun z => g1 ((lt1 _).mp z), g2⟩)] at hms
            rw [← hms]
            exact ih (j + 1) _ r2 (by omega) (by omega) n3 hq
      rw [row, upd_eq]
      by_cases g : D j = 0
      · rw [if_pos g]
        rw [show z0 D j = true from decide_eq_true g] at hps
        exact key 1 (by rw [n1, hps]; rfl)
      · rw [if_neg g]
        rw [show z0 D j = false from decide_eq_false g] at hps
        exact key 0 (by rw [Int32.add_zero, hps]; rfl)
