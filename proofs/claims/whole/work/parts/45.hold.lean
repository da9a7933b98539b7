-- HOW LONG A MAN HOLDS
theorem hour_at {r T : Pg} {t s i : Nat} {fire sun z : Int32} (hs : s < 2) (hi : i < 10) : ∃ r0 : Pg, (∀ f, f < 7 → r0 (mo t s i + f) = r (mo t s i + f)) ∧ ∀ f, f < 7 → hourF r T t i fire sun z (mo t s i + f) = sd r0 (mo t s i) (t + 140 + i) (t + 150 + i) fire sun (mo t s i + f) := by
  unfold hourF
  match s, hs with
  | 0, _ =>
    refine ⟨sn r (t + 140 + i) (t + 150 + i) (fire + sun), fun f hf => sn_o (by unfold mo; omega) (by unfold mo; omega), fun f hf => ?_⟩
    rw [mvl_o (by unfold mo; omega), fr_o (by unfold mo; omega) (by unfold mo; omega), sd_o (by unfold mo; omega) (by unfold mo; omega) (by unfold mo; omega)]
  | 1, _ =>
    refine ⟨sd (sn r (t + 140 + i) (t + 150 + i) (fire + sun)) (mo t 0 i) (t + 140 + i) (t + 150 + i) fire sun, fun f hf => ?_, fun f hf => ?_⟩
    · rw [sd_o (by unfold mo; omega) (by unfold mo; omega) (by unfold mo; omega), sn_o (by unfold mo; omega) (by unfold mo; omega)]
    · rw [mvl_o (by unfold mo; omega), fr_o (by unfold mo; omega) (by unfold mo; omega)]
theorem sd_hold {r : Pg} {m si wi n q T : Nat} {fire sun : Int32} (hm : r m = 1) (hn : n ≤ 99) (e4 : r (m + 4) = nI n) (hq : q ≤ 130) (el : loss (r (m + 1)) fire sun = nI q) (hsi : m + 7 ≤ si) (hwi : m + 7 ≤ wi) (hT : 1 ≤ T) (hT2 : T ≤ 99) :
    (T + q ≤ n → sd r m si wi fire sun m = 1 ∧ sd r m si wi fire sun (m + 1) = r (m + 1) ∧ sd r m si wi fire sun (m + 4) = nI (n - q) ∧ sd r m si wi fire sun (m + 5) = r (m + 5) ∧ sd r m si wi fire sun (m + 6) = r (m + 6)) ∧ (¬ T + q ≤ n → ¬ (sd r m si wi fire sun m = 1 ∧ nI T ≤ sd r m si wi fire sun (m + 4))) := by
  have h4 : r1 r m wi fire sun (m + 4) = nI (n - q) := by
    rw [r1_4 (by omega)]
    unfold o4
    rw [el, e4, head_n hn hq]
  unfold sd
  rw [if_pos hm]
  by_cases g : gone r m wi fire sun
  · rw [if_pos g, zap_in (by omega) (by omega)]
    refine ⟨fun h => ?_, fun h z => absurd z.1 (by decide)⟩
    have z := g.2.2
    rw [h4] at z
    exact absurd z (nI_ne0 (by omega) (by omega))
  · rw [if_neg g, h4, r1_o (by omega) (by omega) (by omega) (by omega), r1_o (by omega) (by omega) (by omega) (by omega), r1_o (by omega) (by omega) (by omega) (by omega), r1_o (by omega) (by omega) (by omega) (by omega)]
    refine ⟨fun h => ⟨hm, rfl, rfl, rfl, rfl⟩, fun h z => ?_⟩
    have := (nI_leI (by omega) (by omega)).mp z.2
    omega
def SN (g : Nat → Nat) (h : Nat) : Nat → Nat
  | 0 => 0
  | n + 1 => SN g h n + g (h + n)
theorem SN_mono (g : Nat → Nat) (h : Nat) {a b : Nat} (hab : a ≤ b) : SN g h a ≤ SN g h b := by
  induction b with
  | zero => rw [show a = 0 by omega]; exact Nat.le_refl _
  | succ b ih =>
    by_cases e : a = b + 1
    · rw [e]; exact Nat.le_refl _
    · exact Nat.le_trans (ih (by omega)) (Nat.le_add_right _ _)
theorem SN_le {g : Nat → Nat} {h : Nat} (hg : ∀ q, q < 12 → g q ≤ 130) : ∀ n, h + n ≤ 12 → SN g h n ≤ 130 * n := by
  intro n
  induction n with
  | zero => intro _; exact Nat.le_refl _
  | succ n ih =>
    intro hn
    have := ih (by omega)
    have := hg (h + n) (by omega)
    show SN g h n + g (h + n) ≤ _
    omega
def bt (x : Int32) (q : Nat) : Int32 := (x >>> (nI q &&& 31)) &&& 1
theorem bt_n (x : Int32) (q : Nat) : ∃ b, b ≤ 1 ∧ bt x q = nI b := by
  unfold bt
  generalize x >>> (nI q &&& 31) = y
  refine ⟨(y &&& 1).toBitVec.toNat, ?_, ?_⟩
  · rw [Int32.toBitVec_and, BitVec.toNat_and]
    exact Nat.and_le_right
  · apply Int32.toBitVec_inj.mp
    show _ = (Int32.ofNat _).toBitVec
    rw [Int32.toBitVec_ofNat']
    exact BitVec.eq_of_toNat_eq (by rw [BitVec.toNat_ofNat]; exact (Nat.mod_eq_of_lt (BitVec.isLt _)).symm)
def lsI (R : Pg) (s i : Nat) (x : Int32) (q : Nat) : Int32 := loss (R (mo 0 s i + 1)) (warmP R i (nI q)) (R (171 + q) + bt x q)
def lsN (R : Pg) (s i : Nat) (x : Int32) (q : Nat) : Nat := (lsI R s i x q).toNatClampNeg
theorem ls_n {R : Pg} {s i q : Nat} {x : Int32} (hi : i < 10) (hq : q < 12) (H : InvR R 0) : lsN R s i x q ≤ 130 ∧ lsI R s i x q = nI (lsN R s i x q) := by
  have hB := H.2.2.2.2
  rw [sh0] at hB
  obtain ⟨w, hw, e1⟩ := warm_n (P := R) (h := nI q) hi hB
  obtain ⟨v, hv, e2⟩ := H.2.2.1 q hq
  obtain ⟨b, hb, e3⟩ := bt_n x q
  obtain ⟨l, hl, e4⟩ := loss_n (k := R (mo 0 s i + 1)) (f := w) (s := v + b) hw (by omega)
  have e : lsI R s i x q = nI l := by
    unfold lsI
    rw [e1, show R (171 + q) = nI v by rw [← e2], e3, nI_add, e4]
  unfold lsN
  rw [e, nI_clamp (by omega)]
  exact ⟨hl, rfl⟩
theorem hold_loop {N : Mm} {R : Pg} {s i h0 hd T : Nat} {x4 : Int32} (hs : s < 2) (hi : i < 10) (H : InvR R 0) (hT1 : 1 ≤ T) (hT2 : T ≤ 99) (eT : N.1 3 0 = nI T) (hhd : hd ≤ 99) (hsu : suit R (N.1 3) (mo 0 s i)) : ∀ n j (r : Pg), h0 + j ≤ 12 → 12 < h0 + j + n → (∀ x, x < 630 → r x = R x) → r (mo 630 s i) = 1 → r (mo 630 s i + 1) = R (mo 0 s i + 1) → r (mo 630 s i + 4) = nI (hd - SN (lsN R s i x4) h0 j) → r (mo 630 s i + 5) = R (mo 0 s i + 5) → r (mo 630 s i + 6) = R (mo 0 s i + 6) → T + SN (lsN R s i x4) h0 j ≤ hd →
    ∃ e r2, f_X12_holdsTo_48 (nI s) (nI i) x4 n (wR N 1 r) (nI (h0 + j)) = some (nI (h0 + e), wR N 1 r2) ∧ (∀ x, x < 630 → r2 x = R x) ∧ h0 + e ≤ 12 ∧ T + SN (lsN R s i x4) h0 e ≤ hd ∧ (h0 + e < 12 → hd < T + SN (lsN R s i x4) h0 (e + 1)) := by
  have hBr := H.2.2.2.2
  rw [sh0] at hBr
  intro n
  induction n with
  | zero => intro j r h1 h2; omega
  | succ n ih =>
    intro j r h1 h2 h3 m0 m1 m4 m5 m6 hle
    have st : f_X12_holdsTo_48 (nI s) (nI i) x4 (n + 1) (wR N 1 r) (nI (h0 + j)) = b_X12_holdsTo_48 (fun M x5 => f_X12_holdsTo_48 (nI s) (nI i) x4 n M x5) (nI s) (nI i) x4 (wR N 1 r) (nI (h0 + j)) := rfl
    rw [st]
    unfold b_X12_holdsTo_48
    by_cases e : h0 + j = 12
    · rw [e, if_pos (by decide)]
      exact ⟨j, r, by rw [e]; rfl, h3, h1, hle, fun z => absurd z (by omega)⟩
    · have hB : BrI r := hBr.same (fun x q1 q2 => h3 x (by omega))
      obtain ⟨l1, l2⟩ := ls_n (s := s) (x := x4) hi (show h0 + j < 12 by omega) H
      have hw : warmP r i (nI (h0 + j)) = warmP R i (nI (h0 + j)) := warm_c hBr (fun x q1 q2 => h3 x (by omega))
      rw [if_neg (show ¬ (12 : Int32) ≤ nI (h0 + j) from nI_ge (b := 12) (by omega) (by omega)), show (171 : Int32) + nI (h0 + j) = nI (171 + (h0 + j)) from nIa (a := 171) rfl, ck_n (by omega) (by omega), nI_clamp (by omega), wR_s, h3 _ (by omega), show (x4 >>> (nI (h0 + j) &&& 31)) &&& 1 = bt x4 (h0 + j) from rfl, show f_X12_melting (wR N 1 r) (630 : Int32) (nI i) (nI (h0 + j)) (R (171 + (h0 + j)) + bt x4 (h0 + j)) = _ from e_melting (at_ := 630) hi (by omega) (by omega) hB, bd_s, hw]
      rw [show ∀ rr, f_X12_counts (wR N 1 rr) (630 : Int32) (nI s) (nI i) = some (b2 (cnt rr (N.1 3) (mo 630 s i))) from fun rr => e_counts (at_ := 630) hs hi (by omega), bd_s]
      generalize hr' : hourF r (N.1 3) 630 i (warmP R i (nI (h0 + j))) (R (171 + (h0 + j)) + bt x4 (h0 + j)) (N.1 2 (h0 + j)) = r'
      obtain ⟨r0, q1, q2⟩ := hour_at (r := r) (T := N.1 3) (t := 630) (fire := warmP R i (nI (h0 + j))) (sun := R (171 + (h0 + j)) + bt x4 (h0 + j)) (z := N.1 2 (h0 + j)) hs hi
      rw [hr'] at q2
      have hlo : ∀ x, x < 630 → r' x = R x := fun x hx => by rw [← hr', hourF_hi hi (by omega)]; exact h3 x hx
      have a0 : r0 (mo 630 s i) = 1 := (q1 0 (by omega)).trans m0
      have a4 : r0 (mo 630 s i + 4) = nI (hd - SN (lsN R s i x4) h0 j) := (q1 4 (by omega)).trans m4
      have al : loss (r0 (mo 630 s i + 1)) (warmP R i (nI (h0 + j))) (R (171 + (h0 + j)) + bt x4 (h0 + j)) = nI (lsN R s i x4 (h0 + j)) := by
        rw [q1 1 (by omega), m1]
        exact l2
      have hmo : mo 630 s i + 7 ≤ 630 + 140 + i := by unfold mo; omega
      obtain ⟨y1, y2⟩ := sd_hold (si := 630 + 140 + i) (wi := 630 + 150 + i) (T := T) a0 (by omega) a4 l1 al hmo (by omega) hT1 hT2
      have z0 := q2 0 (by omega)
      have hS : SN (lsN R s i x4) h0 (j + 1) = SN (lsN R s i x4) h0 j + lsN R s i x4 (h0 + j) := rfl
      by_cases g : T + lsN R s i x4 (h0 + j) ≤ hd - SN (lsN R s i x4) h0 j
      · obtain ⟨u0, u1, u4, u5, u6⟩ := y1 g
        have v0 : r' (mo 630 s i) = 1 := z0.trans u0
        have v4 : r' (mo 630 s i + 4) = nI (hd - SN (lsN R s i x4) h0 (j + 1)) := by rw [q2 4 (by omega), u4, hS]; exact congrArg nI (by omega)
        have v5 : r' (mo 630 s i + 5) = R (mo 0 s i + 5) := by rw [q2 5 (by omega), u5, q1 5 (by omega), m5]
        have v6 : r' (mo 630 s i + 6) = R (mo 0 s i + 6) := by rw [q2 6 (by omega), u6, q1 6 (by omega), m6]
        have hc : cnt r' (N.1 3) (mo 630 s i) := ⟨v0, by rw [eT, v4]; exact nI_le (by omega) (by omega), by rw [v5]; exact hsu.2.1, by rw [v6]; exact hsu.2.2⟩
        rw [if_neg (fun q => b2_0.mp q hc), n1]
        exact ih (j + 1) r' (by omega) (by omega) hlo v0 (by rw [q2 1 (by omega), u1, q1 1 (by omega), m1]) v4 v5 v6 (by omega)
      · have hc : ¬ cnt r' (N.1 3) (mo 630 s i) := fun z => y2 g ⟨z0.symm.trans z.1, by rw [← eT, ← q2 4 (by omega)]; exact z.2.1⟩
        rw [if_pos (b2_0.mpr hc)]
        exact ⟨j, r', rfl, hlo, by omega, hle, fun _ => by omega⟩
