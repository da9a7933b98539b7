-- the reference's row
def VY (N : Mm) (R : Pg) (F h : Nat) : Prop := ∀ q, h ≤ q → q ≤ 12 → ∀ k, k < F → N.1 13 (10 * q + k) = nI (lsq R F q k)
theorem ly52a {M N : Mm} {p F h i k n : Nat} {k27 k37 : Mm → Int32 → Option Mm} (H : RelP p F M N) (hh : h < 12) (hk : k < F) (hki : k ≤ i + 1) (hi : i < F) (e : N.1 13 (10 * (h + 1) + k) = nI (lsq (N.1 1) F (h + 1) k)) :
    f_X12_layHeat_52 k27 k37 N (nI h) (nI i) (n + 1) (-1) (nI k) = f_X12_layHeat_52 k27 k37 N (nI h) (nI i) n (nI (thq (N.1 1) F h k)) (nI (k + 1)) := by
  have hF := H.1.2.2.2.2.1
  have st : f_X12_layHeat_52 k27 k37 N (nI h) (nI i) (n + 1) (-1) (nI k) = b_X12_layHeat_52 k27 k37 (fun x3 x4 => f_X12_layHeat_52 k27 k37 N (nI h) (nI i) n x3 x4) N (nI h) (nI i) (-1) (nI k) := rfl
  rw [st]
  unfold b_X12_layHeat_52 f_X12_layHeat_104 f_X12_layHeat_110 f_X12_layHeat_111
  rw [n1, if_neg (nI_nlt (by omega) (by omega)), H.fY, bd_s, if_neg (fun q => b2_0.mp q (inR_i (by omega) (by omega))), H.heY hk hh, bd_s, n1, show (10 : Int32) * nI (h + 1) = nI (10 * (h + 1)) from pk_mul 10 _, nI_add, ck_n (by omega) (by omega), nI_clamp (by omega), e, nI_add, nm_x, if_pos (by decide), n1]
  rfl
theorem ly52b {M N : Mm} {p F h i k n a : Nat} {k27 k37 : Mm → Int32 → Option Mm} (H : RelP p F M N) (hh : h < 12) (hk : k < F) (hki : k ≤ i + 1) (hi : i < F) (ha : a ≤ 1800) (e : N.1 13 (10 * (h + 1) + k) = nI (lsq (N.1 1) F (h + 1) k)) :
    f_X12_layHeat_52 k27 k37 N (nI h) (nI i) (n + 1) (nI a) (nI k) = f_X12_layHeat_52 k27 k37 N (nI h) (nI i) n (nI (min a (thq (N.1 1) F h k))) (nI (k + 1)) := by
  have hF := H.1.2.2.2.2.1
  have hb := H.thn hk hh
  have st : f_X12_layHeat_52 k27 k37 N (nI h) (nI i) (n + 1) (nI a) (nI k) = b_X12_layHeat_52 k27 k37 (fun x3 x4 => f_X12_layHeat_52 k27 k37 N (nI h) (nI i) n x3 x4) N (nI h) (nI i) (nI a) (nI k) := rfl
  rw [st]
  unfold b_X12_layHeat_52 f_X12_layHeat_104 f_X12_layHeat_110 f_X12_layHeat_111
  rw [n1, if_neg (nI_nlt (by omega) (by omega)), H.fY, bd_s, if_neg (fun q => b2_0.mp q (inR_i (by omega) (by omega))), H.heY hk hh, bd_s, n1, show (10 : Int32) * nI (h + 1) = nI (10 * (h + 1)) from pk_mul 10 _, nI_add, ck_n (by omega) (by omega), nI_clamp (by omega), e, nI_add, nm_x, if_neg (nI_pos (by omega)), n1]
  have et : hq (N.1 1) k h + lsq (N.1 1) F (h + 1) k = thq (N.1 1) F h k := rfl
  rw [et]
  by_cases g : a ≤ thq (N.1 1) F h k
  · rw [if_pos (nI_le g (by omega)), Nat.min_eq_left g]
  · rw [if_neg (nI_ge (by omega) (by omega)), Nat.min_eq_right (by omega)]
theorem ly52c {M N : Mm} {p F h i k n : Nat} {x3 : Int32} {k27 k37 : Mm → Int32 → Option Mm} (H : RelP p F M N) (hk : F ≤ k) (hki : k ≤ i + 1) (hi : i < F) :
    f_X12_layHeat_52 k27 k37 N (nI h) (nI i) (n + 1) x3 (nI k) = f_X12_layHeat_52 k27 k37 N (nI h) (nI i) n x3 (nI (k + 1)) := by
  have hF := H.1.2.2.2.2.1
  have st : f_X12_layHeat_52 k27 k37 N (nI h) (nI i) (n + 1) x3 (nI k) = b_X12_layHeat_52 k27 k37 (fun x3 x4 => f_X12_layHeat_52 k27 k37 N (nI h) (nI i) n x3 x4) N (nI h) (nI i) x3 (nI k) := rfl
  rw [st]
  unfold b_X12_layHeat_52 f_X12_layHeat_111
  rw [n1, if_neg (nI_nlt (by omega) (by omega)), H.fY, bd_s, if_pos (b2_0.mpr (fun q => nI_ge (a := F - 1) (b := k) (by omega) (by omega) q.2)), n1]
theorem ly52d {M N : Mm} {p F h i n : Nat} {x3 : Int32} {k27 k37 : Mm → Int32 → Option Mm} (H : RelP p F M N) (hi : i < F) :
    f_X12_layHeat_52 k27 k37 N (nI h) (nI i) (n + 1) x3 (nI (i + 1 + 1)) = f_X12_layHeat_117 k27 k37 N (nI h) (nI i) x3 := by
  have hF := H.1.2.2.2.2.1
  have st : f_X12_layHeat_52 k27 k37 N (nI h) (nI i) (n + 1) x3 (nI (i + 1 + 1)) = b_X12_layHeat_52 k27 k37 (fun x3 x4 => f_X12_layHeat_52 k27 k37 N (nI h) (nI i) n x3 x4) N (nI h) (nI i) x3 (nI (i + 1 + 1)) := rfl
  rw [st]
  unfold b_X12_layHeat_52
  rw [n1, if_pos (nI_lt (by omega) (by omega))]
theorem ly52 {M N : Mm} {p F h i : Nat} {k27 k37 : Mm → Int32 → Option Mm} (H : RelP p F M N) (hh : h < 12) (hi : i < F) (e : ∀ k, k < F → N.1 13 (10 * (h + 1) + k) = nI (lsq (N.1 1) F (h + 1) k)) :
    f_X12_layHeat_52 k27 k37 N (nI h) (nI i) FU (-1) (nI i - 1) = f_X12_layHeat_117 k27 k37 N (nI h) (nI i) (nI (lsq (N.1 1) F h i)) := by
  have hF := H.1.2.2.2.2.1
  rw [ls_th _ _ hh]
  have b1 := H.thn hi hh
  have tail : ∀ n v, v ≤ 1800 → f_X12_layHeat_52 k27 k37 N (nI h) (nI i) (n + 2) (nI v) (nI (i + 1)) = f_X12_layHeat_117 k27 k37 N (nI h) (nI i) (nI (if i + 1 < F then min v (thq (N.1 1) F h (i + 1)) else v)) := by
    intro n v hv
    by_cases g : i + 1 < F
    · rw [ly52b H hh g (by omega) hi hv (e _ g), ly52d H hi, if_pos g]
    · rw [ly52c H (by omega) (by omega) hi, ly52d H hi, if_neg g]
  unfold m3
  by_cases g0 : i = 0
  · subst g0
    rw [if_pos rfl]
    have st : f_X12_layHeat_52 k27 k37 N (nI h) (nI 0) FU (-1) (nI 0 - 1) = f_X12_layHeat_52 k27 k37 N (nI h) (nI 0) 4999 (-1) (nI 0) := by
      have st : f_X12_layHeat_52 k27 k37 N (nI h) (nI 0) FU (-1) (nI 0 - 1) = b_X12_layHeat_52 k27 k37 (fun x3 x4 => f_X12_layHeat_52 k27 k37 N (nI h) (nI 0) 4999 x3 x4) N (nI h) (nI 0) (-1) (nI 0 - 1) := rfl
      rw [st]
      unfold b_X12_layHeat_52 f_X12_layHeat_111
      rw [if_neg (by decide), H.fY, bd_s, if_pos (b2_0.mpr (fun q => absurd q.1 (by decide)))]
      rfl
    rw [st, show (4999 : Nat) = 4998 + 1 from rfl, ly52a H hh hi (by omega) hi (e 0 hi)]
    exact tail 4996 _ b1
  · have b2 := H.thn (show i - 1 < F by omega) hh
    rw [if_neg g0, show nI i - 1 = nI (i - 1) from pk_sub (b := 1) (by omega), show FU = 4999 + 1 from rfl, ly52a H hh (by omega) (by omega) hi (e (i - 1) (by omega)), show i - 1 + 1 = i by omega, show (4999 : Nat) = 4998 + 1 from rfl, ly52b H hh hi (by omega) hi b2 (e i hi), Nat.min_comm (thq (N.1 1) F h (i - 1))]
    exact tail 4996 _ (by omega)
theorem ly37 {M : Mm} {R : Pg} {p F h : Nat} {k27 : Mm → Int32 → Option Mm} (hh : h < 12) : ∀ f j Ni, j ≤ F → F < j + f → RelP p F M Ni → Ni.1 1 = R → (∀ k, k < F → Ni.1 13 (10 * (h + 1) + k) = nI (lsq R F (h + 1) k)) → (∀ k, k < j → Ni.1 13 (10 * h + k) = nI (lsq R F h k)) →
    ∃ N2, f_X12_layHeat_37 k27 (nI h) f Ni (nI j) = k27 N2 (nI h + (-1)) ∧ RelP p F M N2 ∧ N2.1 1 = R ∧ (∀ x, 10 * (h + 1) ≤ x → N2.1 13 x = Ni.1 13 x) ∧ ∀ k, k < F → N2.1 13 (10 * h + k) = nI (lsq R F h k) := by
  intro f
  induction f with
  | zero => intro j Ni q1 q2; omega
  | succ f ih =>
    intro j Ni q1 q2 H hR w1 w2
    have hF := H.1.2.2.2.2.1
    have st : f_X12_layHeat_37 k27 (nI h) (f + 1) Ni (nI j) = b_X12_layHeat_37 k27 (fun M x2 => f_X12_layHeat_37 k27 (nI h) f M x2) (nI h) Ni (nI j) := rfl
    rw [st]
    unfold b_X12_layHeat_37 f_X12_layHeat_135
    rw [H.1.2.2.2.2.2.2]
    by_cases e : j = F
    · subst e
      rw [if_pos (nI_le (Nat.le_refl _) (by omega))]
      exact ⟨Ni, rfl, H, hR, fun _ _ => rfl, w2⟩
    · rw [if_neg (nI_ge (by omega) (by omega)), nm_x, ly52 H hh (by omega) (by rw [hR]; exact w1), hR]
      unfold f_X12_layHeat_117
      rw [show (10 : Int32) * nI h = nI (10 * h) from pk_mul 10 h, nI_add, ck_n (by omega) (by omega), nI_clamp (by omega), wr_e, n1]
      obtain ⟨N2, a1, a2, a3, a4, a5⟩ := ih (j + 1) (wI Ni 13 (10 * h + j) (nI (lsq R F h j))) (by omega) (by omega) (H.cg (fun _ _ _ _ => rfl) rfl (fun b y1 y2 y3 => wI_o y3) (fun x hx => by rw [wI_o (by decide)])) (by rw [wI_o (by decide)]; exact hR) (fun k hk => by rw [mIn (by omega)]; exact w1 k hk) (fun k hk => by
        by_cases g : k = j
        · subst g
          exact mIs _ _ _ _
        · rw [mIn (by omega)]
          exact w2 k (by omega))
      exact ⟨N2, a1, a2, a3, fun x hx => by rw [a4 x hx, mIn (by omega)], a5⟩
theorem ly27 {M : Mm} {R : Pg} {p F now : Nat} (hn : now ≤ 12) (eR : R 170 = nI now) : ∀ f h Ni, now ≤ h → h ≤ 12 → h < now + f → RelP p F M Ni → Ni.1 1 = R → VY Ni R F h →
    ∃ N2, f_X12_layHeat_27 f Ni (nI h + (-1)) = some N2 ∧ RelP p F M N2 ∧ N2.1 1 = R ∧ VY N2 R F now := by
  intro f
  induction f with
  | zero => intro h Ni q1 q2 q3; omega
  | succ f ih =>
    intro h Ni q1 q2 q3 H hR wy
    have hF := H.1.2.2.2.2.1
    have st : f_X12_layHeat_27 (f + 1) Ni (nI h + (-1)) = b_X12_layHeat_27 (fun M x1 => f_X12_layHeat_27 f M x1) Ni (nI h + (-1)) := rfl
    rw [st]
    unfold b_X12_layHeat_27 f_X12_hourNow
    rw [hR, show ((170 : Int32)).toNatClampNeg = 170 from rfl, eR, bd_s]
    by_cases e : h = now
    · subst e
      have lt : nI h + (-1) < nI h := by
        by_cases z : h = 0
        · subst z
          decide
        · obtain ⟨g, rfl⟩ : ∃ g, h = g + 1 := ⟨h - 1, by omega⟩
          rw [pk_m1]
          exact nI_lt (by omega) (by omega)
      rw [if_pos lt]
      exact ⟨Ni, rfl, H, hR, wy⟩
    · obtain ⟨g, rfl⟩ : ∃ g, h = g + 1 := ⟨h - 1, by omega⟩
      rw [pk_m1, if_neg (nI_nlt (by omega) (by omega))]
      obtain ⟨N2, a1, a2, a3, a4, a5⟩ := ly37 (k27 := fun M x1 => f_X12_layHeat_27 f M x1) (M := M) (R := R) (p := p) (F := F) (h := g) (by omega) FU 0 Ni (by omega) (by show F < 0 + 5000; omega) H hR (fun k hk => wy (g + 1) (by omega) (by omega) k hk) (fun k hk => absurd hk (by omega))
      rw [show f_X12_layHeat_37 (fun M x1 => f_X12_layHeat_27 f M x1) (nI g) FU Ni 0 = _ from a1]
      exact ih g N2 (by omega) (by omega) (by omega) a2 a3 (fun q h1 h2 k hk => by
        by_cases z : q = g
        · subst z
          exact a5 k hk
        · rw [a4 _ (by omega)]
          exact wy q (by omega) h2 k hk)
theorem ly2 {M : Mm} {R : Pg} {p F now : Nat} (hn : now ≤ 12) (eR : R 170 = nI now) : ∀ f j Ni, j ≤ 10 → 10 < j + f → RelP p F M Ni → Ni.1 1 = R → (∀ k, k < j → Ni.1 13 (120 + k) = 0) →
    ∃ N2, f_X12_layHeat_2 f Ni (nI j) = some N2 ∧ RelP p F M N2 ∧ N2.1 1 = R ∧ VY N2 R F now := by
  intro f
  induction f with
  | zero => intro j Ni q1 q2; omega
  | succ f ih =>
    intro j Ni q1 q2 H hR w
    have hF := H.1.2.2.2.2.1
    have st : f_X12_layHeat_2 (f + 1) Ni (nI j) = b_X12_layHeat_2 (fun M x1 => f_X12_layHeat_2 f M x1) Ni (nI j) := rfl
    rw [st]
    unfold b_X12_layHeat_2 f_X12_layHeat_24
    by_cases e : j = 10
    · subst e
      rw [if_pos (by decide)]
      exact ly27 hn eR FU 12 Ni hn (Nat.le_refl _) (by show 12 < now + 5000; omega) H hR (fun q h1 h2 k hk => by
        obtain rfl : q = 12 := by omega
        rw [ls12]
        exact w k (by omega))
    · rw [if_neg (show ¬ (10 : Int32) ≤ nI j from nI_ge (a := j) (b := 10) (by omega) (by omega)), show (120 : Int32) + nI j = nI (120 + j) from nIa (a := 120) rfl, ck_n (by omega) (by omega), nI_clamp (by omega), wr_e, n1]
      exact ih (j + 1) (wI Ni 13 (120 + j) 0) (by omega) (by omega) (H.cg (fun _ _ _ _ => rfl) rfl (fun b y1 y2 y3 => wI_o y3) (fun x hx => by rw [wI_o (by decide)])) (by rw [wI_o (by decide)]; exact hR) (fun k hk => by
        by_cases g : k = j
        · subst g
          exact mIs _ _ _ _
        · rw [mIn (by omega)]
          exact w k (by omega))
theorem e_layHeat {M N : Mm} {p F now : Nat} (H : RelP p F M N) (hn : now ≤ 12) (eR : N.1 1 170 = nI now) : ∃ N2, f_X12_layHeat N = some N2 ∧ RelP p F M N2 ∧ N2.1 1 = N.1 1 ∧ VY N2 (N.1 1) F now :=
  ly2 hn eR FU 0 N (by omega) (by decide) H rfl (fun k hk => absurd hk (by omega))
