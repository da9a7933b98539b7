-- LEAD: the heat of the ways
def hq (R : Pg) (i h : Nat) : Nat := (R (171 + h) + warmP R i (nI h)).toNatClampNeg
def m3 (g : Nat → Nat) (F i : Nat) : Nat := if i + 1 < F then min (if i = 0 then g i else min (g i) (g (i - 1))) (g (i + 1)) else (if i = 0 then g i else min (g i) (g (i - 1)))
def lq (R : Pg) (F : Nat) : Nat → Nat → Nat
  | 0, _ => 0
  | d + 1, i => m3 (fun k => hq R k (11 - d) + lq R F d k) F i
def lsq (R : Pg) (F h i : Nat) : Nat := lq R F (12 - h) i
def thq (R : Pg) (F h i : Nat) : Nat := hq R i h + lsq R F (h + 1) i
theorem ls12 (R : Pg) (F i : Nat) : lsq R F 12 i = 0 := rfl
theorem ls_th (R : Pg) (F : Nat) {h : Nat} (hh : h < 12) (i : Nat) : lsq R F h i = m3 (thq R F h) F i := by
  obtain ⟨d, hd, rfl⟩ : ∃ d, d ≤ 11 ∧ h = 11 - d := ⟨11 - h, by omega, by omega⟩
  have e1 : 12 - (11 - d) = d + 1 := by omega
  have e2 : ∀ k, thq R F (11 - d) k = hq R k (11 - d) + lq R F d k := fun k => by
    unfold thq lsq
    rw [show 12 - (11 - d + 1) = d by omega]
  unfold lsq
  rw [e1]
  show m3 (fun k => hq R k (11 - d) + lq R F d k) F i = _
  rw [show thq R F (11 - d) = fun k => hq R k (11 - d) + lq R F d k from funext e2]
theorem m3_le {g : Nat → Nat} {F i B : Nat} (h : g i ≤ B) : m3 g F i ≤ B := by
  unfold m3
  split <;> split <;> omega
theorem RelP.hqn {p F : Nat} {M N : Mm} (H : RelP p F M N) {i h : Nat} (hi : i < 10) (hh : h < 12) : N.1 1 (171 + h) + warmP (N.1 1) i (nI h) = nI (hq (N.1 1) i h) ∧ hq (N.1 1) i h ≤ 129 := by
  obtain ⟨v, hv, e⟩ := H.2.1.2.1.2.2.1 h hh
  have h1 := H.2.1.2.1.2.2.2.2
  rw [sh0] at h1
  obtain ⟨w, hw, e2⟩ := warm_n (h := nI h) hi h1
  rw [show 0 + 171 + h = 171 + h by omega] at e
  have e3 : N.1 1 (171 + h) + warmP (N.1 1) i (nI h) = nI (v + w) := by rw [e, e2, nI_add]
  have e4 : hq (N.1 1) i h = v + w := by
    unfold hq
    rw [e3, nI_clamp (by omega)]
  rw [e4, e3]
  exact ⟨rfl, by omega⟩
theorem lq_le {R : Pg} {F : Nat} (hq9 : ∀ i h, i < F → h < 12 → hq R i h ≤ 129) : ∀ d i, d ≤ 12 → i < F → lq R F d i ≤ 129 * d := by
  intro d
  induction d with
  | zero => intro i _ _; exact Nat.le_refl 0
  | succ d ih =>
    intro i h1 h2
    have := hq9 i (11 - d) h2 (by omega)
    have := ih i (by omega) h2
    show m3 (fun k => hq R k (11 - d) + lq R F d k) F i ≤ _
    exact m3_le (by show hq R i (11 - d) + lq R F d i ≤ 129 * (d + 1); omega)
theorem RelP.lsn {p F : Nat} {M N : Mm} (H : RelP p F M N) {i h : Nat} (hi : i < F) (hh : h ≤ 12) : lsq (N.1 1) F h i ≤ 1600 := by
  have hF := H.1.2.2.2.2.1
  have := lq_le (R := N.1 1) (F := F) (fun i h h1 h2 => (H.hqn (by omega) h2).2) (12 - h) i (by omega) hi
  unfold lsq
  omega
theorem RelP.thn {p F : Nat} {M N : Mm} (H : RelP p F M N) {i h : Nat} (hi : i < F) (hh : h < 12) : thq (N.1 1) F h i ≤ 1800 := by
  have hF := H.1.2.2.2.2.1
  have h1 := (H.hqn (i := i) (by omega) hh).2
  have h2 := H.lsn hi (show h + 1 ≤ 12 by omega)
  unfold thq
  omega
theorem RelP.heX {p F : Nat} {M N : Mm} (H : RelP p F M N) {i h : Nat} (hi : i < F) (hh : h < 12) : f_X7_heatOn M (lx p + 5) (nI i) (nI h) = some (nI (hq (N.1 1) i h)) := by
  have hF := H.1.2.2.2.2.1
  unfold f_X7_heatOn
  rw [ck_n hh (by omega), (H.fire (i := i) (by omega) (nI h)).1, bd_s, nI_clamp (by omega), H.2.1.1.2.2.2.1 h hh, show 0 + 171 + h = 171 + h by omega, (H.hqn (by omega) hh).1]
theorem RelP.heY {p F : Nat} {M N : Mm} (H : RelP p F M N) {i h : Nat} (hi : i < F) (hh : h < 12) : f_X12_heat N (nI i) (nI h) 1 = some (nI (hq (N.1 1) i h)) := by
  have hF := H.1.2.2.2.2.1
  unfold f_X12_heat f_X12_heat_39 f_X12_heat_44
  rw [H.fY, bd_s, if_neg (fun q => b2_0.mp q (inR_i (by omega) (by omega))), e_yHour, bd_s, if_neg (fun q => b2_0.mp q (show inR (nI h) 0 11 from inR_i (n := 11) (by omega) (by omega))), (H.fire (i := i) (by omega) (nI h)).2, bd_s, if_neg (by decide), ix171, ck_n (by omega) (by omega), nI_clamp (by omega), Int32.add_comm, (H.hqn (by omega) hh).1]
-- the class's rows
theorem nextX {M N : Mm} {p F h i : Nat} (H : RelP p F M N) (hh : h < 12) (hi : i < F) (w0 : M.1 100 0 = nI F) (wt : ∀ k, k < F → M.1 (102 + h) k = nI (thq (N.1 1) F h k)) : f_X10_leastNext M (nI i) (nI h) = some (nI (lsq (N.1 1) F h i)) := by
  have hF := H.1.2.2.2.2.1
  rw [ls_th _ _ hh]
  have b0 := H.thn hi hh
  unfold f_X10_leastNext f_X10_leastNext_28 f_X10_leastNext_53 m3
  rw [ck_n hh (by omega), ck_n (show i < 10 by omega) (by omega), nI_clamp (show i < 2 ^ 31 by omega), show 101 + 1 + (nI h).toNatClampNeg = 102 + h by (rw [nI_clamp (by omega)]; try omega), wt i hi, nm_x, n1, w0]
  have tail : ∀ v, v ≤ 1800 → (if nI F ≤ nI (i + 1) then some (nI v) else ck (inn (nI h) 12) <| ck (inn (nI (i + 1)) 10) <| nm (iMin (nI v) (M.1 (102 + h) (nI (i + 1)).toNatClampNeg)) fun v4 => some v4) = some (nI (if i + 1 < F then min v (thq (N.1 1) F h (i + 1)) else v)) := by
    intro v hv
    by_cases g : i + 1 < F
    · rw [if_neg (nI_ge g (by omega)), if_pos g, ck_n hh (by omega), ck_n (show i + 1 < 10 by omega) (by omega), nI_clamp (by omega), wt _ g, nm_x, iMin_n (by omega) (by have := H.thn g hh; omega)]
    · rw [if_pos (nI_le (by omega) (by omega)), if_neg g]
  by_cases g0 : i = 0
  · subst g0
    rw [if_pos (by decide), if_pos rfl]
    exact tail _ b0
  · have b1 := H.thn (show i - 1 < F by omega) hh
    rw [if_neg (nI_nle (by omega) (by omega)), if_neg g0, show nI i - 1 = nI (i - 1) from pk_sub (b := 1) (by omega), ck_n (show i - 1 < 10 by omega) (by omega), nI_clamp (show i - 1 < 2 ^ 31 by omega), wt (i - 1) (by omega), nm_x, iMin_n (by omega) (by omega)]
    exact tail _ (by omega)
theorem wg76 {N : Mm} {p F h a : Nat} {k22 : Mm → Int32 → Option Mm} (hh : h < 12) : ∀ f j Mi, j ≤ F → F < j + f → RelP p F Mi N → Mi.1 100 0 = nI F → (∀ k, k < F → Mi.1 (102 + h) k = nI (thq (N.1 1) F h k)) → (∀ k, k < j → Mi.1 (115 + h) k = nI (lsq (N.1 1) F h k)) →
    ∃ M2, f_X10_weigh_76 k22 a (nI h) f Mi (nI j) = k22 M2 (nI h + (-1)) ∧ RelP p F M2 N ∧ (∀ b, b ≠ 115 + h → M2.1 b = Mi.1 b) ∧ ∀ k, k < F → M2.1 (115 + h) k = nI (lsq (N.1 1) F h k) := by
  intro f
  induction f with
  | zero => intro j Mi q1 q2; omega
  | succ f ih =>
    intro j Mi q1 q2 H w0 wt wl
    have hF := H.1.2.2.2.2.1
    have st : f_X10_weigh_76 k22 a (nI h) (f + 1) Mi (nI j) = b_X10_weigh_76 k22 (fun M x3 => f_X10_weigh_76 k22 a (nI h) f M x3) a (nI h) Mi (nI j) := rfl
    rw [st]
    unfold b_X10_weigh_76 f_X10_weigh_104
    rw [w0]
    by_cases e : j = F
    · subst e
      rw [if_pos (nI_le (Nat.le_refl _) (by omega))]
      exact ⟨Mi, rfl, H, fun _ _ => rfl, wl⟩
    · rw [if_neg (nI_ge (by omega) (by omega)), ck_n (show h < 13 by omega) (by omega), nextX H hh (by omega) w0 wt, bd_s, ck_n (show j < 10 by omega) (by omega), wr_e, nI_clamp (show h < 2 ^ 31 by omega), nI_clamp (show j < 2 ^ 31 by omega), show 114 + 1 + h = 115 + h by omega, n1]
      obtain ⟨M2, a1, a2, a3, a4⟩ := ih (j + 1) (wI Mi (115 + h) j (nI (lsq (N.1 1) F h j))) (by omega) (by omega) (H.cg (fun c y1 y2 y3 => wI_o (by omega)) (by rw [wI_o (by omega)]) (fun _ _ _ _ => rfl) (fun _ _ => rfl)) (by rw [wI_o (by omega)]; exact w0) (fun k hk => by rw [wI_o (by omega)]; exact wt k hk) (fun k hk => by
        by_cases g : k = j
        · subst g
          exact mIs _ _ _ _
        · rw [mIn (by omega)]
          exact wl k (by omega))
      exact ⟨M2, a1, a2, fun b hb => by rw [a3 b hb, wI_o hb], a4⟩
theorem wg32 {N : Mm} {p F h : Nat} {k22 : Mm → Int32 → Option Mm} (hh : h < 12) : ∀ f j Mi, j ≤ F → F < j + f → RelP p F Mi N → Mi.1 100 0 = nI F → (∀ k, k < F → Mi.1 (116 + h) k = nI (lsq (N.1 1) F (h + 1) k)) → (∀ k, k < j → Mi.1 (102 + h) k = nI (thq (N.1 1) F h k)) →
    ∃ M2, f_X10_weigh_32 k22 (lx p) (nI h) f Mi (nI j) = k22 M2 (nI h + (-1)) ∧ RelP p F M2 N ∧ (∀ b, b ≠ 115 + h → b ≠ 102 + h → M2.1 b = Mi.1 b) ∧ ∀ k, k < F → M2.1 (102 + h) k = nI (thq (N.1 1) F h k) ∧ M2.1 (115 + h) k = nI (lsq (N.1 1) F h k) := by
  intro f
  induction f with
  | zero => intro j Mi q1 q2; omega
  | succ f ih =>
    intro j Mi q1 q2 H w0 wl wt
    have hF := H.1.2.2.2.2.1
    have st : f_X10_weigh_32 k22 (lx p) (nI h) (f + 1) Mi (nI j) = b_X10_weigh_32 k22 (fun M x3 => f_X10_weigh_32 k22 (lx p) (nI h) f M x3) (lx p) (nI h) Mi (nI j) := rfl
    rw [st]
    unfold b_X10_weigh_32 f_X10_weigh_74
    rw [w0]
    by_cases e : j = F
    · subst e
      rw [if_pos (nI_le (Nat.le_refl _) (by omega))]
      obtain ⟨M2, a1, a2, a3, a4⟩ := wg76 (k22 := k22) (a := lx p) (p := p) hh FU 0 Mi (by omega) (by show j < 0 + 5000; omega) H w0 wt (fun k hk => absurd hk (by omega))
      exact ⟨M2, a1, a2, fun b h1 h2 => a3 b h1, fun k hk => ⟨by rw [a3 _ (by omega)]; exact wt k hk, a4 k hk⟩⟩
    · rw [if_neg (nI_ge (by omega) (by omega)), ck_n hh (by omega), H.heX (by omega) hh, bd_s, n1, ck_n (show h + 1 < 13 by omega) (by omega), ck_n (show j < 10 by omega) (by omega), wr_e, nI_clamp (show h < 2 ^ 31 by omega), nI_clamp (show h + 1 < 2 ^ 31 by omega), nI_clamp (show j < 2 ^ 31 by omega), show 114 + 1 + (h + 1) = 116 + h by omega, show 101 + 1 + h = 102 + h by omega, wl j (by omega), nI_add, n1]
      obtain ⟨M2, a1, a2, a3, a4⟩ := ih (j + 1) (wI Mi (102 + h) j (nI (hq (N.1 1) j h + lsq (N.1 1) F (h + 1) j))) (by omega) (by omega) (H.cg (fun c y1 y2 y3 => wI_o (by omega)) (by rw [wI_o (by omega)]) (fun _ _ _ _ => rfl) (fun _ _ => rfl)) (by rw [wI_o (by omega)]; exact w0) (fun k hk => by rw [wI_o (by omega)]; exact wl k hk) (fun k hk => by
        by_cases g : k = j
        · subst g
          exact mIs _ _ _ _
        · rw [mIn (by omega)]
          exact wt k (by omega))
      exact ⟨M2, a1, a2, fun b h1 h2 => by rw [a3 b h1 h2, wI_o h2], a4⟩
def WY (M : Mm) (R : Pg) (F h : Nat) : Prop := ∀ q, h ≤ q → q ≤ 11 → ∀ k, k < F → M.1 (102 + q) k = nI (thq R F q k) ∧ M.1 (115 + q) k = nI (lsq R F q k)
theorem wg22 {N : Mm} {p F now : Nat} (hn : now ≤ 12) : ∀ f h Mi, now ≤ h → h ≤ 12 → h < now + f → RelP p F Mi N → Mi.1 100 0 = nI F → Mi.1 100 1 = nI now → WY Mi (N.1 1) F h →
    ∃ M2, f_X10_weigh_22 (lx p) f Mi (nI h + (-1)) = some M2 ∧ RelP p F M2 N ∧ M2.1 100 0 = nI F ∧ M2.1 100 1 = nI now ∧ WY M2 (N.1 1) F now := by
  intro f
  induction f with
  | zero => intro h Mi q1 q2 q3; omega
  | succ f ih =>
    intro h Mi q1 q2 q3 H w0 w1 wy
    have st : f_X10_weigh_22 (lx p) (f + 1) Mi (nI h + (-1)) = b_X10_weigh_22 (fun M x2 => f_X10_weigh_22 (lx p) f M x2) (lx p) Mi (nI h + (-1)) := rfl
    rw [st]
    unfold b_X10_weigh_22
    rw [w1]
    by_cases e : h = now
    · subst e
      have lt : nI h + (-1) < nI h := by
        by_cases z : h = 0
        · subst z
          decide
        · obtain ⟨g, rfl⟩ : ∃ g, h = g + 1 := ⟨h - 1, by omega⟩
          rw [pk_m1]
          exact nI_lt (by omega) (by omega)
      rw [if_pos lt]
      exact ⟨Mi, rfl, H, w0, w1, wy⟩
    · obtain ⟨g, rfl⟩ : ∃ g, h = g + 1 := ⟨h - 1, by omega⟩
      rw [pk_m1, if_neg (nI_nlt (by omega) (by omega))]
      have hF := H.1.2.2.2.2.1
      obtain ⟨M2, a1, a2, a3, a4⟩ := wg32 (k22 := fun M x2 => f_X10_weigh_22 (lx p) f M x2) (p := p) (F := F) (N := N) (h := g) (by omega) FU 0 Mi (by omega) (by show F < 0 + 5000; omega) H w0 (fun k hk => by
        by_cases z : g = 11
        · subst z
          rw [ls12]
          exact H.2.2.2.2.2.2.2.2.2.2.2.1 k (by omega)
        · have := (wy (g + 1) (by omega) (by omega) k hk).2
          rw [show 115 + (g + 1) = 116 + g by omega] at this
          exact this) (fun k hk => absurd hk (by omega))
      rw [show f_X10_weigh_32 (fun M x2 => f_X10_weigh_22 (lx p) f M x2) (lx p) (nI g) FU Mi 0 = _ from a1]
      exact ih g M2 (by omega) (by omega) (by omega) a2 (by rw [a3 100 (by omega) (by omega)]; exact w0) (by rw [a3 100 (by omega) (by omega)]; exact w1) (fun q h1 h2 k hk => by
        by_cases z : q = g
        · subst z
          exact a4 k hk
        · rw [a3 (102 + q) (by omega) (by omega), a3 (115 + q) (by omega) (by omega)]
          exact wy q (by omega) h2 k hk)
theorem e_weigh {M N : Mm} {p F now : Nat} (H : RelP p F M N) (hn : now ≤ 12) (e : M.1 (lx p + 5) 0 = nI now) : ∃ M2, f_X10_weigh M (lx p) = some M2 ∧ RelP p F M2 N ∧ M2.1 100 0 = nI F ∧ M2.1 100 1 = nI now ∧ WY M2 (N.1 1) F now := by
  unfold f_X10_weigh
  rw [wr_e, wr_e, wI_o (by unfold lx; omega), e, H.1.2.2.2.2.2.1]
  exact wg22 hn FU 12 _ hn (Nat.le_refl _) (by show 12 < now + 5000; omega) (H.cg (fun c y1 y2 y3 => by rw [wI_o (by omega), wI_o (by omega)]) (by rw [wI_o (by omega), wI_o (by omega)]) (fun _ _ _ _ => rfl) (fun _ _ => rfl)) (by rw [mIn (by decide), mIs]) (mIs _ _ _ _) (fun q h1 h2 => absurd h1 (by omega))
