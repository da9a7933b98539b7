-- the path
theorem ld206 {M N : Mm} {p F h k : Nat} {x3 x4 x5 : Int32} {k135 : Int32 → Int32 → Int32 → Option (Int32 × Mm)} (H : RelP p F M N) (hh : h < 12) (hk : k < F) : f_X12_lead_206 k135 N x3 x4 x5 (nI h) (nI k) = k135 (x4 - nI (hq (N.1 1) k h)) (nI k) (nI (h + 1)) := by
  unfold f_X12_lead_206
  rw [H.heY hk hh, bd_s, nm_x, n1]
theorem ld165a {M N : Mm} {p F h k i n : Nat} {x3 : Int32} {k135 : Int32 → Int32 → Int32 → Option (Int32 × Mm)} (H : RelP p F M N) (hh : h < 12) (hk : k < F) (hi : i < F) (e : N.1 13 (10 * (h + 1) + k) = nI (lsq (N.1 1) F (h + 1) k)) (g : thq (N.1 1) F h k = lsq (N.1 1) F h i) :
    f_X12_lead_165 k135 N x3 (nI (lsq (N.1 1) F h i)) 0 (nI h) (n + 1) (nI k) = k135 (nI (lsq (N.1 1) F (h + 1) k)) (nI k) (nI (h + 1)) := by
  have hF := H.1.2.2.2.2.1
  have st : f_X12_lead_165 k135 N x3 (nI (lsq (N.1 1) F h i)) 0 (nI h) (n + 1) (nI k) = b_X12_lead_165 k135 (fun x8 => f_X12_lead_165 k135 N x3 (nI (lsq (N.1 1) F h i)) 0 (nI h) n x8) N x3 (nI (lsq (N.1 1) F h i)) 0 (nI h) (nI k) := rfl
  rw [st]
  unfold b_X12_lead_165
  have et : hq (N.1 1) k h + lsq (N.1 1) F (h + 1) k = thq (N.1 1) F h k := rfl
  rw [if_pos rfl, H.heY hk hh, bd_s, n1, show (10 : Int32) * nI (h + 1) = nI (10 * (h + 1)) from pk_mul 10 _, nI_add, ck_n (by omega) (by omega), nI_clamp (by omega), e, nI_add, et, g, if_pos rfl, ld206 H hh hk, pk_sub (by omega), ← g, show thq (N.1 1) F h k - hq (N.1 1) k h = lsq (N.1 1) F (h + 1) k by omega]
theorem ld165b {M N : Mm} {p F h k i n : Nat} {x3 : Int32} {k135 : Int32 → Int32 → Int32 → Option (Int32 × Mm)} (H : RelP p F M N) (hh : h < 12) (hk : k < F) (hi : i < F) (e : N.1 13 (10 * (h + 1) + k) = nI (lsq (N.1 1) F (h + 1) k)) (g : ¬ thq (N.1 1) F h k = lsq (N.1 1) F h i) :
    f_X12_lead_165 k135 N x3 (nI (lsq (N.1 1) F h i)) 0 (nI h) (n + 1) (nI k) = f_X12_lead_165 k135 N x3 (nI (lsq (N.1 1) F h i)) 0 (nI h) n (nI (k + 1)) := by
  have hF := H.1.2.2.2.2.1
  have b1 := H.thn hk hh
  have b2 := H.lsn hi (show h ≤ 12 by omega)
  have st : f_X12_lead_165 k135 N x3 (nI (lsq (N.1 1) F h i)) 0 (nI h) (n + 1) (nI k) = b_X12_lead_165 k135 (fun x8 => f_X12_lead_165 k135 N x3 (nI (lsq (N.1 1) F h i)) 0 (nI h) n x8) N x3 (nI (lsq (N.1 1) F h i)) 0 (nI h) (nI k) := rfl
  rw [st]
  unfold b_X12_lead_165
  have et : hq (N.1 1) k h + lsq (N.1 1) F (h + 1) k = thq (N.1 1) F h k := rfl
  rw [if_pos rfl, H.heY hk hh, bd_s, n1, show (10 : Int32) * nI (h + 1) = nI (10 * (h + 1)) from pk_mul 10 _, nI_add, ck_n (by omega) (by omega), nI_clamp (by omega), e, nI_add, et, if_neg (fun z => g ((nI_eq (by omega) (by omega)).mp z)), n1]
theorem m3_last {g : Nat → Nat} {F i : Nat} (h1 : ¬ g i = m3 g F i) (h2 : i = 0 ∨ ¬ g (i - 1) = m3 g F i) : i + 1 < F ∧ g (i + 1) = m3 g F i := by
  unfold m3 at *
  by_cases e : i + 1 < F
  · rw [if_pos e] at *
    refine ⟨e, ?_⟩
    by_cases z : i = 0
    · rw [if_pos z] at *
      omega
    · rw [if_neg z] at *
      omega
  · rw [if_neg e] at *
    by_cases z : i = 0
    · rw [if_pos z] at *
      omega
    · rw [if_neg z] at *
      omega
theorem stepX {M N N' : Mm} {p F h i now : Nat} {x3 : Int32} {k135 : Int32 → Int32 → Int32 → Option (Int32 × Mm)} (H : RelP p F M N) (hh : h < 12) (hi : i < F) (w0 : M.1 100 0 = nI F) (wy : WY M (N.1 1) F now) (vy : VY N (N.1 1) F now) (hn : now ≤ h) (fl left : Int32) (hl : fl = 0 → left = nI (lsq (N.1 1) F h i)) :
    ∃ k left2, k < F ∧ (fl = 0 → left2 = nI (lsq (N.1 1) F (h + 1) k)) ∧ f_X10_stepFrom M (nI i) (nI h) fl = some (nI k) ∧ (if nI i ≤ 0 then f_X12_lead_163 k135 N x3 left fl (nI h) (nI i) else f_X12_lead_163 k135 N x3 left fl (nI h) (nI i - 1)) = k135 left2 (nI k) (nI (h + 1)) := by
  have hF := H.1.2.2.2.2.1
  have e : ∀ k, k < F → N.1 13 (10 * (h + 1) + k) = nI (lsq (N.1 1) F (h + 1) k) := fun k hk => vy (h + 1) (by omega) (by omega) k hk
  have bl := H.lsn hi (show h ≤ 12 by omega)
  unfold f_X10_stepFrom f_X10_stepFrom_33 f_X10_stepFrom_29 f_X10_stepFrom_56 f_X12_lead_163
  by_cases f0 : fl = 0
  · have hl0 := hl f0
    subst f0
    subst hl0
    rw [if_pos rfl, if_pos rfl]
    have c1 : (101 + 1 + (nI h).toNatClampNeg) = 102 + h := by (rw [nI_clamp (by omega)]; try omega)
    have c2 : (114 + 1 + (nI h).toNatClampNeg) = 115 + h := by (rw [nI_clamp (by omega)]; try omega)
    rw [c1, c2, ck_n hh (by omega), ck_n hh (by omega), ck_n (show i < 10 by omega) (by omega), ck_n (show i < 10 by omega) (by omega), ck_n (show h < 13 by omega) (by omega), ck_n (show h < 13 by omega) (by omega), nI_clamp (show i < 2 ^ 31 by omega), (wy h hn (by omega) i hi).1, (wy h hn (by omega) i hi).2, w0]
    have bt := H.thn hi hh
    -- from i on
    have fromI : ∀ n, (i = 0 ∨ ¬ thq (N.1 1) F h (i - 1) = lsq (N.1 1) F h i) → ∃ k left2, k < F ∧ ((0 : Int32) = 0 → left2 = nI (lsq (N.1 1) F (h + 1) k)) ∧ (if nI (thq (N.1 1) F h i) = nI (lsq (N.1 1) F h i) then some (nI i) else some (iMin (nI i + 1) (nI F - 1))) = some (nI k) ∧ f_X12_lead_165 k135 N x3 (nI (lsq (N.1 1) F h i)) 0 (nI h) (n + 2) (nI i) = k135 left2 (nI k) (nI (h + 1)) := by
      intro n hp
      by_cases g : thq (N.1 1) F h i = lsq (N.1 1) F h i
      · exact ⟨i, _, hi, fun _ => rfl, by rw [g, if_pos rfl], ld165a (n := n + 1) H hh hi hi (e i hi) g⟩
      · have g2 := g
        rw [ls_th _ _ hh] at g2 hp
        obtain ⟨l1, l2⟩ := m3_last g2 hp
        rw [← ls_th _ _ hh] at l2
        refine ⟨i + 1, _, l1, fun _ => rfl, ?_, ?_⟩
        · rw [if_neg (fun z => g ((nI_eq (by omega) (by omega)).mp z)), n1, show nI F - 1 = nI (F - 1) from pk_sub (b := 1) (by omega), iMin_n (by omega) (by omega), Nat.min_eq_left (by omega)]
        · rw [ld165b (n := n + 1) H hh hi hi (e i hi) g]
          exact ld165a (n := n) H hh l1 hi (e _ l1) l2
    by_cases i0 : i = 0
    · subst i0
      rw [if_pos (show nI 0 ≤ 0 by decide), if_pos (show nI 0 ≤ 0 by decide)]
      exact fromI 4998 (Or.inl rfl)
    · have bp := H.thn (show i - 1 < F by omega) hh
      rw [if_neg (nI_nle (by omega) (by omega)), if_neg (nI_nle (by omega) (by omega)), show nI i - 1 = nI (i - 1) from pk_sub (b := 1) (by omega), ck_n (show i - 1 < 10 by omega) (by omega), nI_clamp (show i - 1 < 2 ^ 31 by omega), (wy h hn (by omega) (i - 1) (by omega)).1]
      by_cases g : thq (N.1 1) F h (i - 1) = lsq (N.1 1) F h i
      · rw [if_pos (congrArg nI g)]
        exact ⟨i - 1, _, by omega, fun _ => rfl, rfl, ld165a (n := 4999) H hh (by omega) hi (e _ (by omega)) g⟩
      · rw [if_neg (fun z => g ((nI_eq (by omega) (by omega)).mp z))]
        obtain ⟨k, left2, a1, a2, a3, a4⟩ := fromI 4997 (Or.inr g)
        refine ⟨k, left2, a1, a2, a3, ?_⟩
        rw [show FU = 4999 + 1 from rfl, ld165b (n := 4999) H hh (by omega) hi (e _ (by omega)) g, show i - 1 + 1 = i by omega]
        exact a4
  · rw [if_neg f0, if_neg f0]
    have any : ∀ k, k < F → f_X12_lead_165 k135 N x3 left fl (nI h) FU (nI k) = k135 (left - nI (hq (N.1 1) k h)) (nI k) (nI (h + 1)) := by
      intro k hk
      have st : f_X12_lead_165 k135 N x3 left fl (nI h) FU (nI k) = b_X12_lead_165 k135 (fun x8 => f_X12_lead_165 k135 N x3 left fl (nI h) 4999 x8) N x3 left fl (nI h) (nI k) := rfl
      rw [st]
      unfold b_X12_lead_165
      rw [if_neg f0, ld206 H hh hk]
    by_cases i0 : i = 0
    · subst i0
      rw [if_pos (by decide), if_pos (by decide), any 0 hi]
      exact ⟨0, _, hi, fun z => absurd z f0, rfl, rfl⟩
    · rw [if_neg (nI_nle (by omega) (by omega)), if_neg (nI_nle (by omega) (by omega)), show nI i - 1 = nI (i - 1) from pk_sub (b := 1) (by omega), any (i - 1) (by omega)]
      exact ⟨i - 1, _, by omega, fun z => absurd z f0, rfl, rfl⟩
theorem pathX {M N : Mm} {p F now e : Nat} (H : RelP p F M N) (w0 : M.1 100 0 = nI F) (w1 : M.1 100 1 = nI now) (eN : N.1 1 170 = nI now) (wy : WY M (N.1 1) F now) (vy : VY N (N.1 1) F now) (he : now + e ≤ 11) (fl : Int32) : ∀ f h i left, i < F → now ≤ h → h ≤ now + e + 1 → now + e + 1 < h + f → (fl = 0 → left = nI (lsq (N.1 1) F h i)) →
    ∃ r, f_X10_placeOn_25 M (nI e) fl f (nI i) (nI h) = some r ∧ f_X12_lead_135 N (nI (10 + e)) fl f left (nI i) (nI h) = some (r, N) := by
  intro f
  induction f with
  | zero => intro h i left q0 q1 q2 q3; omega
  | succ f ih =>
    intro h i left q0 q1 q2 q3 hl
    have st : f_X10_placeOn_25 M (nI e) fl (f + 1) (nI i) (nI h) = b_X10_placeOn_25 (fun x5 x6 => f_X10_placeOn_25 M (nI e) fl f x5 x6) M (nI e) fl (nI i) (nI h) := rfl
    have st2 : f_X12_lead_135 N (nI (10 + e)) fl (f + 1) left (nI i) (nI h) = b_X12_lead_135 (fun x4 x6 x7 => f_X12_lead_135 N (nI (10 + e)) fl f x4 x6 x7) N (nI (10 + e)) fl left (nI i) (nI h) := rfl
    rw [st, st2]
    unfold b_X10_placeOn_25 b_X12_lead_135 f_X12_hourNow f_X10_placeOn_61
    rw [show ((170 : Int32)).toNatClampNeg = 170 from rfl, eN, bd_s, w1, nI_add, nI_add, show nI (now + (10 + e)) - 10 = nI (now + e) from by rw [show nI (now + (10 + e)) - 10 = nI (now + (10 + e) - 10) from pk_sub (b := 10) (by omega)]; congr 1; omega]
    by_cases g : h = now + e + 1
    · subst g
      rw [if_pos (nI_lt (by omega) (by omega)), if_pos (nI_lt (by omega) (by omega))]
      exact ⟨_, rfl, rfl⟩
    · rw [if_neg (nI_nlt (by omega) (by omega)), if_neg (nI_nlt (by omega) (by omega)), if_neg (show ¬ (12 : Int32) ≤ nI h from nI_ge (a := h) (b := 12) (by omega) (by omega))]
      obtain ⟨k, left2, a1, a2, a3, a4⟩ := stepX (N' := N) (x3 := nI (10 + e)) (k135 := fun x4 x6 x7 => f_X12_lead_135 N (nI (10 + e)) fl f x4 x6 x7) H (show h < 12 by omega) q0 w0 wy vy q1 fl left hl
      rw [a3, bd_s, n1, a4]
      exact ih (h + 1) k left2 a1 (by omega) (by omega) (by omega) a2
