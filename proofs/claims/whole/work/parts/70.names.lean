-- NAMES
def ltr (w j : Nat) : Nat := letL.getD (cutsL.getD w 0 + j) 0
theorem nm_tab : ∀ w, w < 16 → sl w = nI (sLen.getD w 0) ∧ cutsL.getD (w + 1) 0 = cutsL.getD w 0 + sLen.getD w 0 ∧ sLen.getD w 0 ≤ 8 ∧ 1 ≤ sLen.getD w 0 ∧ cutsL.getD (w + 1) 0 ≤ 79 ∧ ∀ j, j < sLen.getD w 0 → sc w j = nI (ltr w j) ∧ ltr w j < 128 := by decide +kernel
theorem nm_one : ∀ w, w < 16 → ∀ v, v < 16 → sLen.getD w 0 = sLen.getD v 0 → (∀ j, j < sLen.getD w 0 → ltr w j = ltr v j) → w = v := by decide +kernel
theorem byN : ∀ b, b < 256 → 128 ≤ b → vp_nar .byte (nI b) < 0 := by decide +kernel
theorem by_l {b l : Nat} (hb : b < 256) (hl : l < 128) : vp_nar .byte (nI b) = nI l ↔ b = l := by
  by_cases g : b < 128
  · rw [(byX b hb).2.2.2.2 g]
    exact nI_eq (by omega) (by omega)
  · have h := byN b hb (by omega)
    refine ⟨fun z => ?_, fun z => by omega⟩
    rw [z] at h
    exact absurd h (nI_pos (by omega))
def isW (b : Nat → Nat) (st q w : Nat) : Prop := q - st = sLen.getD w 0 ∧ ∀ j, j < sLen.getD w 0 → b (st + j) = ltr w j
theorem isW_one {b : Nat → Nat} {st q w v : Nat} (hw : w < 16) (hv : v < 16) (h1 : isW b st q w) (h2 : isW b st q v) : w = v :=
  nm_one w hw v hv (h1.1.symm.trans h2.1) (fun j hj => (h1.2 j hj).symm.trans (h2.2 j (by rw [← h2.1, h1.1]; exact hj)))
theorem named_28 {b : Nat → Nat} {n st w : Nat} {M : Mm} (T : TXB b n) (hM : TM b n M) (hw : w < 16) (h6 : M.1 1 6 = nI st) (hq : st + sLen.getD w 0 ≤ n) : ∀ d x f, x + d = sLen.getD w 0 → d < f → ∃ r, f_X9_isNamed_28 M w f (nI x) = some r ∧ (r = 0 ∨ r = 1) ∧ (r = 1 ↔ ∀ j, x ≤ j → j < sLen.getD w 0 → b (st + j) = ltr w j) := by
  have hn := T.1
  obtain ⟨t1, t2, t3, t4, t5, t6⟩ := nm_tab w hw
  intro d
  induction d with
  | zero =>
    intro x f hx hf
    obtain ⟨f, rfl⟩ : ∃ m, f = m + 1 := ⟨f - 1, by omega⟩
    have st' : f_X9_isNamed_28 M w (f + 1) (nI x) = b_X9_isNamed_28 (fun x2 => f_X9_isNamed_28 M w f x2) M w (nI x) := rfl
    rw [st']
    unfold b_X9_isNamed_28
    rw [t1, if_pos (nI_le (by omega) (by omega))]
    exact ⟨1, rfl, Or.inr rfl, fun _ j h1 h2 => absurd h1 (by omega), fun _ => rfl⟩
  | succ d ih =>
    intro x f hx hf
    obtain ⟨f, rfl⟩ : ∃ m, f = m + 1 := ⟨f - 1, by omega⟩
    have st' : f_X9_isNamed_28 M w (f + 1) (nI x) = b_X9_isNamed_28 (fun x2 => f_X9_isNamed_28 M w f x2) M w (nI x) := rfl
    rw [st']
    unfold b_X9_isNamed_28
    obtain ⟨s1, s2⟩ := t6 x (by omega)
    rw [t1, if_neg (nI_ge (by omega) (by omega)), h6, nI_add, ck_n (show st + x < 400 by omega) (by omega), ck_n (show x < sLen.getD w 0 by omega) (by omega), nI_clamp (by omega), nI_clamp (by omega), hM.2 _ (by omega), s1, n1]
    by_cases g : b (st + x) = ltr w x
    · rw [if_pos ((by_l (T.2 _ (by omega)) s2).mpr g)]
      obtain ⟨r, a1, a2, a3⟩ := ih (x + 1) f (by omega) (by omega)
      refine ⟨r, a1, a2, a3.trans ⟨fun h j h1 h2 => ?_, fun h j h1 h2 => h j (by omega) h2⟩⟩
      by_cases e : j = x
      · rw [e]
        exact g
      · exact h j (by omega) h2
    · rw [if_neg (fun z => g ((by_l (T.2 _ (by omega)) s2).mp z))]
      exact ⟨0, rfl, Or.inl rfl, fun z => absurd z (by decide), fun h => absurd (h x (Nat.le_refl _) (by omega)) g⟩
theorem nameX {b : Nat → Nat} {n st q kind w : Nat} {M : Mm} (T : TXB b n) (hM : TM b n M) (hw : w < 16) (h5 : M.1 1 5 = nI kind) (hk : kind ≤ 3) (h6 : M.1 1 6 = nI st) (h7 : M.1 1 7 = nI q) (h1 : st ≤ q) (h2 : q ≤ n) : ∃ r, f_X9_isNamed M w = some r ∧ (r = 0 ∨ r = 1) ∧ (r = 1 ↔ kind = 1 ∧ isW b st q w) := by
  have hn := T.1
  obtain ⟨t1, t2, t3, t4, t5, t6⟩ := nm_tab w hw
  unfold f_X9_isNamed f_X9_isNamed_24
  rw [h5, h6, h7, pk_sub h1, t1]
  by_cases g : kind = 1
  · subst g
    rw [if_pos (show nI 1 = 1 from rfl)]
    by_cases e : q - st = sLen.getD w 0
    · rw [if_pos (by rw [e])]
      obtain ⟨r, a1, a2, a3⟩ := named_28 T hM hw h6 (by omega) (sLen.getD w 0) 0 FU (by omega) (by show sLen.getD w 0 < 5000; omega)
      exact ⟨r, a1, a2, a3.trans ⟨fun h => ⟨rfl, e, fun j hj => h j (by omega) hj⟩, fun h j _ hj => h.2.2 j hj⟩⟩
    · rw [if_neg (fun z => e ((nI_eq (by omega) (by omega)).mp z))]
      exact ⟨0, rfl, Or.inl rfl, fun z => absurd z (by decide), fun h => absurd h.2.1 e⟩
  · rw [if_neg (show ¬ nI kind = 1 from fun z => g ((nI_eq (b := 1) (by omega) (by omega)).mp z))]
    exact ⟨0, rfl, Or.inl rfl, fun z => absurd z (by decide), fun h => absurd h.1 g⟩
theorem nh51 {g : Gg} (hg : OKg g) {N : Mm} {st q w : Nat} {k2 : Int32 → Option Int32} (hN : WN g N) (h22 : N.1 0 22 = nI st) (h21 : N.1 0 21 = nI q) (h1 : st ≤ q) (h2 : q ≤ g.2.1) (hw : w < 16) (hl : q - st = sLen.getD w 0) : ∀ d x f, x + d = sLen.getD w 0 → d + 1 < f → ((∀ j, x ≤ j → j < sLen.getD w 0 → g.1 (st + j) = ltr w j) ∧ f_X12_nameHere_51 k2 N (nI w) f 1 (nI x) = some (nI w)) ∨ (¬ (∀ j, x ≤ j → j < sLen.getD w 0 → g.1 (st + j) = ltr w j) ∧ f_X12_nameHere_51 k2 N (nI w) f 1 (nI x) = k2 (nI (w + 1))) := by
  have T := hg.1
  have hn := T.1
  obtain ⟨t1, t2, t3, t4, t5, t6⟩ := nm_tab w hw
  intro d
  induction d with
  | zero =>
    intro x f hx hf
    obtain ⟨f, rfl⟩ : ∃ m, f = m + 1 := ⟨f - 1, by omega⟩
    have st' : f_X12_nameHere_51 k2 N (nI w) (f + 1) 1 (nI x) = b_X12_nameHere_51 k2 (fun x2 x3 => f_X12_nameHere_51 k2 N (nI w) f x2 x3) N (nI w) 1 (nI x) := rfl
    rw [st']
    unfold b_X12_nameHere_51 f_X12_nameHere_106
    rw [if_neg (by decide), h21, h22, pk_sub h1, if_pos (nI_le (by omega) (by omega)), if_neg (by decide)]
    exact Or.inl ⟨fun j h1 h2 => absurd h1 (by omega), rfl⟩
  | succ d ih =>
    intro x f hx hf
    obtain ⟨f, rfl⟩ : ∃ m, f = m + 1 := ⟨f - 1, by omega⟩
    have st' : f_X12_nameHere_51 k2 N (nI w) (f + 1) 1 (nI x) = b_X12_nameHere_51 k2 (fun x2 x3 => f_X12_nameHere_51 k2 N (nI w) f x2 x3) N (nI w) 1 (nI x) := rfl
    rw [st']
    unfold b_X12_nameHere_51 f_X12_nameHere_99
    obtain ⟨s1, s2⟩ := t6 x (by omega)
    have hb := T.2 (st + x) (by omega)
    have c1 : N.1 10 w = nI (cutsL.getD w 0) := by rw [hN.1 10 (by decide) (by omega)]; exact hg.2.2.2.2.1 w (by omega)
    have c2 : N.1 11 (cutsL.getD w 0 + x) = nI (ltr w x) := by rw [hN.1 11 (by decide) (by omega)]; exact hg.2.2.2.2.2 _ (by omega)
    rw [if_neg (by decide), h21, h22, pk_sub h1, if_neg (nI_ge (by omega) (by omega)), nI_add, e_byteAt T (hN.tn hg) (by omega), bd_s, if_pos (show st + x < g.2.1 by omega), ck_n (show w < 17 by omega) (by omega), nI_clamp (show w < 2 ^ 31 by omega), c1, nI_add, ck_n (show cutsL.getD w 0 + x < 79 by omega) (by omega), nI_clamp (by omega), c2, n1]
    by_cases g2 : g.1 (st + x) = ltr w x
    · rw [if_pos (congrArg nI g2)]
      rcases ih (x + 1) f (by omega) (by omega) with ⟨a1, a2⟩ | ⟨a1, a2⟩
      · refine Or.inl ⟨fun j h1 h2 => ?_, a2⟩
        by_cases e : j = x
        · rw [e]
          exact g2
        · exact a1 j (by omega) h2
      · exact Or.inr ⟨fun h => a1 (fun j h1 h2 => h j (by omega) h2), a2⟩
    · rw [if_neg (fun z => g2 ((nI_eq (by omega) (by omega)).mp z))]
      refine Or.inr ⟨fun h => g2 (h x (Nat.le_refl _) (by omega)), ?_⟩
      obtain ⟨f, rfl⟩ : ∃ m, f = m + 1 := ⟨f - 1, by omega⟩
      show b_X12_nameHere_51 k2 (fun x2 x3 => f_X12_nameHere_51 k2 N (nI w) f x2 x3) N (nI w) 0 (nI (x + 1)) = _
      unfold b_X12_nameHere_51 f_X12_nameHere_106
      rw [if_pos rfl, if_pos rfl, n1]
theorem nh2 {g : Gg} (hg : OKg g) {N : Mm} {st q : Nat} (hN : WN g N) (h23 : N.1 0 23 = 1) (h22 : N.1 0 22 = nI st) (h21 : N.1 0 21 = nI q) (h1 : st ≤ q) (h2 : q ≤ g.2.1) : ∀ d w f, w + d = 16 → d < f → ∃ r, f_X12_nameHere_2 N f (nI w) = some r ∧ ((r = -4 ∧ ∀ v, w ≤ v → v < 16 → ¬ isW g.1 st q v) ∨ ∃ v, v < 16 ∧ r = nI v ∧ isW g.1 st q v) := by
  have hn := hg.1.1
  intro d
  induction d with
  | zero =>
    intro w f hw hf
    obtain ⟨f, rfl⟩ : ∃ m, f = m + 1 := ⟨f - 1, by omega⟩
    have st' : f_X12_nameHere_2 N (f + 1) (nI w) = b_X12_nameHere_2 (fun x1 => f_X12_nameHere_2 N f x1) N (nI w) := rfl
    rw [st']
    unfold b_X12_nameHere_2 f_X12_nameHere_118
    rw [if_pos (show (16 : Int32) ≤ nI w from nI_le (a := 16) (by omega) (by omega))]
    exact ⟨_, rfl, Or.inl ⟨rfl, fun v a1 a2 => absurd a1 (by omega)⟩⟩
  | succ d ih =>
    intro w f hw hf
    obtain ⟨f, rfl⟩ : ∃ m, f = m + 1 := ⟨f - 1, by omega⟩
    have st' : f_X12_nameHere_2 N (f + 1) (nI w) = b_X12_nameHere_2 (fun x1 => f_X12_nameHere_2 N f x1) N (nI w) := rfl
    rw [st']
    unfold b_X12_nameHere_2 f_X12_nameHere_48
    have hw16 : w < 16 := by omega
    obtain ⟨t1, t2, t3, t4, t5, t6⟩ := nm_tab w hw16
    have c0 : N.1 10 w = nI (cutsL.getD w 0) := by rw [hN.1 10 (by decide) (by omega)]; exact hg.2.2.2.2.1 w (by omega)
    have c1 : N.1 10 (w + 1) = nI (cutsL.getD (w + 1) 0) := by rw [hN.1 10 (by decide) (by omega)]; exact hg.2.2.2.2.1 (w + 1) (by omega)
    rw [if_neg (show ¬ (16 : Int32) ≤ nI w from nI_ge (b := 16) (by omega) (by omega)), if_pos h23, n1, ck_n (show w + 1 < 17 by omega) (by omega), ck_n (show w < 17 by omega) (by omega), nI_clamp (show w + 1 < 2 ^ 31 by omega), nI_clamp (show w < 2 ^ 31 by omega), c0, c1, h21, h22, pk_sub h1, pk_sub (by omega), show cutsL.getD (w + 1) 0 - cutsL.getD w 0 = sLen.getD w 0 by omega]
    obtain ⟨r, a1, a2⟩ := ih (w + 1) f (by omega) (by omega)
    have on : ¬ isW g.1 st q w → (∃ r, f_X12_nameHere_2 N f (nI (w + 1)) = some r ∧ ((r = -4 ∧ ∀ v, w ≤ v → v < 16 → ¬ isW g.1 st q v) ∨ ∃ v, v < 16 ∧ r = nI v ∧ isW g.1 st q v)) := fun hno => ⟨r, a1, by
      rcases a2 with ⟨e1, e2⟩ | e
      · refine Or.inl ⟨e1, fun v z1 z2 => ?_⟩
        by_cases z : v = w
        · rw [z]
          exact hno
        · exact e2 v (by omega) z2
      · exact Or.inr e⟩
    by_cases e : q - st = sLen.getD w 0
    · rw [if_pos (congrArg nI e)]
      rcases nh51 (k2 := fun x1 => f_X12_nameHere_2 N f x1) hg hN h22 h21 h1 h2 hw16 e (sLen.getD w 0) 0 FU (by omega) (by show sLen.getD w 0 + 1 < 5000; omega) with ⟨b1, b2⟩ | ⟨b1, b2⟩
      · rw [show f_X12_nameHere_51 (fun x1 => f_X12_nameHere_2 N f x1) N (nI w) FU 1 0 = _ from b2]
        exact ⟨_, rfl, Or.inr ⟨w, hw16, rfl, e, fun j hj => b1 j (by omega) hj⟩⟩
      · rw [show f_X12_nameHere_51 (fun x1 => f_X12_nameHere_2 N f x1) N (nI w) FU 1 0 = _ from b2]
        exact on (fun h => b1 (fun j _ hj => h.2 j hj))
    · rw [if_neg (fun z => e ((nI_eq (by omega) (by omega)).mp z))]
      have st2 : f_X12_nameHere_51 (fun x1 => f_X12_nameHere_2 N f x1) N (nI w) FU 0 0 = f_X12_nameHere_2 N f (nI w + 1) := by
        show b_X12_nameHere_51 (fun x1 => f_X12_nameHere_2 N f x1) (fun x2 x3 => f_X12_nameHere_51 (fun x1 => f_X12_nameHere_2 N f x1) N (nI w) 4999 x2 x3) N (nI w) 0 0 = _
        unfold b_X12_nameHere_51 f_X12_nameHere_106
        rw [if_pos rfl, if_pos rfl]
      rw [st2, n1]
      exact on (fun h => e h.1)
theorem nh0 {N : Mm} (h : ¬ N.1 0 23 = 1) : f_X12_nameHere N = some (-4) := by
  show b_X12_nameHere_2 (fun x1 => f_X12_nameHere_2 N 4999 x1) N 0 = _
  unfold b_X12_nameHere_2 f_X12_nameHere_118
  rw [if_neg (by decide), if_neg h]
/-- the name at the token: of both -/
theorem name_sim {g : Gg} (hg : OKg g) {X Y M N : Mm} {st q : Nat} (A : AS g X Y st q M N) : ∃ r, f_X12_nameHere N = some r ∧ ((r = -4 ∧ ∀ w, w < 16 → f_X9_isNamed M w = some 0) ∨ ∃ w, w < 16 ∧ r = nI w ∧ ∀ v, v < 16 → f_X9_isNamed M v = some (if v = w then 1 else 0)) := by
  obtain ⟨⟨⟨a1, a2⟩, ⟨a3, a4⟩, a5, ⟨a6, a7⟩, a8, a9⟩, b1, b2, b3, kind, val, b4, b5, b6, b7, b8, b9, -⟩ := A
  have hM := (a2.o a1).tm hg
  have hN := a4.o a3
  have nx := fun w hw => nameX (w := w) hg.1 hM hw b8 b4 b2 a7 b1 a5
  by_cases g1 : kind = 1
  · have h23 : N.1 0 23 = 1 := by rw [b9, g1]; rfl
    obtain ⟨r, c1, c2⟩ := nh2 hg hN h23 b3 a9 b1 a5 16 0 FU (by omega) (by decide)
    refine ⟨r, c1, ?_⟩
    rcases c2 with ⟨e1, e2⟩ | ⟨w, hw, e1, e2⟩
    · refine Or.inl ⟨e1, fun w hw => ?_⟩
      obtain ⟨r2, d1, d2, d3⟩ := nx w hw
      rcases d2 with d2 | d2
      · rw [d1, d2]
      · exact absurd (d3.mp d2).2 (e2 w (by omega) hw)
    · refine Or.inr ⟨w, hw, e1, fun v hv => ?_⟩
      obtain ⟨r2, d1, d2, d3⟩ := nx v hv
      by_cases z : v = w
      · rw [if_pos z, d1, d3.mpr ⟨g1, by rw [z]; exact e2⟩]
      · rcases d2 with d2 | d2
        · rw [if_neg z, d1, d2]
        · exact absurd (isW_one hv hw (d3.mp d2).2 e2) z
  · have h23 : ¬ N.1 0 23 = 1 := fun z => by
      rw [b9] at z
      exact g1 ((nI_eq (b := 1) (by omega) (by omega)).mp z)
    refine ⟨-4, nh0 h23, Or.inl ⟨rfl, fun w hw => ?_⟩⟩
    obtain ⟨r2, d1, d2, d3⟩ := nx w hw
    rcases d2 with d2 | d2
    · rw [d1, d2]
    · exact absurd (d3.mp d2).1 g1
