theorem iMax_n {a b : Nat} (ha : a < 2 ^ 30) (hb : b < 2 ^ 30) : iMax 0 (nI a - nI b) = nI (a - b) := by
  unfold iMax
  by_cases g : b ≤ a
  · rw [pk_sub g]
    by_cases z : a - b = 0
    · rw [z]
      rfl
    · rw [if_pos (show 0 < nI (a - b) from nI_lt (a := 0) (Nat.pos_of_ne_zero z) (by omega))]
  · have h := pk_sneg (a := a) hb (by omega)
    rw [if_neg (fun z => Int32.lt_irrefl (Int32.lt_trans h z)), show a - b = 0 by omega]
    rfl
theorem hnow_n {N : Mm} {x : Int32} (h : N.1 1 170 = x) : f_X12_hourNow N = some x := by
  unfold f_X12_hourNow
  rw [show ((170 : Int32)).toNatClampNeg = 170 from rfl, h]
theorem lastX {M2 N : Mm} {F now i c : Nat} (hF : F ≤ 10) (hi : i < F) (hnow : now ≤ 11) (hc : c ≤ 99) (bl : lsq (N.1 1) F now i ≤ 1600) (a4 : M2.1 100 1 = nI now) (a5 : WY M2 (N.1 1) F now) : f_X10_lastOf M2 (nI i) (nI c) = some (nI (c - lsq (N.1 1) F now i)) := by
  unfold f_X10_lastOf
  rw [a4, ck_n (by omega) (by omega), ck_n (show i < 10 by omega) (by omega), show 114 + 1 + (nI now).toNatClampNeg = 115 + now by (rw [nI_clamp (by omega)]; try omega), nI_clamp (show i < 2 ^ 31 by omega), (a5 now (Nat.le_refl _) (by omega) i hi).2, iMax_n (by omega) (by omega)]
theorem ne12 {now : Nat} (h : now ≤ 11) : ¬ nI now = 12 := fun z => absurd ((nI_eq (b := 12) (by omega) (by omega)).mp z) (by omega)
theorem lead0 {M N : Mm} {p F now i c : Nat} {x3 : Int32} (H : RelP p F M N) (hi : i < F) (hc : c ≤ 99) (hnow : now ≤ 11) (eN : N.1 1 170 = nI now) (eM : M.1 (lx p + 5) 0 = nI now) (x0 : x3 = 0) : WW (bd (f_X10_weigh M (lx p)) fun p19 => bd (f_X10_lastOf p19 (nI i) (nI c)) fun p21 => some (p21, p19)) (f_X12_lead_54 N (nI i) (nI c) x3) := by
  have hF := H.1.2.2.2.2.1
  have ne := ne12 hnow
  obtain ⟨M2, a1, a2, a3, a4, a5⟩ := e_weigh H (by omega) eM
  obtain ⟨N2, b1, b2, b3, b4⟩ := e_layHeat a2 (by omega) eN
  have bl := H.lsn hi (show now ≤ 12 by omega)
  have hN2 : f_X12_hourNow N2 = some (nI now) := hnow_n (by rw [b3]; exact eN)
  unfold f_X12_lead_54 f_X12_lead_112
  rw [hnow_n eN, bd_s, if_neg ne, a1, bd_s, lastX hF hi hnow hc bl a4 a5, bd_s, b1, bd_s, hN2, bd_s, show (10 : Int32) * nI now = nI (10 * now) from pk_mul 10 _, nI_add, ck_n (by omega) (by omega), nI_clamp (by omega), nm_x, b4 now (Nat.le_refl _) (by omega) i hi, if_pos x0]
  have R2 : Rel M2 N2 := ⟨p, F, b2⟩
  by_cases g4 : c ≤ lsq (N.1 1) F now i
  · rw [if_pos (nI_le g4 (by omega)), show c - lsq (N.1 1) F now i = 0 by omega]
    exact WW.no R2 _
  · rw [if_neg (nI_ge (by omega) (by omega)), pk_sub (by omega)]
    exact WW.no R2 _
theorem leadP {M N : Mm} {p F now i c e : Nat} (H : RelP p F M N) (hi : i < F) (hc : c ≤ 99) (he : now + e ≤ 11) (eN : N.1 1 170 = nI now) (eM : M.1 (lx p + 5) 0 = nI now) : WW (bd (f_X10_weigh M (lx p)) fun p14 => bd (f_X10_placeOn p14 (nI i) (nI c) (nI e)) fun p16 => some (p16, p14)) (f_X12_lead_54 N (nI i) (nI c) (nI (10 + e))) := by
  have hF := H.1.2.2.2.2.1
  have ne := ne12 (now := now) (by omega)
  obtain ⟨M2, a1, a2, a3, a4, a5⟩ := e_weigh H (by omega) eM
  obtain ⟨N2, b1, b2, b3, b4⟩ := e_layHeat a2 (by omega) eN
  have bl := H.lsn hi (show now ≤ 12 by omega)
  have hN2 : f_X12_hourNow N2 = some (nI now) := hnow_n (by rw [b3]; exact eN)
  have R2 : Rel M2 N2 := ⟨p, F, b2⟩
  unfold f_X12_lead_54 f_X10_placeOn
  rw [hnow_n eN, bd_s, if_neg ne, a1, bd_s, lastX hF hi (by omega) hc bl a4 a5, bd_s, b1, bd_s, hN2, bd_s, show (10 : Int32) * nI now = nI (10 * now) from pk_mul 10 _, nI_add, ck_n (by omega) (by omega), nI_clamp (by omega), nm_x, b4 now (Nat.le_refl _) (by omega) i hi, if_neg (show ¬ nI (10 + e) = 0 from nI_ne0 (by omega) (by omega))]
  have fin : ∀ fl : Int32, WW (bd (f_X10_placeOn_14 M2 (nI i) (nI e) fl) fun p16 => some (p16, M2)) (f_X12_lead_124 N2 (nI i) (nI (10 + e)) (nI (lsq (N.1 1) F now i)) fl) := by
    intro fl
    unfold f_X10_placeOn_14 f_X12_lead_124
    obtain ⟨r, c1, c2⟩ := pathX (M := M2) (N := N2) (p := p) (F := F) (now := now) (e := e) b2 a3 a4 (by rw [b3]; exact eN) (by rw [b3]; exact a5) (by rw [b3]; exact b4) (by omega) fl FU now i (nI (lsq (N.1 1) F now i)) hi (Nat.le_refl _) (by omega) (by show now + e + 1 < now + 5000; omega) (fun _ => by rw [b3])
    rw [a4, nm_x, hN2, bd_s, c1, bd_s, c2]
    exact WW.no R2 _
  by_cases g4 : lsq (N.1 1) F now i < c
  · rw [if_pos (nI_lt g4 (by omega)), if_neg (nI_ne0 (by omega) (by omega))]
    exact fin 0
  · rw [if_neg (nI_nlt (by omega) (by omega)), if_pos (show nI (c - lsq (N.1 1) F now i) = 0 by rw [show c - lsq (N.1 1) F now i = 0 by omega]; rfl)]
    exact fin 1
theorem s_lead {M N : Mm} (R : Rel M N) (x1 x2 x3 : Int32) : WW (f_X11_lead M x1 x2 x3) (f_X12_lead N x1 x2 x3) := by
  obtain ⟨p, F, H⟩ := id R
  have hF := H.1.2.2.2.2.1
  obtain ⟨now, hnow, eN, eM⟩ := H.hr
  unfold f_X11_lead f_X12_lead f_X11_lead_18 f_X12_lead_52
  rw [H.fX, H.fY, bd_s, bd_s, H.ld, eM]
  by_cases g1 : inR x1 0 (nI (F - 1))
  · rw [if_neg (fun q => b2_0.mp q g1), if_neg (fun q => b2_0.mp q g1), e_isAmong, bd_s, show f_X12_in x2.toInt64 (1 : Int64) (99 : Int64) = some (b2 (inR x2 1 99)) from e_inI x2 1 99, bd_s]
    obtain ⟨i, hi, rfl⟩ := fur_n H.1.2.2.2.1 H.1.2.2.2.2.1 g1
    by_cases g2 : inR x2 1 99
    · rw [if_neg (fun q => b2_0.mp q g2), if_neg (fun q => b2_0.mp q g2), nm_x]
      obtain ⟨c, hc, rfl⟩ : ∃ c, c ≤ 99 ∧ x2 = nI c := inR_n (n := 99) (by omega) ⟨Int32.le_trans (by decide) g2.1, g2.2⟩
      have hN : f_X12_hourNow N = some (nI now) := hnow_n eN
      by_cases x0 : x3 = 0
      · rw [if_pos x0, if_pos x0]
        by_cases g3 : now = 12
        · unfold f_X12_lead_54 f_X12_lead_73
          rw [hN, bd_s, if_pos (show nI now = 12 by rw [g3]; rfl), if_pos (show nI now = 12 by rw [g3]; rfl), if_pos x0]
          exact WW.no R _
        · rw [if_neg (ne12 (by omega))]
          exact lead0 H hi hc (by omega) eN eM x0
      · rw [if_neg x0, if_neg x0, e_isAmong, bd_s, hN, bd_s, show f_X12_in x3.toInt64 (10 : Int64) (((21 : Int32) - nI now).toInt64) = some (b2 (inR x3 10 (21 - nI now))) from e_inI x3 10 (21 - nI now), bd_s]
        by_cases g3 : inR x3 10 (21 - nI now)
        · rw [if_neg (fun q => b2_0.mp q g3), if_neg (fun q => b2_0.mp q g3)]
          rw [show (21 : Int32) - nI now = nI (21 - now) from pk_sub (a := 21) (by omega)] at g3
          obtain ⟨y, hy, rfl⟩ : ∃ y, y ≤ 21 - now ∧ x3 = nI y := inR_n (n := 21 - now) (by omega) ⟨Int32.le_trans (by decide) g3.1, g3.2⟩
          have hy10 : 10 ≤ y := (nI_leI (a := 10) (b := y) (by omega) (by omega)).mp g3.1
          obtain ⟨e, rfl⟩ : ∃ e, y = 10 + e := ⟨y - 10, by omega⟩
          rw [show nI (10 + e) - 10 = nI e from by rw [show nI (10 + e) - 10 = nI (10 + e - 10) from pk_sub (b := 10) (by omega), show 10 + e - 10 = e by omega]]
          exact leadP H hi hc (by omega) eN eM
        · rw [if_pos (b2_0.mpr g3), if_pos (b2_0.mpr g3), bd_s]
          by_cases g4 : now = 12
          · unfold f_X12_lead_54 f_X12_lead_73
            rw [if_pos (show (12 : Int32) ≤ nI now by rw [g4]; decide), hN, bd_s, if_pos (show nI now = 12 by rw [g4]; rfl), if_neg x0]
            exact WW.no R _
          · rw [if_neg (show ¬ (12 : Int32) ≤ nI now from nI_ge (a := now) (b := 12) (by omega) (by omega))]
            exact WW.no R _
    · rw [if_pos (b2_0.mpr g2), if_pos (b2_0.mpr g2)]
      exact WW.no R _
  · rw [if_pos (b2_0.mpr g1), if_pos (b2_0.mpr g1)]
    exact WW.no R _
