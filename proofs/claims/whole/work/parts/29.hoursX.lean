-- the class: lines, hours
theorem lineMin {v : Int32} (h : inR v (-9) 9) : iMin 9 (v + 1) = if v < 9 then v + 1 else v := by
  unfold iMin inR at *
  split <;> split <;> grind
theorem lineMax {v : Int32} (h : inR v (-9) 9) : iMax (-9) (v - 1) = if -9 < v then v - 1 else v := by
  unfold iMax inR at *
  split <;> split <;> grind
theorem cb_1 (w e : Prop) [Decidable w] [Decidable e] : cb w e = 1 ↔ w ∧ ¬ e := by
  unfold cb
  by_cases w : w <;> by_cases e : e <;> simp [w, e]
theorem cb_2 (w e : Prop) [Decidable w] [Decidable e] : cb w e = 2 ↔ ¬ w ∧ e := by
  unfold cb
  by_cases w : w <;> by_cases e : e <;> simp [w, e]
theorem line_cb (w e : Prop) [Decidable w] [Decidable e] {v : Int32} (h : inR v (-9) 9) : lineF w e v = if cb w e = 1 then iMin 9 (v + 1) else if cb w e = 2 then iMax (-9) (v - 1) else v := by
  rw [lineMin h, lineMax h]
  simp only [cb_1, cb_2]
  unfold lineF
  by_cases w : w <;> by_cases e : e <;> simp [w, e]
theorem ScR.br6 {M : Mm} {a t : Nat} {r : Pg} (_ : ScR M a r t) (hB : BrI (fun x => r (t + x))) : (r (t + 207)).toNatClampNeg ≤ 6 := by
  obtain ⟨c, h6, -, hc⟩ := clampc hB
  have hc' : (r (t + 207)).toNatClampNeg = c := hc
  omega
theorem moveX {M : Mm} {l a t i : Nat} {r T : Pg} (hi : i < 10) (hL : LwR M (l + 2) T) (hln : inR (r (t + 160 + i)) (-9) 9) (hb6 : (r (t + 207)).toNatClampNeg ≤ 6) (H : ScR M a r t) :
    ∃ M2, f_X4_moveLine M l a (nI i) = some M2 ∧ ScR M2 a (mvl r T (mo t 0 i) (mo t 1 i) (t + 160 + i)) t ∧ Off M M2 a := by
  obtain ⟨hm, hs, hh0, hsun, hbr⟩ := H
  have ci := nI_clamp (show i < 2 ^ 31 by omega)
  have key : ∀ v : Int32, v = lineF (cnt r T (mo t 0 i)) (cnt r T (mo t 1 i)) (r (t + 160 + i)) → ScR (wI M (a + 4) i v) a (mvl r T (mo t 0 i) (mo t 1 i) (t + 160 + i)) t ∧ Off M (wI M (a + 4) i v) a := by
    intro v hv
    refine ⟨⟨fun k hk => (hm k hk).same (wI_o (by omega)) (fun f hf => mvl_o (by omega)), fun j hj => ?_, ?_, fun h9 hh9 => ?_, ?_⟩, ⟨fun b hb => wI_o (by omega), rfl, wI_o (by omega), fun j hj => wI_o (by omega), wI_o (by omega)⟩⟩
    · rw [mvl_o (by omega), mvl_o (by omega), wI_o (by omega), wI_o (by omega)]
      refine ⟨(hs j hj).1, (hs j hj).2.1, ?_⟩
      by_cases e : j = i
      · subst e
        rw [mIs, hv]
        exact (upd_eq _ _ _).symm
      · rw [mIn (by omega), mvl_o (by omega)]
        exact (hs j hj).2.2
    · rw [mvl_o (by omega), wI_o (by omega)]
      exact hh0
    · rw [mvl_o (by omega), wI_o (by omega)]
      exact hsun h9 hh9
    · exact hbr.same (fun j hj => wI_o (by omega)) (fun x h1 h2 => mvl_o (by omega)) hb6
  unfold f_X4_moveLine f_X4_moveLine_58
  rw [e_counting hi hL hm, bd_s]
  have hl := line_cb (cnt r T (mo t 0 i)) (cnt r T (mo t 1 i)) hln
  generalize cb (cnt r T (mo t 0 i)) (cnt r T (mo t 1 i)) = z at hl ⊢
  by_cases g1 : z = 1
  · rw [if_pos g1] at hl
    rw [if_pos g1, ck_n (by omega) (by omega), wr_e, ci, (hs i hi).2.2, ← hl]
    exact ⟨_, rfl, key _ rfl⟩
  · rw [if_neg g1] at hl
    rw [if_neg g1]
    by_cases g2 : z = 2
    · rw [if_pos g2] at hl
      rw [if_pos g2, ck_n (by omega) (by omega), wr_e, ci, (hs i hi).2.2, ← hl]
      exact ⟨_, rfl, key _ rfl⟩
    · rw [if_neg g2] at hl
      rw [if_neg g2]
      have e : wI M (a + 4) i (r (t + 160 + i)) = M := by
        refine Prod.ext (funext fun b => funext fun j => ?_) rfl
        rw [mI]
        by_cases q : b = a + 4 ∧ j = i
        · rw [if_pos q, q.1, q.2, (hs i hi).2.2]
        · rw [if_neg q]
      refine ⟨M, rfl, ?_⟩
      have k := key _ hl.symm
      rw [e] at k
      exact k
/-- the class's memory, but for a scene, is as it was (the scene's hour may move) -/
def Out (M M2 : Mm) (a : Nat) : Prop := (∀ b, (b < a ∨ a + 31 ≤ b) → M2.1 b = M.1 b) ∧ M2.2 = M.2
theorem Off.out {M M2 : Mm} {a : Nat} (h : Off M M2 a) : Out M M2 a := ⟨h.1, h.2.1⟩
theorem Out.rf (M : Mm) (a : Nat) : Out M M a := ⟨fun _ _ => rfl, rfl⟩
theorem Out.tr {M M2 M3 : Mm} {a : Nat} (h : Out M M2 a) (g : Out M2 M3 a) : Out M M3 a := ⟨fun b hb => (g.1 b hb).trans (h.1 b hb), g.2.trans h.2⟩
theorem hour1X {M : Mm} {l a t F h : Nat} {r T Z : Pg} {x2 : Int32} {k5 : Mm → Int32 → Option Mm} (hF : F ≤ 10) (hh : h < 12) (hla : l + 4 < a ∨ a + 31 ≤ l) (hI : InvR r t) (hC : CpR r t) (hL : LwR M (l + 2) T) (hfr : ∀ h, h < 12 → M.1 (l + 1) h = Z h) (hfu : M.1 l 0 = nI F) (H : ScR M a r t) :
    ∃ M2, f_X4_passTill_19 k5 l a x2 (nI h) FU M 0 = k5 M2 (nI (h + 1)) ∧ ScR M2 a (hourAll r T Z t F h) t ∧ Out M M2 a := by
  have ch := nI_clamp (show h < 2 ^ 31 by omega)
  obtain ⟨s, hs9, es⟩ := hI.2.2.1 h hh
  have e0 : r (171 + h) = nI s := by rw [← hC (171 + h) (by omega) (by omega), ← es]; exact congrArg r (by omega)
  have loop : ∀ n i Mi, i ≤ F → F < i + n → ScR Mi a (rowF r T t h (r (171 + h)) (Z h) i) t → Off M Mi a → ∃ M2, f_X4_passTill_19 k5 l a x2 (nI h) n Mi (nI i) = f_X4_passTill_60 k5 M2 l a x2 (nI h) ∧ ScR M2 a (rowF r T t h (r (171 + h)) (Z h) F) t ∧ Off M M2 a := by
    intro n
    induction n with
    | zero => intro i Mi h1 h2; omega
    | succ n ih =>
      intro i Mi h1 h2 hSc hO
      show ∃ M2, b_X4_passTill_19 k5 (fun M x4 => f_X4_passTill_19 k5 l a x2 (nI h) n M x4) l a x2 (nI h) Mi (nI i) = _ ∧ _
      unfold b_X4_passTill_19
      rw [hO.1 l (by omega), hfu]
      by_cases e : i = F
      · subst e
        rw [if_pos (nI_le (Nat.le_refl _) (by omega))]
        exact ⟨Mi, rfl, hSc, hO⟩
      · rw [if_neg (nI_ge (by omega) (by omega))]
        have hIi : InvR (rowF r T t h (r (171 + h)) (Z h) i) t := by rw [e0]; exact rowF_I (by omega) hI hC i (by omega)
        have hw : warmP (fun x => rowF r T t h (r (171 + h)) (Z h) i (t + x)) i (nI h) = warmP r i (nI h) := by
          refine warm_c (br0 hI.2.2.2.2 hC) (fun x x1 x2 => ?_)
          show rowF r T t h (r (171 + h)) (Z h) i (t + x) = r x
          rw [rowF_hi (by omega) i (by omega)]
          exact hC x (by omega) x2
        obtain ⟨Ma, ea, sa, oa⟩ := meltX (h := h) (by omega) hh hIi.2.2.2.2 hSc hw
        have hsu : rowF r T t h (r (171 + h)) (Z h) i (t + 171 + h) = r (171 + h) := by
          rw [rowF_hi (by omega) i (by omega)]
          exact (congrArg r (by omega)).trans (hC (171 + h) (by omega) (by omega))
        rw [hsu] at sa
        have ba : (meltF (rowF r T t h (r (171 + h)) (Z h) i) t i (warmP r i (nI h)) (r (171 + h)) (t + 207)).toNatClampNeg ≤ 6 := by
          unfold meltF
          rw [sd_o (by unfold mo; omega) (by omega) (by omega), sd_o (by unfold mo; omega) (by omega) (by omega), sn_o (by omega) (by omega)]
          exact hSc.br6 hIi.2.2.2.2
        rw [ea, bd_s, ck_n (by omega) (by omega), ch, oa.1 (l + 1) (by omega), hO.1 (l + 1) (by omega), hfr h hh]
        obtain ⟨Mb, eb, sb, ob⟩ := freezeX (x := Z h) (i := i) (by omega) ba sa
        have bb : (fr (meltF (rowF r T t h (r (171 + h)) (Z h) i) t i (warmP r i (nI h)) (r (171 + h))) (t + 140 + i) (t + 150 + i) (Z h) (t + 207)).toNatClampNeg ≤ 6 := by
          rw [fr_o (by omega) (by omega)]
          exact ba
        have hLb : LwR Mb (l + 2) T := by
          unfold LwR
          rw [ob.1 (l + 2) (by omega), oa.1 (l + 2) (by omega), hO.1 (l + 2) (by omega)]
          exact hL
        have hln : inR (fr (meltF (rowF r T t h (r (171 + h)) (Z h) i) t i (warmP r i (nI h)) (r (171 + h))) (t + 140 + i) (t + 150 + i) (Z h) (t + 160 + i)) (-9) 9 := by
          rw [fr_o (by omega) (by omega)]
          unfold meltF
          rw [sd_o (by unfold mo; omega) (by omega) (by omega), sd_o (by unfold mo; omega) (by omega) (by omega), sn_o (by omega) (by omega)]
          exact hIi.2.1 i (by omega)
        obtain ⟨Mc, ec, sc, oc⟩ := moveX (l := l) (T := T) (i := i) (by omega) hLb hln bb sb
        rw [eb, bd_s, ec, bd_s, n1]
        exact ih (i + 1) Mc (by omega) (by omega) sc (((hO.tr oa).tr ob).tr oc)
  obtain ⟨M2, e2, s2, o2⟩ := loop FU 0 M (by omega) (by show F < 0 + 5000; omega) H (Off.rf M a)
  rw [show f_X4_passTill_19 k5 l a x2 (nI h) FU M 0 = f_X4_passTill_19 k5 l a x2 (nI h) FU M (nI 0) from rfl, e2]
  unfold f_X4_passTill_60
  rw [wr_e, n1]
  refine ⟨_, rfl, ?_, o2.out.tr ⟨fun b hb => wI_o (by omega), rfl⟩⟩
  obtain ⟨hm, hs, hh0, hsun, hbr⟩ := s2
  have hb6 : (rowF r T t h (r (171 + h)) (Z h) F (t + 207)).toNatClampNeg ≤ 6 := by
    rw [rowF_hi (by omega) F hF]
    exact H.br6 hI.2.2.2.2
  unfold hourAll
  refine ⟨fun k hk => (hm k hk).same (wI_o (by omega)) (fun f hf => upd_ne (by omega)), fun j hj => ?_, ?_, fun h9 hh9 => ?_, hbr.same (fun j hj => wI_o (by omega)) (fun x h1 h2 => upd_ne (by omega)) hb6⟩
  · rw [wI_o (by omega), wI_o (by omega), wI_o (by omega), upd_ne (by omega), upd_ne (by omega), upd_ne (by omega)]
    exact hs j hj
  · rw [mIs, upd_eq]
  · rw [wI_o (by omega), upd_ne (by omega)]
    exact hsun h9 hh9
theorem passX {M : Mm} {l a t F h tt : Nat} {r T Z : Pg} (hF : F ≤ 10) (ht : PgT t) (hla : l + 4 < a ∨ a + 31 ≤ l) (hI : InvR r t) (hC : CpR r t) (hL : LwR M (l + 2) T) (hfr : ∀ h, h < 12 → M.1 (l + 1) h = Z h) (hfu : M.1 l 0 = nI F) (hr : r (t + 170) = nI h) (hht : h ≤ tt) (ht12 : tt ≤ 12) (H : ScR M a r t) :
    ∃ M2, f_X4_passTill M l a (nI tt) = some M2 ∧ ScR M2 a (hrs r T Z t F h (tt - h)) t ∧ Out M M2 a := by
  unfold f_X4_passTill
  rw [nm_x, H.2.2.1, hr]
  have loop : ∀ n j Mi, h + j ≤ tt → tt < h + j + n → ScR Mi a (hrs r T Z t F h j) t → Out M Mi a → ∃ M2, f_X4_passTill_5 l a (nI tt) n Mi (nI (h + j)) = some M2 ∧ ScR M2 a (hrs r T Z t F h (tt - h)) t ∧ Out M M2 a := by
    intro n
    induction n with
    | zero => intro j Mi h1 h2; omega
    | succ n ih =>
      intro j Mi h1 h2 hSc hO
      show ∃ M2, b_X4_passTill_5 (fun M x3 => f_X4_passTill_5 l a (nI tt) n M x3) l a (nI tt) Mi (nI (h + j)) = _ ∧ _
      unfold b_X4_passTill_5 f_X4_passTill_73
      by_cases e : h + j = tt
      · have ej : tt - h = j := by omega
        rw [if_pos (nI_le (by omega) (by omega)), ej]
        exact ⟨Mi, rfl, hSc, hO⟩
      · rw [if_neg (nI_ge (by omega) (by omega)), if_neg (by show ¬ nI 12 ≤ nI (h + j); exact nI_ge (by omega) (by omega))]
        obtain ⟨i1, i2, i3, -⟩ := hrs_I (T := T) (Z := Z) hF ht hI hC hr j (by omega)
        have hLi : LwR Mi (l + 2) T := by
          unfold LwR
          rw [hO.1 (l + 2) (by omega)]
          exact hL
        obtain ⟨M2, e2, s2, o2⟩ := hour1X (Z := Z) (k5 := fun M x3 => f_X4_passTill_5 l a (nI tt) n M x3) (x2 := nI tt) (h := h + j) hF (by omega) hla i1 i2 hLi (fun h9 hh9 => by rw [hO.1 (l + 1) (by omega)]; exact hfr h9 hh9) (by rw [hO.1 l (by omega)]; exact hfu) hSc
        rw [e2]
        exact ih (j + 1) M2 (by omega) (by omega) s2 (hO.tr o2)
  exact loop FU 0 M (by omega) (by show tt < h + 0 + 5000; omega) H (Out.rf M a)
