-- the class's weighing, the reference's least terms
def numO (R Tr : Pg) (T s i now t c : Nat) : Nat := if suit R Tr (mo 0 s i) then sg (fun x => wt c t x * (if hdN R s i - ml (fun j => lsN R s i 0 (now + j)) (fun j => lsN R s i 4095 (now + j)) t x < T then 1 else 0)) (2 ^ t) else 10 ^ t
theorem bt_all : ∀ q, q < 12 → bt 4095 q = 1 := by
  unfold bt
  decide +kernel
theorem RelP.m1 {p F : Nat} {M N M2 : Mm} (H : RelP p F M N) (h : M2.1 = M.1) : RelP p F M2 N := H.cg (fun b _ _ _ => by rw [h]) (by rw [h]) (fun _ _ _ _ => rfl) (fun _ _ => rfl)
theorem ten_S (j : Nat) : lN (10 ^ j) * 10 = lN (10 ^ (j + 1)) := by
  rw [Nat.pow_succ]
  exact lN_mul (10 ^ j) 10
theorem weigh_loop {M N : Mm} {p F now t s i c : Nat} (H : RelP p F M N) (hs : s < 2) (hi : i < F) (m0 : N.1 1 (mo 0 s i) = 1) (ht : now + t ≤ 12) (hc : c ≤ 10) (ec : M.1 (lx p) 1 = nI c) : ∀ n j A Mi, j ≤ t → t < j + n → Mi.1 = M.1 → CA Mi A → (∀ f, pr A f = sg (fun x => wt c j x * f (hdN (N.1 1) s i - ml (fun j => lsN (N.1 1) s i 0 (now + j)) (fun j => lsN (N.1 1) s i 4095 (now + j)) j x)) (2 ^ j)) →
    ∃ M2 A2, f_X3_weigh_44 (lx p) (nI i) (nI (now + t)) (lx p + 5) (lx p + 5 + 11 + (10 * s + i)) n Mi (lN (10 ^ j)) (nI (now + j)) = f_X3_weigh_125 M2 (lx p) (lx p + 5 + 11 + (10 * s + i)) (lN (10 ^ t)) ∧ M2.1 = M.1 ∧ CA M2 A2 ∧ (∀ f, pr A2 f = sg (fun x => wt c t x * f (hdN (N.1 1) s i - ml (fun j => lsN (N.1 1) s i 0 (now + j)) (fun j => lsN (N.1 1) s i 4095 (now + j)) t x)) (2 ^ t)) := by
  have hF := H.1.2.2.2.2.1
  intro n
  induction n with
  | zero => intro j A Mi q1 q2; omega
  | succ n ih =>
    intro j A Mi q1 q2 hM hA hP
    have st : f_X3_weigh_44 (lx p) (nI i) (nI (now + t)) (lx p + 5) (lx p + 5 + 11 + (10 * s + i)) (n + 1) Mi (lN (10 ^ j)) (nI (now + j)) = b_X3_weigh_44 (fun M j7 x9 => f_X3_weigh_44 (lx p) (nI i) (nI (now + t)) (lx p + 5) (lx p + 5 + 11 + (10 * s + i)) n M j7 x9) (lx p) (nI i) (nI (now + t)) (lx p + 5) (lx p + 5 + 11 + (10 * s + i)) Mi (lN (10 ^ j)) (nI (now + j)) := rfl
    rw [st]
    unfold b_X3_weigh_44
    by_cases e : j = t
    · subst e
      rw [if_pos (nI_le (Nat.le_refl _) (by omega))]
      exact ⟨Mi, A, rfl, hM, hA, hP⟩
    · have Hi := H.m1 hM
      have hm := Hi.2.1.1.1 (10 * s + i) (by omega)
      rw [show 0 + 7 * (10 * s + i) = mo 0 s i from rfl] at hm
      obtain ⟨a1, a2⟩ := ls_n (s := s) (x := 0) (show i < 10 by omega) (show now + j < 12 by omega) H.2.1.2.1
      obtain ⟨b1, b2⟩ := ls_n (s := s) (x := 4095) (show i < 10 by omega) (show now + j < 12 by omega) H.2.1.2.1
      unfold lsI at a2 b2
      rw [bt_0, Int32.add_zero] at a2
      rw [bt_all _ (by omega)] at b2
      rw [if_neg (nI_ge (by omega) (by omega)), if_neg (show ¬ (12 : Int32) ≤ nI (now + j) from nI_ge (b := 12) (by omega) (by omega)), (Hi.fire (i := i) (by omega) (nI (now + j))).1, bd_s, ck_n (show now + j < 12 by omega) (by omega), nI_clamp (by omega), e_lossBy, bd_s, e_lossBy, bd_s, (hm.2.2 m0).1, Hi.2.1.1.2.2.2.1 (now + j) (by omega), show 0 + 171 + (now + j) = 171 + (now + j) by omega, a2, b2, show Mi.1 (lx p) 1 = nI c by rw [hM]; exact ec]
      obtain ⟨M2, A2, c1, c2, c3, c4⟩ := e_pass (M := Mi) (C := A) (c := c) (la := lsN (N.1 1) s i 0 (now + j)) (lb := lsN (N.1 1) s i 4095 (now + j)) hc (by omega) (by omega) hA
      rw [c1, bd_s, nm_x, ten_S, n1]
      refine ih (j + 1) A2 M2 (by omega) (by omega) (c2.trans hM) c3 (fun f => ?_)
      rw [c4 f, hP, sets_S c _ _ (fun y => f (hdN (N.1 1) s i - y)) j]
      refine sg_c (fun v hv => ?_)
      unfold fp
      simp only [Nat.sub_sub]
theorem e_weighO {M N : Mm} {p F now t s i c T : Nat} (H : RelP p F M N) (hs : s < 2) (hi : i < F) (m0 : N.1 1 (mo 0 s i) = 1) (eN : N.1 1 170 = nI now) (ht : now + t ≤ 12) (hc : c ≤ 10) (ec : M.1 (lx p) 1 = nI c) (hT : T ≤ 99) (eT : N.1 3 0 = nI T) :
    ∃ M2, f_X3_weigh M (lx p) (nI s) (nI i) (nI (now + t)) = some M2 ∧ M2.1 = M.1 ∧ M2.2 128 0 = lN (numO (N.1 1) (N.1 3) T s i now t c / Nat.gcd (numO (N.1 1) (N.1 3) T s i now t c) (10 ^ t)) ∧ M2.2 128 1 = lN (10 ^ t / Nat.gcd (numO (N.1 1) (N.1 3) T s i now t c) (10 ^ t)) ∧ numO (N.1 1) (N.1 3) T s i now t c ≤ 10 ^ t := by
  have hF := H.1.2.2.2.2.1
  have hm := H.2.1.1.1 (10 * s + i) (by omega)
  rw [show 0 + 7 * (10 * s + i) = mo 0 s i from rfl] at hm
  obtain ⟨h1, h2⟩ := H.hd hs hi m0
  have h4 : M.1 (lx p + 5 + 11 + (10 * s + i)) 4 = nI (hdN (N.1 1) s i) := by rw [(hm.2.2 m0).2.2.2.1]; exact h2
  have e5 : M.1 (lx p + 5) 0 = nI now := by rw [H.2.1.1.2.2.1]; exact eN
  have p10 : 10 ^ t ≤ 10 ^ 12 := Nat.pow_le_pow_right (by decide) (by omega)
  have p0 : 0 < 10 ^ t := Nat.pow_pos (by decide)
  have hnum : numO (N.1 1) (N.1 3) T s i now t c ≤ 10 ^ t := by
    unfold numO
    split
    · exact sets_le (f := fun x => if hdN (N.1 1) s i - ml (fun j => lsN (N.1 1) s i 0 (now + j)) (fun j => lsN (N.1 1) s i 4095 (now + j)) t x < T then 1 else 0) hc (fun x => by split <;> omega) t
    · exact Nat.le_refl _
  unfold f_X3_weigh
  rw [nm_x, e_manOf hs (by omega), bd_s]
  simp only [wr_e, nm_x]
  have f1 : (fillJ M 129 100 (0 : Int64)).1 = M.1 := rfl
  rw [wJ_1, f1, h4, ck_n (show hdN (N.1 1) s i < 100 by omega) (by omega), nI_clamp (by omega), e5]
  have A0 : CA (wJ (fillJ M 129 100 (0 : Int64)) 129 (hdN (N.1 1) s i) 1) (up (fun _ => 0) (hdN (N.1 1) s i) 1) := by
    have z : CA (fillJ M 129 100 (0 : Int64)) (fun _ => 0) := fun v hv => by
      show (wS M 129 _).2 129 v = _
      rw [wS_row, if_pos hv]
      rfl
    exact z.w _ 1
  obtain ⟨M2, A2, b1, b2, b3, b4⟩ := weigh_loop H hs hi m0 ht hc ec FU 0 _ (wJ (fillJ M 129 100 (0 : Int64)) 129 (hdN (N.1 1) s i) 1) (by omega) (by show t < 0 + 5000; omega) rfl A0 (fun f => by
    have q := pr_up (A := fun _ => 0) (f := f) (k := hdN (N.1 1) s i) (y := 1) (by omega)
    have z : pr (fun _ => 0) f = 0 := by
      show sg (fun v => 0 * f v) 100 = 0
      rw [sg_mul, Nat.zero_mul]
    show _ = 0 + 1 * f (hdN (N.1 1) s i - 0)
    rw [Nat.sub_zero]
    omega)
  rw [show f_X3_weigh_44 (lx p) (nI i) (nI (now + t)) (lx p + 5) (lx p + 5 + 11 + (10 * s + i)) FU (wJ (fillJ M 129 100 (0 : Int64)) 129 (hdN (N.1 1) s i) 1) 1 (nI now) = _ from b1]
  unfold f_X3_weigh_125 f_X3_weigh_153
  have H2 := H.m1 b2
  have hm2 := H2.2.1.1.1 (10 * s + i) (by omega)
  rw [show 0 + 7 * (10 * s + i) = mo 0 s i from rfl] at hm2
  rw [e_suits H2.2.2.1.1 hm2, bd_s]
  by_cases g : suit (N.1 1) (N.1 3) (mo 0 s i)
  · have en : numO (N.1 1) (N.1 3) T s i now t c = sg A2 T := by
      unfold numO
      rw [if_pos g, ← b4 (fun v => if v < T then 1 else 0)]
      exact sg_below 100 (by omega)
    rw [if_neg (fun z => b2_0.mp z g), H2.2.2.1.1.1, eT, e_below hT b3, bd_s, ← en, e_reduce hnum p10 p0, bd_s]
    exact ⟨_, rfl, b2, by rw [mJ, if_neg (by decide), mJ, if_pos rfl], by rw [mJ, if_pos rfl], hnum⟩
  · have en : numO (N.1 1) (N.1 3) T s i now t c = 10 ^ t := by
      unfold numO
      rw [if_neg g]
    rw [if_pos (b2_0.mpr g), e_reduce (Nat.le_refl _) p10 p0, bd_s, en]
    exact ⟨_, rfl, b2, by rw [mJ, if_neg (by decide), mJ, if_pos rfl], by rw [mJ, if_pos rfl], Nat.le_refl _⟩
theorem lowY {num den : Nat} {x4 : Int32} (h1 : num < 2 ^ 63) (h2 : den < 2 ^ 63) (h3 : 0 < den) : ∀ k n a b, b ≤ a → a < 2 ^ 63 → a * b < 2 ^ k → k < n → Nat.gcd a b = Nat.gcd num den →
    f_X12_lowest_6 (lN num) (lN den) x4 n (lN a) (lN b) = some (if x4 = 0 then lN (num / Nat.gcd num den) else lN (den / Nat.gcd num den)) := by
  intro k
  have g0 : 0 < Nat.gcd num den := Nat.gcd_pos_of_pos_right _ h3
  have fin : f_X12_lowest_31 (lN num) (lN den) x4 (lN (Nat.gcd num den)) = some (if x4 = 0 then lN (num / Nat.gcd num den) else lN (den / Nat.gcd num den)) := by
    have g1 : Nat.gcd num den < 2 ^ 63 := Nat.lt_of_le_of_lt (Nat.gcd_le_right _ h3) h2
    unfold f_X12_lowest_31 f_X12_lowest_41
    rw [ck_t (lN_n0 g1 g0), ck_t (lN_n0 g1 g0), pk_lDiv h1 g0 g1, pk_lDiv h2 g0 g1]
    by_cases z : x4 = 0
    · rw [if_pos z, if_pos z]
    · rw [if_neg z, if_neg z]
  induction k with
  | zero =>
    intro n a b q1 q2 q3 q4 q6
    obtain ⟨n, rfl⟩ : ∃ m, n = m + 1 := ⟨n - 1, by omega⟩
    have st : f_X12_lowest_6 (lN num) (lN den) x4 (n + 1) (lN a) (lN b) = b_X12_lowest_6 (fun j5 j7 => f_X12_lowest_6 (lN num) (lN den) x4 n j5 j7) (lN num) (lN den) x4 (lN a) (lN b) := rfl
    rw [st]
    unfold b_X12_lowest_6
    have hb : b = 0 := by
      have : b * b ≤ a * b := Nat.mul_le_mul_right b q1
      have : b * b = 0 := by omega
      rcases Nat.mul_eq_zero.mp this with z | z <;> exact z
    subst hb
    rw [Nat.gcd_zero_right] at q6
    rw [if_pos ((lg0 (by omega)).1.mpr rfl), q6]
    exact fin
  | succ k ih =>
    intro n a b q1 q2 q3 q4 q6
    obtain ⟨n, rfl⟩ : ∃ m, n = m + 1 := ⟨n - 1, by omega⟩
    have st : f_X12_lowest_6 (lN num) (lN den) x4 (n + 1) (lN a) (lN b) = b_X12_lowest_6 (fun j5 j7 => f_X12_lowest_6 (lN num) (lN den) x4 n j5 j7) (lN num) (lN den) x4 (lN a) (lN b) := rfl
    rw [st]
    unfold b_X12_lowest_6
    by_cases hb : b = 0
    · subst hb
      rw [Nat.gcd_zero_right] at q6
      rw [if_pos ((lg0 (by omega)).1.mpr rfl), q6]
      exact fin
    · rw [if_neg (fun z => hb ((lg0 (by omega)).1.mp z)), ck_t (lN_n0 (by omega) (by omega)), pk_lRem (by omega) (by omega) (by omega), nm_x]
      exact ih n b (a % b) (Nat.le_of_lt (Nat.mod_lt _ (by omega))) (by omega) (gcd_step (by omega) q1 q3) (by omega) (by rw [← q6, Nat.gcd_comm a b, Nat.gcd_rec b a, Nat.gcd_comm])
theorem e_lowest {num den : Nat} {x4 : Int32} (h1 : num ≤ den) (h2 : den ≤ 10 ^ 12) (h3 : 0 < den) : f_X12_lowest (lN num) (lN den) x4 = some (if x4 = 0 then lN (num / Nat.gcd num den) else lN (den / Nat.gcd num den)) := by
  have h4 : num % den < den := Nat.mod_lt _ h3
  have h5 := Nat.mul_le_mul h2 (show num % den ≤ 10 ^ 12 by omega)
  have st : f_X12_lowest (lN num) (lN den) x4 = b_X12_lowest_6 (fun j5 j7 => f_X12_lowest_6 (lN num) (lN den) x4 4999 j5 j7) (lN num) (lN den) x4 (lN num) (lN den) := rfl
  rw [st]
  unfold b_X12_lowest_6
  rw [if_neg (fun z => absurd ((lg0 (by omega)).1.mp z) (by omega)), ck_t (lN_n0 (by omega) (by omega)), pk_lRem (by omega) (by omega) (by omega), nm_x]
  exact lowY (by omega) (by omega) h3 80 4999 den (num % den) (by omega) (by omega) (by omega) (by decide) (by rw [Nat.gcd_comm num den, Nat.gcd_rec den num, Nat.gcd_comm])
