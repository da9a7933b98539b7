-- A BRAZIER'S LINE
def zt3 (m : Nat) (p : Int32 × Mm) : Option Mm := f_X12_readLine_82 (wI (wI p.2 5 (m + 3) p.1) 5 207 ((wI p.2 5 (m + 3) p.1).1 5 207 + 1))
def zt2 (m : Nat) (p : Int32 × Mm) : Option Mm := bd (f_X12_number (wI p.2 5 (m + 2) p.1) p.1 11) (zt3 m)
def zt1 (m : Nat) (p : Int32 × Mm) : Option Mm := bd (f_X12_number (wI p.2 5 (m + 1) p.1) 0 11) (zt2 m)
def zt0 (m : Nat) (p : Int32 × Mm) : Option Mm := bd (f_X12_step (wI p.2 5 m p.1)) fun N => bd (f_X12_number N 1 20) (zt1 m)
theorem BS_z3 {g : Gg} (m : Nat) (r : Int32) : BS g fun N => zt3 m (r, N) := BS_w (K := fun N => wr (wI N 5 207 (N.1 5 207 + 1)) f_X12_readLine_82) (v := fun _ => r) (Or.inl (by decide)) (BS_w (v := fun N => N.1 5 207 + 1) (Or.inl (by decide)) BS_82)
theorem BS_z2 {g : Gg} (m : Nat) (r : Int32) : BS g fun N => zt2 m (r, N) := BS_w (K := fun N => bd (f_X12_number N r 11) (zt3 m)) (v := fun _ => r) (Or.inl (by decide)) (BS_num (BS_z3 m))
theorem BS_z1 {g : Gg} (m : Nat) (r : Int32) : BS g fun N => zt1 m (r, N) := BS_w (K := fun N => bd (f_X12_number N 0 11) (zt2 m)) (v := fun _ => r) (Or.inl (by decide)) (BS_num (BS_z2 m))
theorem BS_z0 {g : Gg} (m : Nat) (r : Int32) : BS g fun N => zt0 m (r, N) := BS_w (K := fun N => bd (f_X12_step N) fun N => bd (f_X12_number N 1 20) (zt1 m)) (v := fun _ => r) (Or.inl (by decide)) (BS_step (BS_num (BS_z1 m)))
theorem cBr {c : Nat} (hc : c < 6) {N : Mm} (h : N.1 5 207 = nI c) : bd (f_X12_readBrazier N) f_X12_readLine_82 = bd (f_X12_step N) fun N1 => bd (f_X12_furlongHere N1) (zt0 (183 + 4 * c)) := by
  have hm : 183 + 4 * c + 4 ≤ 207 := by omega
  have e6 : (183 : Int32) + (4 : Int32) * nI c = nI (183 + 4 * c) := by
    rw [show (4 : Int32) * nI c = nI (4 * c) from pk_mul 4 c]
    exact nIa (a := 183) rfl
  have ne : ¬ nI c = 6 := fun z => absurd ((nI_eq (b := 6) (by omega) (by omega)).mp z) (by omega)
  generalize 183 + 4 * c = m at *
  have k : ∀ j, j < 4 → ∀ (x : Option Mm), ck (inn (nI (m + j)) 210) x = x := fun j hj x => ck_n (by omega) (by decide)
  have k0 : ∀ (x : Option Mm), ck (inn (nI m) 210) x = x := fun x => ck_n (by omega) (by decide)
  have cc : ∀ j, j < 4 → (nI (m + j)).toNatClampNeg = m + j := fun j hj => nI_clamp (by omega)
  unfold f_X12_readBrazier zt0 zt1 zt2 zt3
  simp only [nm_x, show (207 : Int32).toNatClampNeg = 207 from rfl, h, if_neg ne, bd_ite, bd_bd, bd_ck, bd_wr, bd_s, e6, show nI m + 1 = nI (m + 1) from nIa (b := 1) rfl, show nI m + 2 = nI (m + 2) from nIa (b := 2) rfl, show nI m + 3 = nI (m + 3) from nIa (b := 3) rfl, k 1 (by decide), k 2 (by decide), k 3 (by decide), k0, cc 1 (by decide), cc 2 (by decide), cc 3 (by decide), nI_clamp (show m < 2 ^ 31 by omega), wr_e, mIs]
theorem PWd {g : Gg} {Y : Mm} {c : Nat} (h : Y.1 5 207 = nI c) : PW g Y (wI Y 5 207 (nI (c + 1))) (fun N => wI N 5 207 (N.1 5 207 + 1)) := ⟨fun X st q M N A => by
  have e : N.1 5 207 + 1 = nI (c + 1) := by
    rw [A.1.2.1.1 5 207 (by decide), h]
    exact n1 c
  dsimp only
  rw [e]
  exact A.wY (Or.inl (by decide)) _, fun N b => b.w (Or.inl (by decide)) _⟩
theorem e_put {M : Mm} {b c : Nat} {x1 x2 x3 x4 : Int32} (h : M.1 b 0 = nI c) (hc : c < 6) : f_X0_put M b x1 x2 x3 x4 = some (wI (wI (wI (wI (wI M (b + 1) c x1) (b + 2) c x2) (b + 3) c x3) (b + 4) c x4) b 0 (nI (c + 1))) := by
  unfold f_X0_put
  rw [e_isFull h (by omega), bd_s, if_pos hc, if_pos rfl]
  simp only [wr_e, wI_o (show b ≠ b + 1 by omega), wI_o (show b ≠ b + 2 by omega), wI_o (show b ≠ b + 3 by omega), wI_o (show b ≠ b + 4 by omega), h, nI_clamp (show c < 2 ^ 31 by omega), n1]
  rw [ck_n hc (by decide), ck_n hc (by decide), ck_n hc (by decide), ck_n hc (by decide)]
theorem DR.fire {d c x q f t : Nat} {X Y : Mm} (D : DR d X Y) (hd : 141 ≤ d) (hc : c < 6) (h207 : Y.1 5 207 = nI c) (hx : x < 10) (hq : q ≤ 20) (hf : f < 12) (ht : t < 12) : DR d (wI (wI (wI (wI (wI X (d + 5 + 6 + 1) c (nI x)) (d + 5 + 6 + 2) c (nI q)) (d + 5 + 6 + 3) c (nI f)) (d + 5 + 6 + 4) c (nI t)) (d + 5 + 6) 0 (nI (c + 1))) (wI (wI (wI (wI (wI Y 5 (183 + 4 * c) (nI x)) 5 (183 + 4 * c + 1) (nI q)) 5 (183 + 4 * c + 2) (nI f)) 5 (183 + 4 * c + 3) (nI t)) 5 207 (nI (c + 1))) := by
  have hbr := D.2.2.2.2.2.1.2.2.2.2
  have hbi := D.2.2.2.2.2.2.2.2.2.2
  rw [sh0] at hbr hbi
  have hlo : ∀ j, j < 183 + 4 * c → (wI (wI (wI (wI (wI Y 5 (183 + 4 * c) (nI x)) 5 (183 + 4 * c + 1) (nI q)) 5 (183 + 4 * c + 2) (nI f)) 5 (183 + 4 * c + 3) (nI t)) 5 207 (nI (c + 1))).1 5 j = Y.1 5 j := fun j hj => by
    rw [mIn (by omega), mIn (by omega), mIn (by omega), mIn (by omega), mIn (by omega)]
  have hbI : BrI ((wI (wI (wI (wI (wI Y 5 (183 + 4 * c) (nI x)) 5 (183 + 4 * c + 1) (nI q)) 5 (183 + 4 * c + 2) (nI f)) 5 (183 + 4 * c + 3) (nI t)) 5 207 (nI (c + 1))).1 5) := by
    obtain ⟨c2, c6, e1, e2⟩ := hbi
    rw [h207] at e1
    have : c = c2 := (nI_eq (by omega) (by omega)).mp e1
    subst this
    refine ⟨c + 1, by omega, mIs _ _ _ _, fun b hb => ?_⟩
    by_cases z : b = c
    · subst z
      refine ⟨⟨x, hx, ?_⟩, ⟨q, hq, ?_⟩, ⟨f, hf, ?_⟩, ⟨t, ht, ?_⟩⟩
      · rw [mIn (by omega), mIn (by omega), mIn (by omega), mIn (by omega), mIs]
      · rw [mIn (by omega), mIn (by omega), mIn (by omega), show 184 + 4 * b = 183 + 4 * b + 1 by omega, mIs]
      · rw [mIn (by omega), mIn (by omega), show 185 + 4 * b = 183 + 4 * b + 2 by omega, mIs]
      · rw [mIn (by omega), show 186 + 4 * b = 183 + 4 * b + 3 by omega, mIs]
    · rw [hlo (183 + 4 * b) (by omega), hlo (184 + 4 * b) (by omega), hlo (185 + 4 * b) (by omega), hlo (186 + 4 * b) (by omega)]
      exact e2 b (by omega)
  refine D.sc (fun j hj => ?_) (fun j hj => ?_) ?_ ?_ (fun hi h9 _ hb => ?_) (fun z k hk => ?_)
  · rw [wI_o (by omega), wI_o (by omega), wI_o (by omega), wI_o (by omega), wI_o (by omega)]
  · rw [wI_o hj, wI_o hj, wI_o hj, wI_o hj, wI_o hj]
  · refine D.2.2.2.2.2.1.fire (fun j hj => ?_) (fun j hj => ?_) ⟨?_, fun b hb => ?_⟩
    · rw [wI_o (by omega), wI_o (by omega), wI_o (by omega), wI_o (by omega), wI_o (by omega)]
    · exact hlo _ (by omega)
    · rw [mIs]
      show _ = (wI _ 5 207 _).1 5 (0 + 207)
      rw [Nat.zero_add, mIs]
    · have hb' : b < c + 1 := by
        have e : (wI (wI (wI (wI (wI Y 5 (183 + 4 * c) (nI x)) 5 (183 + 4 * c + 1) (nI q)) 5 (183 + 4 * c + 2) (nI f)) 5 (183 + 4 * c + 3) (nI t)) 5 207 (nI (c + 1))).1 5 (0 + 207) = nI (c + 1) := by
          rw [Nat.zero_add, mIs]
        dsimp only at hb
        rw [e, nI_clamp (by omega)] at hb
        exact hb
      have hr := hbr.2
      rw [h207, nI_clamp (by omega)] at hr
      dsimp only
      rw [Nat.zero_add, Nat.zero_add, Nat.zero_add, Nat.zero_add]
      by_cases z : b = c
      · subst z
        refine ⟨?_, ?_, ?_, ?_⟩
        · rw [mIn (by omega), mIn (by omega), mIn (by omega), mIn (by omega), mIs, mIn (by omega), mIn (by omega), mIn (by omega), mIn (by omega), mIs]
        · rw [mIn (by omega), mIn (by omega), mIn (by omega), mIs, mIn (by omega), mIn (by omega), mIn (by omega), show 184 + 4 * b = 183 + 4 * b + 1 by omega, mIs]
        · rw [mIn (by omega), mIn (by omega), mIs, mIn (by omega), mIn (by omega), show 185 + 4 * b = 183 + 4 * b + 2 by omega, mIs]
        · rw [mIn (by omega), mIs, mIn (by omega), show 186 + 4 * b = 183 + 4 * b + 3 by omega, mIs]
      · rw [hlo (183 + 4 * b) (by omega), hlo (184 + 4 * b) (by omega), hlo (185 + 4 * b) (by omega), hlo (186 + 4 * b) (by omega)]
        have ex : ∀ j, 1 ≤ j → j ≤ 4 → (wI (wI (wI (wI (wI X (d + 5 + 6 + 1) c (nI x)) (d + 5 + 6 + 2) c (nI q)) (d + 5 + 6 + 3) c (nI f)) (d + 5 + 6 + 4) c (nI t)) (d + 5 + 6) 0 (nI (c + 1))).1 (d + 5 + 6 + j) b = X.1 (d + 5 + 6 + j) b := fun j h1 h4 => by
          rw [mIn (by omega), mIn (by omega), mIn (by omega), mIn (by omega), mIn (by omega)]
        rw [ex 1 (by decide) (by decide), ex 2 (by decide) (by decide), ex 3 (by decide) (by decide), ex 4 (by decide) (by decide)]
        exact hr b (by omega)
  · refine D.2.2.2.2.2.2.fire (fun j hj => hlo _ (by omega)) ?_
    rw [sh0]
    exact hbI
  · refine ⟨fun s i hs q1 q2 => ?_, fun i q1 q2 => ?_⟩
    · rw [hlo _ (by unfold mo; omega)]
      exact hb.1 s i hs q1 q2
    · rw [hlo _ (by omega), hlo _ (by omega)]
      exact hb.2 i q1 q2
  · rw [hlo _ (by omega), hlo _ (by omega)]
    exact z k hk
theorem ln_brazier {g : Gg} (hg : OKg g) {X Y M N : Mm} {st q : Nat} (A : AS g X Y st q M N) (D : DR g.2.2.1 X Y) : LSg g q (f_X9_readBrazier M (g.2.2.1 + 5 + 6)) (bd (f_X12_readBrazier N) f_X12_readLine_82) := by
  have hd : 141 ≤ g.2.2.1 := by have := hg.2.2.2.1; omega
  obtain ⟨hi, sd, ss, ⟨u1, u2, u3⟩, ⟨e1, e2⟩, -⟩ := D.2.2.2.2.1
  have hbi := D.2.2.2.2.2.2.2.2.2.2
  have hbr := D.2.2.2.2.2.1.2.2.2.2
  rw [sh0] at hbi hbr
  obtain ⟨c, c6, c1, -⟩ := hbi
  have y207 : N.1 5 207 = nI c := by rw [A.1.2.1.1 5 207 (by decide)]; exact c1
  have x0 : M.1 (g.2.2.1 + 5 + 6) 0 = nI c := by rw [A.1.1.1 _ 0 (by omega), hbr.1]; exact c1
  obtain ⟨B5a, B5b, B5c⟩ := A.bad (c := 5) (by decide) (by decide)
  unfold f_X9_readBrazier
  rw [e_isFull x0 c6, bd_s]
  by_cases hc : c < 6
  · rw [if_pos hc, if_pos rfl, cBr hc y207]
    refine seq_rf (P := fun N => N) hg A.1 PW.id u1 e1 e2 (BS_z0 _ 0) (fun v M2 N2 st2 q2 v9 h2 A2 hv => ?_)
    have D2 : DR g.2.2.1 (wI X 1 11 (nI (max hi v))) (wI Y 0 15 (nI (max hi v))) := D.said hd (Or.inr (Or.inr ⟨rfl, rfl, max hi v, by omega, rfl, fun hi2 h9 e3 => by
      rw [e2] at e3
      have : hi = hi2 := (nI_eq (by omega) (by omega)).mp e3
      omega⟩))
    have z207 : (wI Y 0 15 (nI (max hi v))).1 5 207 = nI c := by rw [wI_o (by decide)]; exact c1
    have x2 : (wI X 1 11 (nI (max hi v))).1 (g.2.2.1 + 5 + 6) 0 = nI c := by rw [wI_o (by omega), hbr.1]; exact c1
    generalize wI X 1 11 (nI (max hi v)) = X3 at *
    generalize wI Y 0 15 (nI (max hi v)) = Y3 at *
    dsimp only
    rw [nm_x, hv]
    unfold zt0
    have A2' := A2.wY (a := 5) (k := 183 + 4 * c) (Or.inl (by decide)) (nI v)
    refine seq_rn (lo := 1) (hi := 20) (P := fun N => N) hg A2'.1 PW.id (by decide) (by decide) (BS_z1 _) (fun v12 M3 N3 st3 q3 h31 h32 h33 A3 hv3 => ?_)
    dsimp only
    rw [nm_x, hv3]
    refine seq_rn (lo := 0) (hi := 11) (P := fun N => wI N 5 (183 + 4 * c + 1) (nI v12)) hg A3.1 (PW.w (Or.inl (by decide)) _) (by decide) (by decide) (BS_z2 _) (fun v17 M4 N4 st4 q4 h41 h42 h43 A4 hv4 => ?_)
    dsimp only
    rw [nm_x, hv4]
    refine seq_rn (lo := v17) (hi := 11) (P := fun N => wI N 5 (183 + 4 * c + 2) (nI v17)) hg A4.1 (PW.w (Or.inl (by decide)) _) (by omega) (by decide) (BS_z3 _) (fun v20 M5 N5 st5 q5 h51 h52 h53 A5 hv5 => ?_)
    dsimp only
    have x5 : M5.1 (g.2.2.1 + 5 + 6) 0 = nI c := by rw [A5.1.1.1 _ 0 (by omega)]; exact x2
    rw [hv5, e_put x5 hc, bd_s]
    have ox : ∀ j k, j ≤ 4 → OX g (g.2.2.1 + 5 + 6 + j) k := fun j k hj => OX.d (by omega) (by omega) (by omega) (by omega)
    refine (seq_semi (P := fun N => wI (wI N 5 (183 + 4 * c + 3) (nI v20)) 5 207 ((wI N 5 (183 + 4 * c + 3) (nI v20)).1 5 207 + 1)) hg (((((A5.1.wX (ox 1 c (by decide)) (nI v)).wX (ox 2 c (by decide)) (nI v12)).wX (ox 3 c (by decide)) (nI v17)).wX (ox 4 c (by decide)) (nI v20)).wX (ox 0 0 (by decide)) (nI (c + 1))) ((PW.w (a := 5) (k := 183 + 4 * c + 3) (Or.inl (by decide)) (nI v20)).c (PWd (c := c) ?_)) (D2.fire hd hc z207 (by omega) h32 (by omega) (by omega)) ?_).ck
    · rw [mIn (by omega), mIn (by omega), mIn (by omega), mIn (by omega)]
      exact z207
    · have := A2.2.1; have := A3.2.1; have := A4.2.1; have := A5.2.1
      omega
  · obtain rfl : c = 6 := by omega
    unfold f_X12_readBrazier
    rw [if_neg hc, if_neg (by decide), nm_x, show (207 : Int32).toNatClampNeg = 207 from rfl, y207, if_pos (by decide), show f_X9_refuse M 5 (M.1 1 6) = _ from B5a, bd_s, ck_t (Or.inl rfl), show f_X12_fails N 5 = _ from B5b, bd_s, bd_s]
    exact LSg.bad B5c BS_82
