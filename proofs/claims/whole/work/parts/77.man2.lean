theorem PW.c {g : Gg} {Y Y2 Y3 : Mm} {P Q : Mm → Mm} (h : PW g Y Y2 P) (k : PW g Y2 Y3 Q) : PW g Y Y3 (fun N => Q (P N)) := ⟨fun X st q M N a => k.1 _ _ _ _ _ (h.1 _ _ _ _ _ a), fun N b => by
  obtain ⟨h1, h2, h3⟩ := h.2 N b
  obtain ⟨k1, k2, k3⟩ := k.2 _ h1
  exact ⟨k1, k2.trans h2, k3.trans h3⟩⟩
theorem LSg.fin {g : Gg} {q0 : Nat} {rc : Option (Int32 × Mm)} {rn : Option Mm} (h : LSg g q0 rc rn) : LSg g q0 (bd rc fun p => if p.1 = 0 then some (0, p.2) else some (1, p.2)) rn := by
  rcases h with ⟨X, Y, st, q, M, N, a1, a2⟩ | ⟨M, N, a1, a2⟩
  · exact Or.inl ⟨X, Y, st, q, M, N, by rw [a1, bd_s]; rfl, a2⟩
  · exact Or.inr ⟨M, N, by rw [a1, bd_s]; rfl, a2⟩
theorem parts_n {M : Mm} {a : Nat} {K : Int32 × Mm → Option (Int32 × Mm)} : bd (f_X9_readParts M a) (fun p => if p.1 = 0 then some (0, p.2) else K p) = bd (f_X9_readNumber M 0 99) fun p => if p.1 = 0 then some (0, p.2) else bd (f_X9_readNumber (wI p.2 a 2 (p.2.1 1 8)) 0 99) fun p => if p.1 = 0 then some (0, p.2) else bd (f_X9_readNumber (wI p.2 a 3 (p.2.1 1 8)) 0 99) fun p => if p.1 = 0 then some (0, p.2) else bd (f_X9_readNumber (wI p.2 a 4 (p.2.1 1 8)) 0 3) fun p => if p.1 = 0 then some (0, p.2) else K (1, wI p.2 a 5 (p.2.1 1 8)) := by
  unfold f_X9_readParts
  simp only [bd_bd, bd_ite, bd_s, wr_e, if_true, show ¬ ((1 : Int32) = 0) by decide, if_false]
def manC (v3 : Int32) (p6 : Int32 × Mm) : Option Mm := nm (((7 : Int32) * (((10 : Int32) * v3) + p6.1))) fun v9 => if (p6.2.1 0 19) = 0 then (ck (inn v9 210) <| if (p6.2.1 5 v9.toNatClampNeg) = (1 : Int32) then (bd (f_X12_fails p6.2 (4 : Int32)) fun p15 => bd (f_X12_readMan_46 p15 v9) f_X12_readLine_82) else (bd (f_X12_readMan_46 p6.2 v9) f_X12_readLine_82)) else (bd (f_X12_readMan_46 p6.2 v9) f_X12_readLine_82)
theorem ix_man (s v : Nat) : (7 : Int32) * (((10 : Int32) * nI s) + nI v) = nI (7 * (10 * s + v)) := by
  rw [show (10 : Int32) * nI s = nI (10 * s) from pk_mul 10 s, nI_add]
  exact pk_mul 7 _
theorem BS_manC {g : Gg} (hg : OKg g) {s : Nat} (hs : s ≤ 1) : BS g fun N => manC (nI s) (0, N) := by
  have e : (fun N => manC (nI s) (0, N)) = fun N => if N.1 0 19 = 0 then (ck (inn (nI (7 * (10 * s + 0))) 210) <| if (N.1 5 (nI (7 * (10 * s + 0))).toNatClampNeg) = (1 : Int32) then (bd (f_X12_fails N (4 : Int32)) fun p15 => bd (f_X12_readMan_46 p15 (nI (7 * (10 * s + 0)))) f_X12_readLine_82) else (bd (f_X12_readMan_46 N (nI (7 * (10 * s + 0)))) f_X12_readLine_82)) else (bd (f_X12_readMan_46 N (nI (7 * (10 * s + 0)))) f_X12_readLine_82) := funext fun N => by
    unfold manC
    rw [nm_x]
    dsimp only
    rw [show (7 : Int32) * (((10 : Int32) * nI s) + 0) = nI (7 * (10 * s + 0)) from ix_man s 0]
  rw [e]
  exact BS_if (A := fun N => (ck (inn (nI (7 * (10 * s + 0))) 210) <| if (N.1 5 (nI (7 * (10 * s + 0))).toNatClampNeg) = (1 : Int32) then (bd (f_X12_fails N (4 : Int32)) fun p15 => bd (f_X12_readMan_46 p15 (nI (7 * (10 * s + 0)))) f_X12_readLine_82) else (bd (f_X12_readMan_46 N (nI (7 * (10 * s + 0)))) f_X12_readLine_82))) (BS_46 hg (by omega))
theorem man_in {g : Gg} (hg : OKg g) {X Y M N : Mm} {st q q0 s v hi : Nat} (hs : s ≤ 1) (hi9 : hi ≤ 9) (hv : v ≤ hi) (h15 : Y.1 0 15 = nI hi) (hq : q0 ≤ q) (A : AS g X Y st q M N) (D : DR g.2.2.1 X Y) (h0 : Y.1 5 (7 * (10 * s + v)) = 0) :
    LSg g q0 (bd (f_X9_readKind (wI M (g.2.2.1 + 5 + 11 + (10 * s + v)) 0 1) (g.2.2.1 + 5 + 11 + (10 * s + v))) fun p16 => if p16.1 = 0 then some (0, p16.2) else bd (f_X9_readParts p16.2 (g.2.2.1 + 5 + 11 + (10 * s + v))) fun p19 => if p19.1 = 0 then some (0, p19.2) else bd (f_X9_readDress p19.2 (g.2.2.1 + 5 + 11 + (10 * s + v))) fun p22 => if p22.1 = 0 then some (0, p22.2) else some (1, p22.2)) (bd (f_X12_readMan_46 N (nI (7 * (10 * s + v)))) f_X12_readLine_82) := by
  have hd : 141 ≤ g.2.2.1 := by have := hg.2.2.2.1; omega
  rw [c46 (by omega)]
  generalize hm : 7 * (10 * s + v) = m at *
  generalize ha : g.2.2.1 + 5 + 11 + (10 * s + v) = a
  have ox : ∀ k, k ≠ 6 → OX g a k := fun k hk => OX.d (by omega) (by omega) (by omega) (Or.inl hk)
  have ox6 : ∀ v, isB v → OXv g a 6 v := fun v hv => Or.inl ⟨by omega, by omega, by omega, Or.inr hv⟩
  have oy : ∀ k, OY 5 k := fun k => Or.inl (by decide)
  have hz6 : Y.1 5 (m + 6) = 0 := by
    obtain ⟨hi2, sd, ss, -, -, -, -, -, -, z⟩ := D.2.2.2.2.1
    have := z (10 * s + v) (by omega)
    rw [hm] at this
    exact this h0
  refine seq_rk hg (A.1.wX (ox 0 (by decide)) 1) (fun s _ => BS_m1 m (nI s)) (fun kd M4 N4 st4 q4 hk4 h4 A4 => ?_)
  dsimp only
  rw [parts_n]
  refine seq_rn (lo := 0) (hi := 99) (P := fun N => wI N 5 (m + 1) (nI kd)) hg (A4.1.wX (ox 1 (by decide)) (nI kd)) (PW.w (oy _) (nI kd)) (by decide) (by decide) (BS_m2 m) (fun v5 M5 N5 st5 q5 _ h52 h53 A5 hv5 => ?_)
  dsimp only
  rw [hv5]
  refine seq_rn (lo := 0) (hi := 99) (P := fun N => wI N 5 (m + 2) (nI v5)) hg (A5.1.wX (ox 2 (by decide)) (nI v5)) (PW.w (oy _) (nI v5)) (by decide) (by decide) (BS_m3 m) (fun v6 M6 N6 st6 q6 _ h62 h63 A6 hv6 => ?_)
  dsimp only
  rw [hv6]
  refine seq_rn (lo := 0) (hi := 99) (P := fun N => wI N 5 (m + 3) (nI v6)) hg (A6.1.wX (ox 3 (by decide)) (nI v6)) (PW.w (oy _) (nI v6)) (by decide) (by decide) (BS_m4 m) (fun v7 M7 N7 st7 q7 _ h72 h73 A7 hv7 => ?_)
  dsimp only
  rw [hv7]
  refine seq_rn (lo := 0) (hi := 3) (P := fun N => wI N 5 (m + 4) (nI v7)) hg (A7.1.wX (ox 4 (by decide)) (nI v7)) (PW.w (oy _) (nI v7)) (by decide) (by decide) (BS_m5 m) (fun v8 M8 N8 st8 q8 _ h82 h83 A8 hv8 => ?_)
  dsimp only
  rw [hv8]
  refine (seq_dress (P := fun N => wI (wI N 5 (m + 5) (nI v8)) 5 m 1) hg (A8.1.wX (ox 5 (by decide)) (nI v8)) ((PW.w (oy (m + 5)) (nI v8)).c (PW.w (oy m) 1)) ox6 (by omega) ?_ ?_ ?_).fin
  · have := A4.2.1; have := A5.2.1; have := A6.2.1; have := A7.2.1; have := A8.2.1
    omega
  · refine D.man hd (s := s) (i := v) (hi := hi) (by omega) hi9 hv h15 ?_ ?_ ?_ ?_ ?_ ?_
    · intro c hc
      rw [ha] at hc
      rw [wI_o hc, wI_o hc, wI_o hc, wI_o hc, wI_o hc, wI_o hc, wI_o hc]
    · intro c hc
      rw [wI_o hc, wI_o hc, wI_o hc, wI_o hc, wI_o hc, wI_o hc]
    · intro x hx
      rw [hm] at hx
      rw [mIn (by omega), mIn (by omega), mIn (by omega), mIn (by omega), mIn (by omega), mIn (by omega)]
    · rw [ha, hm]
      unfold MnR isB
      simp [mI, hz6]
    · rw [hm]
      simp [mI]
    · rw [hm]
      exact ⟨v7, h72, by simp [mI]⟩
  · refine D.man hd (s := s) (i := v) (hi := hi) (by omega) hi9 hv h15 ?_ ?_ ?_ ?_ ?_ ?_
    · intro c hc
      rw [ha] at hc
      rw [wI_o hc, wI_o hc, wI_o hc, wI_o hc, wI_o hc, wI_o hc, wI_o hc]
    · intro c hc
      rw [wI_o hc, wI_o hc, wI_o hc, wI_o hc, wI_o hc, wI_o hc, wI_o hc]
    · intro x hx
      rw [hm] at hx
      rw [mIn (by omega), mIn (by omega), mIn (by omega), mIn (by omega), mIn (by omega), mIn (by omega), mIn (by omega)]
    · rw [ha, hm]
      unfold MnR isB
      simp [mI]
    · rw [hm]
      simp [mI]
    · rw [hm]
      exact ⟨v7, h72, by simp [mI]⟩
theorem ln_man {g : Gg} (hg : OKg g) {X Y M N : Mm} {st q : Nat} (A : AS g X Y st q M N) (D : DR g.2.2.1 X Y) : LSg g q (f_X9_readMan M (g.2.2.1 + 5)) (bd (f_X12_step N) fun p10 => bd (f_X12_readMan p10) f_X12_readLine_82) := by
  have hd : 141 ≤ g.2.2.1 := by have := hg.2.2.2.1; omega
  obtain ⟨hi, sd, ss, ⟨u1, u2, u3⟩, ⟨e1, e2⟩, -⟩ := D.2.2.2.2.1
  have r84 : ∀ M, f_X9_readMan_84 M 1 = some (1, M) := fun M => by
    unfold f_X9_readMan_84
    rw [ck_t (Or.inr rfl)]
  have r83 : ∀ M, f_X9_readMan_83 M = some (0, M) := fun M => by
    unfold f_X9_readMan_83 f_X9_readMan_84
    rw [ck_t (Or.inl rfl)]
  have cl : ∀ N, bd (f_X12_readMan N) f_X12_readLine_82 = bd (f_X12_name N 8 9) fun p => bd (f_X12_furlongHere p.2) (manC p.1) := fun N => by
    unfold f_X12_readMan manC
    simp only [bd_bd, bd_nm, nm_x, bd_ite, bd_ck]
  unfold f_X9_readMan
  simp only [cl, r83, r84]
  refine seq_rs (P := fun N => N) hg A.1 PW.id (fun s hs => BS_fur (BS_manC hg hs)) (fun s M2 N2 st2 q2 hs h2 A2 hv => ?_)
  dsimp only
  rw [nm_x, hv]
  refine seq_rf (P := fun N => N) hg A2.1 PW.id u1 e1 e2 (BS_manC hg hs) (fun v M3 N3 st3 q3 v9 h3 A3 hv3 => ?_)
  have D3 : DR g.2.2.1 (wI X 1 11 (nI (max hi v))) (wI Y 0 15 (nI (max hi v))) := D.said hd (Or.inr (Or.inr ⟨rfl, rfl, max hi v, by omega, rfl, fun hi2 h9 e3 => by
    rw [e2] at e3
    have : hi = hi2 := (nI_eq (by omega) (by omega)).mp e3
    omega⟩))
  have h15 : (wI Y 0 15 (nI (max hi v))).1 0 15 = nI (max hi v) := mIs _ _ _ _
  generalize wI X 1 11 (nI (max hi v)) = X3 at *
  generalize wI Y 0 15 (nI (max hi v)) = Y3 at *
  have hmn := D3.2.2.2.2.2.1.1 (10 * s + v) (by omega)
  rw [show 0 + 7 * (10 * s + v) = 7 * (10 * s + v) by omega] at hmn
  have m0 : M3.1 (g.2.2.1 + 5 + 11 + (10 * s + v)) 0 = Y3.1 5 (7 * (10 * s + v)) := by rw [A3.1.1.1 _ 0 (by omega)]; exact hmn.1.1
  have n5 : N3.1 5 (7 * (10 * s + v)) = Y3.1 5 (7 * (10 * s + v)) := A3.1.2.1.1 5 _ (by omega)
  obtain ⟨B4a, B4b, B4c⟩ := A3.bad (c := 4) (by decide) (by decide)
  unfold manC
  dsimp only
  rw [hv3, e_manOf (by omega) (by omega), bd_s, m0, ix_man, nm_x, if_pos A3.1.2.2.2.2.1, ck_n (show 7 * (10 * s + v) < 210 by omega) (by decide), nI_clamp (by omega), n5]
  by_cases z : Y3.1 5 (7 * (10 * s + v)) = 1
  · rw [if_neg (by rw [z]; decide), if_pos z, show f_X9_refuse M3 4 (M3.1 1 6) = _ from B4a, bd_s, ck_t (Or.inl rfl), show f_X12_fails N3 4 = _ from B4b, bd_s]
    exact LSg.bad (K := fun N => bd (f_X12_readMan_46 N (nI (7 * (10 * s + v)))) f_X12_readLine_82) B4c (BS_46 hg (by omega))
  · have z0 : Y3.1 5 (7 * (10 * s + v)) = 0 := by
      rcases hmn.2.1 with y | y
      · exact y
      · exact absurd y z
    rw [if_pos z0, if_neg z, wr_e]
    exact man_in hg hs (by omega) (Nat.le_max_right hi v) h15 (by have := A2.2.1; have := A3.2.1; omega) A3 D3 z0
