theorem ln_hours {g : Gg} (hg : OKg g) {X Y M N : Mm} {st q w kd : Nat} (hk : (w = 1 ∧ kd = 1) ∨ (w = 2 ∧ kd = 0)) (A : AS g X Y st q M N) (D : DR g.2.2.1 X Y) : LSg g q (f_X9_readHours M (nI (2 ^ w)) (hca g.2.2.1 kd) 9) (bd (f_X12_readOnce N (nI w)) f_X12_readLine_82) := by
  have hd : 141 ≤ g.2.2.1 := by have := hg.2.2.2.1; omega
  have hw : w < 4 := by omega
  have hkd : kd ≤ 1 := by omega
  unfold f_X9_readHours f_X9_readHours_17
  have cl : ∀ N, bd (f_X12_readOnce_17 N (nI w)) f_X12_readLine_82 = bd (f_X12_step (wI N 0 13 ((N.1 0 13) ||| ((1 : Int32) <<< (nI w &&& 31))))) fun N1 => bd (f_X12_readHours_2 (nI kd) FU N1 0) f_X12_readLine_82 := fun N => by
    unfold f_X12_readOnce_17 f_X12_readOnce_110 f_X12_readOnce_107 f_X12_readOnce_110 f_X12_readHours
    rcases hk with ⟨rfl, rfl⟩ | ⟨rfl, rfl⟩
    · simp only [wr_e, bd_bd, bd_s, show ¬ (nI 1 = 0) by decide, show ¬ (nI 1 = 3) by decide, show nI 1 = 1 from rfl, show ¬ ((1 : Int32) = 0) by decide, show ¬ ((1 : Int32) = 3) by decide, if_false, if_true]
    · simp only [wr_e, bd_bd, bd_s, show ¬ (nI 2 = 0) by decide, show ¬ (nI 2 = 3) by decide, show ¬ (nI 2 = 1) by decide, if_false, show nI 0 = 0 from rfl]
  rcases first_sim hg hw A D with ⟨sd, A2, D2, e1, e2, e3⟩ | ⟨M2, N2, e1, e2, F⟩
  · rw [e1, e2, bd_s, cl, e3]
    dsimp only
    rw [if_neg (by decide)]
    unfold f_X9_readNumber f_X9_readNumber_20 f_X9_readNumber_21
    rcases tok_sim hg A2.1 with ⟨M3, N3, st3, q3, t1, t2, t3, A3⟩ | ⟨M3, N3, t1, t2, F⟩
    · have fu : FU = 4998 + 1 + 1 := rfl
      rw [t1, t2, bd_s, bd_s, fu]
      dsimp only
      rw [if_neg (by decide)]
      have st' : ∀ N, f_X12_readHours_2 (nI kd) (4998 + 1 + 1) N 0 = b_X12_readHours_2 (fun M x2 => f_X12_readHours_2 (nI kd) (4998 + 1) M x2) (nI kd) N 0 := fun N => rfl
      rw [st']
      have r21 : b_X12_readHours_2 (fun M x2 => f_X12_readHours_2 (nI kd) (4998 + 1) M x2) (nI kd) N3 0 = f_X12_readHours_40 (fun M x2 => f_X12_readHours_2 (nI kd) (4998 + 1) M x2) N3 (nI kd) (nI 0) := by
        unfold b_X12_readHours_2 f_X12_readHours_21
        rw [if_pos A3.1.2.2.2.2.1, if_pos rfl]
        by_cases z : N3.1 0 23 = 2
        · rw [if_pos z, if_neg (by decide)]
          rfl
        · rw [if_neg z]
          rfl
      rw [r21]
      rcases hrs_40 (f := 4998) (h := 0) hkd (by decide) A3 with ⟨v2, c1, c2, c3, c4⟩ | ⟨M4, N4, c3, c4, F⟩
      · rw [c3, c4, bd_s]
        dsimp only
        rw [if_neg (by decide), ck_t (Or.inr rfl), bd_s]
        dsimp only
        rw [if_neg (by decide), wr_e, c2]
        exact hrs_loop hg hkd 11 1 (4998 + 1 + 1) 4998 _ _ _ _ q3 v2 (by decide) (by decide) (by decide) (by decide) (by have := A3.2.1; omega) (A3.1.wX (hca_o hg kd 0) (nI v2)) (D2.hr hd (by decide) c1)
      · rw [c3, c4, bd_s]
        dsimp only
        rw [if_pos rfl, ck_t (Or.inl rfl), bd_s]
        dsimp only
        rw [if_pos rfl]
        exact LSg.bad F BS_82
    · rw [t1, t2, bd_s, bd_s]
      dsimp only
      rw [if_pos rfl, ck_t (Or.inl rfl), bd_s]
      dsimp only
      rw [if_pos rfl]
      exact LSg.bad (K := fun N2 => bd (f_X12_readHours_2 (nI kd) (4999 + 1) N2 0) f_X12_readLine_82) F BS_hrs
  · rw [e1, e2, bd_s, cl]
    dsimp only
    rw [if_pos rfl]
    exact LSg.bad (K := fun N2 => bd (f_X12_step (wI N2 0 13 ((N2.1 0 13) ||| ((1 : Int32) <<< (nI w &&& 31))))) fun N1 => bd (f_X12_readHours_2 (nI kd) (4999 + 1) N1 0) f_X12_readLine_82) F (BS_w (K := fun N => bd (f_X12_step N) fun N1 => bd (f_X12_readHours_2 (nI kd) (4999 + 1) N1 0) f_X12_readLine_82) (v := fun N2 => (N2.1 0 13) ||| ((1 : Int32) <<< (nI w &&& 31))) (Or.inr (by decide)) (BS_step BS_hrs))
theorem or_n (a b : Nat) : nI a ||| nI b = nI (a ||| b) := by
  apply Int32.toBitVec_inj.mp
  show (Int32.ofNat a).toBitVec ||| (Int32.ofNat b).toBitVec = (Int32.ofNat (a ||| b)).toBitVec
  rw [Int32.toBitVec_ofNat', Int32.toBitVec_ofNat', Int32.toBitVec_ofNat', BitVec.ofNat_or]
theorem BS_snow {g : Gg} {v : Nat} (hv : v ≤ 9) : BS g fun N => bd (f_X12_readSnow_29 N (nI v)) f_X12_readLine_82 := by
  have cl : (fun N => bd (f_X12_readSnow_29 N (nI v)) f_X12_readLine_82) = fun N => wr (wI N 0 14 ((N.1 0 14) ||| ((1 : Int32) <<< (nI v &&& 31)))) fun N => bd (f_X12_step N) fun N1 => bd (f_X12_number N1 0 200) fun p => wr (wI p.2 5 (140 + v) p.1) f_X12_readLine_82 := funext fun N => by
    unfold f_X12_readSnow_29
    simp only [wr_e, bd_bd, bd_s, show (140 : Int32) + nI v = nI (140 + v) from nIa (a := 140) rfl, bd_ck, ck_n (show 140 + v < 210 by omega) (by decide), nI_clamp (show 140 + v < 2 ^ 31 by omega)]
  rw [cl]
  exact BS_w (v := fun N => (N.1 0 14) ||| ((1 : Int32) <<< (nI v &&& 31))) (Or.inr (by decide)) (BS_step (BS_num fun r => BS_w (v := fun _ => r) (Or.inl (by decide)) BS_82))
theorem ln_snow {g : Gg} (hg : OKg g) {X Y M N : Mm} {st q : Nat} (A : AS g X Y st q M N) (D : DR g.2.2.1 X Y) : LSg g q (f_X9_readSnow M (g.2.2.1 + 5)) (bd (f_X12_step N) fun p10 => bd (f_X12_readSnow p10) f_X12_readLine_82) := by
  have hd : 141 ≤ g.2.2.1 := by have := hg.2.2.2.1; omega
  obtain ⟨hi, sd, ss, ⟨u1, u2, u3⟩, ⟨e1, e2⟩, -⟩ := D.2.2.2.2.1
  unfold f_X9_readSnow
  have cl : ∀ N, bd (f_X12_readSnow N) f_X12_readLine_82 = bd (f_X12_furlongHere N) fun p => if p.2.1 0 19 = 0 then (if (((p.2.1 0 14) >>> (p.1 &&& 31)) &&& (1 : Int32)) = (1 : Int32) then bd (f_X12_fails p.2 4) fun p8 => bd (f_X12_readSnow_29 p8 p.1) f_X12_readLine_82 else bd (f_X12_readSnow_29 p.2 p.1) f_X12_readLine_82) else bd (f_X12_readSnow_29 p.2 p.1) f_X12_readLine_82 := fun N => by
    unfold f_X12_readSnow
    simp only [bd_bd, bd_nm, nm_x, bd_ite]
  simp only [cl]
  refine seq_rf (P := fun N => N) hg A.1 PW.id u1 e1 e2 (BS_if (A := fun N => if (((N.1 0 14) >>> ((0 : Int32) &&& 31)) &&& (1 : Int32)) = (1 : Int32) then bd (f_X12_fails N 4) fun p8 => bd (f_X12_readSnow_29 p8 0) f_X12_readLine_82 else bd (f_X12_readSnow_29 N 0) f_X12_readLine_82) (BS_snow (v := 0) (by decide))) (fun v M2 N2 st2 q2 v9 h2 A2 hv => ?_)
  have D2 : DR g.2.2.1 (wI X 1 11 (nI (max hi v))) (wI Y 0 15 (nI (max hi v))) := D.said hd (Or.inr (Or.inr ⟨rfl, rfl, max hi v, by omega, rfl, fun hi2 h9 e3 => by
    rw [e2] at e3
    have : hi = hi2 := (nI_eq (by omega) (by omega)).mp e3
    omega⟩))
  obtain ⟨hi2, sd2, s2, ⟨w1, w2, w3⟩, ⟨w4, w5⟩, -, ⟨w6, w7⟩, -⟩ := D2.2.2.2.2.1
  have m10 : M2.1 1 10 = nI s2 := by rw [A2.1.1.1 1 10 (by decide)]; exact w6
  have n14 : N2.1 0 14 = nI s2 := by rw [A2.1.2.1.1 0 14 (by decide)]; exact w7
  obtain ⟨B4a, B4b, B4c⟩ := A2.bad (c := 4) (by decide) (by decide)
  dsimp only
  rw [nm_x, hv, m10, n14, if_pos A2.1.2.2.2.2.1, show ((nI s2 >>> (nI v &&& 31)) &&& 1) = bt (nI s2) v from rfl, bt_t31 (by omega) (by omega)]
  by_cases z : s2.testBit v = true
  · rw [if_pos z, if_neg (by decide), if_pos rfl, show f_X9_refuse M2 4 (M2.1 1 6) = _ from B4a, bd_s, ck_t (Or.inl rfl), show f_X12_fails N2 4 = _ from B4b, bd_s]
    exact LSg.bad (K := fun N => bd (f_X12_readSnow_29 N (nI v)) f_X12_readLine_82) B4c (BS_snow v9)
  · rw [if_neg z, if_pos rfl, if_neg (by decide), one_sh v (by omega), or_n, wr_e]
    have sb : s2 ||| 2 ^ v < 1024 := Nat.or_lt_two_pow (n := 10) w3 (Nat.lt_of_lt_of_le (Nat.pow_lt_pow_right (by decide) (show v < 10 by omega)) (by decide))
    have A3 := (A2.wX (a := 1) (k := 10) (OX.s (by decide)) (nI (s2 ||| 2 ^ v))).wY (a := 0) (k := 14) (Or.inr (by decide)) (nI (s2 ||| 2 ^ v))
    have D3 := D2.said (k := 10) (kk := 14) (v := nI (s2 ||| 2 ^ v)) hd (Or.inr (Or.inl ⟨rfl, rfl, _, sb, rfl⟩))
    have c29 : bd (f_X12_readSnow_29 N2 (nI v)) f_X12_readLine_82 = bd (f_X12_step (wI N2 0 14 (nI (s2 ||| 2 ^ v)))) fun N1 => bd (f_X12_number N1 0 200) fun p => f_X12_readLine_82 (wI p.2 5 (140 + v) p.1) := by
      unfold f_X12_readSnow_29
      simp only [wr_e, bd_bd, bd_s, show (140 : Int32) + nI v = nI (140 + v) from nIa (a := 140) rfl, bd_ck, ck_n (show 140 + v < 210 by omega) (by decide), nI_clamp (show 140 + v < 2 ^ 31 by omega), n14, one_sh v (by omega), or_n]
    rw [c29]
    refine seq_rn (lo := 0) (hi := 200) (P := fun N => N) hg A3.1 PW.id (by decide) (by decide) (fun r => BS_w (K := f_X12_readLine_82) (v := fun _ => r) (Or.inl (by decide)) BS_82) (fun v4 M4 N4 st4 q4 h41 h42 h43 A4 hv4 => ?_)
    dsimp only
    rw [ck_n (show v < 10 by omega) (by omega), wr_e, nI_clamp (by omega), hv4]
    refine (seq_semi (P := fun N => wI N 5 (140 + v) (nI v4)) hg (A4.1.wX (OX.d (by omega) (by omega) (by omega) (by omega)) (nI v4)) (PW.w (Or.inl (by decide)) (nI v4)) (D3.snow (hi := max hi v) hd ?_ (by omega) (by omega)) (by have := A2.2.1; have := A4.2.1; omega)).ck
    rw [mIn (by decide), mIs]
