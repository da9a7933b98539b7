-- THE LAW'S LOOP
theorem l_switch {p : Program} {l : Launch} {e : Env} {s : State} {m : MethodId} {below : List Frame} {meth : Method} {c : Code} {b Ln cells slots : Nat} {xs : Nat → Int32} {Q : State → Prop} {G G1 : GG} {i k : Nat} {M N : Mm} (C : GX p s m #[Value.ref b] c code 4 "SnowSentriesLaw") (hX : va_X b Ln xs s s.heap) (hb : b < s.heap.size) (hL : Ln ≤ 320) (hg : LG s G G1) (hcs : cells ≤ room_1.cells ∧ slots ≤ room_1.slots) (hi : i + 5 ≤ Ln) (hk : k < 64) (R0 : Rel M N) (hK : ∀ M2 N2, Rel M2 N2 → Zg p l e room_1 s m #[Value.ref b] below meth c 4 Q cells slots (FL s G G1 M2 N2) 1596 [(3, .int (nI i)), (2, .ref (gB G1 + 0)), (1, .ref (gB G + 0)), (0, .ref b)] []) : Zg p l e room_1 s m #[Value.ref b] below meth c 4 Q cells slots (FL s G G1 M N) 32 [(3, .int (nI i)), (2, .ref (gB G1 + 0)), (1, .ref (gB G + 0)), (0, .ref b)] [.int (nI k)] := by
  by_cases g : k < 43
  · have hk2 : k = 0 ∨ k = 1 ∨ k = 2 ∨ k = 3 ∨ k = 4 ∨ k = 5 ∨ k = 6 ∨ k = 7 ∨ k = 8 ∨ k = 9 ∨ k = 10 ∨ k = 11 ∨ k = 12 ∨ k = 13 ∨ k = 14 ∨ k = 15 ∨ k = 16 ∨ k = 17 ∨ k = 18 ∨ k = 19 ∨ k = 20 ∨ k = 21 ∨ k = 22 ∨ k = 23 ∨ k = 24 ∨ k = 25 ∨ k = 26 ∨ k = 27 ∨ k = 28 ∨ k = 29 ∨ k = 30 ∨ k = 31 ∨ k = 32 ∨ k = 33 ∨ k = 34 ∨ k = 35 ∨ k = 36 ∨ k = 37 ∨ k = 38 ∨ k = 39 ∨ k = 40 ∨ k = 41 ∨ k = 42 := by omega
    rcases hk2 with rfl | rfl | rfl | rfl | rfl | rfl | rfl | rfl | rfl | rfl | rfl | rfl | rfl | rfl | rfl | rfl | rfl | rfl | rfl | rfl | rfl | rfl | rfl | rfl | rfl | rfl | rfl | rfl | rfl | rfl | rfl | rfl | rfl | rfl | rfl | rfl | rfl | rfl | rfl | rfl | rfl | rfl | rfl
    · exact g_tsw (tgt := 220) C dl_32 (Or.inr ⟨188, by decide, by decide, rfl, by decide⟩) (lc_0 C hX hb hL hg hcs hi R0 hK)
    · exact g_tsw (tgt := 273) C dl_32 (Or.inr ⟨241, by decide, by decide, rfl, by decide⟩) (lc_1 C hX hb hL hg hcs hi R0 hK)
    · exact g_tsw (tgt := 296) C dl_32 (Or.inr ⟨264, by decide, by decide, rfl, by decide⟩) (lc_2 C hX hb hL hg hcs hi R0 hK)
    · exact g_tsw (tgt := 309) C dl_32 (Or.inr ⟨277, by decide, by decide, rfl, by decide⟩) (lc_3 C hX hb hL hg hcs hi R0 hK)
    · exact g_tsw (tgt := 322) C dl_32 (Or.inr ⟨290, by decide, by decide, rfl, by decide⟩) (lc_4 C hX hb hL hg hcs hi R0 hK)
    · exact g_tsw (tgt := 345) C dl_32 (Or.inr ⟨313, by decide, by decide, rfl, by decide⟩) (lc_5 C hX hb hL hg hcs hi R0 hK)
    · exact g_tsw (tgt := 378) C dl_32 (Or.inr ⟨346, by decide, by decide, rfl, by decide⟩) (lc_6 C hX hb hL hg hcs hi R0 hK)
    · exact g_tsw (tgt := 411) C dl_32 (Or.inr ⟨379, by decide, by decide, rfl, by decide⟩) (lc_7 C hX hb hL hg hcs hi R0 hK)
    · exact g_tsw (tgt := 454) C dl_32 (Or.inr ⟨422, by decide, by decide, rfl, by decide⟩) (lc_8 C hX hb hL hg hcs hi R0 hK)
    · exact g_tsw (tgt := 487) C dl_32 (Or.inr ⟨455, by decide, by decide, rfl, by decide⟩) (lc_9 C hX hb hL hg hcs hi R0 hK)
    · exact g_tsw (tgt := 520) C dl_32 (Or.inr ⟨488, by decide, by decide, rfl, by decide⟩) (lc_10 C hX hb hL hg hcs hi R0 hK)
    · exact g_tsw (tgt := 553) C dl_32 (Or.inr ⟨521, by decide, by decide, rfl, by decide⟩) (lc_11 C hX hb hL hg hcs hi R0 hK)
    · exact g_tsw (tgt := 586) C dl_32 (Or.inr ⟨554, by decide, by decide, rfl, by decide⟩) (lc_12 C hX hb hL hg hcs hi R0 hK)
    · exact g_tsw (tgt := 609) C dl_32 (Or.inr ⟨577, by decide, by decide, rfl, by decide⟩) (lc_13 C hX hb hL hg hcs hi R0 hK)
    · exact g_tsw (tgt := 662) C dl_32 (Or.inr ⟨630, by decide, by decide, rfl, by decide⟩) (lc_14 C hX hb hL hg hcs hi R0 hK)
    · exact g_tsw (tgt := 685) C dl_32 (Or.inr ⟨653, by decide, by decide, rfl, by decide⟩) (lc_15 C hX hb hL hg hcs hi R0 hK)
    · exact g_tsw (tgt := 728) C dl_32 (Or.inr ⟨696, by decide, by decide, rfl, by decide⟩) (lc_16 C hX hb hL hg hcs hi R0 hK)
    · exact g_tsw (tgt := 771) C dl_32 (Or.inr ⟨739, by decide, by decide, rfl, by decide⟩) (lc_17 C hX hb hL hg hcs hi R0 hK)
    · exact g_tsw (tgt := 830) C dl_32 (Or.inr ⟨798, by decide, by decide, rfl, by decide⟩) (lc_18 C hX hb hL hg hcs hi R0 hK)
    · exact g_tsw (tgt := 853) C dl_32 (Or.inr ⟨821, by decide, by decide, rfl, by decide⟩) (lc_19 C hX hb hL hg hcs hi R0 hK)
    · exact g_tsw (tgt := 866) C dl_32 (Or.inr ⟨834, by decide, by decide, rfl, by decide⟩) (lc_20 C hX hb hL hg hcs hi R0 hK)
    · exact g_tsw (tgt := 879) C dl_32 (Or.inr ⟨847, by decide, by decide, rfl, by decide⟩) (lc_21 C hX hb hL hg hcs hi R0 hK)
    · exact g_tsw (tgt := 922) C dl_32 (Or.inr ⟨890, by decide, by decide, rfl, by decide⟩) (lc_22 C hX hb hL hg hcs hi R0 hK)
    · exact g_tsw (tgt := 955) C dl_32 (Or.inr ⟨923, by decide, by decide, rfl, by decide⟩) (lc_23 C hX hb hL hg hcs hi R0 hK)
    · exact g_tsw (tgt := 988) C dl_32 (Or.inr ⟨956, by decide, by decide, rfl, by decide⟩) (lc_24 C hX hb hL hg hcs hi R0 hK)
    · exact g_tsw (tgt := 1021) C dl_32 (Or.inr ⟨989, by decide, by decide, rfl, by decide⟩) (lc_25 C hX hb hL hg hcs hi R0 hK)
    · exact g_tsw (tgt := 1064) C dl_32 (Or.inr ⟨1032, by decide, by decide, rfl, by decide⟩) (lc_26 C hX hb hL hg hcs hi R0 hK)
    · exact g_tsw (tgt := 1117) C dl_32 (Or.inr ⟨1085, by decide, by decide, rfl, by decide⟩) (lc_27 C hX hb hL hg hcs hi R0 hK)
    · exact g_tsw (tgt := 1150) C dl_32 (Or.inr ⟨1118, by decide, by decide, rfl, by decide⟩) (lc_28 C hX hb hL hg hcs hi R0 hK)
    · exact g_tsw (tgt := 1193) C dl_32 (Or.inr ⟨1161, by decide, by decide, rfl, by decide⟩) (lc_29 C hX hb hL hg hcs hi R0 hK)
    · exact g_tsw (tgt := 1216) C dl_32 (Or.inr ⟨1184, by decide, by decide, rfl, by decide⟩) (lc_30 C hX hb hL hg hcs hi R0 hK)
    · exact g_tsw (tgt := 1229) C dl_32 (Or.inr ⟨1197, by decide, by decide, rfl, by decide⟩) (lc_31 C hX hb hL hg hcs hi R0 hK)
    · exact g_tsw (tgt := 1252) C dl_32 (Or.inr ⟨1220, by decide, by decide, rfl, by decide⟩) (lc_32 C hX hb hL hg hcs hi R0 hK)
    · exact g_tsw (tgt := 1275) C dl_32 (Or.inr ⟨1243, by decide, by decide, rfl, by decide⟩) (lc_33 C hX hb hL hg hcs hi R0 hK)
    · exact g_tsw (tgt := 1329) C dl_32 (Or.inr ⟨1297, by decide, by decide, rfl, by decide⟩) (lc_34 C hX hb hL hg hcs hi R0 hK)
    · exact g_tsw (tgt := 1352) C dl_32 (Or.inr ⟨1320, by decide, by decide, rfl, by decide⟩) (lc_35 C hX hb hL hg hcs hi R0 hK)
    · exact g_tsw (tgt := 1375) C dl_32 (Or.inr ⟨1343, by decide, by decide, rfl, by decide⟩) (lc_36 C hX hb hL hg hcs hi R0 hK)
    · exact g_tsw (tgt := 1398) C dl_32 (Or.inr ⟨1366, by decide, by decide, rfl, by decide⟩) (lc_37 C hX hb hL hg hcs hi R0 hK)
    · exact g_tsw (tgt := 1421) C dl_32 (Or.inr ⟨1389, by decide, by decide, rfl, by decide⟩) (lc_38 C hX hb hL hg hcs hi R0 hK)
    · exact g_tsw (tgt := 1464) C dl_32 (Or.inr ⟨1432, by decide, by decide, rfl, by decide⟩) (lc_39 C hX hb hL hg hcs hi R0 hK)
    · exact g_tsw (tgt := 1507) C dl_32 (Or.inr ⟨1475, by decide, by decide, rfl, by decide⟩) (lc_40 C hX hb hL hg hcs hi R0 hK)
    · exact g_tsw (tgt := 1560) C dl_32 (Or.inr ⟨1528, by decide, by decide, rfl, by decide⟩) (lc_41 C hX hb hL hg hcs hi R0 hK)
    · exact g_tsw (tgt := 1573) C dl_32 (Or.inr ⟨1541, by decide, by decide, rfl, by decide⟩) (lc_42 C hX hb hL hg hcs hi R0 hK)
  · exact g_tsw (tgt := 1596) C dl_32 (Or.inl ⟨Or.inr (by rw [nI_toInt (by omega)]; omega), by decide⟩) (hK _ _ R0)
theorem l_loop {p : Program} {l : Launch} {e : Env} {s : State} {m : MethodId} {below : List Frame} {meth : Method} {c : Code} {b Ln cells slots : Nat} {xs : Nat → Int32} {Q : State → Prop} {G G1 : GG} (C : GX p s m #[Value.ref b] c code 4 "SnowSentriesLaw") (hX : va_X b Ln xs s s.heap) (hb : b < s.heap.size) (hL : Ln ≤ 320) (hg : LG s G G1) (hcs : cells ≤ room_1.cells ∧ slots ≤ room_1.slots) (hE : ∀ M N i, Zg p l e room_1 s m #[Value.ref b] below meth c 4 Q cells slots (FL s G G1 M N) 1602 [(3, .int (nI i)), (2, .ref (gB G1 + 0)), (1, .ref (gB G + 0)), (0, .ref b)] []) : ∀ d i M N, Ln < i + 5 * d + 5 → i ≤ Ln + 5 → Rel M N → Zg p l e room_1 s m #[Value.ref b] below meth c 4 Q cells slots (FL s G G1 M N) 18 [(3, .int (nI i)), (2, .ref (gB G1 + 0)), (1, .ref (gB G + 0)), (0, .ref b)] [] := by
  intro d
  induction d with
  | zero =>
    intro i M N h1 h2 R0
    refine g_iload_n (x := nI i) 0 C dl_18 rfl rfl ?_
    refine g_aload_n (x := b) 3 C dl_19 rfl rfl ?_
    refine g_slen C hX hb dl_20 ?_
    refine g_iconst (v := 5) C dl_21 rfl ?_
    refine g_isub C dl_22 ?_
    refine g_icmp_gt (tgt := 1602) C dl_23 (fun _ => hE M N i) (fun z => absurd ?_ z)
    by_cases g : 5 ≤ Ln
    · rw [show nI Ln - 5 = nI (Ln - 5) from pk_sub (b := 5) g]
      exact nI_lt (by omega) (by omega)
    · exact Int32.lt_of_lt_of_le (show nI Ln - nI 5 < 0 from pk_sneg (by omega) (by omega)) (nI_pos' (by omega))
  | succ d ih =>
    intro i M N h1 h2 R0
    refine g_iload_n (x := nI i) 0 C dl_18 rfl rfl ?_
    refine g_aload_n (x := b) 3 C dl_19 rfl rfl ?_
    refine g_slen C hX hb dl_20 ?_
    refine g_iconst (v := 5) C dl_21 rfl ?_
    refine g_isub C dl_22 ?_
    by_cases hi : i + 5 ≤ Ln
    · rw [show nI Ln - 5 = nI (Ln - 5) from pk_sub (b := 5) (by omega)]
      refine g_icmp_gt (tgt := 1602) C dl_23 (fun z => absurd z (nI_nlt (by omega) (by omega))) (fun _ => ?_)
      refine g_aload_n (x := b) 3 C dl_26 rfl rfl ?_
      refine g_iload_n (x := nI i) 0 C dl_27 rfl rfl ?_
      refine g_sld C hX hb (nI_in (by omega) (by omega)) dl_28 ?_
      refine g_bipush (v := 63) C dl_29 rfl ?_
      refine g_iand C dl_31 ?_
      obtain ⟨k, hk, ek⟩ := pk_andE (xs (nI i).toNatClampNeg) (m := 63) 6 (by decide)
      rw [ek]
      refine l_switch C hX hb hL hg hcs hi hk R0 (fun M2 N2 R2 => ?_)
      refine g_iinc (x := nI i) (v := nI (i + 5)) 0 C dl_1596 rfl (nIa (b := 5) rfl) (by decide) rfl ?_
      refine g_goto (tgt := 18) C dl_1599 ?_
      exact ih (i + 5) M2 N2 (by omega) (by omega) R2
    · refine g_icmp_gt (tgt := 1602) C dl_23 (fun _ => hE M N i) (fun z => absurd ?_ z)
      by_cases g : 5 ≤ Ln
      · rw [show nI Ln - 5 = nI (Ln - 5) from pk_sub (b := 5) g]
        exact nI_lt (by omega) (by omega)
      · exact Int32.lt_of_lt_of_le (show nI Ln - nI 5 < 0 from pk_sneg (by omega) (by omega)) (nI_pos' (by omega))
