theorem wk_X7_9 : Cond.classLink "SnowSentries$Scene" 9 "SnowSentries$Man" ∈ TB := it_1 (List.mem_of_getElem? (i := 83) rfl) rfl
theorem wn_X6 : Cond.instantiable "SnowSentries$Man" 7 ∈ TB := it_1 (List.mem_of_getElem? (i := 114) rfl) rfl
theorem wc_X6_init : Cond.code y_X6_init prog_8_method_1_code 1 none ∈ TB := it_1 (List.mem_of_getElem? (i := 117) rfl) rfl
theorem wm_X7_37 : (("SnowSentries$Scene", 37, y_X6_init, "SnowSentries") : String × Nat × MethodName × String) ∈ nestL := List.mem_of_getElem? (i := 2) rfl
theorem ws_X6_init : Cond.instanceMethod y_X6_init ∈ TB := it_1 (List.mem_of_getElem? (i := 116) rfl) rfl
theorem hy_X6_init : (y_X6_init).cls ≠ "java/lang/invoke/MethodHandle" ∧ (y_X6_init).cls ≠ "java/lang/invoke/VarHandle" ∧ (parseMethodDescriptor (y_X6_init).desc).map (fun d => d.parameters.length) = some 0 := by decide +kernel
theorem wO_X7 : Cond.methodLink "SnowSentries$Scene" 3 Lib.objectInit ∈ TB := it_1 (List.mem_of_getElem? (i := 82) rfl) rfl
theorem wk_X7_30 : Cond.classLink "SnowSentries$Scene" 30 "SnowSentries$Braziers" ∈ TB := it_1 (List.mem_of_getElem? (i := 85) rfl) rfl
theorem wn_X0 : Cond.instantiable "SnowSentries$Braziers" 5 ∈ TB := it_1 (List.mem_of_getElem? (i := 86) rfl) rfl
theorem wc_X0_init : Cond.code y_X0_init prog_2_method_1_code 1 none ∈ TB := it_1 (List.mem_of_getElem? (i := 89) rfl) rfl
theorem ws_X0_init : Cond.instanceMethod y_X0_init ∈ TB := it_1 (List.mem_of_getElem? (i := 88) rfl) rfl
theorem hy_X0_init : (y_X0_init).cls ≠ "java/lang/invoke/MethodHandle" ∧ (y_X0_init).cls ≠ "java/lang/invoke/VarHandle" ∧ (parseMethodDescriptor (y_X0_init).desc).map (fun d => d.parameters.length) = some 0 := by decide +kernel
theorem wm_X7_32 : (("SnowSentries$Scene", 32, y_X0_init, "SnowSentries") : String × Nat × MethodName × String) ∈ nestL := List.mem_of_getElem? (i := 1) rfl
theorem d_X7_init_58 : DD prog_9_method_1_code 58 (.iload_n 1) 1 59 := ⟨by decide +kernel, rfl⟩
theorem d_X7_init_59 : DD prog_9_method_1_code 59 (.bipush 20) 2 61 := ⟨by decide +kernel, rfl⟩
theorem d_X7_init_61 : DJ prog_9_method_1_code 61 (fun o => .if_icmp .ge o) 83 3 64 := ⟨by decide +kernel, rfl⟩
theorem d_X7_init_83 : DD prog_9_method_1_code 83 (.return_) 1 84 := ⟨by decide +kernel, rfl⟩
theorem d_X7_init_64 : DD prog_9_method_1_code 64 (.aload_n 0) 1 65 := ⟨by decide +kernel, rfl⟩
theorem d_X7_init_65 : DD prog_9_method_1_code 65 (.getfield 11) 3 68 := ⟨by decide +kernel, rfl⟩
theorem d_X7_init_68 : DD prog_9_method_1_code 68 (.iload_n 1) 1 69 := ⟨by decide +kernel, rfl⟩
theorem d_X7_init_69 : DD prog_9_method_1_code 69 (.new 9) 3 72 := ⟨by decide +kernel, rfl⟩
theorem d_X7_init_72 : DD prog_9_method_1_code 72 (.dup) 1 73 := ⟨by decide +kernel, rfl⟩
theorem d_X7_init_73 : DD prog_9_method_1_code 73 (.invokespecial 37) 3 76 := ⟨by decide +kernel, rfl⟩
theorem d_X7_init_76 : DD prog_9_method_1_code 76 (.aastore) 1 77 := ⟨by decide +kernel, rfl⟩
theorem d_X7_init_77 : DD prog_9_method_1_code 77 (.iinc 1 1) 3 80 := ⟨by decide +kernel, rfl⟩
theorem d_X7_init_80 : DJ prog_9_method_1_code 80 (fun o => .goto o) 58 3 83 := ⟨by decide +kernel, rfl⟩
theorem d_X7_init_0 : DD prog_9_method_1_code 0 (.aload_n 0) 1 1 := ⟨by decide +kernel, rfl⟩
theorem d_X7_init_1 : DD prog_9_method_1_code 1 (.invokespecial 3) 3 4 := ⟨by decide +kernel, rfl⟩
theorem d_X7_init_4 : DD prog_9_method_1_code 4 (.aload_n 0) 1 5 := ⟨by decide +kernel, rfl⟩
theorem d_X7_init_5 : DD prog_9_method_1_code 5 (.bipush 20) 2 7 := ⟨by decide +kernel, rfl⟩
theorem d_X7_init_7 : DD prog_9_method_1_code 7 (.anewarray 9) 3 10 := ⟨by decide +kernel, rfl⟩
theorem d_X7_init_10 : DD prog_9_method_1_code 10 (.putfield 11) 3 13 := ⟨by decide +kernel, rfl⟩
theorem d_X7_init_13 : DD prog_9_method_1_code 13 (.aload_n 0) 1 14 := ⟨by decide +kernel, rfl⟩
theorem d_X7_init_14 : DD prog_9_method_1_code 14 (.bipush 10) 2 16 := ⟨by decide +kernel, rfl⟩
theorem d_X7_init_16 : DD prog_9_method_1_code 16 (.newarray .int) 2 18 := ⟨by decide +kernel, rfl⟩
theorem d_X7_init_18 : DD prog_9_method_1_code 18 (.putfield 17) 3 21 := ⟨by decide +kernel, rfl⟩
theorem d_X7_init_21 : DD prog_9_method_1_code 21 (.aload_n 0) 1 22 := ⟨by decide +kernel, rfl⟩
theorem d_X7_init_22 : DD prog_9_method_1_code 22 (.bipush 10) 2 24 := ⟨by decide +kernel, rfl⟩
theorem d_X7_init_24 : DD prog_9_method_1_code 24 (.newarray .int) 2 26 := ⟨by decide +kernel, rfl⟩
theorem d_X7_init_26 : DD prog_9_method_1_code 26 (.putfield 21) 3 29 := ⟨by decide +kernel, rfl⟩
theorem d_X7_init_29 : DD prog_9_method_1_code 29 (.aload_n 0) 1 30 := ⟨by decide +kernel, rfl⟩
theorem d_X7_init_30 : DD prog_9_method_1_code 30 (.bipush 10) 2 32 := ⟨by decide +kernel, rfl⟩
theorem d_X7_init_32 : DD prog_9_method_1_code 32 (.newarray .int) 2 34 := ⟨by decide +kernel, rfl⟩
theorem d_X7_init_34 : DD prog_9_method_1_code 34 (.putfield 24) 3 37 := ⟨by decide +kernel, rfl⟩
theorem d_X7_init_37 : DD prog_9_method_1_code 37 (.aload_n 0) 1 38 := ⟨by decide +kernel, rfl⟩
theorem d_X7_init_38 : DD prog_9_method_1_code 38 (.bipush 12) 2 40 := ⟨by decide +kernel, rfl⟩
theorem d_X7_init_40 : DD prog_9_method_1_code 40 (.newarray .int) 2 42 := ⟨by decide +kernel, rfl⟩
theorem d_X7_init_42 : DD prog_9_method_1_code 42 (.putfield 27) 3 45 := ⟨by decide +kernel, rfl⟩
theorem d_X7_init_45 : DD prog_9_method_1_code 45 (.aload_n 0) 1 46 := ⟨by decide +kernel, rfl⟩
theorem d_X7_init_46 : DD prog_9_method_1_code 46 (.new 30) 3 49 := ⟨by decide +kernel, rfl⟩
theorem d_X7_init_49 : DD prog_9_method_1_code 49 (.dup) 1 50 := ⟨by decide +kernel, rfl⟩
theorem d_X7_init_50 : DD prog_9_method_1_code 50 (.invokespecial 32) 3 53 := ⟨by decide +kernel, rfl⟩
theorem d_X7_init_53 : DD prog_9_method_1_code 53 (.putfield 33) 3 56 := ⟨by decide +kernel, rfl⟩
theorem d_X7_init_56 : DD prog_9_method_1_code 56 (.iconst 0) 1 57 := ⟨by decide +kernel, rfl⟩
theorem d_X7_init_57 : DD prog_9_method_1_code 57 (.istore_n 1) 1 58 := ⟨by decide +kernel, rfl⟩
def men (G : GG) (a j : Nat) : va_E := .inl (gC G 4, 20, .inr (.inr (.inr (.inr (fun t => if t < j then some (gB G + (a + 1 + 10 + t)) else none)))))
def ScE (G : GG) (a j : Nat) : Nat → va_E := up1 (EU 0 G Mz) (a + 1) (men G a j)
theorem ScE_n (G : GG) (a j i : Nat) (h : i ≠ a + 1) : ScE G a j i = EU 0 G Mz i := up1_n h
theorem men_0 (G : GG) (a : Nat) : (.inl (gC G 4, 20, .inr (.inr (.inr (.inr (fun _ => none))))) : va_E) = men G a 0 := by
  unfold men
  rw [show (fun t => if t < 0 then some (gB G + (a + 1 + 10 + t)) else none) = (fun _ => none : Nat → Option Nat) from funext fun t => if_neg (Nat.not_lt_zero t)]
theorem men_up (G : GG) (a j : Nat) {i : Int32} (hi : i.toNatClampNeg = j) : (.inl (gC G 4, 20, .inr (.inr (.inr (.inr (va_up (fun t => if t < j then some (gB G + (a + 1 + 10 + t)) else none) i.toNatClampNeg (some (gB G + (a + 11 + j)))))))) : va_E) = men G a (j + 1) := by
  have e : va_up (fun t => if t < j then some (gB G + (a + 1 + 10 + t)) else none) i.toNatClampNeg (some (gB G + (a + 11 + j))) = fun t => if t < j + 1 then some (gB G + (a + 1 + 10 + t)) else none := by
    rw [hi]
    funext t
    unfold va_up
    by_cases h : t = j
    · subst h
      rw [if_pos rfl, if_pos (Nat.lt_succ_self t), show a + 1 + 10 + t = a + 11 + t by omega]
    · rw [if_neg h]
      dsimp only
      by_cases h2 : t < j
      · rw [if_pos h2, if_pos (by omega)]
      · rw [if_neg h2, if_neg (by omega)]
  rw [e]
  rfl
theorem n_X7_loop {p : Program} {l : Launch} {e : Env} {s : State} {m : MethodId} {args : Array Value} {below : List Frame} {meth : Method} {c : Code} {G : GG} {a : Nat} (h0 : kU 0 a = 7) (C : GX p s m args c prog_9_method_1_code 2 "SnowSentries$Scene") (K : KC G s) (hs0 : s.heap.size = gB G + (a + 1)) (hlk : meth.locks = false) (hr : meth.sig.returnType = none) : ∀ d j c' s', j + d = 20 → c' = 10 + j → s' = 91 + 7 * j →
    Zg p l e { frames := 2, cells := 30, slots := 231, locals := 32 } s m args below meth c 2 (MQ below (CNq G a 30 (EU 0 G Mz)) args s 30 231 (Aa G a)) c' s' (FC s G a (a + 11 + j) (ScE G a j)) 58 [(1, .int (nI j)), (0, .ref (gB G + a))] [] := by
  intro d
  induction d with
  | zero =>
    intro j c' s' hj hc hs
    obtain rfl : j = 20 := by omega
    subst hc hs
    refine g_iload_n 0 C d_X7_init_58 rfl rfl ?_
    refine g_bipush (v := 20) C d_X7_init_59 rfl ?_
    refine g_icmp_ge C d_X7_init_61 (fun _ => ?_) (fun h => absurd (by decide) h)
    refine k_vret C hlk hr (by omega) (fun i h1 h2 => ?_) rfl rfl d_X7_init_83
    by_cases hi : i = a + 1
    · subst hi
      exact (up1_s _ _ _).trans (E_28 (k_7_1 h0) G (Mz.1 _) (Mz.2 _)).symm
    · exact up1_n hi
  | succ d ih =>
    intro j c' s' hj hc hs
    have hj2 : j < 20 := by omega
    refine g_iload_n 0 C d_X7_init_58 rfl rfl ?_
    refine g_bipush (v := 20) C d_X7_init_59 rfl ?_
    refine g_icmp_ge C d_X7_init_61 (fun h => absurd h (show ¬ (20 : Int32) ≤ nI j from nI_ge (b := 20) hj2 (by decide))) (fun _ => ?_)
    refine g_aload_n (x := gB G + a) 1 C d_X7_init_64 rfl rfl ?_
    refine k_get (a := a) (k := 1) (v := .ref (gB G + (a + 1))) C K.1 (by omega) (by omega) ((up1_n (by omega)).trans (E_7 h0 G (Mz.1 _) (Mz.2 _))) rfl inX7 (by decide) wf_X7_11 rfl d_X7_init_65 ?_
    refine g_iload_n 0 C d_X7_init_68 rfl rfl ?_
    refine k_new (ci := 6) (fs := [.int 0, .int 0, .int 0, .int 0, .int 0, .int 0, .int 0]) C K.1 (by omega) (by omega) (by omega) inX6 tyX6 tyX6_ok wk_X7_9 wn_X6 wi_X6 rfl df_X6 (by show c' + 1 ≤ 30; omega) (by show s' + 7 ≤ 231; omega) d_X7_init_69 ?_
    refine g_dup C d_X7_init_72 rfl ?_
    have hk6 : kU 0 (a + 11 + j) = 6 := by
      have := k_28 (k_7_1 h0) hj2
      rw [show a + 1 + 10 + j = a + 11 + j by omega] at this
      exact this
    refine k_cN (a := a + 11 + j) C K (n_X6_init l G hk6) (by omega) (by omega) (by omega) (up1_s _ _ _) wc_X6_init wm_X7_37 ws_X6_init wi_X6 rfl hy_X6_init ⟨(Nat.le_of_ble_eq_true rfl), (Nat.le_of_ble_eq_true rfl)⟩ (Nat.le_of_ble_eq_true rfl) ⟨(by show c' + 1 + 0 ≤ 30; omega), (by show s' + 7 + 0 ≤ 231; omega)⟩ d_X7_init_73 ?_
    refine k_ast (a := a + 1) (b := a + 11 + j) (t := 4) (ci := 6) (N := 20) C K.1 (by omega) (by omega) (((jn_lt (by omega)).trans (up1_n (by omega))).trans (up1_s _ _ _)) rfl (by omega) (by omega) ((jn_ge (Nat.le_refl _)).trans (E_6 hk6 G (Mz.1 _) (Mz.2 _))) rfl (vp_in_nI hj2 (by decide)) d_X7_init_76 ?_
    refine g_iinc 0 C d_X7_init_77 rfl (v := nI (j + 1)) (nI_succ j).symm (by decide) rfl ?_
    refine g_goto C d_X7_init_80 ?_
    refine g_F (FC.c (fun i h1 h2 => ?_)) (ih (j + 1) _ _ (by omega) (by omega) (by omega))
    by_cases hi : i = a + 1
    · subst hi
      exact ((up1_s _ _ _).trans (men_up G a j (nI_clamp (by omega)))).trans (up1_s _ _ _).symm
    · refine ((up1_n hi).trans ?_).trans (up1_n hi).symm
      by_cases hi2 : i < a + 11 + j
      · exact ((jn_lt hi2).trans (up1_n (by omega))).trans (up1_n hi)
      · exact jn_ge (by omega)
theorem n_X7_init (l : Launch) (G : GG) {a : Nat} (h0 : kU 0 a = 7) : CN l G y_X7_init prog_9_method_1_code 2 2 32 30 231 a (.inr (7, [.int 0, .null, .null, .null, .null, .null, .null])) (EU 0 G Mz) := by
  refine CN.of (by decide) rfl (by decide) ?_
  intro p e s m args below meth c C K hs0 hlk hr hnm
  refine g_aload_n (x := gB G + a) 0 C d_X7_init_0 rfl rfl ?_
  refine k_obj C wO_X7 wOi wOc (Nat.le_of_ble_eq_true rfl) (Nat.le_of_ble_eq_true rfl) d_X7_init_1 ?_
  refine g_aload_n (x := gB G + a) 0 C d_X7_init_4 rfl rfl ?_
  refine g_bipush (v := 20) C d_X7_init_5 rfl ?_
  refine k_anew (t := 4) (N := 20) C K (by omega) (by omega) (by omega) wk_X7_9 K.2.2.1 rfl (by decide) rfl (by decide) (Nat.le_of_ble_eq_true rfl) (Nat.le_of_ble_eq_true rfl) d_X7_init_7 ?_
  refine k_put (a := a) (k := 1) (ty := .array (.object "SnowSentries$Man")) C K.1 (by omega) (by omega) (up1_n (by omega)) rfl inX7 tyX7 tyX7_ok nmX7 (by decide) wf_X7_11 (Or.inr ⟨rfl, hnm, rfl⟩) (by decide +kernel) rfl rfl (Nat.le_of_ble_eq_true rfl) d_X7_init_10 ?_
  refine g_aload_n (x := gB G + a) 0 C d_X7_init_13 rfl rfl ?_
  refine g_bipush (v := 10) C d_X7_init_14 rfl ?_
  refine k_newa (t := 0) (N := 10) (atype := .int) (a0 := (10, .inl fun _ => 0)) C K (by omega) (by omega) (by omega) wA_int rfl rfl (fun _ _ h => h) (fun _ => rfl) (by decide) rfl (by decide) (Nat.le_of_ble_eq_true rfl) (Nat.le_of_ble_eq_true rfl) d_X7_init_16 ?_
  refine k_put (a := a) (k := 2) (ty := .array .int) C K.1 (by omega) (by omega) ((up1_n (by omega)).trans (up1_s _ _ _)) rfl inX7 tyX7 tyX7_ok nmX7 (by decide) wf_X7_17 (Or.inr ⟨rfl, hnm, rfl⟩) (by decide +kernel) rfl rfl (Nat.le_of_ble_eq_true rfl) d_X7_init_18 ?_
  refine g_aload_n (x := gB G + a) 0 C d_X7_init_21 rfl rfl ?_
  refine g_bipush (v := 10) C d_X7_init_22 rfl ?_
  refine k_newa (t := 0) (N := 10) (atype := .int) (a0 := (10, .inl fun _ => 0)) C K (by omega) (by omega) (by omega) wA_int rfl rfl (fun _ _ h => h) (fun _ => rfl) (by decide) rfl (by decide) (Nat.le_of_ble_eq_true rfl) (Nat.le_of_ble_eq_true rfl) d_X7_init_24 ?_
  refine k_put (a := a) (k := 3) (ty := .array .int) C K.1 (by omega) (by omega) ((up1_n (by omega)).trans (up1_s _ _ _)) rfl inX7 tyX7 tyX7_ok nmX7 (by decide) wf_X7_21 (Or.inr ⟨rfl, hnm, rfl⟩) (by decide +kernel) rfl rfl (Nat.le_of_ble_eq_true rfl) d_X7_init_26 ?_
  refine g_aload_n (x := gB G + a) 0 C d_X7_init_29 rfl rfl ?_
  refine g_bipush (v := 10) C d_X7_init_30 rfl ?_
  refine k_newa (t := 0) (N := 10) (atype := .int) (a0 := (10, .inl fun _ => 0)) C K (by omega) (by omega) (by omega) wA_int rfl rfl (fun _ _ h => h) (fun _ => rfl) (by decide) rfl (by decide) (Nat.le_of_ble_eq_true rfl) (Nat.le_of_ble_eq_true rfl) d_X7_init_32 ?_
  refine k_put (a := a) (k := 4) (ty := .array .int) C K.1 (by omega) (by omega) ((up1_n (by omega)).trans (up1_s _ _ _)) rfl inX7 tyX7 tyX7_ok nmX7 (by decide) wf_X7_24 (Or.inr ⟨rfl, hnm, rfl⟩) (by decide +kernel) rfl rfl (Nat.le_of_ble_eq_true rfl) d_X7_init_34 ?_
  refine g_aload_n (x := gB G + a) 0 C d_X7_init_37 rfl rfl ?_
  refine g_bipush (v := 12) C d_X7_init_38 rfl ?_
  refine k_newa (t := 0) (N := 12) (atype := .int) (a0 := (12, .inl fun _ => 0)) C K (by omega) (by omega) (by omega) wA_int rfl rfl (fun _ _ h => h) (fun _ => rfl) (by decide) rfl (by decide) (Nat.le_of_ble_eq_true rfl) (Nat.le_of_ble_eq_true rfl) d_X7_init_40 ?_
  refine k_put (a := a) (k := 5) (ty := .array .int) C K.1 (by omega) (by omega) ((up1_n (by omega)).trans (up1_s _ _ _)) rfl inX7 tyX7 tyX7_ok nmX7 (by decide) wf_X7_27 (Or.inr ⟨rfl, hnm, rfl⟩) (by decide +kernel) rfl rfl (Nat.le_of_ble_eq_true rfl) d_X7_init_42 ?_
  refine g_aload_n (x := gB G + a) 0 C d_X7_init_45 rfl rfl ?_
  refine k_new (ci := 0) (fs := [.int 0, .null, .null, .null, .null]) C K.1 (by omega) (by omega) (by omega) inX0 tyX0 tyX0_ok wk_X7_30 wn_X0 wi_X0 rfl df_X0 (Nat.le_of_ble_eq_true rfl) (Nat.le_of_ble_eq_true rfl) d_X7_init_46 ?_
  refine g_dup C d_X7_init_49 rfl ?_
  refine k_cN (a := a + 6) C K (n_X0_init l G (k_7_6 h0)) (by omega) (by omega) (by omega) (up1_s _ _ _) wc_X0_init wm_X7_32 ws_X0_init wi_X0 rfl hy_X0_init ⟨(Nat.le_of_ble_eq_true rfl), (Nat.le_of_ble_eq_true rfl)⟩ (Nat.le_of_ble_eq_true rfl) ⟨(Nat.le_of_ble_eq_true rfl), (Nat.le_of_ble_eq_true rfl)⟩ d_X7_init_50 ?_
  refine k_put (a := a) (k := 6) (ty := .object "SnowSentries$Braziers") C K.1 (by omega) (by omega) (((jn_lt (by omega)).trans (up1_n (by omega))).trans (up1_s _ _ _)) rfl inX7 tyX7 tyX7_ok nmX7 (by decide) wf_X7_33 (Or.inr ⟨rfl, hnm, rfl⟩) (by decide +kernel) rfl rfl (Nat.le_of_ble_eq_true rfl) d_X7_init_53 ?_
  refine g_iconst (v := 0) C d_X7_init_56 rfl ?_
  refine g_istore_n C d_X7_init_57 rfl (by decide) rfl ?_
  refine g_F (FC.c (fun i h1 h2 => ?_)) (n_X7_loop h0 C K hs0 hlk hr 20 0 _ _ rfl rfl rfl)
  have hi : i = a ∨ i = a + 1 ∨ i = a + 2 ∨ i = a + 3 ∨ i = a + 4 ∨ i = a + 5 ∨ i = a + 6 ∨ i = a + 7 ∨ i = a + 8 ∨ i = a + 9 ∨ i = a + 10 := by omega
  rcases hi with hi | hi | hi | hi | hi | hi | hi | hi | hi | hi | hi
  · rw [hi]
    refine Eq.trans ?_ (ScE_n G a 0 (a) (by omega)).symm
    exact (up1_s _ _ _).trans (E_7 (h0) G (Mz.1 _) (Mz.2 _)).symm
  · rw [hi]
    exact ((((((((((((((up1_n (by omega)).trans (jn_lt (by omega))).trans (up1_n (by omega))).trans (up1_n (by omega))).trans (up1_n (by omega))).trans (up1_n (by omega))).trans (up1_n (by omega))).trans (up1_n (by omega))).trans (up1_n (by omega))).trans (up1_n (by omega))).trans (up1_n (by omega))).trans (up1_n (by omega))).trans (up1_s _ _ _)).trans (men_0 G a)).trans (up1_s _ _ _).symm
  · rw [hi]
    refine Eq.trans ?_ (ScE_n G a 0 (a + 2) (by omega)).symm
    exact (((((((((((up1_n (by omega)).trans (jn_lt (by omega))).trans (up1_n (by omega))).trans (up1_n (by omega))).trans (up1_n (by omega))).trans (up1_n (by omega))).trans (up1_n (by omega))).trans (up1_n (by omega))).trans (up1_n (by omega))).trans (up1_n (by omega))).trans (up1_s _ _ _)).trans (E_21 (k_7_2 h0) G (Mz.1 _) (Mz.2 _)).symm
  · rw [hi]
    refine Eq.trans ?_ (ScE_n G a 0 (a + 3) (by omega)).symm
    exact (((((((((up1_n (by omega)).trans (jn_lt (by omega))).trans (up1_n (by omega))).trans (up1_n (by omega))).trans (up1_n (by omega))).trans (up1_n (by omega))).trans (up1_n (by omega))).trans (up1_n (by omega))).trans (up1_s _ _ _)).trans (E_21 (k_7_3 h0) G (Mz.1 _) (Mz.2 _)).symm
  · rw [hi]
    refine Eq.trans ?_ (ScE_n G a 0 (a + 4) (by omega)).symm
    exact (((((((up1_n (by omega)).trans (jn_lt (by omega))).trans (up1_n (by omega))).trans (up1_n (by omega))).trans (up1_n (by omega))).trans (up1_n (by omega))).trans (up1_s _ _ _)).trans (E_21 (k_7_4 h0) G (Mz.1 _) (Mz.2 _)).symm
  · rw [hi]
    refine Eq.trans ?_ (ScE_n G a 0 (a + 5) (by omega)).symm
    exact (((((up1_n (by omega)).trans (jn_lt (by omega))).trans (up1_n (by omega))).trans (up1_n (by omega))).trans (up1_s _ _ _)).trans (E_22 (k_7_5 h0) G (Mz.1 _) (Mz.2 _)).symm
  · rw [hi]
    refine Eq.trans ?_ (ScE_n G a 0 (a + 6) (by omega)).symm
    exact ((up1_n (by omega)).trans (jn_ge (by omega)))
  · rw [hi]
    refine Eq.trans ?_ (ScE_n G a 0 (a + 7) (by omega)).symm
    exact ((up1_n (by omega)).trans (jn_ge (by omega)))
  · rw [hi]
    refine Eq.trans ?_ (ScE_n G a 0 (a + 8) (by omega)).symm
    exact ((up1_n (by omega)).trans (jn_ge (by omega)))
  · rw [hi]
    refine Eq.trans ?_ (ScE_n G a 0 (a + 9) (by omega)).symm
    exact ((up1_n (by omega)).trans (jn_ge (by omega)))
  · rw [hi]
    refine Eq.trans ?_ (ScE_n G a 0 (a + 10) (by omega)).symm
    exact ((up1_n (by omega)).trans (jn_ge (by omega)))
