theorem wO_X4 : Cond.methodLink "SnowSentries$Land" 3 Lib.objectInit ∈ TB := it_2 (List.mem_of_getElem? (i := 89) rfl) rfl
theorem wk_X4_15 : Cond.classLink "SnowSentries$Land" 15 "SnowSentries$Law" ∈ TB := it_2 (List.mem_of_getElem? (i := 90) rfl) rfl
theorem wn_X5 : Cond.instantiable "SnowSentries$Law" 3 ∈ TB := it_2 (List.mem_of_getElem? (i := 91) rfl) rfl
theorem wc_X5_init : Cond.code y_X5_init prog_7_method_1_code 1 none ∈ TB := it_2 (List.mem_of_getElem? (i := 94) rfl) rfl
theorem ws_X5_init : Cond.instanceMethod y_X5_init ∈ TB := it_2 (List.mem_of_getElem? (i := 93) rfl) rfl
theorem hy_X5_init : (y_X5_init).cls ≠ "java/lang/invoke/MethodHandle" ∧ (y_X5_init).cls ≠ "java/lang/invoke/VarHandle" ∧ (parseMethodDescriptor (y_X5_init).desc).map (fun d => d.parameters.length) = some 0 := by decide +kernel
theorem wm_X4_17 : (("SnowSentries$Land", 17, y_X5_init, "SnowSentries") : String × Nat × MethodName × String) ∈ nestL := List.mem_of_getElem? (i := 8) rfl
theorem wk_X4_28 : Cond.classLink "SnowSentries$Land" 28 "SnowSentries$Scene" ∈ TB := it_2 (List.mem_of_getElem? (i := 114) rfl) rfl
theorem wn_X7 : Cond.instantiable "SnowSentries$Scene" 7 ∈ TB := it_1 (List.mem_of_getElem? (i := 78) rfl) rfl
theorem wc_X7_init : Cond.code y_X7_init prog_9_method_1_code 2 none ∈ TB := it_1 (List.mem_of_getElem? (i := 81) rfl) rfl
theorem ws_X7_init : Cond.instanceMethod y_X7_init ∈ TB := it_1 (List.mem_of_getElem? (i := 80) rfl) rfl
theorem hy_X7_init : (y_X7_init).cls ≠ "java/lang/invoke/MethodHandle" ∧ (y_X7_init).cls ≠ "java/lang/invoke/VarHandle" ∧ (parseMethodDescriptor (y_X7_init).desc).map (fun d => d.parameters.length) = some 0 := by decide +kernel
theorem wm_X4_30 : Cond.methodLink "SnowSentries$Land" 30 y_X7_init ∈ TB := it_2 (List.mem_of_getElem? (i := 115) rfl) rfl
theorem wm_X4_35 : Cond.methodLink "SnowSentries$Land" 35 y_X4_wipe ∈ TB := it_2 (List.mem_of_getElem? (i := 116) rfl) rfl
theorem d_X4_init_0 : DD prog_6_method_1_code 0 (.aload_n 0) 1 1 := ⟨by decide +kernel, rfl⟩
theorem d_X4_init_1 : DD prog_6_method_1_code 1 (.invokespecial 3) 3 4 := ⟨by decide +kernel, rfl⟩
theorem d_X4_init_4 : DD prog_6_method_1_code 4 (.aload_n 0) 1 5 := ⟨by decide +kernel, rfl⟩
theorem d_X4_init_5 : DD prog_6_method_1_code 5 (.bipush 12) 2 7 := ⟨by decide +kernel, rfl⟩
theorem d_X4_init_7 : DD prog_6_method_1_code 7 (.newarray .int) 2 9 := ⟨by decide +kernel, rfl⟩
theorem d_X4_init_9 : DD prog_6_method_1_code 9 (.putfield 9) 3 12 := ⟨by decide +kernel, rfl⟩
theorem d_X4_init_12 : DD prog_6_method_1_code 12 (.aload_n 0) 1 13 := ⟨by decide +kernel, rfl⟩
theorem d_X4_init_13 : DD prog_6_method_1_code 13 (.new 15) 3 16 := ⟨by decide +kernel, rfl⟩
theorem d_X4_init_16 : DD prog_6_method_1_code 16 (.dup) 1 17 := ⟨by decide +kernel, rfl⟩
theorem d_X4_init_17 : DD prog_6_method_1_code 17 (.invokespecial 17) 3 20 := ⟨by decide +kernel, rfl⟩
theorem d_X4_init_20 : DD prog_6_method_1_code 20 (.putfield 18) 3 23 := ⟨by decide +kernel, rfl⟩
theorem d_X4_init_23 : DD prog_6_method_1_code 23 (.aload_n 0) 1 24 := ⟨by decide +kernel, rfl⟩
theorem d_X4_init_24 : DD prog_6_method_1_code 24 (.bipush 8) 2 26 := ⟨by decide +kernel, rfl⟩
theorem d_X4_init_26 : DD prog_6_method_1_code 26 (.newarray .int) 2 28 := ⟨by decide +kernel, rfl⟩
theorem d_X4_init_28 : DD prog_6_method_1_code 28 (.putfield 22) 3 31 := ⟨by decide +kernel, rfl⟩
theorem d_X4_init_31 : DD prog_6_method_1_code 31 (.aload_n 0) 1 32 := ⟨by decide +kernel, rfl⟩
theorem d_X4_init_32 : DD prog_6_method_1_code 32 (.bipush 8) 2 34 := ⟨by decide +kernel, rfl⟩
theorem d_X4_init_34 : DD prog_6_method_1_code 34 (.newarray .int) 2 36 := ⟨by decide +kernel, rfl⟩
theorem d_X4_init_36 : DD prog_6_method_1_code 36 (.putfield 25) 3 39 := ⟨by decide +kernel, rfl⟩
theorem d_X4_init_39 : DD prog_6_method_1_code 39 (.aload_n 0) 1 40 := ⟨by decide +kernel, rfl⟩
theorem d_X4_init_40 : DD prog_6_method_1_code 40 (.new 28) 3 43 := ⟨by decide +kernel, rfl⟩
theorem d_X4_init_43 : DD prog_6_method_1_code 43 (.dup) 1 44 := ⟨by decide +kernel, rfl⟩
theorem d_X4_init_44 : DD prog_6_method_1_code 44 (.invokespecial 30) 3 47 := ⟨by decide +kernel, rfl⟩
theorem d_X4_init_47 : DD prog_6_method_1_code 47 (.putfield 31) 3 50 := ⟨by decide +kernel, rfl⟩
theorem d_X4_init_50 : DD prog_6_method_1_code 50 (.aload_n 0) 1 51 := ⟨by decide +kernel, rfl⟩
theorem d_X4_init_51 : DD prog_6_method_1_code 51 (.invokevirtual 35) 3 54 := ⟨by decide +kernel, rfl⟩
theorem d_X4_init_54 : DD prog_6_method_1_code 54 (.return_) 1 55 := ⟨by decide +kernel, rfl⟩
theorem EUu {u : Nat} (h : u ≠ 1) (G : GG) (M : Mm) (a : Nat) : EU 0 G M a = EU u G M a := (EV_X (by decide) G a _ _).trans (EV_X h G a _ _).symm
section ZG2
variable {p : Program} {l : Launch} {e : Env} {R : Room} {s : State} {m : MethodId} {args : Array Value} {below : List Frame} {meth : Method} {c : Code} {nL cells slots : Nat} {Q : State → Prop} {G : GG} {n u a : Nat} {E : Nat → va_E} {pc pc' : Nat} {L : List (Nat × Value)} {S : List Value} {cc : ByteArray} {own : String} {M M2 : Mm}
variable {y : MethodName} {bytes : ByteArray} {maxL idx fr lo : Nat}
theorem k_cont2 {Gu : GG} {Mu : Mm} {A : Nat → Prop} {o : Option Value} {H : Heap} {locs : List Loc} {ls : Array Slot} {S1 : List Value} {aa : Array Value} {F : Heap → List Loc → Prop} (hS : va_S A s.heap H locs) (hA : ∀ q, AU u Gu q → A q) (hl : lv_has ls nL L) (hr : va_Run p l e R s m args below meth c H locs cells slots 0 0 (F0 m pc ls S1) S (QC u Gu o Mu aa) (AU u Gu))
    (hF : ∀ H1 locs1, Rp u Gu Mu H1 → va_S A s.heap H1 locs1 → (∀ q, q < H.size → ¬ AU u Gu q → H1[q]? = H[q]?) → F H1 locs1)
    (h : Zg p l e R s m args below meth c nL Q cells slots F (pc + 3) L (o.toList ++ S)) : W p l e R s m args below meth c H locs cells slots Q (F0 m pc ls S1) := by
  intro T hT X
  obtain ⟨v, st₀, t, T', L9, h0, X', hL, e1, e2, ⟨hv, hP2, hz, hk⟩, st⟩ := hr T hT X
  cases hv
  rw [h0] at hz hk
  have hS2 : va_S A s.heap T'.heap (locs ++ L9) := ⟨Nat.le_trans hS.1 (by rw [e1]; exact hz), fun q h1 h2 => by rw [e1, hk q (Nat.lt_of_lt_of_le h1 hS.1) (fun z => h2 (hA q z))]; exact hS.2.1 q h1 h2, fun q hq => by
      rcases List.mem_append.mp hq with h | h
      · exact hS.2.2 q h
      · exact hA _ (hL q h)⟩
  obtain ⟨t2, a1, b1⟩ := h T'.heap (locs ++ L9) ls (hF _ _ (by rw [e1]; exact hP2) hS2 (fun q h1 h2 => by rw [e1]; exact hk q h1 h2)) hl T' rfl X'
  exact ⟨t2, st t2 a1, b1⟩
/-- a call, by its contract, of a block that was made just now -/
theorem k_ct {ci : Nat} {fs : List Value} {Cn : String} {T : u_T} {N : Nat} (C : GX p s m args c cc nL own) (K : KC G s) (hlo : wlo u = a) (hhi : whi u = n) (ha : a < n) (hu : u ≠ 0) (hM : CT l u G y bytes maxL none fr lo [.ref (gB G + a)] M none M2) (hE : ∀ i, a ≤ i → i < n → E i = EU u G M i) (hEa : EU u G M a = .inr (ci, fs)) (hc : vwCl[ci]? = some (Cn, T, N)) (w1 : Cond.code y bytes maxL none ∈ TB) (w2 : Cond.methodLink own idx y ∈ TB) (w3 : Cond.instanceMethod y ∈ TB) (w4 : Cond.selects Cn y y ∈ TB) (w5 : Cond.initialized y.cls ∈ TB)
    (hy : y.cls ≠ "java/lang/invoke/MethodHandle" ∧ y.cls ≠ "java/lang/invoke/VarHandle" ∧ (parseMethodDescriptor y.desc).map (fun d => d.parameters.length) = some 0) (hR : fr + 1 ≤ R.frames ∧ 8 + (maxL + 11) + lo ≤ R.locals) (hW : (S.map fun v => v.category).sum ≤ 8) (hcs : cells ≤ R.cells ∧ slots ≤ R.slots) (hd : DD cc pc (.invokevirtual idx) 3 pc')
    (h : Zg p l e R s m args below meth c nL Q cells slots (FC s G a n (EU u G M2)) pc' L S) : Zg p l e R s m args below meth c nL Q cells slots (FC s G a n E) pc L (.ref (gB G + a) :: S) := by
  obtain ⟨d, rfl⟩ := hd
  rintro H locs ls ⟨hP, hS⟩ hl
  have ht := C.2.2.2.2
  have hP1 : Rp u G M H := by
    unfold Rp
    rw [hlo, hhi, ← cw_c hE]
    exact hP
  have hcw : CallW R s args own Cn idx y bytes maxL none (.code y bytes maxL none :: TB) { frames := fr, cells := 0, slots := 0, locals := lo } 0 0 0 := ⟨callB_of 0 ht (TB_call w1) rfl rfl rfl (ht _ w5) (ht _ w2) hy hR, ht _ w3, ht _ w4⟩
  refine k_cont2 (A := Aa G a) hS (fun q hq => ?_) hl (va_runV (As := []) (rest := S) (b := gB G + a) (nL := nL) (C := Cn) ⟨C.1, C.2.1, C.2.2.1, C.2.2.2.1, ht⟩ hM hcw ⟨PC_blind, va_recv K.1 hP1 hc ((cw_at (Nat.le_of_eq hlo) (by rw [hhi]; exact ha)).trans (by rw [hEa])), fun U hU hW => ⟨rfl, by rw [hU]; exact hP1, va_K.moved hW.alike K.1, fun h => absurd h hu⟩⟩ rfl rfl hl.1 rfl (lv_room hW) d hcs) (fun H1 locs1 hP2 hS1 _ => ⟨?_, hS1⟩) h
  · have := hq.1
    rw [hlo] at this
    exact this
  · unfold Rp at hP2
    rw [hlo, hhi] at hP2
    exact hP2
end ZG2
theorem n_X4_init (l : Launch) (G : GG) {a : Nat} {u : Nat} {M1 : Mm} (hlo : wlo u = a) (hhi : whi u = a + 36) (hu : u ≠ 0) (hu1 : u ≠ 1) (h0 : kU 0 a = 4) (h9 : kU u a = 4) (hM : f_X4_wipe Mz a = some M1) : CN l G y_X4_init prog_6_method_1_code 1 3 64 35 269 a (.inr (4, [.int 0, .int 0, .null, .null, .int 0, .null, .null, .null])) (EU 0 G M1) := by
  refine CN.of (by decide) rfl (by decide) ?_
  intro p e s m args below meth c C K hs0 hlk hr hnm
  refine g_aload_n (x := gB G + a) 0 C d_X4_init_0 rfl rfl ?_
  refine k_obj C wO_X4 wOi wOc (Nat.le_of_ble_eq_true rfl) (Nat.le_of_ble_eq_true rfl) d_X4_init_1 ?_
  refine g_aload_n (x := gB G + a) 0 C d_X4_init_4 rfl rfl ?_
  refine g_bipush (v := 12) C d_X4_init_5 rfl ?_
  refine k_newa (t := 0) (N := 12) (atype := .int) (a0 := (12, .inl fun _ => 0)) C K (by omega) (by omega) (by omega) wA_int rfl rfl (fun _ _ h => h) (fun _ => rfl) (by decide) rfl (by decide) (Nat.le_of_ble_eq_true rfl) (Nat.le_of_ble_eq_true rfl) d_X4_init_7 ?_
  refine k_put (a := a) (k := 2) (ty := .array .int) C K.1 (by omega) (by omega) (up1_n (by omega)) rfl inX4 tyX4 tyX4_ok nmX4 (by decide) wf_X4_9 (Or.inr ⟨rfl, hnm, rfl⟩) (by decide +kernel) rfl rfl (Nat.le_of_ble_eq_true rfl) d_X4_init_9 ?_
  refine g_aload_n (x := gB G + a) 0 C d_X4_init_12 rfl rfl ?_
  refine k_new (ci := 5) (fs := [.int 0, .int 0, .int 0]) C K.1 (by omega) (by omega) (by omega) inX5 tyX5 tyX5_ok wk_X4_15 wn_X5 wi_X5 rfl df_X5 (Nat.le_of_ble_eq_true rfl) (Nat.le_of_ble_eq_true rfl) d_X4_init_13 ?_
  refine g_dup C d_X4_init_16 rfl ?_
  refine k_cN (a := a + 2) C K (n_X5_init l G (k_4_3 h0)) (by omega) (by omega) (by omega) (up1_s _ _ _) wc_X5_init wm_X4_17 ws_X5_init wi_X5 rfl hy_X5_init ⟨(Nat.le_of_ble_eq_true rfl), (Nat.le_of_ble_eq_true rfl)⟩ (Nat.le_of_ble_eq_true rfl) ⟨(Nat.le_of_ble_eq_true rfl), (Nat.le_of_ble_eq_true rfl)⟩ d_X4_init_17 ?_
  refine k_put (a := a) (k := 3) (ty := .object "SnowSentries$Law") C K.1 (by omega) (by omega) (((jn_lt (by omega)).trans (up1_n (by omega))).trans (up1_s _ _ _)) rfl inX4 tyX4 tyX4_ok nmX4 (by decide) wf_X4_18 (Or.inr ⟨rfl, hnm, rfl⟩) (by decide +kernel) rfl rfl (Nat.le_of_ble_eq_true rfl) d_X4_init_20 ?_
  refine g_aload_n (x := gB G + a) 0 C d_X4_init_23 rfl rfl ?_
  refine g_bipush (v := 8) C d_X4_init_24 rfl ?_
  refine k_newa (t := 0) (N := 8) (atype := .int) (a0 := (8, .inl fun _ => 0)) C K (by omega) (by omega) (by omega) wA_int rfl rfl (fun _ _ h => h) (fun _ => rfl) (by decide) rfl (by decide) (Nat.le_of_ble_eq_true rfl) (Nat.le_of_ble_eq_true rfl) d_X4_init_26 ?_
  refine k_put (a := a) (k := 5) (ty := .array .int) C K.1 (by omega) (by omega) ((up1_n (by omega)).trans (up1_s _ _ _)) rfl inX4 tyX4 tyX4_ok nmX4 (by decide) wf_X4_22 (Or.inr ⟨rfl, hnm, rfl⟩) (by decide +kernel) rfl rfl (Nat.le_of_ble_eq_true rfl) d_X4_init_28 ?_
  refine g_aload_n (x := gB G + a) 0 C d_X4_init_31 rfl rfl ?_
  refine g_bipush (v := 8) C d_X4_init_32 rfl ?_
  refine k_newa (t := 0) (N := 8) (atype := .int) (a0 := (8, .inl fun _ => 0)) C K (by omega) (by omega) (by omega) wA_int rfl rfl (fun _ _ h => h) (fun _ => rfl) (by decide) rfl (by decide) (Nat.le_of_ble_eq_true rfl) (Nat.le_of_ble_eq_true rfl) d_X4_init_34 ?_
  refine k_put (a := a) (k := 6) (ty := .array .int) C K.1 (by omega) (by omega) ((up1_n (by omega)).trans (up1_s _ _ _)) rfl inX4 tyX4 tyX4_ok nmX4 (by decide) wf_X4_25 (Or.inr ⟨rfl, hnm, rfl⟩) (by decide +kernel) rfl rfl (Nat.le_of_ble_eq_true rfl) d_X4_init_36 ?_
  refine g_aload_n (x := gB G + a) 0 C d_X4_init_39 rfl rfl ?_
  refine k_new (ci := 7) (fs := [.int 0, .null, .null, .null, .null, .null, .null]) C K.1 (by omega) (by omega) (by omega) inX7 tyX7 tyX7_ok wk_X4_28 wn_X7 wi_X7 rfl df_X7 (Nat.le_of_ble_eq_true rfl) (Nat.le_of_ble_eq_true rfl) d_X4_init_40 ?_
  refine g_dup C d_X4_init_43 rfl ?_
  refine k_cI (a := a + 5) C K (n_X7_init l G (k_4_7 h0)) (by omega) (by omega) (by omega) (up1_s _ _ _) wc_X7_init wm_X4_30 ws_X7_init wi_X7 rfl hy_X7_init ⟨(Nat.le_of_ble_eq_true rfl), (Nat.le_of_ble_eq_true rfl)⟩ (Nat.le_of_ble_eq_true rfl) ⟨(Nat.le_of_ble_eq_true rfl), (Nat.le_of_ble_eq_true rfl)⟩ d_X4_init_44 ?_
  refine k_put (a := a) (k := 7) (ty := .object "SnowSentries$Scene") C K.1 (by omega) (by omega) (((jn_lt (by omega)).trans (up1_n (by omega))).trans (up1_s _ _ _)) rfl inX4 tyX4 tyX4_ok nmX4 (by decide) wf_X4_31 (Or.inr ⟨rfl, hnm, rfl⟩) (by decide +kernel) rfl rfl (Nat.le_of_ble_eq_true rfl) d_X4_init_47 ?_
  refine g_aload_n (x := gB G + a) 0 C d_X4_init_50 rfl rfl ?_
  refine k_ct (u := u) C K hlo hhi (by omega) hu (c_X4_wipe l G h9 hM) (fun i h1 h2 => ?_) (E_4 h9 G (Mz.1 _) (Mz.2 _)) rfl wc_X4_wipe wm_X4_35 ws_X4_wipe wl_X4_wipe wi_X4 hy_X4_wipe ⟨(Nat.le_of_ble_eq_true rfl), (Nat.le_of_ble_eq_true rfl)⟩ (Nat.le_of_ble_eq_true rfl) ⟨(Nat.le_of_ble_eq_true rfl), (Nat.le_of_ble_eq_true rfl)⟩ d_X4_init_51 ?_
  · by_cases i0 : i = a
    · rw [i0]
      exact (up1_s _ _ _).trans (E_4 (h9) G (Mz.1 _) (Mz.2 _)).symm
    by_cases i1 : i = a + 1
    · rw [i1]
      exact ((((((((((((up1_n (by omega)).trans (jn_lt (by omega))).trans (up1_n (by omega))).trans (up1_n (by omega))).trans (up1_n (by omega))).trans (up1_n (by omega))).trans (up1_n (by omega))).trans (up1_n (by omega))).trans (jn_lt (by omega))).trans (up1_n (by omega))).trans (up1_n (by omega))).trans (up1_s _ _ _)).trans (E_22 (k_4_2 h9) G (Mz.1 _) (Mz.2 _)).symm
    by_cases i2 : i = a + 2
    · rw [i2]
      exact (((((((((up1_n (by omega)).trans (jn_lt (by omega))).trans (up1_n (by omega))).trans (up1_n (by omega))).trans (up1_n (by omega))).trans (up1_n (by omega))).trans (up1_n (by omega))).trans (up1_n (by omega))).trans (jn_ge (by omega))).trans (EUu hu1 G Mz (a + 2))
    by_cases i3 : i = a + 3
    · rw [i3]
      exact (((((((up1_n (by omega)).trans (jn_lt (by omega))).trans (up1_n (by omega))).trans (up1_n (by omega))).trans (up1_n (by omega))).trans (up1_n (by omega))).trans (up1_s _ _ _)).trans (E_23 (k_4_5 h9) G (Mz.1 _) (Mz.2 _)).symm
    by_cases i4 : i = a + 4
    · rw [i4]
      exact (((((up1_n (by omega)).trans (jn_lt (by omega))).trans (up1_n (by omega))).trans (up1_n (by omega))).trans (up1_s _ _ _)).trans (E_23 (k_4_6 h9) G (Mz.1 _) (Mz.2 _)).symm
    exact ((up1_n i0).trans (jn_ge (by omega))).trans (EUu hu1 G Mz i)
  · refine k_vret C hlk hr rfl (fun i h1 h2 => (EUu hu1 G M1 i).symm) rfl rfl d_X4_init_54
