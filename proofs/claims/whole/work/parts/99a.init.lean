def y_X0_init : MethodName := ⟨"SnowSentries$Braziers", "<init>", "()V"⟩
def y_X1_init : MethodName := ⟨"SnowSentries$Crews", "<init>", "()V"⟩
def y_X2_init : MethodName := ⟨"SnowSentries$Felt", "<init>", "()V"⟩
def y_X3_init : MethodName := ⟨"SnowSentries$Forecast", "<init>", "()V"⟩
def y_X4_init : MethodName := ⟨"SnowSentries$Land", "<init>", "()V"⟩
def y_X5_init : MethodName := ⟨"SnowSentries$Law", "<init>", "()V"⟩
def y_X6_init : MethodName := ⟨"SnowSentries$Man", "<init>", "()V"⟩
def y_X7_init : MethodName := ⟨"SnowSentries$Scene", "<init>", "()V"⟩
def y_X8_init : MethodName := ⟨"SnowSentries$Sheet", "<init>", "()V"⟩
def y_X9_init : MethodName := ⟨"SnowSentries$Text", "<init>", "()V"⟩
def y_X10_init : MethodName := ⟨"SnowSentries$Ways", "<init>", "()V"⟩
def y_X11_init : MethodName := ⟨"SnowSentries", "<init>", "()V"⟩
def y_X12_init : MethodName := ⟨"SnowSentriesModel", "<init>", "()V"⟩
def Mz : Mm := (fun _ _ => 0, fun _ _ => 0)
theorem wOi : Cond.instanceMethod Lib.objectInit ∈ TB := it_1 (List.mem_of_getElem? (i := 27) rfl) rfl
theorem wOc : Cond.code Lib.objectInit ⟨#[0xb1]⟩ 1 none ∈ TB := it_1 (List.mem_of_getElem? (i := 28) rfl) rfl
theorem wA_int : Cond.arrayClass .int ∈ TB := it_1 (List.mem_of_getElem? (i := 113) rfl) rfl
theorem wA_byte : Cond.arrayClass .byte ∈ TB := it_1 (List.mem_of_getElem? (i := 76) rfl) rfl
theorem wA_boolean : Cond.arrayClass .boolean ∈ TB := it_1 (List.mem_of_getElem? (i := 238) rfl) rfl
theorem wA_long : Cond.arrayClass .long ∈ TB := it_2 (List.mem_of_getElem? (i := 38) rfl) rfl
theorem wO_X6 : Cond.methodLink "SnowSentries$Man" 3 Lib.objectInit ∈ TB := it_1 (List.mem_of_getElem? (i := 118) rfl) rfl
theorem wO_X5 : Cond.methodLink "SnowSentries$Law" 3 Lib.objectInit ∈ TB := it_2 (List.mem_of_getElem? (i := 95) rfl) rfl
theorem wO_X0 : Cond.methodLink "SnowSentries$Braziers" 3 Lib.objectInit ∈ TB := it_1 (List.mem_of_getElem? (i := 90) rfl) rfl
theorem wO_X8 : Cond.methodLink "SnowSentries$Sheet" 3 Lib.objectInit ∈ TB := it_2 (List.mem_of_getElem? (i := 67) rfl) rfl
theorem wO_X1 : Cond.methodLink "SnowSentries$Crews" 3 Lib.objectInit ∈ TB := it_2 (List.mem_of_getElem? (i := 44) rfl) rfl
theorem wO_X2 : Cond.methodLink "SnowSentries$Felt" 3 Lib.objectInit ∈ TB := it_1 (List.mem_of_getElem? (i := 209) rfl) rfl
theorem wO_X3 : Cond.methodLink "SnowSentries$Forecast" 3 Lib.objectInit ∈ TB := it_2 (List.mem_of_getElem? (i := 25) rfl) rfl
theorem wO_X9 : Cond.methodLink "SnowSentries$Text" 3 Lib.objectInit ∈ TB := it_1 (List.mem_of_getElem? (i := 34) rfl) rfl
theorem d_X6_init_0 : DD prog_8_method_1_code 0 (.aload_n 0) 1 1 := ⟨by decide +kernel, rfl⟩
theorem d_X6_init_1 : DD prog_8_method_1_code 1 (.invokespecial 3) 3 4 := ⟨by decide +kernel, rfl⟩
theorem d_X6_init_4 : DD prog_8_method_1_code 4 (.return_) 1 5 := ⟨by decide +kernel, rfl⟩
theorem d_X5_init_0 : DD prog_7_method_1_code 0 (.aload_n 0) 1 1 := ⟨by decide +kernel, rfl⟩
theorem d_X5_init_1 : DD prog_7_method_1_code 1 (.invokespecial 3) 3 4 := ⟨by decide +kernel, rfl⟩
theorem d_X5_init_4 : DD prog_7_method_1_code 4 (.return_) 1 5 := ⟨by decide +kernel, rfl⟩
theorem d_X0_init_0 : DD prog_2_method_1_code 0 (.aload_n 0) 1 1 := ⟨by decide +kernel, rfl⟩
theorem d_X0_init_1 : DD prog_2_method_1_code 1 (.invokespecial 3) 3 4 := ⟨by decide +kernel, rfl⟩
theorem d_X0_init_4 : DD prog_2_method_1_code 4 (.aload_n 0) 1 5 := ⟨by decide +kernel, rfl⟩
theorem d_X0_init_5 : DD prog_2_method_1_code 5 (.bipush 6) 2 7 := ⟨by decide +kernel, rfl⟩
theorem d_X0_init_7 : DD prog_2_method_1_code 7 (.newarray .int) 2 9 := ⟨by decide +kernel, rfl⟩
theorem d_X0_init_9 : DD prog_2_method_1_code 9 (.putfield 9) 3 12 := ⟨by decide +kernel, rfl⟩
theorem d_X0_init_12 : DD prog_2_method_1_code 12 (.aload_n 0) 1 13 := ⟨by decide +kernel, rfl⟩
theorem d_X0_init_13 : DD prog_2_method_1_code 13 (.bipush 6) 2 15 := ⟨by decide +kernel, rfl⟩
theorem d_X0_init_15 : DD prog_2_method_1_code 15 (.newarray .int) 2 17 := ⟨by decide +kernel, rfl⟩
theorem d_X0_init_17 : DD prog_2_method_1_code 17 (.putfield 15) 3 20 := ⟨by decide +kernel, rfl⟩
theorem d_X0_init_20 : DD prog_2_method_1_code 20 (.aload_n 0) 1 21 := ⟨by decide +kernel, rfl⟩
theorem d_X0_init_21 : DD prog_2_method_1_code 21 (.bipush 6) 2 23 := ⟨by decide +kernel, rfl⟩
theorem d_X0_init_23 : DD prog_2_method_1_code 23 (.newarray .int) 2 25 := ⟨by decide +kernel, rfl⟩
theorem d_X0_init_25 : DD prog_2_method_1_code 25 (.putfield 18) 3 28 := ⟨by decide +kernel, rfl⟩
theorem d_X0_init_28 : DD prog_2_method_1_code 28 (.aload_n 0) 1 29 := ⟨by decide +kernel, rfl⟩
theorem d_X0_init_29 : DD prog_2_method_1_code 29 (.bipush 6) 2 31 := ⟨by decide +kernel, rfl⟩
theorem d_X0_init_31 : DD prog_2_method_1_code 31 (.newarray .int) 2 33 := ⟨by decide +kernel, rfl⟩
theorem d_X0_init_33 : DD prog_2_method_1_code 33 (.putfield 21) 3 36 := ⟨by decide +kernel, rfl⟩
theorem d_X0_init_36 : DD prog_2_method_1_code 36 (.return_) 1 37 := ⟨by decide +kernel, rfl⟩
theorem d_X8_init_0 : DD prog_10_method_1_code 0 (.aload_n 0) 1 1 := ⟨by decide +kernel, rfl⟩
theorem d_X8_init_1 : DD prog_10_method_1_code 1 (.invokespecial 3) 3 4 := ⟨by decide +kernel, rfl⟩
theorem d_X8_init_4 : DD prog_10_method_1_code 4 (.aload_n 0) 1 5 := ⟨by decide +kernel, rfl⟩
theorem d_X8_init_5 : DD prog_10_method_1_code 5 (.bipush 40) 2 7 := ⟨by decide +kernel, rfl⟩
theorem d_X8_init_7 : DD prog_10_method_1_code 7 (.newarray .int) 2 9 := ⟨by decide +kernel, rfl⟩
theorem d_X8_init_9 : DD prog_10_method_1_code 9 (.putfield 9) 3 12 := ⟨by decide +kernel, rfl⟩
theorem d_X8_init_12 : DD prog_10_method_1_code 12 (.return_) 1 13 := ⟨by decide +kernel, rfl⟩
theorem d_X1_init_0 : DD prog_3_method_1_code 0 (.aload_n 0) 1 1 := ⟨by decide +kernel, rfl⟩
theorem d_X1_init_1 : DD prog_3_method_1_code 1 (.invokespecial 3) 3 4 := ⟨by decide +kernel, rfl⟩
theorem d_X1_init_4 : DD prog_3_method_1_code 4 (.aload_n 0) 1 5 := ⟨by decide +kernel, rfl⟩
theorem d_X1_init_5 : DD prog_3_method_1_code 5 (.bipush 10) 2 7 := ⟨by decide +kernel, rfl⟩
theorem d_X1_init_7 : DD prog_3_method_1_code 7 (.newarray .int) 2 9 := ⟨by decide +kernel, rfl⟩
theorem d_X1_init_9 : DD prog_3_method_1_code 9 (.putfield 9) 3 12 := ⟨by decide +kernel, rfl⟩
theorem d_X1_init_12 : DD prog_3_method_1_code 12 (.return_) 1 13 := ⟨by decide +kernel, rfl⟩
theorem d_X2_init_0 : DD prog_4_method_1_code 0 (.aload_n 0) 1 1 := ⟨by decide +kernel, rfl⟩
theorem d_X2_init_1 : DD prog_4_method_1_code 1 (.invokespecial 3) 3 4 := ⟨by decide +kernel, rfl⟩
theorem d_X2_init_4 : DD prog_4_method_1_code 4 (.aload_n 0) 1 5 := ⟨by decide +kernel, rfl⟩
theorem d_X2_init_5 : DD prog_4_method_1_code 5 (.bipush 10) 2 7 := ⟨by decide +kernel, rfl⟩
theorem d_X2_init_7 : DD prog_4_method_1_code 7 (.newarray .int) 2 9 := ⟨by decide +kernel, rfl⟩
theorem d_X2_init_9 : DD prog_4_method_1_code 9 (.putfield 9) 3 12 := ⟨by decide +kernel, rfl⟩
theorem d_X2_init_12 : DD prog_4_method_1_code 12 (.return_) 1 13 := ⟨by decide +kernel, rfl⟩
theorem d_X3_init_0 : DD prog_5_method_1_code 0 (.aload_n 0) 1 1 := ⟨by decide +kernel, rfl⟩
theorem d_X3_init_1 : DD prog_5_method_1_code 1 (.invokespecial 3) 3 4 := ⟨by decide +kernel, rfl⟩
theorem d_X3_init_4 : DD prog_5_method_1_code 4 (.aload_n 0) 1 5 := ⟨by decide +kernel, rfl⟩
theorem d_X3_init_5 : DD prog_5_method_1_code 5 (.bipush 100) 2 7 := ⟨by decide +kernel, rfl⟩
theorem d_X3_init_7 : DD prog_5_method_1_code 7 (.newarray .long) 2 9 := ⟨by decide +kernel, rfl⟩
theorem d_X3_init_9 : DD prog_5_method_1_code 9 (.putfield 9) 3 12 := ⟨by decide +kernel, rfl⟩
theorem d_X3_init_12 : DD prog_5_method_1_code 12 (.return_) 1 13 := ⟨by decide +kernel, rfl⟩
theorem d_X9_init_0 : DD prog_11_method_1_code 0 (.aload_n 0) 1 1 := ⟨by decide +kernel, rfl⟩
theorem d_X9_init_1 : DD prog_11_method_1_code 1 (.invokespecial 3) 3 4 := ⟨by decide +kernel, rfl⟩
theorem d_X9_init_4 : DD prog_11_method_1_code 4 (.aload_n 0) 1 5 := ⟨by decide +kernel, rfl⟩
theorem d_X9_init_5 : DD prog_11_method_1_code 5 (.sipush 400) 3 8 := ⟨by decide +kernel, rfl⟩
theorem d_X9_init_8 : DD prog_11_method_1_code 8 (.newarray .byte) 2 10 := ⟨by decide +kernel, rfl⟩
theorem d_X9_init_10 : DD prog_11_method_1_code 10 (.putfield 11) 3 13 := ⟨by decide +kernel, rfl⟩
theorem d_X9_init_13 : DD prog_11_method_1_code 13 (.return_) 1 14 := ⟨by decide +kernel, rfl⟩
theorem df_X0 : ∀ j, j < 5 → defaultValue (tyX0 j) = vp_V [.int 0, .null, .null, .null, .null] j := by decide +kernel
theorem df_X1 : ∀ j, j < 4 → defaultValue (tyX1 j) = vp_V [.int 0, .int 0, .int 0, .null] j := by decide +kernel
theorem df_X2 : ∀ j, j < 7 → defaultValue (tyX2 j) = vp_V [.int 0, .int 0, .int 0, .int 0, .int 0, .int 0, .null] j := by decide +kernel
theorem df_X3 : ∀ j, j < 3 → defaultValue (tyX3 j) = vp_V [.long 0, .long 0, .null] j := by decide +kernel
theorem df_X4 : ∀ j, j < 8 → defaultValue (tyX4 j) = vp_V [.int 0, .int 0, .null, .null, .int 0, .null, .null, .null] j := by decide +kernel
theorem df_X5 : ∀ j, j < 3 → defaultValue (tyX5 j) = vp_V [.int 0, .int 0, .int 0] j := by decide +kernel
theorem df_X6 : ∀ j, j < 7 → defaultValue (tyX6 j) = vp_V [.int 0, .int 0, .int 0, .int 0, .int 0, .int 0, .int 0] j := by decide +kernel
theorem df_X7 : ∀ j, j < 7 → defaultValue (tyX7 j) = vp_V [.int 0, .null, .null, .null, .null, .null, .null] j := by decide +kernel
theorem df_X8 : ∀ j, j < 4 → defaultValue (tyX8 j) = vp_V [.int 0, .int 0, .null, .int 0] j := by decide +kernel
theorem df_X9 : ∀ j, j < 12 → defaultValue (tyX9 j) = vp_V [.null, .int 0, .int 0, .int 0, .int 0, .int 0, .int 0, .int 0, .int 0, .int 0, .int 0, .int 0] j := by decide +kernel
theorem df_X10 : ∀ j, j < 4 → defaultValue (tyX10 j) = vp_V [.int 0, .int 0, .null, .null] j := by decide +kernel
theorem df_X11 : ∀ j, j < 12 → defaultValue (tyX11 j) = vp_V [.null, .null, .null, .null, .null, .null, .null, .null, .null, .null, .null, .int 0] j := by decide +kernel
theorem df_X12 : ∀ j, j < 36 → defaultValue (tyX12 j) = vp_V [.null, .int 0, .null, .null, .null, .int 0, .int 0, .null, .null, .null, .null, .int 0, .int 0, .int 0, .int 0, .int 0, .null, .int 0, .int 0, .int 0, .int 0, .int 0, .int 0, .int 0, .int 0, .null, .null, .null, .null, .null, .int 0, .null, .null, .null, .null, .int 0] j := by decide +kernel
theorem n_X6_init (l : Launch) (G : GG) {a : Nat} (h0 : kU 0 a = 6) : CN l G y_X6_init prog_8_method_1_code 1 1 12 0 0 a (.inr (6, [.int 0, .int 0, .int 0, .int 0, .int 0, .int 0, .int 0])) (EU 0 G Mz) := by
  refine CN.of (by decide) rfl (by decide) ?_
  intro p e s m args below meth c C K hs0 hlk hr hnm
  refine g_aload_n (x := gB G + a) 0 C d_X6_init_0 rfl rfl ?_
  refine k_obj C wO_X6 wOi wOc (Nat.le_of_ble_eq_true rfl) (Nat.le_of_ble_eq_true rfl) d_X6_init_1 ?_
  refine k_vret C hlk hr rfl (fun i h1 h2 => ?_) rfl rfl d_X6_init_4
  have hi : i = a := by omega
  subst hi
  exact (E_6 h0 G (Mz.1 _) (Mz.2 _)).symm
theorem n_X5_init (l : Launch) (G : GG) {a : Nat} (h0 : kU 0 a = 5) : CN l G y_X5_init prog_7_method_1_code 1 1 12 0 0 a (.inr (5, [.int 0, .int 0, .int 0])) (EU 0 G Mz) := by
  refine CN.of (by decide) rfl (by decide) ?_
  intro p e s m args below meth c C K hs0 hlk hr hnm
  refine g_aload_n (x := gB G + a) 0 C d_X5_init_0 rfl rfl ?_
  refine k_obj C wO_X5 wOi wOc (Nat.le_of_ble_eq_true rfl) (Nat.le_of_ble_eq_true rfl) d_X5_init_1 ?_
  refine k_vret C hlk hr rfl (fun i h1 h2 => ?_) rfl rfl d_X5_init_4
  have hi : i = a := by omega
  subst hi
  exact (E_5 h0 G (Mz.1 _) (Mz.2 _)).symm
theorem n_X0_init (l : Launch) (G : GG) {a : Nat} (h0 : kU 0 a = 0) : CN l G y_X0_init prog_2_method_1_code 1 1 12 4 24 a (.inr (0, [.int 0, .null, .null, .null, .null])) (EU 0 G Mz) := by
  refine CN.of (by decide) rfl (by decide) ?_
  intro p e s m args below meth c C K hs0 hlk hr hnm
  refine g_aload_n (x := gB G + a) 0 C d_X0_init_0 rfl rfl ?_
  refine k_obj C wO_X0 wOi wOc (Nat.le_of_ble_eq_true rfl) (Nat.le_of_ble_eq_true rfl) d_X0_init_1 ?_
  refine g_aload_n (x := gB G + a) 0 C d_X0_init_4 rfl rfl ?_
  refine g_bipush (v := 6) C d_X0_init_5 rfl ?_
  refine k_newa (t := 0) (N := 6) (atype := .int) (a0 := (6, .inl fun _ => 0)) C K (by omega) (by omega) (by omega) wA_int rfl rfl (fun _ _ h => h) (fun _ => rfl) (by decide) rfl (by decide) (Nat.le_of_ble_eq_true rfl) (Nat.le_of_ble_eq_true rfl) d_X0_init_7 ?_
  refine k_put (a := a) (k := 1) (ty := .array .int) C K.1 (by omega) (by omega) (up1_n (by omega)) rfl inX0 tyX0 tyX0_ok nmX0 (by decide) wf_X0_9 (Or.inr ⟨rfl, hnm, rfl⟩) (by decide +kernel) rfl rfl (Nat.le_of_ble_eq_true rfl) d_X0_init_9 ?_
  refine g_aload_n (x := gB G + a) 0 C d_X0_init_12 rfl rfl ?_
  refine g_bipush (v := 6) C d_X0_init_13 rfl ?_
  refine k_newa (t := 0) (N := 6) (atype := .int) (a0 := (6, .inl fun _ => 0)) C K (by omega) (by omega) (by omega) wA_int rfl rfl (fun _ _ h => h) (fun _ => rfl) (by decide) rfl (by decide) (Nat.le_of_ble_eq_true rfl) (Nat.le_of_ble_eq_true rfl) d_X0_init_15 ?_
  refine k_put (a := a) (k := 2) (ty := .array .int) C K.1 (by omega) (by omega) ((up1_n (by omega)).trans (up1_s _ _ _)) rfl inX0 tyX0 tyX0_ok nmX0 (by decide) wf_X0_15 (Or.inr ⟨rfl, hnm, rfl⟩) (by decide +kernel) rfl rfl (Nat.le_of_ble_eq_true rfl) d_X0_init_17 ?_
  refine g_aload_n (x := gB G + a) 0 C d_X0_init_20 rfl rfl ?_
  refine g_bipush (v := 6) C d_X0_init_21 rfl ?_
  refine k_newa (t := 0) (N := 6) (atype := .int) (a0 := (6, .inl fun _ => 0)) C K (by omega) (by omega) (by omega) wA_int rfl rfl (fun _ _ h => h) (fun _ => rfl) (by decide) rfl (by decide) (Nat.le_of_ble_eq_true rfl) (Nat.le_of_ble_eq_true rfl) d_X0_init_23 ?_
  refine k_put (a := a) (k := 3) (ty := .array .int) C K.1 (by omega) (by omega) ((up1_n (by omega)).trans (up1_s _ _ _)) rfl inX0 tyX0 tyX0_ok nmX0 (by decide) wf_X0_18 (Or.inr ⟨rfl, hnm, rfl⟩) (by decide +kernel) rfl rfl (Nat.le_of_ble_eq_true rfl) d_X0_init_25 ?_
  refine g_aload_n (x := gB G + a) 0 C d_X0_init_28 rfl rfl ?_
  refine g_bipush (v := 6) C d_X0_init_29 rfl ?_
  refine k_newa (t := 0) (N := 6) (atype := .int) (a0 := (6, .inl fun _ => 0)) C K (by omega) (by omega) (by omega) wA_int rfl rfl (fun _ _ h => h) (fun _ => rfl) (by decide) rfl (by decide) (Nat.le_of_ble_eq_true rfl) (Nat.le_of_ble_eq_true rfl) d_X0_init_31 ?_
  refine k_put (a := a) (k := 4) (ty := .array .int) C K.1 (by omega) (by omega) ((up1_n (by omega)).trans (up1_s _ _ _)) rfl inX0 tyX0 tyX0_ok nmX0 (by decide) wf_X0_21 (Or.inr ⟨rfl, hnm, rfl⟩) (by decide +kernel) rfl rfl (Nat.le_of_ble_eq_true rfl) d_X0_init_33 ?_
  refine k_vret C hlk hr rfl (fun i h1 h2 => ?_) rfl rfl d_X0_init_36
  have hi : i = a ∨ i = a + 1 ∨ i = a + 2 ∨ i = a + 3 ∨ i = a + 4 := by omega
  rcases hi with rfl | rfl | rfl | rfl | rfl
  · exact (up1_s _ _ _).trans (E_0 (h0) G (Mz.1 _) (Mz.2 _)).symm
  · exact ((((((((up1_n (by omega)).trans (up1_n (by omega))).trans (up1_n (by omega))).trans (up1_n (by omega))).trans (up1_n (by omega))).trans (up1_n (by omega))).trans (up1_n (by omega))).trans (up1_s _ _ _)).trans (E_20 (k_0_1 h0) G (Mz.1 _) (Mz.2 _)).symm
  · exact ((((((up1_n (by omega)).trans (up1_n (by omega))).trans (up1_n (by omega))).trans (up1_n (by omega))).trans (up1_n (by omega))).trans (up1_s _ _ _)).trans (E_20 (k_0_2 h0) G (Mz.1 _) (Mz.2 _)).symm
  · exact ((((up1_n (by omega)).trans (up1_n (by omega))).trans (up1_n (by omega))).trans (up1_s _ _ _)).trans (E_20 (k_0_3 h0) G (Mz.1 _) (Mz.2 _)).symm
  · exact ((up1_n (by omega)).trans (up1_s _ _ _)).trans (E_20 (k_0_4 h0) G (Mz.1 _) (Mz.2 _)).symm
theorem n_X8_init (l : Launch) (G : GG) {a : Nat} (h0 : kU 0 a = 8) : CN l G y_X8_init prog_10_method_1_code 1 1 12 1 40 a (.inr (8, [.int 0, .int 0, .null, .int 0])) (EU 0 G Mz) := by
  refine CN.of (by decide) rfl (by decide) ?_
  intro p e s m args below meth c C K hs0 hlk hr hnm
  refine g_aload_n (x := gB G + a) 0 C d_X8_init_0 rfl rfl ?_
  refine k_obj C wO_X8 wOi wOc (Nat.le_of_ble_eq_true rfl) (Nat.le_of_ble_eq_true rfl) d_X8_init_1 ?_
  refine g_aload_n (x := gB G + a) 0 C d_X8_init_4 rfl rfl ?_
  refine g_bipush (v := 40) C d_X8_init_5 rfl ?_
  refine k_newa (t := 0) (N := 40) (atype := .int) (a0 := (40, .inl fun _ => 0)) C K (by omega) (by omega) (by omega) wA_int rfl rfl (fun _ _ h => h) (fun _ => rfl) (by decide) rfl (by decide) (Nat.le_of_ble_eq_true rfl) (Nat.le_of_ble_eq_true rfl) d_X8_init_7 ?_
  refine k_put (a := a) (k := 2) (ty := .array .int) C K.1 (by omega) (by omega) (up1_n (by omega)) rfl inX8 tyX8 tyX8_ok nmX8 (by decide) wf_X8_9 (Or.inr ⟨rfl, hnm, rfl⟩) (by decide +kernel) rfl rfl (Nat.le_of_ble_eq_true rfl) d_X8_init_9 ?_
  refine k_vret C hlk hr rfl (fun i h1 h2 => ?_) rfl rfl d_X8_init_12
  have hi : i = a ∨ i = a + 1 := by omega
  rcases hi with rfl | rfl
  · exact (up1_s _ _ _).trans (E_8 (h0) G (Mz.1 _) (Mz.2 _)).symm
  · exact ((up1_n (by omega)).trans (up1_s _ _ _)).trans (E_24 (k_8_2 h0) G (Mz.1 _) (Mz.2 _)).symm
theorem n_X1_init (l : Launch) (G : GG) {a : Nat} (h0 : kU 0 a = 1) (h9 : kU 0 (a + 1) = 21) : CN l G y_X1_init prog_3_method_1_code 1 1 12 1 10 a (.inr (1, [.int 0, .int 0, .int 0, .null])) (EU 0 G Mz) := by
  refine CN.of (by decide) rfl (by decide) ?_
  intro p e s m args below meth c C K hs0 hlk hr hnm
  refine g_aload_n (x := gB G + a) 0 C d_X1_init_0 rfl rfl ?_
  refine k_obj C wO_X1 wOi wOc (Nat.le_of_ble_eq_true rfl) (Nat.le_of_ble_eq_true rfl) d_X1_init_1 ?_
  refine g_aload_n (x := gB G + a) 0 C d_X1_init_4 rfl rfl ?_
  refine g_bipush (v := 10) C d_X1_init_5 rfl ?_
  refine k_newa (t := 0) (N := 10) (atype := .int) (a0 := (10, .inl fun _ => 0)) C K (by omega) (by omega) (by omega) wA_int rfl rfl (fun _ _ h => h) (fun _ => rfl) (by decide) rfl (by decide) (Nat.le_of_ble_eq_true rfl) (Nat.le_of_ble_eq_true rfl) d_X1_init_7 ?_
  refine k_put (a := a) (k := 3) (ty := .array .int) C K.1 (by omega) (by omega) (up1_n (by omega)) rfl inX1 tyX1 tyX1_ok nmX1 (by decide) wf_X1_9 (Or.inr ⟨rfl, hnm, rfl⟩) (by decide +kernel) rfl rfl (Nat.le_of_ble_eq_true rfl) d_X1_init_9 ?_
  refine k_vret C hlk hr rfl (fun i h1 h2 => ?_) rfl rfl d_X1_init_12
  have hi : i = a ∨ i = a + 1 := by omega
  rcases hi with rfl | rfl
  · exact (up1_s _ _ _).trans (E_1 (h0) G (Mz.1 _) (Mz.2 _)).symm
  · exact ((up1_n (by omega)).trans (up1_s _ _ _)).trans (E_21 (h9) G (Mz.1 _) (Mz.2 _)).symm
theorem n_X2_init (l : Launch) (G : GG) {a : Nat} (h0 : kU 0 a = 2) (h9 : kU 0 (a + 1) = 21) : CN l G y_X2_init prog_4_method_1_code 1 1 12 1 10 a (.inr (2, [.int 0, .int 0, .int 0, .int 0, .int 0, .int 0, .null])) (EU 0 G Mz) := by
  refine CN.of (by decide) rfl (by decide) ?_
  intro p e s m args below meth c C K hs0 hlk hr hnm
  refine g_aload_n (x := gB G + a) 0 C d_X2_init_0 rfl rfl ?_
  refine k_obj C wO_X2 wOi wOc (Nat.le_of_ble_eq_true rfl) (Nat.le_of_ble_eq_true rfl) d_X2_init_1 ?_
  refine g_aload_n (x := gB G + a) 0 C d_X2_init_4 rfl rfl ?_
  refine g_bipush (v := 10) C d_X2_init_5 rfl ?_
  refine k_newa (t := 0) (N := 10) (atype := .int) (a0 := (10, .inl fun _ => 0)) C K (by omega) (by omega) (by omega) wA_int rfl rfl (fun _ _ h => h) (fun _ => rfl) (by decide) rfl (by decide) (Nat.le_of_ble_eq_true rfl) (Nat.le_of_ble_eq_true rfl) d_X2_init_7 ?_
  refine k_put (a := a) (k := 6) (ty := .array .int) C K.1 (by omega) (by omega) (up1_n (by omega)) rfl inX2 tyX2 tyX2_ok nmX2 (by decide) wf_X2_9 (Or.inr ⟨rfl, hnm, rfl⟩) (by decide +kernel) rfl rfl (Nat.le_of_ble_eq_true rfl) d_X2_init_9 ?_
  refine k_vret C hlk hr rfl (fun i h1 h2 => ?_) rfl rfl d_X2_init_12
  have hi : i = a ∨ i = a + 1 := by omega
  rcases hi with rfl | rfl
  · exact (up1_s _ _ _).trans (E_2 (h0) G (Mz.1 _) (Mz.2 _)).symm
  · exact ((up1_n (by omega)).trans (up1_s _ _ _)).trans (E_21 (h9) G (Mz.1 _) (Mz.2 _)).symm
theorem n_X3_init (l : Launch) (G : GG) {a : Nat} (h0 : kU 0 a = 3) (h9 : kU 0 (a + 1) = 27) : CN l G y_X3_init prog_5_method_1_code 1 1 12 1 100 a (.inr (3, [.long 0, .long 0, .null])) (EU 0 G Mz) := by
  refine CN.of (by decide) rfl (by decide) ?_
  intro p e s m args below meth c C K hs0 hlk hr hnm
  refine g_aload_n (x := gB G + a) 0 C d_X3_init_0 rfl rfl ?_
  refine k_obj C wO_X3 wOi wOc (Nat.le_of_ble_eq_true rfl) (Nat.le_of_ble_eq_true rfl) d_X3_init_1 ?_
  refine g_aload_n (x := gB G + a) 0 C d_X3_init_4 rfl rfl ?_
  refine g_bipush (v := 100) C d_X3_init_5 rfl ?_
  refine k_newa (t := 3) (N := 100) (atype := .long) (a0 := (100, .inr (.inl fun _ => 0))) C K (by omega) (by omega) (by omega) wA_long rfl rfl (fun _ _ h => h) (fun _ => rfl) (by decide) rfl (by decide) (Nat.le_of_ble_eq_true rfl) (Nat.le_of_ble_eq_true rfl) d_X3_init_7 ?_
  refine k_put (a := a) (k := 2) (ty := .array .long) C K.1 (by omega) (by omega) (up1_n (by omega)) rfl inX3 tyX3 tyX3_ok nmX3 (by decide) wf_X3_9 (Or.inr ⟨rfl, hnm, rfl⟩) (by decide +kernel) rfl rfl (Nat.le_of_ble_eq_true rfl) d_X3_init_9 ?_
  refine k_vret C hlk hr rfl (fun i h1 h2 => ?_) rfl rfl d_X3_init_12
  have hi : i = a ∨ i = a + 1 := by omega
  rcases hi with rfl | rfl
  · exact (up1_s _ _ _).trans (E_3 (h0) G (Mz.1 _) (Mz.2 _)).symm
  · exact ((up1_n (by omega)).trans (up1_s _ _ _)).trans (E_27 (h9) G (Mz.1 _) (Mz.2 _)).symm
theorem n_X9_init (l : Launch) (G : GG) {a : Nat} (h0 : kU 0 a = 9) (h9 : kU 0 (a + 1) = 25) : CN l G y_X9_init prog_11_method_1_code 1 1 12 1 400 a (.inr (9, [.null, .int 0, .int 0, .int 0, .int 0, .int 0, .int 0, .int 0, .int 0, .int 0, .int 0, .int 0])) (EU 0 G Mz) := by
  refine CN.of (by decide) rfl (by decide) ?_
  intro p e s m args below meth c C K hs0 hlk hr hnm
  refine g_aload_n (x := gB G + a) 0 C d_X9_init_0 rfl rfl ?_
  refine k_obj C wO_X9 wOi wOc (Nat.le_of_ble_eq_true rfl) (Nat.le_of_ble_eq_true rfl) d_X9_init_1 ?_
  refine g_aload_n (x := gB G + a) 0 C d_X9_init_4 rfl rfl ?_
  refine g_sipush (v := 400) C d_X9_init_5 rfl ?_
  refine k_newa (t := 1) (N := 400) (atype := .byte) (a0 := (400, .inl fun _ => 0)) C K (by omega) (by omega) (by omega) wA_byte rfl rfl (fun _ _ h => h) (fun _ => rfl) (by decide) rfl (by decide) (Nat.le_of_ble_eq_true rfl) (Nat.le_of_ble_eq_true rfl) d_X9_init_8 ?_
  refine k_put (a := a) (k := 0) (ty := .array .byte) C K.1 (by omega) (by omega) (up1_n (by omega)) rfl inX9 tyX9 tyX9_ok nmX9 (by decide) wf_X9_11 (Or.inr ⟨rfl, hnm, rfl⟩) (by decide +kernel) rfl rfl (Nat.le_of_ble_eq_true rfl) d_X9_init_10 ?_
  refine k_vret C hlk hr rfl (fun i h1 h2 => ?_) rfl rfl d_X9_init_13
  have hi : i = a ∨ i = a + 1 := by omega
  rcases hi with rfl | rfl
  · exact (up1_s _ _ _).trans (E_9 (h0) G (Mz.1 _) (Mz.2 _)).symm
  · exact ((up1_n (by omega)).trans (up1_s _ _ _)).trans (E_25 (h9) G (Mz.1 _) (Mz.2 _)).symm
