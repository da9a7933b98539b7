def y_X11_isAmong : MethodName := ⟨"SnowSentries", "isAmong", "(III)Z"⟩
def y_X0_isFull : MethodName := ⟨"SnowSentries$Braziers", "isFull", "()Z"⟩
def y_X0_put : MethodName := ⟨"SnowSentries$Braziers", "put", "(IIII)V"⟩
def y_X0_takeAway : MethodName := ⟨"SnowSentries$Braziers", "takeAway", "(I)V"⟩
def y_X0_become : MethodName := ⟨"SnowSentries$Braziers", "become", "(LSnowSentries$Braziers;)V"⟩
def y_X0_reach : MethodName := ⟨"SnowSentries$Braziers", "reach", "(III)I"⟩
def y_X0_warmthOn : MethodName := ⟨"SnowSentries$Braziers", "warmthOn", "(II)I"⟩
def y_X5_suits : MethodName := ⟨"SnowSentries$Law", "suits", "(LSnowSentries$Man;)Z"⟩
def y_X6_lossBy : MethodName := ⟨"SnowSentries$Man", "lossBy", "(II)I"⟩
def y_X5_wipe : MethodName := ⟨"SnowSentries$Law", "wipe", "()V"⟩
def y_X6_melt : MethodName := ⟨"SnowSentries$Man", "melt", "(I)I"⟩
def y_X6_snowOf : MethodName := ⟨"SnowSentries$Man", "snowOf", "()I"⟩
def y_X5_change : MethodName := ⟨"SnowSentries$Law", "change", "(II)I"⟩
def y_X6_become : MethodName := ⟨"SnowSentries$Man", "become", "(LSnowSentries$Man;)V"⟩
theorem wf_X0_24 : Cond.fieldLink "SnowSentries$Braziers" 24 "SnowSentries$Braziers" "size" "I" ∈ TB := it_1 (List.mem_of_getElem? (i := 91) rfl) rfl
theorem wm_X0_28 : Cond.methodLink "SnowSentries$Braziers" 28 y_X0_isFull ∈ TB := it_3 (List.mem_of_getElem? (i := 160) rfl) rfl
theorem wc_X0_isFull : Cond.code y_X0_isFull prog_2_method_2_code 1 (some .boolean) ∈ TB := it_3 (List.mem_of_getElem? (i := 155) rfl) rfl
theorem ws_X0_isFull : Cond.instanceMethod y_X0_isFull ∈ TB := it_3 (List.mem_of_getElem? (i := 153) rfl) rfl
theorem wi_X0 : Cond.initialized "SnowSentries$Braziers" ∈ TB := it_1 (List.mem_of_getElem? (i := 4) rfl) rfl
theorem hy_X0_isFull : (y_X0_isFull).cls ≠ "java/lang/invoke/MethodHandle" ∧ (y_X0_isFull).cls ≠ "java/lang/invoke/VarHandle" ∧ (parseMethodDescriptor (y_X0_isFull).desc).map (fun d => d.parameters.length) = some 0 := by decide +kernel
theorem wl_X0_isFull : Cond.selects "SnowSentries$Braziers" y_X0_isFull y_X0_isFull ∈ TB := it_3 (List.mem_of_getElem? (i := 154) rfl) rfl
theorem wf_X0_9 : Cond.fieldLink "SnowSentries$Braziers" 9 "SnowSentries$Braziers" "furlong" "[I" ∈ TB := it_1 (List.mem_of_getElem? (i := 94) rfl) rfl
theorem wf_X0_15 : Cond.fieldLink "SnowSentries$Braziers" 15 "SnowSentries$Braziers" "heat" "[I" ∈ TB := it_1 (List.mem_of_getElem? (i := 96) rfl) rfl
theorem wf_X0_18 : Cond.fieldLink "SnowSentries$Braziers" 18 "SnowSentries$Braziers" "from" "[I" ∈ TB := it_1 (List.mem_of_getElem? (i := 98) rfl) rfl
theorem wf_X0_21 : Cond.fieldLink "SnowSentries$Braziers" 21 "SnowSentries$Braziers" "to" "[I" ∈ TB := it_1 (List.mem_of_getElem? (i := 100) rfl) rfl
theorem wm_X0_32 : Cond.methodLink "SnowSentries$Braziers" 32 arraycopyName ∈ TB := it_4 (List.mem_of_getElem? (i := 126) rfl) rfl
theorem wm_X0_42 : Cond.methodLink "SnowSentries$Braziers" 42 Lib.Math.abs.name ∈ TB := it_4 (List.mem_of_getElem? (i := 44) rfl) rfl
theorem wm_X0_48 : Cond.methodLink "SnowSentries$Braziers" 48 Lib.Math.max.name ∈ TB := it_4 (List.mem_of_getElem? (i := 45) rfl) rfl
theorem wm_X0_38 : Cond.methodLink "SnowSentries$Braziers" 38 y_X0_reach ∈ TB := it_4 (List.mem_of_getElem? (i := 41) rfl) rfl
theorem wc_X0_reach : Cond.code y_X0_reach prog_2_method_7_code 3 (some .int) ∈ TB := it_4 (List.mem_of_getElem? (i := 43) rfl) rfl
theorem ws_X0_reach : Cond.static y_X0_reach ∈ TB := it_4 (List.mem_of_getElem? (i := 42) rfl) rfl
theorem hy_X0_reach : (y_X0_reach).cls ≠ "java/lang/invoke/MethodHandle" ∧ (y_X0_reach).cls ≠ "java/lang/invoke/VarHandle" ∧ (parseMethodDescriptor (y_X0_reach).desc).map (fun d => d.parameters.length) = some 3 := by decide +kernel
theorem wf_X5_25 : Cond.fieldLink "SnowSentries$Law" 25 "SnowSentries$Man" "there" "Z" ∈ TB := it_1 (List.mem_of_getElem? (i := 121) rfl) rfl
theorem wf_X5_31 : Cond.fieldLink "SnowSentries$Law" 31 "SnowSentries$Man" "eyes" "I" ∈ TB := it_1 (List.mem_of_getElem? (i := 141) rfl) rfl
theorem wf_X5_15 : Cond.fieldLink "SnowSentries$Law" 15 "SnowSentries$Law" "eyes" "I" ∈ TB := it_2 (List.mem_of_getElem? (i := 101) rfl) rfl
theorem wf_X5_18 : Cond.fieldLink "SnowSentries$Law" 18 "SnowSentries$Law" "uniform" "I" ∈ TB := it_2 (List.mem_of_getElem? (i := 104) rfl) rfl
theorem wf_X5_32 : Cond.fieldLink "SnowSentries$Law" 32 "SnowSentries$Man" "uniform" "Z" ∈ TB := it_1 (List.mem_of_getElem? (i := 145) rfl) rfl
theorem wf_X6_15 : Cond.fieldLink "SnowSentries$Man" 15 "SnowSentries$Man" "kind" "I" ∈ TB := it_1 (List.mem_of_getElem? (i := 124) rfl) rfl
theorem wm_X6_34 : Cond.methodLink "SnowSentries$Man" 34 Lib.Math.min.name ∈ TB := it_4 (List.mem_of_getElem? (i := 64) rfl) rfl
theorem wf_X5_9 : Cond.fieldLink "SnowSentries$Law" 9 "SnowSentries$Law" "head" "I" ∈ TB := it_2 (List.mem_of_getElem? (i := 96) rfl) rfl
theorem wf_X6_25 : Cond.fieldLink "SnowSentries$Man" 25 "SnowSentries$Man" "head" "I" ∈ TB := it_1 (List.mem_of_getElem? (i := 135) rfl) rfl
theorem wf_X6_22 : Cond.fieldLink "SnowSentries$Man" 22 "SnowSentries$Man" "belly" "I" ∈ TB := it_1 (List.mem_of_getElem? (i := 131) rfl) rfl
theorem wf_X6_19 : Cond.fieldLink "SnowSentries$Man" 19 "SnowSentries$Man" "base" "I" ∈ TB := it_1 (List.mem_of_getElem? (i := 128) rfl) rfl
theorem wf_X6_9 : Cond.fieldLink "SnowSentries$Man" 9 "SnowSentries$Man" "there" "Z" ∈ TB := it_1 (List.mem_of_getElem? (i := 119) rfl) rfl
theorem wm_X5_21 : (("SnowSentries$Law", 21, y_X11_isAmong, "SnowSentries") : String × Nat × MethodName × String) ∈ nestL := List.mem_of_getElem? (i := 10) rfl
theorem wc_X11_isAmong : Cond.code y_X11_isAmong prog_1_method_45_code 3 (some .boolean) ∈ TB := it_2 (List.mem_of_getElem? (i := 232) rfl) rfl
theorem ws_X11_isAmong : Cond.static y_X11_isAmong ∈ TB := it_2 (List.mem_of_getElem? (i := 231) rfl) rfl
theorem wi_X11 : Cond.initialized "SnowSentries" ∈ TB := it_1 (List.mem_of_getElem? (i := 1) rfl) rfl
theorem hy_X11_isAmong : (y_X11_isAmong).cls ≠ "java/lang/invoke/MethodHandle" ∧ (y_X11_isAmong).cls ≠ "java/lang/invoke/VarHandle" ∧ (parseMethodDescriptor (y_X11_isAmong).desc).map (fun d => d.parameters.length) = some 3 := by decide +kernel
theorem wf_X6_28 : Cond.fieldLink "SnowSentries$Man" 28 "SnowSentries$Man" "eyes" "I" ∈ TB := it_1 (List.mem_of_getElem? (i := 140) rfl) rfl
theorem wf_X6_31 : Cond.fieldLink "SnowSentries$Man" 31 "SnowSentries$Man" "uniform" "Z" ∈ TB := it_1 (List.mem_of_getElem? (i := 144) rfl) rfl
theorem d_X11_isAmong_0 : DD prog_1_method_45_code 0 (.iload_n 0) 1 1 := ⟨by decide +kernel, rfl⟩
theorem d_X11_isAmong_1 : DD prog_1_method_45_code 1 (.iload_n 1) 1 2 := ⟨by decide +kernel, rfl⟩
theorem d_X11_isAmong_2 : DJ prog_1_method_45_code 2 (fun o => .if_icmp .lt o) 14 3 5 := ⟨by decide +kernel, rfl⟩
theorem d_X11_isAmong_5 : DD prog_1_method_45_code 5 (.iload_n 0) 1 6 := ⟨by decide +kernel, rfl⟩
theorem d_X11_isAmong_6 : DD prog_1_method_45_code 6 (.iload_n 2) 1 7 := ⟨by decide +kernel, rfl⟩
theorem d_X11_isAmong_7 : DJ prog_1_method_45_code 7 (fun o => .if_icmp .gt o) 14 3 10 := ⟨by decide +kernel, rfl⟩
theorem d_X11_isAmong_10 : DD prog_1_method_45_code 10 (.iconst 1) 1 11 := ⟨by decide +kernel, rfl⟩
theorem d_X11_isAmong_11 : DJ prog_1_method_45_code 11 (fun o => .goto o) 15 3 14 := ⟨by decide +kernel, rfl⟩
theorem d_X11_isAmong_14 : DD prog_1_method_45_code 14 (.iconst 0) 1 15 := ⟨by decide +kernel, rfl⟩
theorem d_X11_isAmong_15 : DD prog_1_method_45_code 15 (.ireturn) 1 16 := ⟨by decide +kernel, rfl⟩
theorem d_X0_isFull_0 : DD prog_2_method_2_code 0 (.aload_n 0) 1 1 := ⟨by decide +kernel, rfl⟩
theorem d_X0_isFull_1 : DD prog_2_method_2_code 1 (.getfield 24) 3 4 := ⟨by decide +kernel, rfl⟩
theorem d_X0_isFull_4 : DD prog_2_method_2_code 4 (.bipush 6) 2 6 := ⟨by decide +kernel, rfl⟩
theorem d_X0_isFull_6 : DJ prog_2_method_2_code 6 (fun o => .if_icmp .lt o) 13 3 9 := ⟨by decide +kernel, rfl⟩
theorem d_X0_isFull_9 : DD prog_2_method_2_code 9 (.iconst 1) 1 10 := ⟨by decide +kernel, rfl⟩
theorem d_X0_isFull_10 : DJ prog_2_method_2_code 10 (fun o => .goto o) 14 3 13 := ⟨by decide +kernel, rfl⟩
theorem d_X0_isFull_13 : DD prog_2_method_2_code 13 (.iconst 0) 1 14 := ⟨by decide +kernel, rfl⟩
theorem d_X0_isFull_14 : DD prog_2_method_2_code 14 (.ireturn) 1 15 := ⟨by decide +kernel, rfl⟩
theorem d_X0_put_0 : DD prog_2_method_3_code 0 (.aload_n 0) 1 1 := ⟨by decide +kernel, rfl⟩
theorem d_X0_put_1 : DD prog_2_method_3_code 1 (.invokevirtual 28) 3 4 := ⟨by decide +kernel, rfl⟩
theorem d_X0_put_4 : DJ prog_2_method_3_code 4 (fun o => .ifCond .eq o) 8 3 7 := ⟨by decide +kernel, rfl⟩
theorem d_X0_put_7 : DD prog_2_method_3_code 7 (.return_) 1 8 := ⟨by decide +kernel, rfl⟩
theorem d_X0_put_8 : DD prog_2_method_3_code 8 (.aload_n 0) 1 9 := ⟨by decide +kernel, rfl⟩
theorem d_X0_put_9 : DD prog_2_method_3_code 9 (.getfield 9) 3 12 := ⟨by decide +kernel, rfl⟩
theorem d_X0_put_12 : DD prog_2_method_3_code 12 (.aload_n 0) 1 13 := ⟨by decide +kernel, rfl⟩
theorem d_X0_put_13 : DD prog_2_method_3_code 13 (.getfield 24) 3 16 := ⟨by decide +kernel, rfl⟩
theorem d_X0_put_16 : DD prog_2_method_3_code 16 (.iload_n 1) 1 17 := ⟨by decide +kernel, rfl⟩
theorem d_X0_put_17 : DD prog_2_method_3_code 17 (.iastore) 1 18 := ⟨by decide +kernel, rfl⟩
theorem d_X0_put_18 : DD prog_2_method_3_code 18 (.aload_n 0) 1 19 := ⟨by decide +kernel, rfl⟩
theorem d_X0_put_19 : DD prog_2_method_3_code 19 (.getfield 15) 3 22 := ⟨by decide +kernel, rfl⟩
theorem d_X0_put_22 : DD prog_2_method_3_code 22 (.aload_n 0) 1 23 := ⟨by decide +kernel, rfl⟩
theorem d_X0_put_23 : DD prog_2_method_3_code 23 (.getfield 24) 3 26 := ⟨by decide +kernel, rfl⟩
theorem d_X0_put_26 : DD prog_2_method_3_code 26 (.iload_n 2) 1 27 := ⟨by decide +kernel, rfl⟩
theorem d_X0_put_27 : DD prog_2_method_3_code 27 (.iastore) 1 28 := ⟨by decide +kernel, rfl⟩
theorem d_X0_put_28 : DD prog_2_method_3_code 28 (.aload_n 0) 1 29 := ⟨by decide +kernel, rfl⟩
theorem d_X0_put_29 : DD prog_2_method_3_code 29 (.getfield 18) 3 32 := ⟨by decide +kernel, rfl⟩
theorem d_X0_put_32 : DD prog_2_method_3_code 32 (.aload_n 0) 1 33 := ⟨by decide +kernel, rfl⟩
theorem d_X0_put_33 : DD prog_2_method_3_code 33 (.getfield 24) 3 36 := ⟨by decide +kernel, rfl⟩
theorem d_X0_put_36 : DD prog_2_method_3_code 36 (.iload_n 3) 1 37 := ⟨by decide +kernel, rfl⟩
theorem d_X0_put_37 : DD prog_2_method_3_code 37 (.iastore) 1 38 := ⟨by decide +kernel, rfl⟩
theorem d_X0_put_38 : DD prog_2_method_3_code 38 (.aload_n 0) 1 39 := ⟨by decide +kernel, rfl⟩
theorem d_X0_put_39 : DD prog_2_method_3_code 39 (.getfield 21) 3 42 := ⟨by decide +kernel, rfl⟩
theorem d_X0_put_42 : DD prog_2_method_3_code 42 (.aload_n 0) 1 43 := ⟨by decide +kernel, rfl⟩
theorem d_X0_put_43 : DD prog_2_method_3_code 43 (.getfield 24) 3 46 := ⟨by decide +kernel, rfl⟩
theorem d_X0_put_46 : DD prog_2_method_3_code 46 (.iload 4) 2 48 := ⟨by decide +kernel, rfl⟩
theorem d_X0_put_48 : DD prog_2_method_3_code 48 (.iastore) 1 49 := ⟨by decide +kernel, rfl⟩
theorem d_X0_put_49 : DD prog_2_method_3_code 49 (.aload_n 0) 1 50 := ⟨by decide +kernel, rfl⟩
theorem d_X0_put_50 : DD prog_2_method_3_code 50 (.dup) 1 51 := ⟨by decide +kernel, rfl⟩
theorem d_X0_put_51 : DD prog_2_method_3_code 51 (.getfield 24) 3 54 := ⟨by decide +kernel, rfl⟩
theorem d_X0_put_54 : DD prog_2_method_3_code 54 (.iconst 1) 1 55 := ⟨by decide +kernel, rfl⟩
theorem d_X0_put_55 : DD prog_2_method_3_code 55 (.iadd) 1 56 := ⟨by decide +kernel, rfl⟩
theorem d_X0_put_56 : DD prog_2_method_3_code 56 (.putfield 24) 3 59 := ⟨by decide +kernel, rfl⟩
theorem d_X0_put_59 : DD prog_2_method_3_code 59 (.return_) 1 60 := ⟨by decide +kernel, rfl⟩
theorem d_X0_takeAway_0 : DD prog_2_method_4_code 0 (.iload_n 1) 1 1 := ⟨by decide +kernel, rfl⟩
theorem d_X0_takeAway_1 : DD prog_2_method_4_code 1 (.iconst 1) 1 2 := ⟨by decide +kernel, rfl⟩
theorem d_X0_takeAway_2 : DD prog_2_method_4_code 2 (.iadd) 1 3 := ⟨by decide +kernel, rfl⟩
theorem d_X0_takeAway_3 : DD prog_2_method_4_code 3 (.istore_n 2) 1 4 := ⟨by decide +kernel, rfl⟩
theorem d_X0_takeAway_4 : DD prog_2_method_4_code 4 (.iload_n 2) 1 5 := ⟨by decide +kernel, rfl⟩
theorem d_X0_takeAway_5 : DD prog_2_method_4_code 5 (.aload_n 0) 1 6 := ⟨by decide +kernel, rfl⟩
theorem d_X0_takeAway_6 : DD prog_2_method_4_code 6 (.getfield 24) 3 9 := ⟨by decide +kernel, rfl⟩
theorem d_X0_takeAway_9 : DJ prog_2_method_4_code 9 (fun o => .if_icmp .ge o) 74 3 12 := ⟨by decide +kernel, rfl⟩
theorem d_X0_takeAway_12 : DD prog_2_method_4_code 12 (.aload_n 0) 1 13 := ⟨by decide +kernel, rfl⟩
theorem d_X0_takeAway_13 : DD prog_2_method_4_code 13 (.getfield 9) 3 16 := ⟨by decide +kernel, rfl⟩
theorem d_X0_takeAway_16 : DD prog_2_method_4_code 16 (.iload_n 2) 1 17 := ⟨by decide +kernel, rfl⟩
theorem d_X0_takeAway_17 : DD prog_2_method_4_code 17 (.iconst 1) 1 18 := ⟨by decide +kernel, rfl⟩
theorem d_X0_takeAway_18 : DD prog_2_method_4_code 18 (.isub) 1 19 := ⟨by decide +kernel, rfl⟩
theorem d_X0_takeAway_19 : DD prog_2_method_4_code 19 (.aload_n 0) 1 20 := ⟨by decide +kernel, rfl⟩
theorem d_X0_takeAway_20 : DD prog_2_method_4_code 20 (.getfield 9) 3 23 := ⟨by decide +kernel, rfl⟩
theorem d_X0_takeAway_23 : DD prog_2_method_4_code 23 (.iload_n 2) 1 24 := ⟨by decide +kernel, rfl⟩
theorem d_X0_takeAway_24 : DD prog_2_method_4_code 24 (.iaload) 1 25 := ⟨by decide +kernel, rfl⟩
theorem d_X0_takeAway_25 : DD prog_2_method_4_code 25 (.iastore) 1 26 := ⟨by decide +kernel, rfl⟩
theorem d_X0_takeAway_26 : DD prog_2_method_4_code 26 (.aload_n 0) 1 27 := ⟨by decide +kernel, rfl⟩
theorem d_X0_takeAway_27 : DD prog_2_method_4_code 27 (.getfield 15) 3 30 := ⟨by decide +kernel, rfl⟩
theorem d_X0_takeAway_30 : DD prog_2_method_4_code 30 (.iload_n 2) 1 31 := ⟨by decide +kernel, rfl⟩
theorem d_X0_takeAway_31 : DD prog_2_method_4_code 31 (.iconst 1) 1 32 := ⟨by decide +kernel, rfl⟩
theorem d_X0_takeAway_32 : DD prog_2_method_4_code 32 (.isub) 1 33 := ⟨by decide +kernel, rfl⟩
theorem d_X0_takeAway_33 : DD prog_2_method_4_code 33 (.aload_n 0) 1 34 := ⟨by decide +kernel, rfl⟩
theorem d_X0_takeAway_34 : DD prog_2_method_4_code 34 (.getfield 15) 3 37 := ⟨by decide +kernel, rfl⟩
theorem d_X0_takeAway_37 : DD prog_2_method_4_code 37 (.iload_n 2) 1 38 := ⟨by decide +kernel, rfl⟩
theorem d_X0_takeAway_38 : DD prog_2_method_4_code 38 (.iaload) 1 39 := ⟨by decide +kernel, rfl⟩
theorem d_X0_takeAway_39 : DD prog_2_method_4_code 39 (.iastore) 1 40 := ⟨by decide +kernel, rfl⟩
theorem d_X0_takeAway_40 : DD prog_2_method_4_code 40 (.aload_n 0) 1 41 := ⟨by decide +kernel, rfl⟩
theorem d_X0_takeAway_41 : DD prog_2_method_4_code 41 (.getfield 18) 3 44 := ⟨by decide +kernel, rfl⟩
theorem d_X0_takeAway_44 : DD prog_2_method_4_code 44 (.iload_n 2) 1 45 := ⟨by decide +kernel, rfl⟩
theorem d_X0_takeAway_45 : DD prog_2_method_4_code 45 (.iconst 1) 1 46 := ⟨by decide +kernel, rfl⟩
theorem d_X0_takeAway_46 : DD prog_2_method_4_code 46 (.isub) 1 47 := ⟨by decide +kernel, rfl⟩
theorem d_X0_takeAway_47 : DD prog_2_method_4_code 47 (.aload_n 0) 1 48 := ⟨by decide +kernel, rfl⟩
theorem d_X0_takeAway_48 : DD prog_2_method_4_code 48 (.getfield 18) 3 51 := ⟨by decide +kernel, rfl⟩
theorem d_X0_takeAway_51 : DD prog_2_method_4_code 51 (.iload_n 2) 1 52 := ⟨by decide +kernel, rfl⟩
theorem d_X0_takeAway_52 : DD prog_2_method_4_code 52 (.iaload) 1 53 := ⟨by decide +kernel, rfl⟩
theorem d_X0_takeAway_53 : DD prog_2_method_4_code 53 (.iastore) 1 54 := ⟨by decide +kernel, rfl⟩
theorem d_X0_takeAway_54 : DD prog_2_method_4_code 54 (.aload_n 0) 1 55 := ⟨by decide +kernel, rfl⟩
theorem d_X0_takeAway_55 : DD prog_2_method_4_code 55 (.getfield 21) 3 58 := ⟨by decide +kernel, rfl⟩
theorem d_X0_takeAway_58 : DD prog_2_method_4_code 58 (.iload_n 2) 1 59 := ⟨by decide +kernel, rfl⟩
theorem d_X0_takeAway_59 : DD prog_2_method_4_code 59 (.iconst 1) 1 60 := ⟨by decide +kernel, rfl⟩
theorem d_X0_takeAway_60 : DD prog_2_method_4_code 60 (.isub) 1 61 := ⟨by decide +kernel, rfl⟩
theorem d_X0_takeAway_61 : DD prog_2_method_4_code 61 (.aload_n 0) 1 62 := ⟨by decide +kernel, rfl⟩
theorem d_X0_takeAway_62 : DD prog_2_method_4_code 62 (.getfield 21) 3 65 := ⟨by decide +kernel, rfl⟩
theorem d_X0_takeAway_65 : DD prog_2_method_4_code 65 (.iload_n 2) 1 66 := ⟨by decide +kernel, rfl⟩
theorem d_X0_takeAway_66 : DD prog_2_method_4_code 66 (.iaload) 1 67 := ⟨by decide +kernel, rfl⟩
theorem d_X0_takeAway_67 : DD prog_2_method_4_code 67 (.iastore) 1 68 := ⟨by decide +kernel, rfl⟩
theorem d_X0_takeAway_68 : DD prog_2_method_4_code 68 (.iinc 2 1) 3 71 := ⟨by decide +kernel, rfl⟩
theorem d_X0_takeAway_71 : DJ prog_2_method_4_code 71 (fun o => .goto o) 4 3 74 := ⟨by decide +kernel, rfl⟩
theorem d_X0_takeAway_74 : DD prog_2_method_4_code 74 (.aload_n 0) 1 75 := ⟨by decide +kernel, rfl⟩
theorem d_X0_takeAway_75 : DD prog_2_method_4_code 75 (.dup) 1 76 := ⟨by decide +kernel, rfl⟩
theorem d_X0_takeAway_76 : DD prog_2_method_4_code 76 (.getfield 24) 3 79 := ⟨by decide +kernel, rfl⟩
theorem d_X0_takeAway_79 : DD prog_2_method_4_code 79 (.iconst 1) 1 80 := ⟨by decide +kernel, rfl⟩
theorem d_X0_takeAway_80 : DD prog_2_method_4_code 80 (.isub) 1 81 := ⟨by decide +kernel, rfl⟩
theorem d_X0_takeAway_81 : DD prog_2_method_4_code 81 (.putfield 24) 3 84 := ⟨by decide +kernel, rfl⟩
theorem d_X0_takeAway_84 : DD prog_2_method_4_code 84 (.return_) 1 85 := ⟨by decide +kernel, rfl⟩
theorem d_X0_become_0 : DD prog_2_method_5_code 0 (.aload_n 0) 1 1 := ⟨by decide +kernel, rfl⟩
theorem d_X0_become_1 : DD prog_2_method_5_code 1 (.aload_n 1) 1 2 := ⟨by decide +kernel, rfl⟩
theorem d_X0_become_2 : DD prog_2_method_5_code 2 (.getfield 24) 3 5 := ⟨by decide +kernel, rfl⟩
theorem d_X0_become_5 : DD prog_2_method_5_code 5 (.putfield 24) 3 8 := ⟨by decide +kernel, rfl⟩
theorem d_X0_become_8 : DD prog_2_method_5_code 8 (.aload_n 1) 1 9 := ⟨by decide +kernel, rfl⟩
theorem d_X0_become_9 : DD prog_2_method_5_code 9 (.getfield 9) 3 12 := ⟨by decide +kernel, rfl⟩
theorem d_X0_become_12 : DD prog_2_method_5_code 12 (.iconst 0) 1 13 := ⟨by decide +kernel, rfl⟩
theorem d_X0_become_13 : DD prog_2_method_5_code 13 (.aload_n 0) 1 14 := ⟨by decide +kernel, rfl⟩
theorem d_X0_become_14 : DD prog_2_method_5_code 14 (.getfield 9) 3 17 := ⟨by decide +kernel, rfl⟩
theorem d_X0_become_17 : DD prog_2_method_5_code 17 (.iconst 0) 1 18 := ⟨by decide +kernel, rfl⟩
theorem d_X0_become_18 : DD prog_2_method_5_code 18 (.bipush 6) 2 20 := ⟨by decide +kernel, rfl⟩
theorem d_X0_become_20 : DD prog_2_method_5_code 20 (.invokestatic 32) 3 23 := ⟨by decide +kernel, rfl⟩
theorem d_X0_become_23 : DD prog_2_method_5_code 23 (.aload_n 1) 1 24 := ⟨by decide +kernel, rfl⟩
theorem d_X0_become_24 : DD prog_2_method_5_code 24 (.getfield 15) 3 27 := ⟨by decide +kernel, rfl⟩
theorem d_X0_become_27 : DD prog_2_method_5_code 27 (.iconst 0) 1 28 := ⟨by decide +kernel, rfl⟩
theorem d_X0_become_28 : DD prog_2_method_5_code 28 (.aload_n 0) 1 29 := ⟨by decide +kernel, rfl⟩
theorem d_X0_become_29 : DD prog_2_method_5_code 29 (.getfield 15) 3 32 := ⟨by decide +kernel, rfl⟩
theorem d_X0_become_32 : DD prog_2_method_5_code 32 (.iconst 0) 1 33 := ⟨by decide +kernel, rfl⟩
theorem d_X0_become_33 : DD prog_2_method_5_code 33 (.bipush 6) 2 35 := ⟨by decide +kernel, rfl⟩
theorem d_X0_become_35 : DD prog_2_method_5_code 35 (.invokestatic 32) 3 38 := ⟨by decide +kernel, rfl⟩
theorem d_X0_become_38 : DD prog_2_method_5_code 38 (.aload_n 1) 1 39 := ⟨by decide +kernel, rfl⟩
theorem d_X0_become_39 : DD prog_2_method_5_code 39 (.getfield 18) 3 42 := ⟨by decide +kernel, rfl⟩
theorem d_X0_become_42 : DD prog_2_method_5_code 42 (.iconst 0) 1 43 := ⟨by decide +kernel, rfl⟩
theorem d_X0_become_43 : DD prog_2_method_5_code 43 (.aload_n 0) 1 44 := ⟨by decide +kernel, rfl⟩
theorem d_X0_become_44 : DD prog_2_method_5_code 44 (.getfield 18) 3 47 := ⟨by decide +kernel, rfl⟩
theorem d_X0_become_47 : DD prog_2_method_5_code 47 (.iconst 0) 1 48 := ⟨by decide +kernel, rfl⟩
theorem d_X0_become_48 : DD prog_2_method_5_code 48 (.bipush 6) 2 50 := ⟨by decide +kernel, rfl⟩
theorem d_X0_become_50 : DD prog_2_method_5_code 50 (.invokestatic 32) 3 53 := ⟨by decide +kernel, rfl⟩
theorem d_X0_become_53 : DD prog_2_method_5_code 53 (.aload_n 1) 1 54 := ⟨by decide +kernel, rfl⟩
theorem d_X0_become_54 : DD prog_2_method_5_code 54 (.getfield 21) 3 57 := ⟨by decide +kernel, rfl⟩
theorem d_X0_become_57 : DD prog_2_method_5_code 57 (.iconst 0) 1 58 := ⟨by decide +kernel, rfl⟩
theorem d_X0_become_58 : DD prog_2_method_5_code 58 (.aload_n 0) 1 59 := ⟨by decide +kernel, rfl⟩
theorem d_X0_become_59 : DD prog_2_method_5_code 59 (.getfield 21) 3 62 := ⟨by decide +kernel, rfl⟩
theorem d_X0_become_62 : DD prog_2_method_5_code 62 (.iconst 0) 1 63 := ⟨by decide +kernel, rfl⟩
theorem d_X0_become_63 : DD prog_2_method_5_code 63 (.bipush 6) 2 65 := ⟨by decide +kernel, rfl⟩
theorem d_X0_become_65 : DD prog_2_method_5_code 65 (.invokestatic 32) 3 68 := ⟨by decide +kernel, rfl⟩
theorem d_X0_become_68 : DD prog_2_method_5_code 68 (.return_) 1 69 := ⟨by decide +kernel, rfl⟩
theorem d_X0_reach_0 : DD prog_2_method_7_code 0 (.iconst 0) 1 1 := ⟨by decide +kernel, rfl⟩
theorem d_X0_reach_1 : DD prog_2_method_7_code 1 (.iload_n 0) 1 2 := ⟨by decide +kernel, rfl⟩
theorem d_X0_reach_2 : DD prog_2_method_7_code 2 (.iconst 4) 1 3 := ⟨by decide +kernel, rfl⟩
theorem d_X0_reach_3 : DD prog_2_method_7_code 3 (.iload_n 1) 1 4 := ⟨by decide +kernel, rfl⟩
theorem d_X0_reach_4 : DD prog_2_method_7_code 4 (.iload_n 2) 1 5 := ⟨by decide +kernel, rfl⟩
theorem d_X0_reach_5 : DD prog_2_method_7_code 5 (.isub) 1 6 := ⟨by decide +kernel, rfl⟩
theorem d_X0_reach_6 : DD prog_2_method_7_code 6 (.invokestatic 42) 3 9 := ⟨by decide +kernel, rfl⟩
theorem d_X0_reach_9 : DD prog_2_method_7_code 9 (.imul) 1 10 := ⟨by decide +kernel, rfl⟩
theorem d_X0_reach_10 : DD prog_2_method_7_code 10 (.isub) 1 11 := ⟨by decide +kernel, rfl⟩
theorem d_X0_reach_11 : DD prog_2_method_7_code 11 (.invokestatic 48) 3 14 := ⟨by decide +kernel, rfl⟩
theorem d_X0_reach_14 : DD prog_2_method_7_code 14 (.ireturn) 1 15 := ⟨by decide +kernel, rfl⟩
theorem d_X0_warmthOn_0 : DD prog_2_method_6_code 0 (.iconst 0) 1 1 := ⟨by decide +kernel, rfl⟩
theorem d_X0_warmthOn_1 : DD prog_2_method_6_code 1 (.istore_n 3) 1 2 := ⟨by decide +kernel, rfl⟩
theorem d_X0_warmthOn_2 : DD prog_2_method_6_code 2 (.iconst 0) 1 3 := ⟨by decide +kernel, rfl⟩
theorem d_X0_warmthOn_3 : DD prog_2_method_6_code 3 (.istore 4) 2 5 := ⟨by decide +kernel, rfl⟩
theorem d_X0_warmthOn_5 : DD prog_2_method_6_code 5 (.iload 4) 2 7 := ⟨by decide +kernel, rfl⟩
theorem d_X0_warmthOn_7 : DD prog_2_method_6_code 7 (.aload_n 0) 1 8 := ⟨by decide +kernel, rfl⟩
theorem d_X0_warmthOn_8 : DD prog_2_method_6_code 8 (.getfield 24) 3 11 := ⟨by decide +kernel, rfl⟩
theorem d_X0_warmthOn_11 : DJ prog_2_method_6_code 11 (fun o => .if_icmp .ge o) 63 3 14 := ⟨by decide +kernel, rfl⟩
theorem d_X0_warmthOn_14 : DD prog_2_method_6_code 14 (.iload_n 2) 1 15 := ⟨by decide +kernel, rfl⟩
theorem d_X0_warmthOn_15 : DD prog_2_method_6_code 15 (.aload_n 0) 1 16 := ⟨by decide +kernel, rfl⟩
theorem d_X0_warmthOn_16 : DD prog_2_method_6_code 16 (.getfield 18) 3 19 := ⟨by decide +kernel, rfl⟩
theorem d_X0_warmthOn_19 : DD prog_2_method_6_code 19 (.iload 4) 2 21 := ⟨by decide +kernel, rfl⟩
theorem d_X0_warmthOn_21 : DD prog_2_method_6_code 21 (.iaload) 1 22 := ⟨by decide +kernel, rfl⟩
theorem d_X0_warmthOn_22 : DJ prog_2_method_6_code 22 (fun o => .if_icmp .lt o) 57 3 25 := ⟨by decide +kernel, rfl⟩
theorem d_X0_warmthOn_25 : DD prog_2_method_6_code 25 (.iload_n 2) 1 26 := ⟨by decide +kernel, rfl⟩
theorem d_X0_warmthOn_26 : DD prog_2_method_6_code 26 (.aload_n 0) 1 27 := ⟨by decide +kernel, rfl⟩
theorem d_X0_warmthOn_27 : DD prog_2_method_6_code 27 (.getfield 21) 3 30 := ⟨by decide +kernel, rfl⟩
theorem d_X0_warmthOn_30 : DD prog_2_method_6_code 30 (.iload 4) 2 32 := ⟨by decide +kernel, rfl⟩
theorem d_X0_warmthOn_32 : DD prog_2_method_6_code 32 (.iaload) 1 33 := ⟨by decide +kernel, rfl⟩
theorem d_X0_warmthOn_33 : DJ prog_2_method_6_code 33 (fun o => .if_icmp .gt o) 57 3 36 := ⟨by decide +kernel, rfl⟩
theorem d_X0_warmthOn_36 : DD prog_2_method_6_code 36 (.iload_n 3) 1 37 := ⟨by decide +kernel, rfl⟩
theorem d_X0_warmthOn_37 : DD prog_2_method_6_code 37 (.aload_n 0) 1 38 := ⟨by decide +kernel, rfl⟩
theorem d_X0_warmthOn_38 : DD prog_2_method_6_code 38 (.getfield 15) 3 41 := ⟨by decide +kernel, rfl⟩
theorem d_X0_warmthOn_41 : DD prog_2_method_6_code 41 (.iload 4) 2 43 := ⟨by decide +kernel, rfl⟩
theorem d_X0_warmthOn_43 : DD prog_2_method_6_code 43 (.iaload) 1 44 := ⟨by decide +kernel, rfl⟩
theorem d_X0_warmthOn_44 : DD prog_2_method_6_code 44 (.aload_n 0) 1 45 := ⟨by decide +kernel, rfl⟩
theorem d_X0_warmthOn_45 : DD prog_2_method_6_code 45 (.getfield 9) 3 48 := ⟨by decide +kernel, rfl⟩
theorem d_X0_warmthOn_48 : DD prog_2_method_6_code 48 (.iload 4) 2 50 := ⟨by decide +kernel, rfl⟩
theorem d_X0_warmthOn_50 : DD prog_2_method_6_code 50 (.iaload) 1 51 := ⟨by decide +kernel, rfl⟩
theorem d_X0_warmthOn_51 : DD prog_2_method_6_code 51 (.iload_n 1) 1 52 := ⟨by decide +kernel, rfl⟩
theorem d_X0_warmthOn_52 : DD prog_2_method_6_code 52 (.invokestatic 38) 3 55 := ⟨by decide +kernel, rfl⟩
theorem d_X0_warmthOn_55 : DD prog_2_method_6_code 55 (.iadd) 1 56 := ⟨by decide +kernel, rfl⟩
theorem d_X0_warmthOn_56 : DD prog_2_method_6_code 56 (.istore_n 3) 1 57 := ⟨by decide +kernel, rfl⟩
theorem d_X0_warmthOn_57 : DD prog_2_method_6_code 57 (.iinc 4 1) 3 60 := ⟨by decide +kernel, rfl⟩
theorem d_X0_warmthOn_60 : DJ prog_2_method_6_code 60 (fun o => .goto o) 5 3 63 := ⟨by decide +kernel, rfl⟩
theorem d_X0_warmthOn_63 : DD prog_2_method_6_code 63 (.iload_n 3) 1 64 := ⟨by decide +kernel, rfl⟩
theorem d_X0_warmthOn_64 : DD prog_2_method_6_code 64 (.ireturn) 1 65 := ⟨by decide +kernel, rfl⟩
theorem d_X5_suits_0 : DD prog_7_method_4_code 0 (.aload_n 1) 1 1 := ⟨by decide +kernel, rfl⟩
theorem d_X5_suits_1 : DD prog_7_method_4_code 1 (.getfield 25) 3 4 := ⟨by decide +kernel, rfl⟩
theorem d_X5_suits_4 : DJ prog_7_method_4_code 4 (fun o => .ifCond .eq o) 36 3 7 := ⟨by decide +kernel, rfl⟩
theorem d_X5_suits_7 : DD prog_7_method_4_code 7 (.aload_n 1) 1 8 := ⟨by decide +kernel, rfl⟩
theorem d_X5_suits_8 : DD prog_7_method_4_code 8 (.getfield 31) 3 11 := ⟨by decide +kernel, rfl⟩
theorem d_X5_suits_11 : DD prog_7_method_4_code 11 (.aload_n 0) 1 12 := ⟨by decide +kernel, rfl⟩
theorem d_X5_suits_12 : DD prog_7_method_4_code 12 (.getfield 15) 3 15 := ⟨by decide +kernel, rfl⟩
theorem d_X5_suits_15 : DJ prog_7_method_4_code 15 (fun o => .if_icmp .lt o) 36 3 18 := ⟨by decide +kernel, rfl⟩
theorem d_X5_suits_18 : DD prog_7_method_4_code 18 (.aload_n 0) 1 19 := ⟨by decide +kernel, rfl⟩
theorem d_X5_suits_19 : DD prog_7_method_4_code 19 (.getfield 18) 3 22 := ⟨by decide +kernel, rfl⟩
theorem d_X5_suits_22 : DJ prog_7_method_4_code 22 (fun o => .ifCond .eq o) 32 3 25 := ⟨by decide +kernel, rfl⟩
theorem d_X5_suits_25 : DD prog_7_method_4_code 25 (.aload_n 1) 1 26 := ⟨by decide +kernel, rfl⟩
theorem d_X5_suits_26 : DD prog_7_method_4_code 26 (.getfield 32) 3 29 := ⟨by decide +kernel, rfl⟩
theorem d_X5_suits_29 : DJ prog_7_method_4_code 29 (fun o => .ifCond .eq o) 36 3 32 := ⟨by decide +kernel, rfl⟩
theorem d_X5_suits_32 : DD prog_7_method_4_code 32 (.iconst 1) 1 33 := ⟨by decide +kernel, rfl⟩
theorem d_X5_suits_33 : DJ prog_7_method_4_code 33 (fun o => .goto o) 37 3 36 := ⟨by decide +kernel, rfl⟩
theorem d_X5_suits_36 : DD prog_7_method_4_code 36 (.iconst 0) 1 37 := ⟨by decide +kernel, rfl⟩
theorem d_X5_suits_37 : DD prog_7_method_4_code 37 (.ireturn) 1 38 := ⟨by decide +kernel, rfl⟩
theorem d_X6_lossBy_0 : DD prog_8_method_4_code 0 (.aload_n 0) 1 1 := ⟨by decide +kernel, rfl⟩
theorem d_X6_lossBy_1 : DD prog_8_method_4_code 1 (.getfield 15) 3 4 := ⟨by decide +kernel, rfl⟩
theorem d_X6_lossBy_4 : DD prog_8_method_4_code 4 (.tableswitch 44 1 3 #[28, 34, 36]) 28 32 := ⟨by decide +kernel, rfl⟩
theorem d_X6_lossBy_32 : DD prog_8_method_4_code 32 (.iload_n 1) 1 33 := ⟨by decide +kernel, rfl⟩
theorem d_X6_lossBy_33 : DD prog_8_method_4_code 33 (.iload_n 2) 1 34 := ⟨by decide +kernel, rfl⟩
theorem d_X6_lossBy_34 : DD prog_8_method_4_code 34 (.iadd) 1 35 := ⟨by decide +kernel, rfl⟩
theorem d_X6_lossBy_35 : DD prog_8_method_4_code 35 (.iconst 2) 1 36 := ⟨by decide +kernel, rfl⟩
theorem d_X6_lossBy_36 : DD prog_8_method_4_code 36 (.idiv) 1 37 := ⟨by decide +kernel, rfl⟩
theorem d_X6_lossBy_37 : DD prog_8_method_4_code 37 (.ireturn) 1 38 := ⟨by decide +kernel, rfl⟩
theorem d_X6_lossBy_38 : DD prog_8_method_4_code 38 (.iload_n 1) 1 39 := ⟨by decide +kernel, rfl⟩
theorem d_X6_lossBy_39 : DD prog_8_method_4_code 39 (.ireturn) 1 40 := ⟨by decide +kernel, rfl⟩
theorem d_X6_lossBy_40 : DD prog_8_method_4_code 40 (.iload_n 1) 1 41 := ⟨by decide +kernel, rfl⟩
theorem d_X6_lossBy_41 : DD prog_8_method_4_code 41 (.iload_n 2) 1 42 := ⟨by decide +kernel, rfl⟩
theorem d_X6_lossBy_42 : DD prog_8_method_4_code 42 (.iadd) 1 43 := ⟨by decide +kernel, rfl⟩
theorem d_X6_lossBy_43 : DD prog_8_method_4_code 43 (.iconst 2) 1 44 := ⟨by decide +kernel, rfl⟩
theorem d_X6_lossBy_44 : DD prog_8_method_4_code 44 (.invokestatic 34) 3 47 := ⟨by decide +kernel, rfl⟩
theorem d_X6_lossBy_47 : DD prog_8_method_4_code 47 (.ireturn) 1 48 := ⟨by decide +kernel, rfl⟩
theorem d_X6_lossBy_48 : DD prog_8_method_4_code 48 (.iload_n 1) 1 49 := ⟨by decide +kernel, rfl⟩
theorem d_X6_lossBy_49 : DD prog_8_method_4_code 49 (.iload_n 2) 1 50 := ⟨by decide +kernel, rfl⟩
theorem d_X6_lossBy_50 : DD prog_8_method_4_code 50 (.iadd) 1 51 := ⟨by decide +kernel, rfl⟩
theorem d_X6_lossBy_51 : DD prog_8_method_4_code 51 (.ireturn) 1 52 := ⟨by decide +kernel, rfl⟩
theorem d_X5_wipe_0 : DD prog_7_method_2_code 0 (.aload_n 0) 1 1 := ⟨by decide +kernel, rfl⟩
theorem d_X5_wipe_1 : DD prog_7_method_2_code 1 (.iconst 1) 1 2 := ⟨by decide +kernel, rfl⟩
theorem d_X5_wipe_2 : DD prog_7_method_2_code 2 (.putfield 9) 3 5 := ⟨by decide +kernel, rfl⟩
theorem d_X5_wipe_5 : DD prog_7_method_2_code 5 (.aload_n 0) 1 6 := ⟨by decide +kernel, rfl⟩
theorem d_X5_wipe_6 : DD prog_7_method_2_code 6 (.iconst 0) 1 7 := ⟨by decide +kernel, rfl⟩
theorem d_X5_wipe_7 : DD prog_7_method_2_code 7 (.putfield 15) 3 10 := ⟨by decide +kernel, rfl⟩
theorem d_X5_wipe_10 : DD prog_7_method_2_code 10 (.aload_n 0) 1 11 := ⟨by decide +kernel, rfl⟩
theorem d_X5_wipe_11 : DD prog_7_method_2_code 11 (.iconst 0) 1 12 := ⟨by decide +kernel, rfl⟩
theorem d_X5_wipe_12 : DD prog_7_method_2_code 12 (.putfield 18) 3 15 := ⟨by decide +kernel, rfl⟩
theorem d_X5_wipe_15 : DD prog_7_method_2_code 15 (.return_) 1 16 := ⟨by decide +kernel, rfl⟩
theorem d_X6_melt_0 : DD prog_8_method_5_code 0 (.aload_n 0) 1 1 := ⟨by decide +kernel, rfl⟩
theorem d_X6_melt_1 : DD prog_8_method_5_code 1 (.getfield 25) 3 4 := ⟨by decide +kernel, rfl⟩
theorem d_X6_melt_4 : DD prog_8_method_5_code 4 (.iload_n 1) 1 5 := ⟨by decide +kernel, rfl⟩
theorem d_X6_melt_5 : DD prog_8_method_5_code 5 (.invokestatic 34) 3 8 := ⟨by decide +kernel, rfl⟩
theorem d_X6_melt_8 : DD prog_8_method_5_code 8 (.istore_n 2) 1 9 := ⟨by decide +kernel, rfl⟩
theorem d_X6_melt_9 : DD prog_8_method_5_code 9 (.aload_n 0) 1 10 := ⟨by decide +kernel, rfl⟩
theorem d_X6_melt_10 : DD prog_8_method_5_code 10 (.getfield 22) 3 13 := ⟨by decide +kernel, rfl⟩
theorem d_X6_melt_13 : DD prog_8_method_5_code 13 (.iload_n 1) 1 14 := ⟨by decide +kernel, rfl⟩
theorem d_X6_melt_14 : DD prog_8_method_5_code 14 (.iload_n 2) 1 15 := ⟨by decide +kernel, rfl⟩
theorem d_X6_melt_15 : DD prog_8_method_5_code 15 (.isub) 1 16 := ⟨by decide +kernel, rfl⟩
theorem d_X6_melt_16 : DD prog_8_method_5_code 16 (.invokestatic 34) 3 19 := ⟨by decide +kernel, rfl⟩
theorem d_X6_melt_19 : DD prog_8_method_5_code 19 (.istore_n 3) 1 20 := ⟨by decide +kernel, rfl⟩
theorem d_X6_melt_20 : DD prog_8_method_5_code 20 (.aload_n 0) 1 21 := ⟨by decide +kernel, rfl⟩
theorem d_X6_melt_21 : DD prog_8_method_5_code 21 (.getfield 19) 3 24 := ⟨by decide +kernel, rfl⟩
theorem d_X6_melt_24 : DD prog_8_method_5_code 24 (.iload_n 1) 1 25 := ⟨by decide +kernel, rfl⟩
theorem d_X6_melt_25 : DD prog_8_method_5_code 25 (.iload_n 2) 1 26 := ⟨by decide +kernel, rfl⟩
theorem d_X6_melt_26 : DD prog_8_method_5_code 26 (.isub) 1 27 := ⟨by decide +kernel, rfl⟩
theorem d_X6_melt_27 : DD prog_8_method_5_code 27 (.iload_n 3) 1 28 := ⟨by decide +kernel, rfl⟩
theorem d_X6_melt_28 : DD prog_8_method_5_code 28 (.isub) 1 29 := ⟨by decide +kernel, rfl⟩
theorem d_X6_melt_29 : DD prog_8_method_5_code 29 (.invokestatic 34) 3 32 := ⟨by decide +kernel, rfl⟩
theorem d_X6_melt_32 : DD prog_8_method_5_code 32 (.istore 4) 2 34 := ⟨by decide +kernel, rfl⟩
theorem d_X6_melt_34 : DD prog_8_method_5_code 34 (.aload_n 0) 1 35 := ⟨by decide +kernel, rfl⟩
theorem d_X6_melt_35 : DD prog_8_method_5_code 35 (.dup) 1 36 := ⟨by decide +kernel, rfl⟩
theorem d_X6_melt_36 : DD prog_8_method_5_code 36 (.getfield 25) 3 39 := ⟨by decide +kernel, rfl⟩
theorem d_X6_melt_39 : DD prog_8_method_5_code 39 (.iload_n 2) 1 40 := ⟨by decide +kernel, rfl⟩
theorem d_X6_melt_40 : DD prog_8_method_5_code 40 (.isub) 1 41 := ⟨by decide +kernel, rfl⟩
theorem d_X6_melt_41 : DD prog_8_method_5_code 41 (.putfield 25) 3 44 := ⟨by decide +kernel, rfl⟩
theorem d_X6_melt_44 : DD prog_8_method_5_code 44 (.aload_n 0) 1 45 := ⟨by decide +kernel, rfl⟩
theorem d_X6_melt_45 : DD prog_8_method_5_code 45 (.dup) 1 46 := ⟨by decide +kernel, rfl⟩
theorem d_X6_melt_46 : DD prog_8_method_5_code 46 (.getfield 22) 3 49 := ⟨by decide +kernel, rfl⟩
theorem d_X6_melt_49 : DD prog_8_method_5_code 49 (.iload_n 3) 1 50 := ⟨by decide +kernel, rfl⟩
theorem d_X6_melt_50 : DD prog_8_method_5_code 50 (.isub) 1 51 := ⟨by decide +kernel, rfl⟩
theorem d_X6_melt_51 : DD prog_8_method_5_code 51 (.putfield 22) 3 54 := ⟨by decide +kernel, rfl⟩
theorem d_X6_melt_54 : DD prog_8_method_5_code 54 (.aload_n 0) 1 55 := ⟨by decide +kernel, rfl⟩
theorem d_X6_melt_55 : DD prog_8_method_5_code 55 (.dup) 1 56 := ⟨by decide +kernel, rfl⟩
theorem d_X6_melt_56 : DD prog_8_method_5_code 56 (.getfield 19) 3 59 := ⟨by decide +kernel, rfl⟩
theorem d_X6_melt_59 : DD prog_8_method_5_code 59 (.iload 4) 2 61 := ⟨by decide +kernel, rfl⟩
theorem d_X6_melt_61 : DD prog_8_method_5_code 61 (.isub) 1 62 := ⟨by decide +kernel, rfl⟩
theorem d_X6_melt_62 : DD prog_8_method_5_code 62 (.putfield 19) 3 65 := ⟨by decide +kernel, rfl⟩
theorem d_X6_melt_65 : DD prog_8_method_5_code 65 (.iload_n 2) 1 66 := ⟨by decide +kernel, rfl⟩
theorem d_X6_melt_66 : DD prog_8_method_5_code 66 (.iload_n 3) 1 67 := ⟨by decide +kernel, rfl⟩
theorem d_X6_melt_67 : DD prog_8_method_5_code 67 (.iadd) 1 68 := ⟨by decide +kernel, rfl⟩
theorem d_X6_melt_68 : DD prog_8_method_5_code 68 (.iload 4) 2 70 := ⟨by decide +kernel, rfl⟩
theorem d_X6_melt_70 : DD prog_8_method_5_code 70 (.iadd) 1 71 := ⟨by decide +kernel, rfl⟩
theorem d_X6_melt_71 : DD prog_8_method_5_code 71 (.ireturn) 1 72 := ⟨by decide +kernel, rfl⟩
theorem d_X6_snowOf_0 : DD prog_8_method_3_code 0 (.aload_n 0) 1 1 := ⟨by decide +kernel, rfl⟩
theorem d_X6_snowOf_1 : DD prog_8_method_3_code 1 (.getfield 9) 3 4 := ⟨by decide +kernel, rfl⟩
theorem d_X6_snowOf_4 : DJ prog_8_method_3_code 4 (fun o => .ifCond .eq o) 24 3 7 := ⟨by decide +kernel, rfl⟩
theorem d_X6_snowOf_7 : DD prog_8_method_3_code 7 (.aload_n 0) 1 8 := ⟨by decide +kernel, rfl⟩
theorem d_X6_snowOf_8 : DD prog_8_method_3_code 8 (.getfield 19) 3 11 := ⟨by decide +kernel, rfl⟩
theorem d_X6_snowOf_11 : DD prog_8_method_3_code 11 (.aload_n 0) 1 12 := ⟨by decide +kernel, rfl⟩
theorem d_X6_snowOf_12 : DD prog_8_method_3_code 12 (.getfield 22) 3 15 := ⟨by decide +kernel, rfl⟩
theorem d_X6_snowOf_15 : DD prog_8_method_3_code 15 (.iadd) 1 16 := ⟨by decide +kernel, rfl⟩
theorem d_X6_snowOf_16 : DD prog_8_method_3_code 16 (.aload_n 0) 1 17 := ⟨by decide +kernel, rfl⟩
theorem d_X6_snowOf_17 : DD prog_8_method_3_code 17 (.getfield 25) 3 20 := ⟨by decide +kernel, rfl⟩
theorem d_X6_snowOf_20 : DD prog_8_method_3_code 20 (.iadd) 1 21 := ⟨by decide +kernel, rfl⟩
theorem d_X6_snowOf_21 : DJ prog_8_method_3_code 21 (fun o => .goto o) 25 3 24 := ⟨by decide +kernel, rfl⟩
theorem d_X6_snowOf_24 : DD prog_8_method_3_code 24 (.iconst 0) 1 25 := ⟨by decide +kernel, rfl⟩
theorem d_X6_snowOf_25 : DD prog_8_method_3_code 25 (.ireturn) 1 26 := ⟨by decide +kernel, rfl⟩
theorem d_X5_change_0 : DD prog_7_method_3_code 0 (.iload_n 1) 1 1 := ⟨by decide +kernel, rfl⟩
theorem d_X5_change_1 : DJ prog_7_method_3_code 1 (fun o => .ifCond .ne o) 26 3 4 := ⟨by decide +kernel, rfl⟩
theorem d_X5_change_4 : DD prog_7_method_3_code 4 (.iload_n 2) 1 5 := ⟨by decide +kernel, rfl⟩
theorem d_X5_change_5 : DD prog_7_method_3_code 5 (.iconst 1) 1 6 := ⟨by decide +kernel, rfl⟩
theorem d_X5_change_6 : DD prog_7_method_3_code 6 (.bipush 99) 2 8 := ⟨by decide +kernel, rfl⟩
theorem d_X5_change_8 : DD prog_7_method_3_code 8 (.invokestatic 21) 3 11 := ⟨by decide +kernel, rfl⟩
theorem d_X5_change_11 : DJ prog_7_method_3_code 11 (fun o => .ifCond .eq o) 26 3 14 := ⟨by decide +kernel, rfl⟩
theorem d_X5_change_14 : DD prog_7_method_3_code 14 (.aload_n 0) 1 15 := ⟨by decide +kernel, rfl⟩
theorem d_X5_change_15 : DD prog_7_method_3_code 15 (.getfield 9) 3 18 := ⟨by decide +kernel, rfl⟩
theorem d_X5_change_18 : DD prog_7_method_3_code 18 (.istore_n 3) 1 19 := ⟨by decide +kernel, rfl⟩
theorem d_X5_change_19 : DD prog_7_method_3_code 19 (.aload_n 0) 1 20 := ⟨by decide +kernel, rfl⟩
theorem d_X5_change_20 : DD prog_7_method_3_code 20 (.iload_n 2) 1 21 := ⟨by decide +kernel, rfl⟩
theorem d_X5_change_21 : DD prog_7_method_3_code 21 (.putfield 9) 3 24 := ⟨by decide +kernel, rfl⟩
theorem d_X5_change_24 : DD prog_7_method_3_code 24 (.iload_n 3) 1 25 := ⟨by decide +kernel, rfl⟩
theorem d_X5_change_25 : DD prog_7_method_3_code 25 (.ireturn) 1 26 := ⟨by decide +kernel, rfl⟩
theorem d_X5_change_26 : DD prog_7_method_3_code 26 (.iload_n 1) 1 27 := ⟨by decide +kernel, rfl⟩
theorem d_X5_change_27 : DD prog_7_method_3_code 27 (.iconst 1) 1 28 := ⟨by decide +kernel, rfl⟩
theorem d_X5_change_28 : DJ prog_7_method_3_code 28 (fun o => .if_icmp .ne o) 52 3 31 := ⟨by decide +kernel, rfl⟩
theorem d_X5_change_31 : DD prog_7_method_3_code 31 (.iload_n 2) 1 32 := ⟨by decide +kernel, rfl⟩
theorem d_X5_change_32 : DD prog_7_method_3_code 32 (.iconst 0) 1 33 := ⟨by decide +kernel, rfl⟩
theorem d_X5_change_33 : DD prog_7_method_3_code 33 (.iconst 3) 1 34 := ⟨by decide +kernel, rfl⟩
theorem d_X5_change_34 : DD prog_7_method_3_code 34 (.invokestatic 21) 3 37 := ⟨by decide +kernel, rfl⟩
theorem d_X5_change_37 : DJ prog_7_method_3_code 37 (fun o => .ifCond .eq o) 52 3 40 := ⟨by decide +kernel, rfl⟩
theorem d_X5_change_40 : DD prog_7_method_3_code 40 (.aload_n 0) 1 41 := ⟨by decide +kernel, rfl⟩
theorem d_X5_change_41 : DD prog_7_method_3_code 41 (.getfield 15) 3 44 := ⟨by decide +kernel, rfl⟩
theorem d_X5_change_44 : DD prog_7_method_3_code 44 (.istore_n 3) 1 45 := ⟨by decide +kernel, rfl⟩
theorem d_X5_change_45 : DD prog_7_method_3_code 45 (.aload_n 0) 1 46 := ⟨by decide +kernel, rfl⟩
theorem d_X5_change_46 : DD prog_7_method_3_code 46 (.iload_n 2) 1 47 := ⟨by decide +kernel, rfl⟩
theorem d_X5_change_47 : DD prog_7_method_3_code 47 (.putfield 15) 3 50 := ⟨by decide +kernel, rfl⟩
theorem d_X5_change_50 : DD prog_7_method_3_code 50 (.iload_n 3) 1 51 := ⟨by decide +kernel, rfl⟩
theorem d_X5_change_51 : DD prog_7_method_3_code 51 (.ireturn) 1 52 := ⟨by decide +kernel, rfl⟩
theorem d_X5_change_52 : DD prog_7_method_3_code 52 (.iload_n 1) 1 53 := ⟨by decide +kernel, rfl⟩
theorem d_X5_change_53 : DD prog_7_method_3_code 53 (.iconst 2) 1 54 := ⟨by decide +kernel, rfl⟩
theorem d_X5_change_54 : DJ prog_7_method_3_code 54 (fun o => .if_icmp .ne o) 78 3 57 := ⟨by decide +kernel, rfl⟩
theorem d_X5_change_57 : DD prog_7_method_3_code 57 (.iload_n 2) 1 58 := ⟨by decide +kernel, rfl⟩
theorem d_X5_change_58 : DD prog_7_method_3_code 58 (.iconst 0) 1 59 := ⟨by decide +kernel, rfl⟩
theorem d_X5_change_59 : DD prog_7_method_3_code 59 (.iconst 1) 1 60 := ⟨by decide +kernel, rfl⟩
theorem d_X5_change_60 : DD prog_7_method_3_code 60 (.invokestatic 21) 3 63 := ⟨by decide +kernel, rfl⟩
theorem d_X5_change_63 : DJ prog_7_method_3_code 63 (fun o => .ifCond .eq o) 78 3 66 := ⟨by decide +kernel, rfl⟩
theorem d_X5_change_66 : DD prog_7_method_3_code 66 (.aload_n 0) 1 67 := ⟨by decide +kernel, rfl⟩
theorem d_X5_change_67 : DD prog_7_method_3_code 67 (.getfield 18) 3 70 := ⟨by decide +kernel, rfl⟩
theorem d_X5_change_70 : DD prog_7_method_3_code 70 (.istore_n 3) 1 71 := ⟨by decide +kernel, rfl⟩
theorem d_X5_change_71 : DD prog_7_method_3_code 71 (.aload_n 0) 1 72 := ⟨by decide +kernel, rfl⟩
theorem d_X5_change_72 : DD prog_7_method_3_code 72 (.iload_n 2) 1 73 := ⟨by decide +kernel, rfl⟩
theorem d_X5_change_73 : DD prog_7_method_3_code 73 (.putfield 18) 3 76 := ⟨by decide +kernel, rfl⟩
theorem d_X5_change_76 : DD prog_7_method_3_code 76 (.iload_n 3) 1 77 := ⟨by decide +kernel, rfl⟩
theorem d_X5_change_77 : DD prog_7_method_3_code 77 (.ireturn) 1 78 := ⟨by decide +kernel, rfl⟩
theorem d_X5_change_78 : DD prog_7_method_3_code 78 (.iconst (-1)) 1 79 := ⟨by decide +kernel, rfl⟩
theorem d_X5_change_79 : DD prog_7_method_3_code 79 (.ireturn) 1 80 := ⟨by decide +kernel, rfl⟩
theorem d_X6_become_0 : DD prog_8_method_2_code 0 (.aload_n 0) 1 1 := ⟨by decide +kernel, rfl⟩
theorem d_X6_become_1 : DD prog_8_method_2_code 1 (.aload_n 1) 1 2 := ⟨by decide +kernel, rfl⟩
theorem d_X6_become_2 : DD prog_8_method_2_code 2 (.getfield 9) 3 5 := ⟨by decide +kernel, rfl⟩
theorem d_X6_become_5 : DD prog_8_method_2_code 5 (.putfield 9) 3 8 := ⟨by decide +kernel, rfl⟩
theorem d_X6_become_8 : DD prog_8_method_2_code 8 (.aload_n 0) 1 9 := ⟨by decide +kernel, rfl⟩
theorem d_X6_become_9 : DD prog_8_method_2_code 9 (.aload_n 1) 1 10 := ⟨by decide +kernel, rfl⟩
theorem d_X6_become_10 : DD prog_8_method_2_code 10 (.getfield 15) 3 13 := ⟨by decide +kernel, rfl⟩
theorem d_X6_become_13 : DD prog_8_method_2_code 13 (.putfield 15) 3 16 := ⟨by decide +kernel, rfl⟩
theorem d_X6_become_16 : DD prog_8_method_2_code 16 (.aload_n 0) 1 17 := ⟨by decide +kernel, rfl⟩
theorem d_X6_become_17 : DD prog_8_method_2_code 17 (.aload_n 1) 1 18 := ⟨by decide +kernel, rfl⟩
theorem d_X6_become_18 : DD prog_8_method_2_code 18 (.getfield 19) 3 21 := ⟨by decide +kernel, rfl⟩
theorem d_X6_become_21 : DD prog_8_method_2_code 21 (.putfield 19) 3 24 := ⟨by decide +kernel, rfl⟩
theorem d_X6_become_24 : DD prog_8_method_2_code 24 (.aload_n 0) 1 25 := ⟨by decide +kernel, rfl⟩
theorem d_X6_become_25 : DD prog_8_method_2_code 25 (.aload_n 1) 1 26 := ⟨by decide +kernel, rfl⟩
theorem d_X6_become_26 : DD prog_8_method_2_code 26 (.getfield 22) 3 29 := ⟨by decide +kernel, rfl⟩
theorem d_X6_become_29 : DD prog_8_method_2_code 29 (.putfield 22) 3 32 := ⟨by decide +kernel, rfl⟩
theorem d_X6_become_32 : DD prog_8_method_2_code 32 (.aload_n 0) 1 33 := ⟨by decide +kernel, rfl⟩
theorem d_X6_become_33 : DD prog_8_method_2_code 33 (.aload_n 1) 1 34 := ⟨by decide +kernel, rfl⟩
theorem d_X6_become_34 : DD prog_8_method_2_code 34 (.getfield 25) 3 37 := ⟨by decide +kernel, rfl⟩
theorem d_X6_become_37 : DD prog_8_method_2_code 37 (.putfield 25) 3 40 := ⟨by decide +kernel, rfl⟩
theorem d_X6_become_40 : DD prog_8_method_2_code 40 (.aload_n 0) 1 41 := ⟨by decide +kernel, rfl⟩
theorem d_X6_become_41 : DD prog_8_method_2_code 41 (.aload_n 1) 1 42 := ⟨by decide +kernel, rfl⟩
theorem d_X6_become_42 : DD prog_8_method_2_code 42 (.getfield 28) 3 45 := ⟨by decide +kernel, rfl⟩
theorem d_X6_become_45 : DD prog_8_method_2_code 45 (.putfield 28) 3 48 := ⟨by decide +kernel, rfl⟩
theorem d_X6_become_48 : DD prog_8_method_2_code 48 (.aload_n 0) 1 49 := ⟨by decide +kernel, rfl⟩
theorem d_X6_become_49 : DD prog_8_method_2_code 49 (.aload_n 1) 1 50 := ⟨by decide +kernel, rfl⟩
theorem d_X6_become_50 : DD prog_8_method_2_code 50 (.getfield 31) 3 53 := ⟨by decide +kernel, rfl⟩
theorem d_X6_become_53 : DD prog_8_method_2_code 53 (.putfield 31) 3 56 := ⟨by decide +kernel, rfl⟩
theorem d_X6_become_56 : DD prog_8_method_2_code 56 (.return_) 1 57 := ⟨by decide +kernel, rfl⟩
def f_X11_isAmong_15 (s_0 : Int32) : Option Int32 :=
ck (isB s_0) <|
some s_0
def f_X11_isAmong_14 : Option Int32 :=
f_X11_isAmong_15 (0 : Int32)
def f_X11_isAmong (x0 : Int32) (x1 : Int32) (x2 : Int32) : Option Int32 :=
if x0 < x1 then
(f_X11_isAmong_14)
else
(if x2 < x0 then
(f_X11_isAmong_14)
else
(f_X11_isAmong_15 (1 : Int32)))
def f_X0_isFull_14 (M : Mm) (s_0 : Int32) : Option Int32 :=
ck (isB s_0) <|
some s_0
def f_X0_isFull (M : Mm) (a0 : Nat) : Option Int32 :=
if (M.1 a0 0) < (6 : Int32) then
(f_X0_isFull_14 M (0 : Int32))
else
(f_X0_isFull_14 M (1 : Int32))
def f_X0_put (M : Mm) (a0 : Nat) (x1 : Int32) (x2 : Int32) (x3 : Int32) (x4 : Int32) : Option Mm :=
bd (f_X0_isFull M a0) fun p2 =>
if p2 = 0 then
(ck (inn (M.1 a0 0) 6) <|
wr (wI M (a0 + 1) (M.1 a0 0).toNatClampNeg x1) fun M4 =>
ck (inn (M4.1 a0 0) 6) <|
wr (wI M4 (a0 + 2) (M4.1 a0 0).toNatClampNeg x2) fun M7 =>
ck (inn (M7.1 a0 0) 6) <|
wr (wI M7 (a0 + 3) (M7.1 a0 0).toNatClampNeg x3) fun M10 =>
ck (inn (M10.1 a0 0) 6) <|
wr (wI M10 (a0 + 4) (M10.1 a0 0).toNatClampNeg x4) fun M13 =>
wr (wI M13 a0 0 ((M13.1 a0 0) + (1 : Int32))) fun M16 =>
some M16)
else
(some M)
def f_X0_takeAway_74 (M : Mm) (a0 : Nat) : Option Mm :=
wr (wI M a0 0 ((M.1 a0 0) - (1 : Int32))) fun M1 =>
some M1
def b_X0_takeAway_4 (k4 : Mm → Int32 → Option Mm) (a0 : Nat) (M : Mm) (x2 : Int32) : Option Mm :=
if (M.1 a0 0) ≤ x2 then
(f_X0_takeAway_74 M a0)
else
(ck (inn x2 6) <|
ck (inn (x2 - (1 : Int32)) 6) <|
wr (wI M (a0 + 1) (x2 - (1 : Int32)).toNatClampNeg (M.1 (a0 + 1) x2.toNatClampNeg)) fun M3 =>
wr (wI M3 (a0 + 2) (x2 - (1 : Int32)).toNatClampNeg (M3.1 (a0 + 2) x2.toNatClampNeg)) fun M6 =>
wr (wI M6 (a0 + 3) (x2 - (1 : Int32)).toNatClampNeg (M6.1 (a0 + 3) x2.toNatClampNeg)) fun M8 =>
wr (wI M8 (a0 + 4) (x2 - (1 : Int32)).toNatClampNeg (M8.1 (a0 + 4) x2.toNatClampNeg)) fun M10 =>
k4 M10 (x2 + (1 : Int32)))
def f_X0_takeAway_4 (a0 : Nat) : Nat → Mm → Int32 → Option Mm
  | 0, _, _ => none
  | n + 1, M, x2 => b_X0_takeAway_4 (fun M x2 => f_X0_takeAway_4 a0 n M x2) a0 M x2
def f_X0_takeAway (M : Mm) (a0 : Nat) (x1 : Int32) : Option Mm :=
nm ((x1 + (1 : Int32))) fun v1 =>
f_X0_takeAway_4 a0 FU M v1
def f_X0_become (M : Mm) (a0 : Nat) (a1 : Nat) : Option Mm :=
wr (wI M a0 0 (M.1 a1 0)) fun M1 =>
wr (wR M1 (a0 + 1) (va_cpy (M1.1 (a1 + 1)) (M1.1 (a0 + 1)) 0 0 6)) fun M3 =>
wr (wR M3 (a0 + 2) (va_cpy (M3.1 (a1 + 2)) (M3.1 (a0 + 2)) 0 0 6)) fun M5 =>
wr (wR M5 (a0 + 3) (va_cpy (M5.1 (a1 + 3)) (M5.1 (a0 + 3)) 0 0 6)) fun M7 =>
wr (wR M7 (a0 + 4) (va_cpy (M7.1 (a1 + 4)) (M7.1 (a0 + 4)) 0 0 6)) fun M9 =>
some M9
def f_X0_reach (x0 : Int32) (x1 : Int32) (x2 : Int32) : Option Int32 :=
some (iMax (0 : Int32) (x0 - ((4 : Int32) * (iAbs (x1 - x2)))))
def f_X0_warmthOn_57 (k5 : Int32 → Int32 → Option Int32) (M : Mm) (a0 : Nat) (x1 : Int32) (x2 : Int32) (x3 : Int32) (x4 : Int32) : Option Int32 :=
k5 x3 (x4 + (1 : Int32))
def b_X0_warmthOn_5 (k5 : Int32 → Int32 → Option Int32) (M : Mm) (a0 : Nat) (x1 : Int32) (x2 : Int32) (x3 : Int32) (x4 : Int32) : Option Int32 :=
if (M.1 a0 0) ≤ x4 then
(some x3)
else
(ck (inn x4 6) <|
if x2 < (M.1 (a0 + 3) x4.toNatClampNeg) then
(f_X0_warmthOn_57 k5 M a0 x1 x2 x3 x4)
else
(if (M.1 (a0 + 4) x4.toNatClampNeg) < x2 then
(f_X0_warmthOn_57 k5 M a0 x1 x2 x3 x4)
else
(bd (f_X0_reach (M.1 (a0 + 2) x4.toNatClampNeg) (M.1 (a0 + 1) x4.toNatClampNeg) x1) fun p6 =>
nm ((x3 + p6)) fun v7 =>
f_X0_warmthOn_57 k5 M a0 x1 x2 v7 x4)))
def f_X0_warmthOn_5 (M : Mm) (a0 : Nat) (x1 : Int32) (x2 : Int32) : Nat → Int32 → Int32 → Option Int32
  | 0, _, _ => none
  | n + 1, x3, x4 => b_X0_warmthOn_5 (fun x3 x4 => f_X0_warmthOn_5 M a0 x1 x2 n x3 x4) M a0 x1 x2 x3 x4
def f_X0_warmthOn (M : Mm) (a0 : Nat) (x1 : Int32) (x2 : Int32) : Option Int32 :=
f_X0_warmthOn_5 M a0 x1 x2 FU (0 : Int32) (0 : Int32)
def f_X5_suits_37 (M : Mm) (s_0 : Int32) : Option Int32 :=
ck (isB s_0) <|
some s_0
def f_X5_suits_32 (M : Mm) : Option Int32 :=
f_X5_suits_37 M (1 : Int32)
def f_X5_suits_36 (M : Mm) : Option Int32 :=
f_X5_suits_37 M (0 : Int32)
def f_X5_suits (M : Mm) (a0 : Nat) (a1 : Nat) : Option Int32 :=
if (M.1 a1 0) = 0 then
(f_X5_suits_36 M)
else
(if (M.1 a1 5) < (M.1 a0 1) then
(f_X5_suits_36 M)
else
(if (M.1 a0 2) = 0 then
(f_X5_suits_32 M)
else
(if (M.1 a1 6) = 0 then
(f_X5_suits_36 M)
else
(f_X5_suits_32 M))))
def f_X6_lossBy (M : Mm) (a0 : Nat) (x1 : Int32) (x2 : Int32) : Option Int32 :=
if (M.1 a0 1) = (1 : Int32) then
(some ((x1 + x2) / (2 : Int32)))
else
if (M.1 a0 1) = (2 : Int32) then
(some x1)
else
if (M.1 a0 1) = (3 : Int32) then
(some (iMin (x1 + x2) (2 : Int32)))
else
(some (x1 + x2))
def f_X5_wipe (M : Mm) (a0 : Nat) : Option Mm :=
wr (wI M a0 0 (1 : Int32)) fun M1 =>
wr (wI M1 a0 1 (0 : Int32)) fun M3 =>
wr (wI M3 a0 2 (0 : Int32)) fun M5 =>
some M5
def f_X6_melt (M : Mm) (a0 : Nat) (x1 : Int32) : Option (Int32 × Mm) :=
nm ((iMin (M.1 a0 4) x1)) fun v1 =>
nm ((iMin (M.1 a0 3) (x1 - v1))) fun v3 =>
nm ((iMin (M.1 a0 2) ((x1 - v1) - v3))) fun v5 =>
wr (wI M a0 4 ((M.1 a0 4) - v1)) fun M7 =>
wr (wI M7 a0 3 ((M7.1 a0 3) - v3)) fun M9 =>
wr (wI M9 a0 2 ((M9.1 a0 2) - v5)) fun M11 =>
some (((v1 + v3) + v5), M11)
def f_X6_snowOf_25 (M : Mm) (s_0 : Int32) : Option Int32 :=
some s_0
def f_X6_snowOf (M : Mm) (a0 : Nat) : Option Int32 :=
if (M.1 a0 0) = 0 then
(f_X6_snowOf_25 M (0 : Int32))
else
(f_X6_snowOf_25 M (((M.1 a0 2) + (M.1 a0 3)) + (M.1 a0 4)))
def f_X5_change_78 (M : Mm) : Option (Int32 × Mm) :=
some ((-1 : Int32), M)
def f_X5_change_52 (M : Mm) (a0 : Nat) (x1 : Int32) (x2 : Int32) : Option (Int32 × Mm) :=
if x1 = (2 : Int32) then
(bd (f_X11_isAmong x2 (0 : Int32) (1 : Int32)) fun p3 =>
if p3 = 0 then
(f_X5_change_78 M)
else
(nm ((M.1 a0 2)) fun v5 =>
wr (wI M a0 2 x2) fun M7 =>
some (v5, M7)))
else
(f_X5_change_78 M)
def f_X5_change_26 (M : Mm) (a0 : Nat) (x1 : Int32) (x2 : Int32) : Option (Int32 × Mm) :=
if x1 = (1 : Int32) then
(bd (f_X11_isAmong x2 (0 : Int32) (3 : Int32)) fun p3 =>
if p3 = 0 then
(f_X5_change_52 M a0 x1 x2)
else
(nm ((M.1 a0 1)) fun v5 =>
wr (wI M a0 1 x2) fun M7 =>
some (v5, M7)))
else
(f_X5_change_52 M a0 x1 x2)
def f_X5_change (M : Mm) (a0 : Nat) (x1 : Int32) (x2 : Int32) : Option (Int32 × Mm) :=
if x1 = 0 then
(bd (f_X11_isAmong x2 (1 : Int32) (99 : Int32)) fun p3 =>
if p3 = 0 then
(f_X5_change_26 M a0 x1 x2)
else
(nm ((M.1 a0 0)) fun v5 =>
wr (wI M a0 0 x2) fun M7 =>
some (v5, M7)))
else
(f_X5_change_26 M a0 x1 x2)
def f_X6_become (M : Mm) (a0 : Nat) (a1 : Nat) : Option Mm :=
ck (isB (M.1 a1 0)) <|
wr (wI M a0 0 (M.1 a1 0)) fun M1 =>
wr (wI M1 a0 1 (M1.1 a1 1)) fun M4 =>
wr (wI M4 a0 2 (M4.1 a1 2)) fun M6 =>
wr (wI M6 a0 3 (M6.1 a1 3)) fun M8 =>
wr (wI M8 a0 4 (M8.1 a1 4)) fun M10 =>
wr (wI M10 a0 5 (M10.1 a1 5)) fun M12 =>
ck (isB (M12.1 a1 6)) <|
wr (wI M12 a0 6 (M12.1 a1 6)) fun M14 =>
some M14
-- SnowSentries.isAmong(III)Z
set_option maxRecDepth 4000 in
theorem k_X11_isAmong_15 {p : Program} {l : Launch} {e : Env} {s : State} {m : MethodId} {args : Array Value} {below : List Frame} {meth : Method} {c : Code} {G : GG} {s_0 : Int32} {M : Mm}  {r : Int32} (C : CX p s m args c prog_1_method_45_code 3 "SnowSentries" 0 G) (hlk : meth.locks = false) (hr : meth.sig.returnType = (some .boolean)) : f_X11_isAmong_15 s_0 = some r → Z p l e { frames := 0, cells := 0, slots := 0, locals := 0 } s m args below meth c 0 G 3 (MQ below (QC 0 G (some (.int r)) M) args s 0 0 (AU 0 G)) 15 [] [.int s_0] M := by
  intro h
  unfold f_X11_isAmong_15 at h
  obtain ⟨q1, h⟩ := o_ck h
  obtain rfl := o_some h
  exact z_zret C hlk hr (isB_nar q1) d_X11_isAmong_15
set_option maxRecDepth 4000 in
theorem k_X11_isAmong_14 {p : Program} {l : Launch} {e : Env} {s : State} {m : MethodId} {args : Array Value} {below : List Frame} {meth : Method} {c : Code} {G : GG} {M : Mm}  {r : Int32} (C : CX p s m args c prog_1_method_45_code 3 "SnowSentries" 0 G) (hlk : meth.locks = false) (hr : meth.sig.returnType = (some .boolean)) : f_X11_isAmong_14 = some r → Z p l e { frames := 0, cells := 0, slots := 0, locals := 0 } s m args below meth c 0 G 3 (MQ below (QC 0 G (some (.int r)) M) args s 0 0 (AU 0 G)) 14 [] [] M := by
  intro h
  unfold f_X11_isAmong_14 at h
  refine z_iconst (v := (0 : Int32)) C d_X11_isAmong_14 (by decide) ?_
  exact z_sub [] rfl (k_X11_isAmong_15 C hlk hr h)
set_option maxRecDepth 4000 in
theorem k_X11_isAmong_0 {p : Program} {l : Launch} {e : Env} {s : State} {m : MethodId} {args : Array Value} {below : List Frame} {meth : Method} {c : Code} {G : GG} {x0 : Int32} {x1 : Int32} {x2 : Int32} {M : Mm}  {r : Int32} (C : CX p s m args c prog_1_method_45_code 3 "SnowSentries" 0 G) (hlk : meth.locks = false) (hr : meth.sig.returnType = (some .boolean)) : f_X11_isAmong x0 x1 x2 = some r → Z p l e { frames := 0, cells := 0, slots := 0, locals := 0 } s m args below meth c 0 G 3 (MQ below (QC 0 G (some (.int r)) M) args s 0 0 (AU 0 G)) 0 [(0, .int x0), (1, .int x1), (2, .int x2)] [] M := by
  intro h
  unfold f_X11_isAmong at h
  refine z_iload_n 0 C d_X11_isAmong_0 rfl rfl ?_
  refine z_iload_n 1 C d_X11_isAmong_1 rfl rfl ?_
  refine z_icmp_lt C d_X11_isAmong_2 (fun q1 => ?_) (fun q1 => ?_)
  · have h := o_t q1 h
    exact z_sub [] rfl (k_X11_isAmong_14 C hlk hr h)
  · have h := o_f q1 h
    refine z_iload_n 0 C d_X11_isAmong_5 rfl rfl ?_
    refine z_iload_n 2 C d_X11_isAmong_6 rfl rfl ?_
    refine z_icmp_gt C d_X11_isAmong_7 (fun q2 => ?_) (fun q2 => ?_)
    · have h := o_t q2 h
      exact z_sub [] rfl (k_X11_isAmong_14 C hlk hr h)
    · have h := o_f q2 h
      refine z_iconst (v := (1 : Int32)) C d_X11_isAmong_10 (by decide) ?_
      refine z_goto C d_X11_isAmong_11 ?_
      exact z_sub [] rfl (k_X11_isAmong_15 C hlk hr h)
theorem c_X11_isAmong (l : Launch) (G : GG) {x0 : Int32} {x1 : Int32} {x2 : Int32} {M : Mm} {r : Int32} (h : f_X11_isAmong x0 x1 x2 = some r) : CT l 0 G y_X11_isAmong prog_1_method_45_code 3 (some .boolean) 0 0 [.int x0, .int x1, .int x2] M (some (.int r)) M :=
  CT.of (by decide +kernel) (Nat.le_of_ble_eq_true rfl) rfl (fun p e s m args below meth c C hlk hr => k_X11_isAmong_0 C hlk hr h)
-- SnowSentries$Braziers.isFull()Z
set_option maxRecDepth 4000 in
theorem k_X0_isFull_14 {p : Program} {l : Launch} {e : Env} {s : State} {m : MethodId} {args : Array Value} {below : List Frame} {meth : Method} {c : Code} {G : GG} {M : Mm} {s_0 : Int32} {r : Int32} (C : CX p s m args c prog_2_method_2_code 1 "SnowSentries$Braziers" 0 G) (hlk : meth.locks = false) (hr : meth.sig.returnType = (some .boolean)) : f_X0_isFull_14 M s_0 = some r → Z p l e { frames := 0, cells := 0, slots := 0, locals := 0 } s m args below meth c 0 G 1 (MQ below (QC 0 G (some (.int r)) M) args s 0 0 (AU 0 G)) 14 [] [.int s_0] M := by
  intro h
  unfold f_X0_isFull_14 at h
  obtain ⟨q1, h⟩ := o_ck h
  obtain rfl := o_some h
  exact z_zret C hlk hr (isB_nar q1) d_X0_isFull_14
set_option maxRecDepth 4000 in
theorem k_X0_isFull_0 {p : Program} {l : Launch} {e : Env} {s : State} {m : MethodId} {args : Array Value} {below : List Frame} {meth : Method} {c : Code} {G : GG} {M : Mm} {a0 : Nat} {r : Int32} (C : CX p s m args c prog_2_method_2_code 1 "SnowSentries$Braziers" 0 G) (hlk : meth.locks = false) (hr : meth.sig.returnType = (some .boolean)) (ha0 : kU 0 a0 = 0) : f_X0_isFull M a0 = some r → Z p l e { frames := 0, cells := 0, slots := 0, locals := 0 } s m args below meth c 0 G 1 (MQ below (QC 0 G (some (.int r)) M) args s 0 0 (AU 0 G)) 0 [(0, .ref (gB G + a0))] [] M := by
  intro h
  unfold f_X0_isFull at h
  refine z_aload_n 0 C d_X0_isFull_0 rfl rfl ?_
  refine z_get (k := 0) (v := .int (M.1 a0 0)) C ((E_0 ha0 G) _ _) (kU_in ha0 (by decide)) rfl inX0 (by decide) wf_X0_24 rfl d_X0_isFull_1 ?_
  refine z_bipush (v := (6 : Int32)) C d_X0_isFull_4 (by decide) ?_
  refine z_icmp_lt C d_X0_isFull_6 (fun q1 => ?_) (fun q1 => ?_)
  · have h := o_t q1 h
    refine z_iconst (v := (0 : Int32)) C d_X0_isFull_13 (by decide) ?_
    exact z_sub [] rfl (k_X0_isFull_14 C hlk hr h)
  · have h := o_f q1 h
    refine z_iconst (v := (1 : Int32)) C d_X0_isFull_9 (by decide) ?_
    refine z_goto C d_X0_isFull_10 ?_
    exact z_sub [] rfl (k_X0_isFull_14 C hlk hr h)
theorem c_X0_isFull (l : Launch) (G : GG) {M : Mm} {a0 : Nat} {r : Int32} (ha0 : kU 0 a0 = 0) (h : f_X0_isFull M a0 = some r) : CT l 0 G y_X0_isFull prog_2_method_2_code 1 (some .boolean) 0 0 [.ref (gB G + a0)] M (some (.int r)) M :=
  CT.of (by decide +kernel) (Nat.le_of_ble_eq_true rfl) rfl (fun p e s m args below meth c C hlk hr => k_X0_isFull_0 C hlk hr ha0 h)
-- SnowSentries$Braziers.put(IIII)V
set_option maxRecDepth 4000 in
theorem k_X0_put_0 {p : Program} {l : Launch} {e : Env} {s : State} {m : MethodId} {args : Array Value} {below : List Frame} {meth : Method} {c : Code} {G : GG} {M : Mm} {a0 : Nat} {x1 : Int32} {x2 : Int32} {x3 : Int32} {x4 : Int32} {M2 : Mm} (C : CX p s m args c prog_2_method_3_code 5 "SnowSentries$Braziers" 0 G) (hlk : meth.locks = false) (hr : meth.sig.returnType = none) (ha0 : kU 0 a0 = 0) : f_X0_put M a0 x1 x2 x3 x4 = some M2 → Z p l e { frames := 1, cells := 0, slots := 0, locals := 20 } s m args below meth c 0 G 5 (MQ below (QC 0 G none M2) args s 0 0 (AU 0 G)) 0 [(0, .ref (gB G + a0)), (1, .int x1), (2, .int x2), (3, .int x3), (4, .int x4)] [] M := by
  intro h
  unfold f_X0_put at h
  refine z_aload_n 0 C d_X0_put_0 rfl rfl ?_
  obtain ⟨p2, e1, h⟩ := o_bd h
  refine z_V (S := []) (As := []) C (c_X0_isFull l G ha0 e1) ((E_0 ha0 G) _ _) (kU_in ha0 (by decide)) rfl wc_X0_isFull wm_X0_28 ws_X0_isFull wl_X0_isFull wi_X0 hy_X0_isFull ⟨Nat.le_of_ble_eq_true rfl, Nat.le_of_ble_eq_true rfl⟩ rfl rfl (Nat.le_of_ble_eq_true rfl) d_X0_put_1 ?_
  refine z_if_eq C d_X0_put_4 (fun q3 => ?_) (fun q3 => ?_)
  · have h := o_t q3 h
    refine z_aload_n 0 C d_X0_put_8 rfl rfl ?_
    refine z_get (k := 1) (v := .ref (gB G + (a0 + 1))) C ((E_0 ha0 G) _ _) (kU_in ha0 (by decide)) rfl inX0 (by decide) wf_X0_9 rfl d_X0_put_9 ?_
    refine z_aload_n 0 C d_X0_put_12 rfl rfl ?_
    refine z_get (k := 0) (v := .int (M.1 a0 0)) C ((E_0 ha0 G) _ _) (kU_in ha0 (by decide)) rfl inX0 (by decide) wf_X0_24 rfl d_X0_put_13 ?_
    refine z_iload_n 1 C d_X0_put_16 rfl rfl ?_
    obtain ⟨q6, h⟩ := o_ck h
    obtain ⟨M4, e5, h⟩ := o_wr h
    refine z_ast (fun r q => (E_20 (k_0_1 ha0) G) r q) C (kU_in (k_0_1 ha0) (by decide)) q6 d_X0_put_17 ?_
    refine z_nM e5 ?_
    refine z_aload_n 0 C d_X0_put_18 rfl rfl ?_
    refine z_get (k := 2) (v := .ref (gB G + (a0 + 2))) C ((E_0 ha0 G) _ _) (kU_in ha0 (by decide)) rfl inX0 (by decide) wf_X0_15 rfl d_X0_put_19 ?_
    refine z_aload_n 0 C d_X0_put_22 rfl rfl ?_
    refine z_get (k := 0) (v := .int (M4.1 a0 0)) C ((E_0 ha0 G) _ _) (kU_in ha0 (by decide)) rfl inX0 (by decide) wf_X0_24 rfl d_X0_put_23 ?_
    refine z_iload_n 2 C d_X0_put_26 rfl rfl ?_
    obtain ⟨q9, h⟩ := o_ck h
    obtain ⟨M7, e8, h⟩ := o_wr h
    refine z_ast (fun r q => (E_20 (k_0_2 ha0) G) r q) C (kU_in (k_0_2 ha0) (by decide)) q9 d_X0_put_27 ?_
    refine z_nM e8 ?_
    refine z_aload_n 0 C d_X0_put_28 rfl rfl ?_
    refine z_get (k := 3) (v := .ref (gB G + (a0 + 3))) C ((E_0 ha0 G) _ _) (kU_in ha0 (by decide)) rfl inX0 (by decide) wf_X0_18 rfl d_X0_put_29 ?_
    refine z_aload_n 0 C d_X0_put_32 rfl rfl ?_
    refine z_get (k := 0) (v := .int (M7.1 a0 0)) C ((E_0 ha0 G) _ _) (kU_in ha0 (by decide)) rfl inX0 (by decide) wf_X0_24 rfl d_X0_put_33 ?_
    refine z_iload_n 3 C d_X0_put_36 rfl rfl ?_
    obtain ⟨q12, h⟩ := o_ck h
    obtain ⟨M10, e11, h⟩ := o_wr h
    refine z_ast (fun r q => (E_20 (k_0_3 ha0) G) r q) C (kU_in (k_0_3 ha0) (by decide)) q12 d_X0_put_37 ?_
    refine z_nM e11 ?_
    refine z_aload_n 0 C d_X0_put_38 rfl rfl ?_
    refine z_get (k := 4) (v := .ref (gB G + (a0 + 4))) C ((E_0 ha0 G) _ _) (kU_in ha0 (by decide)) rfl inX0 (by decide) wf_X0_21 rfl d_X0_put_39 ?_
    refine z_aload_n 0 C d_X0_put_42 rfl rfl ?_
    refine z_get (k := 0) (v := .int (M10.1 a0 0)) C ((E_0 ha0 G) _ _) (kU_in ha0 (by decide)) rfl inX0 (by decide) wf_X0_24 rfl d_X0_put_43 ?_
    refine z_iload 4 C d_X0_put_46 rfl ?_
    obtain ⟨q15, h⟩ := o_ck h
    obtain ⟨M13, e14, h⟩ := o_wr h
    refine z_ast (fun r q => (E_20 (k_0_4 ha0) G) r q) C (kU_in (k_0_4 ha0) (by decide)) q15 d_X0_put_48 ?_
    refine z_nM e14 ?_
    refine z_aload_n 0 C d_X0_put_49 rfl rfl ?_
    refine z_dup C d_X0_put_50 rfl ?_
    refine z_get (k := 0) (v := .int (M13.1 a0 0)) C ((E_0 ha0 G) _ _) (kU_in ha0 (by decide)) rfl inX0 (by decide) wf_X0_24 rfl d_X0_put_51 ?_
    refine z_iconst (v := (1 : Int32)) C d_X0_put_54 (by decide) ?_
    refine z_iadd C d_X0_put_55 ?_
    obtain ⟨M16, e17, h⟩ := o_wr h
    refine z_pI (k := 0) (ty := .int) C (fun r q => (E_0 ha0 G) r q) (fun _ _ => rfl) (kU_in ha0 (by decide)) rfl inX0 tyX0 tyX0_ok nmX0 (by decide) wf_X0_24 rfl (by decide +kernel) rfl rfl (Nat.le_of_ble_eq_true rfl) d_X0_put_56 ?_
    refine z_nM e17 ?_
    obtain rfl := o_some h
    exact z_vret C hlk hr d_X0_put_59
  · have h := o_f q3 h
    obtain rfl := o_some h
    exact z_vret C hlk hr d_X0_put_7
theorem c_X0_put (l : Launch) (G : GG) {M : Mm} {a0 : Nat} {x1 : Int32} {x2 : Int32} {x3 : Int32} {x4 : Int32} {M2 : Mm} (ha0 : kU 0 a0 = 0) (h : f_X0_put M a0 x1 x2 x3 x4 = some M2) : CT l 0 G y_X0_put prog_2_method_3_code 5 none 1 20 [.ref (gB G + a0), .int x1, .int x2, .int x3, .int x4] M none M2 :=
  CT.of (by decide +kernel) (Nat.le_of_ble_eq_true rfl) rfl (fun p e s m args below meth c C hlk hr => k_X0_put_0 C hlk hr ha0 h)
-- SnowSentries$Braziers.takeAway(I)V
set_option maxRecDepth 4000 in
theorem k_X0_takeAway_74 {p : Program} {l : Launch} {e : Env} {s : State} {m : MethodId} {args : Array Value} {below : List Frame} {meth : Method} {c : Code} {G : GG} {M : Mm} {a0 : Nat} {M2 : Mm} (C : CX p s m args c prog_2_method_4_code 3 "SnowSentries$Braziers" 0 G) (hlk : meth.locks = false) (hr : meth.sig.returnType = none) (ha0 : kU 0 a0 = 0) : f_X0_takeAway_74 M a0 = some M2 → Z p l e { frames := 0, cells := 0, slots := 0, locals := 0 } s m args below meth c 0 G 3 (MQ below (QC 0 G none M2) args s 0 0 (AU 0 G)) 74 [(0, .ref (gB G + a0))] [] M := by
  intro h
  unfold f_X0_takeAway_74 at h
  refine z_aload_n 0 C d_X0_takeAway_74 rfl rfl ?_
  refine z_dup C d_X0_takeAway_75 rfl ?_
  refine z_get (k := 0) (v := .int (M.1 a0 0)) C ((E_0 ha0 G) _ _) (kU_in ha0 (by decide)) rfl inX0 (by decide) wf_X0_24 rfl d_X0_takeAway_76 ?_
  refine z_iconst (v := (1 : Int32)) C d_X0_takeAway_79 (by decide) ?_
  refine z_isub C d_X0_takeAway_80 ?_
  obtain ⟨M1, e2, h⟩ := o_wr h
  refine z_pI (k := 0) (ty := .int) C (fun r q => (E_0 ha0 G) r q) (fun _ _ => rfl) (kU_in ha0 (by decide)) rfl inX0 tyX0 tyX0_ok nmX0 (by decide) wf_X0_24 rfl (by decide +kernel) rfl rfl (Nat.le_of_ble_eq_true rfl) d_X0_takeAway_81 ?_
  refine z_nM e2 ?_
  obtain rfl := o_some h
  exact z_vret C hlk hr d_X0_takeAway_84
set_option maxRecDepth 4000 in
theorem kb_X0_takeAway_4 {p : Program} {l : Launch} {e : Env} {s : State} {m : MethodId} {args : Array Value} {below : List Frame} {meth : Method} {c : Code} {G : GG} {k4 : Mm → Int32 → Option Mm} {a0 : Nat} {M : Mm} {x2 : Int32} {M2 : Mm} (C : CX p s m args c prog_2_method_4_code 3 "SnowSentries$Braziers" 0 G) (hlk : meth.locks = false) (hr : meth.sig.returnType = none) (ha0 : kU 0 a0 = 0) (hk4 : ∀ (M : Mm) (x2 : Int32), k4 M x2 = some M2 → Z p l e { frames := 0, cells := 0, slots := 0, locals := 0 } s m args below meth c 0 G 3 (MQ below (QC 0 G none M2) args s 0 0 (AU 0 G)) 4 [(0, .ref (gB G + a0)), (2, .int x2)] [] M) : b_X0_takeAway_4 k4 a0 M x2 = some M2 → Z p l e { frames := 0, cells := 0, slots := 0, locals := 0 } s m args below meth c 0 G 3 (MQ below (QC 0 G none M2) args s 0 0 (AU 0 G)) 4 [(0, .ref (gB G + a0)), (2, .int x2)] [] M := by
  intro h
  unfold b_X0_takeAway_4 at h
  refine z_iload_n 1 C d_X0_takeAway_4 rfl rfl ?_
  refine z_aload_n 0 C d_X0_takeAway_5 rfl rfl ?_
  refine z_get (k := 0) (v := .int (M.1 a0 0)) C ((E_0 ha0 G) _ _) (kU_in ha0 (by decide)) rfl inX0 (by decide) wf_X0_24 rfl d_X0_takeAway_6 ?_
  refine z_icmp_ge C d_X0_takeAway_9 (fun q1 => ?_) (fun q1 => ?_)
  · have h := o_t q1 h
    exact z_sub [0] rfl (k_X0_takeAway_74 C hlk hr ha0 h)
  · have h := o_f q1 h
    refine z_aload_n 0 C d_X0_takeAway_12 rfl rfl ?_
    refine z_get (k := 1) (v := .ref (gB G + (a0 + 1))) C ((E_0 ha0 G) _ _) (kU_in ha0 (by decide)) rfl inX0 (by decide) wf_X0_9 rfl d_X0_takeAway_13 ?_
    refine z_iload_n 1 C d_X0_takeAway_16 rfl rfl ?_
    refine z_iconst (v := (1 : Int32)) C d_X0_takeAway_17 (by decide) ?_
    refine z_isub C d_X0_takeAway_18 ?_
    refine z_aload_n 0 C d_X0_takeAway_19 rfl rfl ?_
    refine z_get (k := 1) (v := .ref (gB G + (a0 + 1))) C ((E_0 ha0 G) _ _) (kU_in ha0 (by decide)) rfl inX0 (by decide) wf_X0_9 rfl d_X0_takeAway_20 ?_
    refine z_iload_n 1 C d_X0_takeAway_23 rfl rfl ?_
    obtain ⟨q2, h⟩ := o_ck h
    refine z_ald ((E_20 (k_0_1 ha0) G) _ _) C (kU_in (k_0_1 ha0) (by decide)) q2 d_X0_takeAway_24 ?_
    obtain ⟨q5, h⟩ := o_ck h
    obtain ⟨M3, e4, h⟩ := o_wr h
    refine z_ast (fun r q => (E_20 (k_0_1 ha0) G) r q) C (kU_in (k_0_1 ha0) (by decide)) q5 d_X0_takeAway_25 ?_
    refine z_nM e4 ?_
    refine z_aload_n 0 C d_X0_takeAway_26 rfl rfl ?_
    refine z_get (k := 2) (v := .ref (gB G + (a0 + 2))) C ((E_0 ha0 G) _ _) (kU_in ha0 (by decide)) rfl inX0 (by decide) wf_X0_15 rfl d_X0_takeAway_27 ?_
    refine z_iload_n 1 C d_X0_takeAway_30 rfl rfl ?_
    refine z_iconst (v := (1 : Int32)) C d_X0_takeAway_31 (by decide) ?_
    refine z_isub C d_X0_takeAway_32 ?_
    refine z_aload_n 0 C d_X0_takeAway_33 rfl rfl ?_
    refine z_get (k := 2) (v := .ref (gB G + (a0 + 2))) C ((E_0 ha0 G) _ _) (kU_in ha0 (by decide)) rfl inX0 (by decide) wf_X0_15 rfl d_X0_takeAway_34 ?_
    refine z_iload_n 1 C d_X0_takeAway_37 rfl rfl ?_
    refine z_ald ((E_20 (k_0_2 ha0) G) _ _) C (kU_in (k_0_2 ha0) (by decide)) q2 d_X0_takeAway_38 ?_
    obtain ⟨M6, e7, h⟩ := o_wr h
    refine z_ast (fun r q => (E_20 (k_0_2 ha0) G) r q) C (kU_in (k_0_2 ha0) (by decide)) q5 d_X0_takeAway_39 ?_
    refine z_nM e7 ?_
    refine z_aload_n 0 C d_X0_takeAway_40 rfl rfl ?_
    refine z_get (k := 3) (v := .ref (gB G + (a0 + 3))) C ((E_0 ha0 G) _ _) (kU_in ha0 (by decide)) rfl inX0 (by decide) wf_X0_18 rfl d_X0_takeAway_41 ?_
    refine z_iload_n 1 C d_X0_takeAway_44 rfl rfl ?_
    refine z_iconst (v := (1 : Int32)) C d_X0_takeAway_45 (by decide) ?_
    refine z_isub C d_X0_takeAway_46 ?_
    refine z_aload_n 0 C d_X0_takeAway_47 rfl rfl ?_
    refine z_get (k := 3) (v := .ref (gB G + (a0 + 3))) C ((E_0 ha0 G) _ _) (kU_in ha0 (by decide)) rfl inX0 (by decide) wf_X0_18 rfl d_X0_takeAway_48 ?_
    refine z_iload_n 1 C d_X0_takeAway_51 rfl rfl ?_
    refine z_ald ((E_20 (k_0_3 ha0) G) _ _) C (kU_in (k_0_3 ha0) (by decide)) q2 d_X0_takeAway_52 ?_
    obtain ⟨M8, e9, h⟩ := o_wr h
    refine z_ast (fun r q => (E_20 (k_0_3 ha0) G) r q) C (kU_in (k_0_3 ha0) (by decide)) q5 d_X0_takeAway_53 ?_
    refine z_nM e9 ?_
    refine z_aload_n 0 C d_X0_takeAway_54 rfl rfl ?_
    refine z_get (k := 4) (v := .ref (gB G + (a0 + 4))) C ((E_0 ha0 G) _ _) (kU_in ha0 (by decide)) rfl inX0 (by decide) wf_X0_21 rfl d_X0_takeAway_55 ?_
    refine z_iload_n 1 C d_X0_takeAway_58 rfl rfl ?_
    refine z_iconst (v := (1 : Int32)) C d_X0_takeAway_59 (by decide) ?_
    refine z_isub C d_X0_takeAway_60 ?_
    refine z_aload_n 0 C d_X0_takeAway_61 rfl rfl ?_
    refine z_get (k := 4) (v := .ref (gB G + (a0 + 4))) C ((E_0 ha0 G) _ _) (kU_in ha0 (by decide)) rfl inX0 (by decide) wf_X0_21 rfl d_X0_takeAway_62 ?_
    refine z_iload_n 1 C d_X0_takeAway_65 rfl rfl ?_
    refine z_ald ((E_20 (k_0_4 ha0) G) _ _) C (kU_in (k_0_4 ha0) (by decide)) q2 d_X0_takeAway_66 ?_
    obtain ⟨M10, e11, h⟩ := o_wr h
    refine z_ast (fun r q => (E_20 (k_0_4 ha0) G) r q) C (kU_in (k_0_4 ha0) (by decide)) q5 d_X0_takeAway_67 ?_
    refine z_nM e11 ?_
    refine z_iinc (v := (1 : Int32)) (L' := [(2, .int (x2 + (1 : Int32))), (0, .ref (gB G + a0))]) 1 C d_X0_takeAway_68 rfl (by decide) (by decide) rfl ?_
    refine z_goto C d_X0_takeAway_71 ?_
    exact z_sub [1, 0] rfl (hk4 _ _  h)
theorem k_X0_takeAway_4 {p : Program} {l : Launch} {e : Env} {s : State} {m : MethodId} {args : Array Value} {below : List Frame} {meth : Method} {c : Code} {G : GG} {a0 : Nat} {M2 : Mm} (C : CX p s m args c prog_2_method_4_code 3 "SnowSentries$Braziers" 0 G) (hlk : meth.locks = false) (hr : meth.sig.returnType = none) (ha0 : kU 0 a0 = 0) : ∀ (n : Nat) (M : Mm) (x2 : Int32), f_X0_takeAway_4 a0 n M x2 = some M2 → Z p l e { frames := 0, cells := 0, slots := 0, locals := 0 } s m args below meth c 0 G 3 (MQ below (QC 0 G none M2) args s 0 0 (AU 0 G)) 4 [(0, .ref (gB G + a0)), (2, .int x2)] [] M := by
  intro n
  induction n with
  | zero =>
    intro M x2  h
    exact absurd h (fun z => by cases z)
  | succ n ih =>
    intro M x2  h
    exact kb_X0_takeAway_4 C hlk hr ha0 (fun M x2 h => ih M x2 h) h
set_option maxRecDepth 4000 in
theorem k_X0_takeAway_0 {p : Program} {l : Launch} {e : Env} {s : State} {m : MethodId} {args : Array Value} {below : List Frame} {meth : Method} {c : Code} {G : GG} {M : Mm} {a0 : Nat} {x1 : Int32} {M2 : Mm} (C : CX p s m args c prog_2_method_4_code 3 "SnowSentries$Braziers" 0 G) (hlk : meth.locks = false) (hr : meth.sig.returnType = none) (ha0 : kU 0 a0 = 0) : f_X0_takeAway M a0 x1 = some M2 → Z p l e { frames := 0, cells := 0, slots := 0, locals := 0 } s m args below meth c 0 G 3 (MQ below (QC 0 G none M2) args s 0 0 (AU 0 G)) 0 [(0, .ref (gB G + a0)), (1, .int x1)] [] M := by
  intro h
  unfold f_X0_takeAway at h
  refine z_iload_n 1 C d_X0_takeAway_0 rfl rfl ?_
  refine z_iconst (v := (1 : Int32)) C d_X0_takeAway_1 (by decide) ?_
  refine z_iadd C d_X0_takeAway_2 ?_
  obtain ⟨v1, e2, h⟩ := o_nm h
  refine z_nI e2 ?_
  refine z_istore_n (L' := [(2, .int v1), (0, .ref (gB G + a0)), (1, .int x1)]) C d_X0_takeAway_3 rfl (by decide) rfl ?_
  exact z_sub [1, 0] rfl (k_X0_takeAway_4 C hlk hr ha0 _ _ _ h)
theorem c_X0_takeAway (l : Launch) (G : GG) {M : Mm} {a0 : Nat} {x1 : Int32} {M2 : Mm} (ha0 : kU 0 a0 = 0) (h : f_X0_takeAway M a0 x1 = some M2) : CT l 0 G y_X0_takeAway prog_2_method_4_code 3 none 0 0 [.ref (gB G + a0), .int x1] M none M2 :=
  CT.of (by decide +kernel) (Nat.le_of_ble_eq_true rfl) rfl (fun p e s m args below meth c C hlk hr => k_X0_takeAway_0 C hlk hr ha0 h)
-- SnowSentries$Braziers.become(LSnowSentries$Braziers;)V
set_option maxRecDepth 4000 in
theorem k_X0_become_0 {p : Program} {l : Launch} {e : Env} {s : State} {m : MethodId} {args : Array Value} {below : List Frame} {meth : Method} {c : Code} {G : GG} {M : Mm} {a0 : Nat} {a1 : Nat} {M2 : Mm} (C : CX p s m args c prog_2_method_5_code 2 "SnowSentries$Braziers" 0 G) (hlk : meth.locks = false) (hr : meth.sig.returnType = none) (ha0 : kU 0 a0 = 0) (ha1 : kU 0 a1 = 0) : f_X0_become M a0 a1 = some M2 → Z p l e { frames := 1, cells := 0, slots := 0, locals := 60 } s m args below meth c 0 G 2 (MQ below (QC 0 G none M2) args s 0 0 (AU 0 G)) 0 [(0, .ref (gB G + a0)), (1, .ref (gB G + a1))] [] M := by
  intro h
  unfold f_X0_become at h
  refine z_aload_n 0 C d_X0_become_0 rfl rfl ?_
  refine z_aload_n 1 C d_X0_become_1 rfl rfl ?_
  refine z_get (k := 0) (v := .int (M.1 a1 0)) C ((E_0 ha1 G) _ _) (kU_in ha1 (by decide)) rfl inX0 (by decide) wf_X0_24 rfl d_X0_become_2 ?_
  obtain ⟨M1, e2, h⟩ := o_wr h
  refine z_pI (k := 0) (ty := .int) C (fun r q => (E_0 ha0 G) r q) (fun _ _ => rfl) (kU_in ha0 (by decide)) rfl inX0 tyX0 tyX0_ok nmX0 (by decide) wf_X0_24 rfl (by decide +kernel) rfl rfl (Nat.le_of_ble_eq_true rfl) d_X0_become_5 ?_
  refine z_nM e2 ?_
  refine z_aload_n 1 C d_X0_become_8 rfl rfl ?_
  refine z_get (k := 1) (v := .ref (gB G + (a1 + 1))) C ((E_0 ha1 G) _ _) (kU_in ha1 (by decide)) rfl inX0 (by decide) wf_X0_9 rfl d_X0_become_9 ?_
  refine z_iconst (v := (0 : Int32)) C d_X0_become_12 (by decide) ?_
  refine z_aload_n 0 C d_X0_become_13 rfl rfl ?_
  refine z_get (k := 1) (v := .ref (gB G + (a0 + 1))) C ((E_0 ha0 G) _ _) (kU_in ha0 (by decide)) rfl inX0 (by decide) wf_X0_9 rfl d_X0_become_14 ?_
  refine z_iconst (v := (0 : Int32)) C d_X0_become_17 (by decide) ?_
  refine z_bipush (v := (6 : Int32)) C d_X0_become_18 (by decide) ?_
  obtain ⟨M3, e4, h⟩ := o_wr h
  refine z_copy (n := 6) (fun r q => (E_20 (k_0_1 ha1) G) r q) (fun r q => (E_20 (k_0_1 ha0) G) r q) C (kU_in (k_0_1 ha1) (by decide)) (kU_in (k_0_1 ha0) (by decide)) (by decide) (by decide) wm_X0_32 wAn wAs wAi (Nat.le_of_ble_eq_true rfl) (Nat.le_of_ble_eq_true rfl) d_X0_become_20 ?_
  refine z_nM e4 ?_
  refine z_aload_n 1 C d_X0_become_23 rfl rfl ?_
  refine z_get (k := 2) (v := .ref (gB G + (a1 + 2))) C ((E_0 ha1 G) _ _) (kU_in ha1 (by decide)) rfl inX0 (by decide) wf_X0_15 rfl d_X0_become_24 ?_
  refine z_iconst (v := (0 : Int32)) C d_X0_become_27 (by decide) ?_
  refine z_aload_n 0 C d_X0_become_28 rfl rfl ?_
  refine z_get (k := 2) (v := .ref (gB G + (a0 + 2))) C ((E_0 ha0 G) _ _) (kU_in ha0 (by decide)) rfl inX0 (by decide) wf_X0_15 rfl d_X0_become_29 ?_
  refine z_iconst (v := (0 : Int32)) C d_X0_become_32 (by decide) ?_
  refine z_bipush (v := (6 : Int32)) C d_X0_become_33 (by decide) ?_
  obtain ⟨M5, e6, h⟩ := o_wr h
  refine z_copy (n := 6) (fun r q => (E_20 (k_0_2 ha1) G) r q) (fun r q => (E_20 (k_0_2 ha0) G) r q) C (kU_in (k_0_2 ha1) (by decide)) (kU_in (k_0_2 ha0) (by decide)) (by decide) (by decide) wm_X0_32 wAn wAs wAi (Nat.le_of_ble_eq_true rfl) (Nat.le_of_ble_eq_true rfl) d_X0_become_35 ?_
  refine z_nM e6 ?_
  refine z_aload_n 1 C d_X0_become_38 rfl rfl ?_
  refine z_get (k := 3) (v := .ref (gB G + (a1 + 3))) C ((E_0 ha1 G) _ _) (kU_in ha1 (by decide)) rfl inX0 (by decide) wf_X0_18 rfl d_X0_become_39 ?_
  refine z_iconst (v := (0 : Int32)) C d_X0_become_42 (by decide) ?_
  refine z_aload_n 0 C d_X0_become_43 rfl rfl ?_
  refine z_get (k := 3) (v := .ref (gB G + (a0 + 3))) C ((E_0 ha0 G) _ _) (kU_in ha0 (by decide)) rfl inX0 (by decide) wf_X0_18 rfl d_X0_become_44 ?_
  refine z_iconst (v := (0 : Int32)) C d_X0_become_47 (by decide) ?_
  refine z_bipush (v := (6 : Int32)) C d_X0_become_48 (by decide) ?_
  obtain ⟨M7, e8, h⟩ := o_wr h
  refine z_copy (n := 6) (fun r q => (E_20 (k_0_3 ha1) G) r q) (fun r q => (E_20 (k_0_3 ha0) G) r q) C (kU_in (k_0_3 ha1) (by decide)) (kU_in (k_0_3 ha0) (by decide)) (by decide) (by decide) wm_X0_32 wAn wAs wAi (Nat.le_of_ble_eq_true rfl) (Nat.le_of_ble_eq_true rfl) d_X0_become_50 ?_
  refine z_nM e8 ?_
  refine z_aload_n 1 C d_X0_become_53 rfl rfl ?_
  refine z_get (k := 4) (v := .ref (gB G + (a1 + 4))) C ((E_0 ha1 G) _ _) (kU_in ha1 (by decide)) rfl inX0 (by decide) wf_X0_21 rfl d_X0_become_54 ?_
  refine z_iconst (v := (0 : Int32)) C d_X0_become_57 (by decide) ?_
  refine z_aload_n 0 C d_X0_become_58 rfl rfl ?_
  refine z_get (k := 4) (v := .ref (gB G + (a0 + 4))) C ((E_0 ha0 G) _ _) (kU_in ha0 (by decide)) rfl inX0 (by decide) wf_X0_21 rfl d_X0_become_59 ?_
  refine z_iconst (v := (0 : Int32)) C d_X0_become_62 (by decide) ?_
  refine z_bipush (v := (6 : Int32)) C d_X0_become_63 (by decide) ?_
  obtain ⟨M9, e10, h⟩ := o_wr h
  refine z_copy (n := 6) (fun r q => (E_20 (k_0_4 ha1) G) r q) (fun r q => (E_20 (k_0_4 ha0) G) r q) C (kU_in (k_0_4 ha1) (by decide)) (kU_in (k_0_4 ha0) (by decide)) (by decide) (by decide) wm_X0_32 wAn wAs wAi (Nat.le_of_ble_eq_true rfl) (Nat.le_of_ble_eq_true rfl) d_X0_become_65 ?_
  refine z_nM e10 ?_
  obtain rfl := o_some h
  exact z_vret C hlk hr d_X0_become_68
theorem c_X0_become (l : Launch) (G : GG) {M : Mm} {a0 : Nat} {a1 : Nat} {M2 : Mm} (ha0 : kU 0 a0 = 0) (ha1 : kU 0 a1 = 0) (h : f_X0_become M a0 a1 = some M2) : CT l 0 G y_X0_become prog_2_method_5_code 2 none 1 60 [.ref (gB G + a0), .ref (gB G + a1)] M none M2 :=
  CT.of (by decide +kernel) (Nat.le_of_ble_eq_true rfl) rfl (fun p e s m args below meth c C hlk hr => k_X0_become_0 C hlk hr ha0 ha1 h)
-- SnowSentries$Braziers.reach(III)I
set_option maxRecDepth 4000 in
theorem k_X0_reach_0 {p : Program} {l : Launch} {e : Env} {s : State} {m : MethodId} {args : Array Value} {below : List Frame} {meth : Method} {c : Code} {G : GG} {x0 : Int32} {x1 : Int32} {x2 : Int32} {M : Mm}  {r : Int32} (C : CX p s m args c prog_2_method_7_code 3 "SnowSentries$Braziers" 0 G) (hlk : meth.locks = false) (hr : meth.sig.returnType = (some .int)) : f_X0_reach x0 x1 x2 = some r → Z p l e { frames := 1, cells := 0, slots := 0, locals := 21 } s m args below meth c 0 G 3 (MQ below (QC 0 G (some (.int r)) M) args s 0 0 (AU 0 G)) 0 [(0, .int x0), (1, .int x1), (2, .int x2)] [] M := by
  intro h
  unfold f_X0_reach at h
  refine z_iconst (v := (0 : Int32)) C d_X0_reach_0 (by decide) ?_
  refine z_iload_n 0 C d_X0_reach_1 rfl rfl ?_
  refine z_iconst (v := (4 : Int32)) C d_X0_reach_2 (by decide) ?_
  refine z_iload_n 1 C d_X0_reach_3 rfl rfl ?_
  refine z_iload_n 2 C d_X0_reach_4 rfl rfl ?_
  refine z_isub C d_X0_reach_5 ?_
  refine z_mabs C wm_X0_42 wMs_abs wMi wMc_abs (Nat.le_of_ble_eq_true rfl) (Nat.le_of_ble_eq_true rfl) d_X0_reach_6 ?_
  refine z_imul C d_X0_reach_9 ?_
  refine z_isub C d_X0_reach_10 ?_
  refine z_mmax C wm_X0_48 wMs_max wMi wMc_max (Nat.le_of_ble_eq_true rfl) (Nat.le_of_ble_eq_true rfl) d_X0_reach_11 ?_
  obtain rfl := o_some h
  exact z_iret C hlk hr d_X0_reach_14
theorem c_X0_reach (l : Launch) (G : GG) {x0 : Int32} {x1 : Int32} {x2 : Int32} {M : Mm} {r : Int32} (h : f_X0_reach x0 x1 x2 = some r) : CT l 0 G y_X0_reach prog_2_method_7_code 3 (some .int) 1 21 [.int x0, .int x1, .int x2] M (some (.int r)) M :=
  CT.of (by decide +kernel) (Nat.le_of_ble_eq_true rfl) rfl (fun p e s m args below meth c C hlk hr => k_X0_reach_0 C hlk hr h)
-- SnowSentries$Braziers.warmthOn(II)I
set_option maxRecDepth 4000 in
theorem k_X0_warmthOn_57 {p : Program} {l : Launch} {e : Env} {s : State} {m : MethodId} {args : Array Value} {below : List Frame} {meth : Method} {c : Code} {G : GG} {k5 : Int32 → Int32 → Option Int32} {M : Mm} {a0 : Nat} {x1 : Int32} {x2 : Int32} {x3 : Int32} {x4 : Int32} {r : Int32} (C : CX p s m args c prog_2_method_6_code 5 "SnowSentries$Braziers" 0 G) (hlk : meth.locks = false) (hr : meth.sig.returnType = (some .int)) (ha0 : kU 0 a0 = 0) (hk5 : ∀ (x3 : Int32) (x4 : Int32), k5 x3 x4 = some r → Z p l e { frames := 2, cells := 0, slots := 0, locals := 43 } s m args below meth c 0 G 5 (MQ below (QC 0 G (some (.int r)) M) args s 0 0 (AU 0 G)) 5 [(0, .ref (gB G + a0)), (1, .int x1), (2, .int x2), (3, .int x3), (4, .int x4)] [] M) : f_X0_warmthOn_57 k5 M a0 x1 x2 x3 x4 = some r → Z p l e { frames := 2, cells := 0, slots := 0, locals := 43 } s m args below meth c 0 G 5 (MQ below (QC 0 G (some (.int r)) M) args s 0 0 (AU 0 G)) 57 [(0, .ref (gB G + a0)), (1, .int x1), (2, .int x2), (3, .int x3), (4, .int x4)] [] M := by
  intro h
  unfold f_X0_warmthOn_57 at h
  refine z_iinc (v := (1 : Int32)) (L' := [(4, .int (x4 + (1 : Int32))), (0, .ref (gB G + a0)), (1, .int x1), (2, .int x2), (3, .int x3)]) 4 C d_X0_warmthOn_57 rfl (by decide) (by decide) rfl ?_
  refine z_goto C d_X0_warmthOn_60 ?_
  exact z_sub [1, 2, 3, 4, 0] rfl (hk5 _ _  h)
set_option maxRecDepth 4000 in
theorem kb_X0_warmthOn_5 {p : Program} {l : Launch} {e : Env} {s : State} {m : MethodId} {args : Array Value} {below : List Frame} {meth : Method} {c : Code} {G : GG} {k5 : Int32 → Int32 → Option Int32} {M : Mm} {a0 : Nat} {x1 : Int32} {x2 : Int32} {x3 : Int32} {x4 : Int32} {r : Int32} (C : CX p s m args c prog_2_method_6_code 5 "SnowSentries$Braziers" 0 G) (hlk : meth.locks = false) (hr : meth.sig.returnType = (some .int)) (ha0 : kU 0 a0 = 0) (hk5 : ∀ (x3 : Int32) (x4 : Int32), k5 x3 x4 = some r → Z p l e { frames := 2, cells := 0, slots := 0, locals := 43 } s m args below meth c 0 G 5 (MQ below (QC 0 G (some (.int r)) M) args s 0 0 (AU 0 G)) 5 [(0, .ref (gB G + a0)), (1, .int x1), (2, .int x2), (3, .int x3), (4, .int x4)] [] M) : b_X0_warmthOn_5 k5 M a0 x1 x2 x3 x4 = some r → Z p l e { frames := 2, cells := 0, slots := 0, locals := 43 } s m args below meth c 0 G 5 (MQ below (QC 0 G (some (.int r)) M) args s 0 0 (AU 0 G)) 5 [(0, .ref (gB G + a0)), (1, .int x1), (2, .int x2), (3, .int x3), (4, .int x4)] [] M := by
  intro h
  unfold b_X0_warmthOn_5 at h
  refine z_iload 4 C d_X0_warmthOn_5 rfl ?_
  refine z_aload_n 0 C d_X0_warmthOn_7 rfl rfl ?_
  refine z_get (k := 0) (v := .int (M.1 a0 0)) C ((E_0 ha0 G) _ _) (kU_in ha0 (by decide)) rfl inX0 (by decide) wf_X0_24 rfl d_X0_warmthOn_8 ?_
  refine z_icmp_ge C d_X0_warmthOn_11 (fun q1 => ?_) (fun q1 => ?_)
  · have h := o_t q1 h
    refine z_iload_n 3 C d_X0_warmthOn_63 rfl rfl ?_
    obtain rfl := o_some h
    exact z_iret C hlk hr d_X0_warmthOn_64
  · have h := o_f q1 h
    refine z_iload_n 2 C d_X0_warmthOn_14 rfl rfl ?_
    refine z_aload_n 0 C d_X0_warmthOn_15 rfl rfl ?_
    refine z_get (k := 3) (v := .ref (gB G + (a0 + 3))) C ((E_0 ha0 G) _ _) (kU_in ha0 (by decide)) rfl inX0 (by decide) wf_X0_18 rfl d_X0_warmthOn_16 ?_
    refine z_iload 4 C d_X0_warmthOn_19 rfl ?_
    obtain ⟨q2, h⟩ := o_ck h
    refine z_ald ((E_20 (k_0_3 ha0) G) _ _) C (kU_in (k_0_3 ha0) (by decide)) q2 d_X0_warmthOn_21 ?_
    refine z_icmp_lt C d_X0_warmthOn_22 (fun q3 => ?_) (fun q3 => ?_)
    · have h := o_t q3 h
      exact z_sub [0, 1, 2, 3, 4] rfl (k_X0_warmthOn_57 C hlk hr ha0 hk5 h)
    · have h := o_f q3 h
      refine z_iload_n 2 C d_X0_warmthOn_25 rfl rfl ?_
      refine z_aload_n 0 C d_X0_warmthOn_26 rfl rfl ?_
      refine z_get (k := 4) (v := .ref (gB G + (a0 + 4))) C ((E_0 ha0 G) _ _) (kU_in ha0 (by decide)) rfl inX0 (by decide) wf_X0_21 rfl d_X0_warmthOn_27 ?_
      refine z_iload 4 C d_X0_warmthOn_30 rfl ?_
      refine z_ald ((E_20 (k_0_4 ha0) G) _ _) C (kU_in (k_0_4 ha0) (by decide)) q2 d_X0_warmthOn_32 ?_
      refine z_icmp_gt C d_X0_warmthOn_33 (fun q4 => ?_) (fun q4 => ?_)
      · have h := o_t q4 h
        exact z_sub [0, 1, 2, 3, 4] rfl (k_X0_warmthOn_57 C hlk hr ha0 hk5 h)
      · have h := o_f q4 h
        refine z_iload_n 3 C d_X0_warmthOn_36 rfl rfl ?_
        refine z_aload_n 0 C d_X0_warmthOn_37 rfl rfl ?_
        refine z_get (k := 2) (v := .ref (gB G + (a0 + 2))) C ((E_0 ha0 G) _ _) (kU_in ha0 (by decide)) rfl inX0 (by decide) wf_X0_15 rfl d_X0_warmthOn_38 ?_
        refine z_iload 4 C d_X0_warmthOn_41 rfl ?_
        refine z_ald ((E_20 (k_0_2 ha0) G) _ _) C (kU_in (k_0_2 ha0) (by decide)) q2 d_X0_warmthOn_43 ?_
        refine z_aload_n 0 C d_X0_warmthOn_44 rfl rfl ?_
        refine z_get (k := 1) (v := .ref (gB G + (a0 + 1))) C ((E_0 ha0 G) _ _) (kU_in ha0 (by decide)) rfl inX0 (by decide) wf_X0_9 rfl d_X0_warmthOn_45 ?_
        refine z_iload 4 C d_X0_warmthOn_48 rfl ?_
        refine z_ald ((E_20 (k_0_1 ha0) G) _ _) C (kU_in (k_0_1 ha0) (by decide)) q2 d_X0_warmthOn_50 ?_
        refine z_iload_n 1 C d_X0_warmthOn_51 rfl rfl ?_
        obtain ⟨p6, e5, h⟩ := o_bd h
        refine z_S (S := [.int x3]) (As := [.int (M.1 (a0 + 2) x4.toNatClampNeg), .int (M.1 (a0 + 1) x4.toNatClampNeg), .int x1]) C (c_X0_reach l G (M := M) e5) wc_X0_reach wm_X0_38 ws_X0_reach wi_X0 hy_X0_reach ⟨Nat.le_of_ble_eq_true rfl, Nat.le_of_ble_eq_true rfl⟩ rfl rfl (Nat.le_of_ble_eq_true rfl) d_X0_warmthOn_52 ?_
        refine z_iadd C d_X0_warmthOn_55 ?_
        obtain ⟨v7, e8, h⟩ := o_nm h
        refine z_nI e8 ?_
        refine z_istore_n (L' := [(3, .int v7), (0, .ref (gB G + a0)), (1, .int x1), (2, .int x2), (4, .int x4)]) C d_X0_warmthOn_56 rfl (by decide) rfl ?_
        exact z_sub [1, 2, 3, 0, 4] rfl (k_X0_warmthOn_57 C hlk hr ha0 hk5 h)
theorem k_X0_warmthOn_5 {p : Program} {l : Launch} {e : Env} {s : State} {m : MethodId} {args : Array Value} {below : List Frame} {meth : Method} {c : Code} {G : GG} {M : Mm} {a0 : Nat} {x1 : Int32} {x2 : Int32} {r : Int32} (C : CX p s m args c prog_2_method_6_code 5 "SnowSentries$Braziers" 0 G) (hlk : meth.locks = false) (hr : meth.sig.returnType = (some .int)) (ha0 : kU 0 a0 = 0) : ∀ (n : Nat) (x3 : Int32) (x4 : Int32), f_X0_warmthOn_5 M a0 x1 x2 n x3 x4 = some r → Z p l e { frames := 2, cells := 0, slots := 0, locals := 43 } s m args below meth c 0 G 5 (MQ below (QC 0 G (some (.int r)) M) args s 0 0 (AU 0 G)) 5 [(0, .ref (gB G + a0)), (1, .int x1), (2, .int x2), (3, .int x3), (4, .int x4)] [] M := by
  intro n
  induction n with
  | zero =>
    intro x3 x4  h
    exact absurd h (fun z => by cases z)
  | succ n ih =>
    intro x3 x4  h
    exact kb_X0_warmthOn_5 C hlk hr ha0 (fun x3 x4 h => ih x3 x4 h) h
set_option maxRecDepth 4000 in
theorem k_X0_warmthOn_0 {p : Program} {l : Launch} {e : Env} {s : State} {m : MethodId} {args : Array Value} {below : List Frame} {meth : Method} {c : Code} {G : GG} {M : Mm} {a0 : Nat} {x1 : Int32} {x2 : Int32} {r : Int32} (C : CX p s m args c prog_2_method_6_code 5 "SnowSentries$Braziers" 0 G) (hlk : meth.locks = false) (hr : meth.sig.returnType = (some .int)) (ha0 : kU 0 a0 = 0) : f_X0_warmthOn M a0 x1 x2 = some r → Z p l e { frames := 2, cells := 0, slots := 0, locals := 43 } s m args below meth c 0 G 5 (MQ below (QC 0 G (some (.int r)) M) args s 0 0 (AU 0 G)) 0 [(0, .ref (gB G + a0)), (1, .int x1), (2, .int x2)] [] M := by
  intro h
  unfold f_X0_warmthOn at h
  refine z_iconst (v := (0 : Int32)) C d_X0_warmthOn_0 (by decide) ?_
  refine z_istore_n (L' := [(3, .int (0 : Int32)), (0, .ref (gB G + a0)), (1, .int x1), (2, .int x2)]) C d_X0_warmthOn_1 rfl (by decide) rfl ?_
  refine z_iconst (v := (0 : Int32)) C d_X0_warmthOn_2 (by decide) ?_
  refine z_istore (L' := [(4, .int (0 : Int32)), (3, .int (0 : Int32)), (0, .ref (gB G + a0)), (1, .int x1), (2, .int x2)]) C d_X0_warmthOn_3 (by decide) rfl ?_
  exact z_sub [2, 3, 4, 1, 0] rfl (k_X0_warmthOn_5 C hlk hr ha0 _ _ _ h)
theorem c_X0_warmthOn (l : Launch) (G : GG) {M : Mm} {a0 : Nat} {x1 : Int32} {x2 : Int32} {r : Int32} (ha0 : kU 0 a0 = 0) (h : f_X0_warmthOn M a0 x1 x2 = some r) : CT l 0 G y_X0_warmthOn prog_2_method_6_code 5 (some .int) 2 43 [.ref (gB G + a0), .int x1, .int x2] M (some (.int r)) M :=
  CT.of (by decide +kernel) (Nat.le_of_ble_eq_true rfl) rfl (fun p e s m args below meth c C hlk hr => k_X0_warmthOn_0 C hlk hr ha0 h)
-- SnowSentries$Law.suits(LSnowSentries$Man;)Z
set_option maxRecDepth 4000 in
theorem k_X5_suits_37 {p : Program} {l : Launch} {e : Env} {s : State} {m : MethodId} {args : Array Value} {below : List Frame} {meth : Method} {c : Code} {G : GG} {M : Mm} {s_0 : Int32} {r : Int32} (C : CX p s m args c prog_7_method_4_code 2 "SnowSentries$Law" 0 G) (hlk : meth.locks = false) (hr : meth.sig.returnType = (some .boolean)) : f_X5_suits_37 M s_0 = some r → Z p l e { frames := 0, cells := 0, slots := 0, locals := 0 } s m args below meth c 0 G 2 (MQ below (QC 0 G (some (.int r)) M) args s 0 0 (AU 0 G)) 37 [] [.int s_0] M := by
  intro h
  unfold f_X5_suits_37 at h
  obtain ⟨q1, h⟩ := o_ck h
  obtain rfl := o_some h
  exact z_zret C hlk hr (isB_nar q1) d_X5_suits_37
set_option maxRecDepth 4000 in
theorem k_X5_suits_32 {p : Program} {l : Launch} {e : Env} {s : State} {m : MethodId} {args : Array Value} {below : List Frame} {meth : Method} {c : Code} {G : GG} {M : Mm} {r : Int32} (C : CX p s m args c prog_7_method_4_code 2 "SnowSentries$Law" 0 G) (hlk : meth.locks = false) (hr : meth.sig.returnType = (some .boolean)) : f_X5_suits_32 M = some r → Z p l e { frames := 0, cells := 0, slots := 0, locals := 0 } s m args below meth c 0 G 2 (MQ below (QC 0 G (some (.int r)) M) args s 0 0 (AU 0 G)) 32 [] [] M := by
  intro h
  unfold f_X5_suits_32 at h
  refine z_iconst (v := (1 : Int32)) C d_X5_suits_32 (by decide) ?_
  refine z_goto C d_X5_suits_33 ?_
  exact z_sub [] rfl (k_X5_suits_37 C hlk hr h)
set_option maxRecDepth 4000 in
theorem k_X5_suits_36 {p : Program} {l : Launch} {e : Env} {s : State} {m : MethodId} {args : Array Value} {below : List Frame} {meth : Method} {c : Code} {G : GG} {M : Mm} {r : Int32} (C : CX p s m args c prog_7_method_4_code 2 "SnowSentries$Law" 0 G) (hlk : meth.locks = false) (hr : meth.sig.returnType = (some .boolean)) : f_X5_suits_36 M = some r → Z p l e { frames := 0, cells := 0, slots := 0, locals := 0 } s m args below meth c 0 G 2 (MQ below (QC 0 G (some (.int r)) M) args s 0 0 (AU 0 G)) 36 [] [] M := by
  intro h
  unfold f_X5_suits_36 at h
  refine z_iconst (v := (0 : Int32)) C d_X5_suits_36 (by decide) ?_
  exact z_sub [] rfl (k_X5_suits_37 C hlk hr h)
set_option maxRecDepth 4000 in
theorem k_X5_suits_0 {p : Program} {l : Launch} {e : Env} {s : State} {m : MethodId} {args : Array Value} {below : List Frame} {meth : Method} {c : Code} {G : GG} {M : Mm} {a0 : Nat} {a1 : Nat} {r : Int32} (C : CX p s m args c prog_7_method_4_code 2 "SnowSentries$Law" 0 G) (hlk : meth.locks = false) (hr : meth.sig.returnType = (some .boolean)) (ha0 : kU 0 a0 = 5) (ha1 : kU 0 a1 = 6) : f_X5_suits M a0 a1 = some r → Z p l e { frames := 0, cells := 0, slots := 0, locals := 0 } s m args below meth c 0 G 2 (MQ below (QC 0 G (some (.int r)) M) args s 0 0 (AU 0 G)) 0 [(0, .ref (gB G + a0)), (1, .ref (gB G + a1))] [] M := by
  intro h
  unfold f_X5_suits at h
  refine z_aload_n 1 C d_X5_suits_0 rfl rfl ?_
  refine z_get (k := 0) (v := .int (M.1 a1 0)) C ((E_6 ha1 G) _ _) (kU_in ha1 (by decide)) rfl inX6 (by decide) wf_X5_25 rfl d_X5_suits_1 ?_
  refine z_if_eq C d_X5_suits_4 (fun q1 => ?_) (fun q1 => ?_)
  · have h := o_t q1 h
    exact z_sub [] rfl (k_X5_suits_36 C hlk hr h)
  · have h := o_f q1 h
    refine z_aload_n 1 C d_X5_suits_7 rfl rfl ?_
    refine z_get (k := 5) (v := .int (M.1 a1 5)) C ((E_6 ha1 G) _ _) (kU_in ha1 (by decide)) rfl inX6 (by decide) wf_X5_31 rfl d_X5_suits_8 ?_
    refine z_aload_n 0 C d_X5_suits_11 rfl rfl ?_
    refine z_get (k := 1) (v := .int (M.1 a0 1)) C ((E_5 ha0 G) _ _) (kU_in ha0 (by decide)) rfl inX5 (by decide) wf_X5_15 rfl d_X5_suits_12 ?_
    refine z_icmp_lt C d_X5_suits_15 (fun q2 => ?_) (fun q2 => ?_)
    · have h := o_t q2 h
      exact z_sub [] rfl (k_X5_suits_36 C hlk hr h)
    · have h := o_f q2 h
      refine z_aload_n 0 C d_X5_suits_18 rfl rfl ?_
      refine z_get (k := 2) (v := .int (M.1 a0 2)) C ((E_5 ha0 G) _ _) (kU_in ha0 (by decide)) rfl inX5 (by decide) wf_X5_18 rfl d_X5_suits_19 ?_
      refine z_if_eq C d_X5_suits_22 (fun q3 => ?_) (fun q3 => ?_)
      · have h := o_t q3 h
        exact z_sub [] rfl (k_X5_suits_32 C hlk hr h)
      · have h := o_f q3 h
        refine z_aload_n 1 C d_X5_suits_25 rfl rfl ?_
        refine z_get (k := 6) (v := .int (M.1 a1 6)) C ((E_6 ha1 G) _ _) (kU_in ha1 (by decide)) rfl inX6 (by decide) wf_X5_32 rfl d_X5_suits_26 ?_
        refine z_if_eq C d_X5_suits_29 (fun q4 => ?_) (fun q4 => ?_)
        · have h := o_t q4 h
          exact z_sub [] rfl (k_X5_suits_36 C hlk hr h)
        · have h := o_f q4 h
          exact z_sub [] rfl (k_X5_suits_32 C hlk hr h)
theorem c_X5_suits (l : Launch) (G : GG) {M : Mm} {a0 : Nat} {a1 : Nat} {r : Int32} (ha0 : kU 0 a0 = 5) (ha1 : kU 0 a1 = 6) (h : f_X5_suits M a0 a1 = some r) : CT l 0 G y_X5_suits prog_7_method_4_code 2 (some .boolean) 0 0 [.ref (gB G + a0), .ref (gB G + a1)] M (some (.int r)) M :=
  CT.of (by decide +kernel) (Nat.le_of_ble_eq_true rfl) rfl (fun p e s m args below meth c C hlk hr => k_X5_suits_0 C hlk hr ha0 ha1 h)
-- SnowSentries$Man.lossBy(II)I
set_option maxRecDepth 4000 in
theorem k_X6_lossBy_0 {p : Program} {l : Launch} {e : Env} {s : State} {m : MethodId} {args : Array Value} {below : List Frame} {meth : Method} {c : Code} {G : GG} {M : Mm} {a0 : Nat} {x1 : Int32} {x2 : Int32} {r : Int32} (C : CX p s m args c prog_8_method_4_code 3 "SnowSentries$Man" 0 G) (hlk : meth.locks = false) (hr : meth.sig.returnType = (some .int)) (ha0 : kU 0 a0 = 6) : f_X6_lossBy M a0 x1 x2 = some r → Z p l e { frames := 1, cells := 0, slots := 0, locals := 21 } s m args below meth c 0 G 3 (MQ below (QC 0 G (some (.int r)) M) args s 0 0 (AU 0 G)) 0 [(0, .ref (gB G + a0)), (1, .int x1), (2, .int x2)] [] M := by
  intro h
  unfold f_X6_lossBy at h
  refine z_aload_n 0 C d_X6_lossBy_0 rfl rfl ?_
  refine z_get (k := 1) (v := .int (M.1 a0 1)) C ((E_6 ha0 G) _ _) (kU_in ha0 (by decide)) rfl inX6 (by decide) wf_X6_15 rfl d_X6_lossBy_1 ?_
  rcases Decidable.em ((M.1 a0 1) = (1 : Int32)) with q1 | q1
  · have h := o_t q1 h
    refine z_tsw (tgt := 32) C d_X6_lossBy_4 (Or.inr ⟨28, by rw [q1]; decide, by rw [q1]; decide, by rw [q1]; decide, by decide⟩) ?_
    refine z_iload_n 1 C d_X6_lossBy_32 rfl rfl ?_
    refine z_iload_n 2 C d_X6_lossBy_33 rfl rfl ?_
    refine z_iadd C d_X6_lossBy_34 ?_
    refine z_iconst (v := (2 : Int32)) C d_X6_lossBy_35 (by decide) ?_
    refine z_idiv C d_X6_lossBy_36 (by decide) ?_
    obtain rfl := o_some h
    exact z_iret C hlk hr d_X6_lossBy_37
  · have h := o_f q1 h
    rcases Decidable.em ((M.1 a0 1) = (2 : Int32)) with q2 | q2
    · have h := o_t q2 h
      refine z_tsw (tgt := 38) C d_X6_lossBy_4 (Or.inr ⟨34, by rw [q2]; decide, by rw [q2]; decide, by rw [q2]; decide, by decide⟩) ?_
      refine z_iload_n 1 C d_X6_lossBy_38 rfl rfl ?_
      obtain rfl := o_some h
      exact z_iret C hlk hr d_X6_lossBy_39
    · have h := o_f q2 h
      rcases Decidable.em ((M.1 a0 1) = (3 : Int32)) with q3 | q3
      · have h := o_t q3 h
        refine z_tsw (tgt := 40) C d_X6_lossBy_4 (Or.inr ⟨36, by rw [q3]; decide, by rw [q3]; decide, by rw [q3]; decide, by decide⟩) ?_
        refine z_iload_n 1 C d_X6_lossBy_40 rfl rfl ?_
        refine z_iload_n 2 C d_X6_lossBy_41 rfl rfl ?_
        refine z_iadd C d_X6_lossBy_42 ?_
        refine z_iconst (v := (2 : Int32)) C d_X6_lossBy_43 (by decide) ?_
        refine z_mmin C wm_X6_34 wMs_min wMi wMc_min (Nat.le_of_ble_eq_true rfl) (Nat.le_of_ble_eq_true rfl) d_X6_lossBy_44 ?_
        obtain rfl := o_some h
        exact z_iret C hlk hr d_X6_lossBy_47
      · have h := o_f q3 h
        have nq1 := lv_neT (a := 1) q1 (by decide)
        have nq2 := lv_neT (a := 2) q2 (by decide)
        have nq3 := lv_neT (a := 3) q3 (by decide)
        refine z_tsw (tgt := 48) C d_X6_lossBy_4 (Or.inl ⟨by omega, by decide⟩) ?_
        refine z_iload_n 1 C d_X6_lossBy_48 rfl rfl ?_
        refine z_iload_n 2 C d_X6_lossBy_49 rfl rfl ?_
        refine z_iadd C d_X6_lossBy_50 ?_
        obtain rfl := o_some h
        exact z_iret C hlk hr d_X6_lossBy_51
theorem c_X6_lossBy (l : Launch) (G : GG) {M : Mm} {a0 : Nat} {x1 : Int32} {x2 : Int32} {r : Int32} (ha0 : kU 0 a0 = 6) (h : f_X6_lossBy M a0 x1 x2 = some r) : CT l 0 G y_X6_lossBy prog_8_method_4_code 3 (some .int) 1 21 [.ref (gB G + a0), .int x1, .int x2] M (some (.int r)) M :=
  CT.of (by decide +kernel) (Nat.le_of_ble_eq_true rfl) rfl (fun p e s m args below meth c C hlk hr => k_X6_lossBy_0 C hlk hr ha0 h)
-- SnowSentries$Law.wipe()V
set_option maxRecDepth 4000 in
theorem k_X5_wipe_0 {p : Program} {l : Launch} {e : Env} {s : State} {m : MethodId} {args : Array Value} {below : List Frame} {meth : Method} {c : Code} {G : GG} {u : Nat} {M : Mm} {a0 : Nat} {M2 : Mm} (C : CX p s m args c prog_7_method_2_code 1 "SnowSentries$Law" u G) (hlk : meth.locks = false) (hr : meth.sig.returnType = none) (ha0 : kU u a0 = 5) : f_X5_wipe M a0 = some M2 → Z p l e { frames := 0, cells := 0, slots := 0, locals := 0 } s m args below meth c u G 1 (MQ below (QC u G none M2) args s 0 0 (AU u G)) 0 [(0, .ref (gB G + a0))] [] M := by
  intro h
  unfold f_X5_wipe at h
  refine z_aload_n 0 C d_X5_wipe_0 rfl rfl ?_
  refine z_iconst (v := (1 : Int32)) C d_X5_wipe_1 (by decide) ?_
  obtain ⟨M1, e2, h⟩ := o_wr h
  refine z_pI (k := 0) (ty := .int) C (fun r q => (E_5 ha0 G) r q) (fun _ _ => rfl) (kU_in ha0 (by decide)) rfl inX5 tyX5 tyX5_ok nmX5 (by decide) wf_X5_9 rfl (by decide +kernel) rfl rfl (Nat.le_of_ble_eq_true rfl) d_X5_wipe_2 ?_
  refine z_nM e2 ?_
  refine z_aload_n 0 C d_X5_wipe_5 rfl rfl ?_
  refine z_iconst (v := (0 : Int32)) C d_X5_wipe_6 (by decide) ?_
  obtain ⟨M3, e4, h⟩ := o_wr h
  refine z_pI (k := 1) (ty := .int) C (fun r q => (E_5 ha0 G) r q) (fun _ _ => rfl) (kU_in ha0 (by decide)) rfl inX5 tyX5 tyX5_ok nmX5 (by decide) wf_X5_15 rfl (by decide +kernel) rfl rfl (Nat.le_of_ble_eq_true rfl) d_X5_wipe_7 ?_
  refine z_nM e4 ?_
  refine z_aload_n 0 C d_X5_wipe_10 rfl rfl ?_
  refine z_iconst (v := (0 : Int32)) C d_X5_wipe_11 (by decide) ?_
  obtain ⟨M5, e6, h⟩ := o_wr h
  refine z_pI (k := 2) (ty := .int) C (fun r q => (E_5 ha0 G) r q) (fun _ _ => rfl) (kU_in ha0 (by decide)) rfl inX5 tyX5 tyX5_ok nmX5 (by decide) wf_X5_18 rfl (by decide +kernel) rfl rfl (Nat.le_of_ble_eq_true rfl) d_X5_wipe_12 ?_
  refine z_nM e6 ?_
  obtain rfl := o_some h
  exact z_vret C hlk hr d_X5_wipe_15
theorem c_X5_wipe (l : Launch) (G : GG) {u : Nat} {M : Mm} {a0 : Nat} {M2 : Mm} (ha0 : kU u a0 = 5) (h : f_X5_wipe M a0 = some M2) : CT l u G y_X5_wipe prog_7_method_2_code 1 none 0 0 [.ref (gB G + a0)] M none M2 :=
  CT.of (by decide +kernel) (Nat.le_of_ble_eq_true rfl) rfl (fun p e s m args below meth c C hlk hr => k_X5_wipe_0 C hlk hr ha0 h)
-- SnowSentries$Man.melt(I)I
set_option maxRecDepth 4000 in
theorem k_X6_melt_0 {p : Program} {l : Launch} {e : Env} {s : State} {m : MethodId} {args : Array Value} {below : List Frame} {meth : Method} {c : Code} {G : GG} {M : Mm} {a0 : Nat} {x1 : Int32} {r : Int32} {M2 : Mm} (C : CX p s m args c prog_8_method_5_code 5 "SnowSentries$Man" 0 G) (hlk : meth.locks = false) (hr : meth.sig.returnType = (some .int)) (ha0 : kU 0 a0 = 6) : f_X6_melt M a0 x1 = some (r, M2) → Z p l e { frames := 1, cells := 0, slots := 0, locals := 21 } s m args below meth c 0 G 5 (MQ below (QC 0 G (some (.int r)) M2) args s 0 0 (AU 0 G)) 0 [(0, .ref (gB G + a0)), (1, .int x1)] [] M := by
  intro h
  unfold f_X6_melt at h
  refine z_aload_n 0 C d_X6_melt_0 rfl rfl ?_
  refine z_get (k := 4) (v := .int (M.1 a0 4)) C ((E_6 ha0 G) _ _) (kU_in ha0 (by decide)) rfl inX6 (by decide) wf_X6_25 rfl d_X6_melt_1 ?_
  refine z_iload_n 1 C d_X6_melt_4 rfl rfl ?_
  refine z_mmin C wm_X6_34 wMs_min wMi wMc_min (Nat.le_of_ble_eq_true rfl) (Nat.le_of_ble_eq_true rfl) d_X6_melt_5 ?_
  obtain ⟨v1, e2, h⟩ := o_nm h
  refine z_nI e2 ?_
  refine z_istore_n (L' := [(2, .int v1), (0, .ref (gB G + a0)), (1, .int x1)]) C d_X6_melt_8 rfl (by decide) rfl ?_
  refine z_aload_n 1 C d_X6_melt_9 rfl rfl ?_
  refine z_get (k := 3) (v := .int (M.1 a0 3)) C ((E_6 ha0 G) _ _) (kU_in ha0 (by decide)) rfl inX6 (by decide) wf_X6_22 rfl d_X6_melt_10 ?_
  refine z_iload_n 2 C d_X6_melt_13 rfl rfl ?_
  refine z_iload_n 0 C d_X6_melt_14 rfl rfl ?_
  refine z_isub C d_X6_melt_15 ?_
  refine z_mmin C wm_X6_34 wMs_min wMi wMc_min (Nat.le_of_ble_eq_true rfl) (Nat.le_of_ble_eq_true rfl) d_X6_melt_16 ?_
  obtain ⟨v3, e4, h⟩ := o_nm h
  refine z_nI e4 ?_
  refine z_istore_n (L' := [(3, .int v3), (2, .int v1), (0, .ref (gB G + a0)), (1, .int x1)]) C d_X6_melt_19 rfl (by decide) rfl ?_
  refine z_aload_n 2 C d_X6_melt_20 rfl rfl ?_
  refine z_get (k := 2) (v := .int (M.1 a0 2)) C ((E_6 ha0 G) _ _) (kU_in ha0 (by decide)) rfl inX6 (by decide) wf_X6_19 rfl d_X6_melt_21 ?_
  refine z_iload_n 3 C d_X6_melt_24 rfl rfl ?_
  refine z_iload_n 1 C d_X6_melt_25 rfl rfl ?_
  refine z_isub C d_X6_melt_26 ?_
  refine z_iload_n 0 C d_X6_melt_27 rfl rfl ?_
  refine z_isub C d_X6_melt_28 ?_
  refine z_mmin C wm_X6_34 wMs_min wMi wMc_min (Nat.le_of_ble_eq_true rfl) (Nat.le_of_ble_eq_true rfl) d_X6_melt_29 ?_
  obtain ⟨v5, e6, h⟩ := o_nm h
  refine z_nI e6 ?_
  refine z_istore (L' := [(4, .int v5), (3, .int v3), (2, .int v1), (0, .ref (gB G + a0)), (1, .int x1)]) C d_X6_melt_32 (by decide) rfl ?_
  refine z_aload_n 3 C d_X6_melt_34 rfl rfl ?_
  refine z_dup C d_X6_melt_35 rfl ?_
  refine z_get (k := 4) (v := .int (M.1 a0 4)) C ((E_6 ha0 G) _ _) (kU_in ha0 (by decide)) rfl inX6 (by decide) wf_X6_25 rfl d_X6_melt_36 ?_
  refine z_iload_n 2 C d_X6_melt_39 rfl rfl ?_
  refine z_isub C d_X6_melt_40 ?_
  obtain ⟨M7, e8, h⟩ := o_wr h
  refine z_pI (k := 4) (ty := .int) C (fun r q => (E_6 ha0 G) r q) (fun _ _ => rfl) (kU_in ha0 (by decide)) rfl inX6 tyX6 tyX6_ok nmX6 (by decide) wf_X6_25 rfl (by decide +kernel) rfl rfl (Nat.le_of_ble_eq_true rfl) d_X6_melt_41 ?_
  refine z_nM e8 ?_
  refine z_aload_n 3 C d_X6_melt_44 rfl rfl ?_
  refine z_dup C d_X6_melt_45 rfl ?_
  refine z_get (k := 3) (v := .int (M7.1 a0 3)) C ((E_6 ha0 G) _ _) (kU_in ha0 (by decide)) rfl inX6 (by decide) wf_X6_22 rfl d_X6_melt_46 ?_
  refine z_iload_n 1 C d_X6_melt_49 rfl rfl ?_
  refine z_isub C d_X6_melt_50 ?_
  obtain ⟨M9, e10, h⟩ := o_wr h
  refine z_pI (k := 3) (ty := .int) C (fun r q => (E_6 ha0 G) r q) (fun _ _ => rfl) (kU_in ha0 (by decide)) rfl inX6 tyX6 tyX6_ok nmX6 (by decide) wf_X6_22 rfl (by decide +kernel) rfl rfl (Nat.le_of_ble_eq_true rfl) d_X6_melt_51 ?_
  refine z_nM e10 ?_
  refine z_aload_n 3 C d_X6_melt_54 rfl rfl ?_
  refine z_dup C d_X6_melt_55 rfl ?_
  refine z_get (k := 2) (v := .int (M9.1 a0 2)) C ((E_6 ha0 G) _ _) (kU_in ha0 (by decide)) rfl inX6 (by decide) wf_X6_19 rfl d_X6_melt_56 ?_
  refine z_iload 0 C d_X6_melt_59 rfl ?_
  refine z_isub C d_X6_melt_61 ?_
  obtain ⟨M11, e12, h⟩ := o_wr h
  refine z_pI (k := 2) (ty := .int) C (fun r q => (E_6 ha0 G) r q) (fun _ _ => rfl) (kU_in ha0 (by decide)) rfl inX6 tyX6 tyX6_ok nmX6 (by decide) wf_X6_19 rfl (by decide +kernel) rfl rfl (Nat.le_of_ble_eq_true rfl) d_X6_melt_62 ?_
  refine z_nM e12 ?_
  refine z_iload_n 2 C d_X6_melt_65 rfl rfl ?_
  refine z_iload_n 1 C d_X6_melt_66 rfl rfl ?_
  refine z_iadd C d_X6_melt_67 ?_
  refine z_iload 0 C d_X6_melt_68 rfl ?_
  refine z_iadd C d_X6_melt_70 ?_
  obtain ⟨rfl, rfl⟩ := o_pair h
  exact z_iret C hlk hr d_X6_melt_71
theorem c_X6_melt (l : Launch) (G : GG) {M : Mm} {a0 : Nat} {x1 : Int32} {r : Int32} {M2 : Mm} (ha0 : kU 0 a0 = 6) (h : f_X6_melt M a0 x1 = some (r, M2)) : CT l 0 G y_X6_melt prog_8_method_5_code 5 (some .int) 1 21 [.ref (gB G + a0), .int x1] M (some (.int r)) M2 :=
  CT.of (by decide +kernel) (Nat.le_of_ble_eq_true rfl) rfl (fun p e s m args below meth c C hlk hr => k_X6_melt_0 C hlk hr ha0 h)
-- SnowSentries$Man.snowOf()I
set_option maxRecDepth 4000 in
theorem k_X6_snowOf_25 {p : Program} {l : Launch} {e : Env} {s : State} {m : MethodId} {args : Array Value} {below : List Frame} {meth : Method} {c : Code} {G : GG} {M : Mm} {s_0 : Int32} {r : Int32} (C : CX p s m args c prog_8_method_3_code 1 "SnowSentries$Man" 0 G) (hlk : meth.locks = false) (hr : meth.sig.returnType = (some .int)) : f_X6_snowOf_25 M s_0 = some r → Z p l e { frames := 0, cells := 0, slots := 0, locals := 0 } s m args below meth c 0 G 1 (MQ below (QC 0 G (some (.int r)) M) args s 0 0 (AU 0 G)) 25 [] [.int s_0] M := by
  intro h
  unfold f_X6_snowOf_25 at h
  obtain rfl := o_some h
  exact z_iret C hlk hr d_X6_snowOf_25
set_option maxRecDepth 4000 in
theorem k_X6_snowOf_0 {p : Program} {l : Launch} {e : Env} {s : State} {m : MethodId} {args : Array Value} {below : List Frame} {meth : Method} {c : Code} {G : GG} {M : Mm} {a0 : Nat} {r : Int32} (C : CX p s m args c prog_8_method_3_code 1 "SnowSentries$Man" 0 G) (hlk : meth.locks = false) (hr : meth.sig.returnType = (some .int)) (ha0 : kU 0 a0 = 6) : f_X6_snowOf M a0 = some r → Z p l e { frames := 0, cells := 0, slots := 0, locals := 0 } s m args below meth c 0 G 1 (MQ below (QC 0 G (some (.int r)) M) args s 0 0 (AU 0 G)) 0 [(0, .ref (gB G + a0))] [] M := by
  intro h
  unfold f_X6_snowOf at h
  refine z_aload_n 0 C d_X6_snowOf_0 rfl rfl ?_
  refine z_get (k := 0) (v := .int (M.1 a0 0)) C ((E_6 ha0 G) _ _) (kU_in ha0 (by decide)) rfl inX6 (by decide) wf_X6_9 rfl d_X6_snowOf_1 ?_
  refine z_if_eq C d_X6_snowOf_4 (fun q1 => ?_) (fun q1 => ?_)
  · have h := o_t q1 h
    refine z_iconst (v := (0 : Int32)) C d_X6_snowOf_24 (by decide) ?_
    exact z_sub [] rfl (k_X6_snowOf_25 C hlk hr h)
  · have h := o_f q1 h
    refine z_aload_n 0 C d_X6_snowOf_7 rfl rfl ?_
    refine z_get (k := 2) (v := .int (M.1 a0 2)) C ((E_6 ha0 G) _ _) (kU_in ha0 (by decide)) rfl inX6 (by decide) wf_X6_19 rfl d_X6_snowOf_8 ?_
    refine z_aload_n 0 C d_X6_snowOf_11 rfl rfl ?_
    refine z_get (k := 3) (v := .int (M.1 a0 3)) C ((E_6 ha0 G) _ _) (kU_in ha0 (by decide)) rfl inX6 (by decide) wf_X6_22 rfl d_X6_snowOf_12 ?_
    refine z_iadd C d_X6_snowOf_15 ?_
    refine z_aload_n 0 C d_X6_snowOf_16 rfl rfl ?_
    refine z_get (k := 4) (v := .int (M.1 a0 4)) C ((E_6 ha0 G) _ _) (kU_in ha0 (by decide)) rfl inX6 (by decide) wf_X6_25 rfl d_X6_snowOf_17 ?_
    refine z_iadd C d_X6_snowOf_20 ?_
    refine z_goto C d_X6_snowOf_21 ?_
    exact z_sub [] rfl (k_X6_snowOf_25 C hlk hr h)
theorem c_X6_snowOf (l : Launch) (G : GG) {M : Mm} {a0 : Nat} {r : Int32} (ha0 : kU 0 a0 = 6) (h : f_X6_snowOf M a0 = some r) : CT l 0 G y_X6_snowOf prog_8_method_3_code 1 (some .int) 0 0 [.ref (gB G + a0)] M (some (.int r)) M :=
  CT.of (by decide +kernel) (Nat.le_of_ble_eq_true rfl) rfl (fun p e s m args below meth c C hlk hr => k_X6_snowOf_0 C hlk hr ha0 h)
-- SnowSentries$Law.change(II)I
set_option maxRecDepth 4000 in
theorem k_X5_change_78 {p : Program} {l : Launch} {e : Env} {s : State} {m : MethodId} {args : Array Value} {below : List Frame} {meth : Method} {c : Code} {G : GG} {M : Mm} {r : Int32} {M2 : Mm} (C : CX p s m args c prog_7_method_3_code 4 "SnowSentries$Law" 0 G) (hlk : meth.locks = false) (hr : meth.sig.returnType = (some .int)) : f_X5_change_78 M = some (r, M2) → Z p l e { frames := 1, cells := 0, slots := 0, locals := 22 } s m args below meth c 0 G 4 (MQ below (QC 0 G (some (.int r)) M2) args s 0 0 (AU 0 G)) 78 [] [] M := by
  intro h
  unfold f_X5_change_78 at h
  refine z_iconst (v := (-1 : Int32)) C d_X5_change_78 (by decide) ?_
  obtain ⟨rfl, rfl⟩ := o_pair h
  exact z_iret C hlk hr d_X5_change_79
set_option maxRecDepth 4000 in
theorem k_X5_change_52 {p : Program} {l : Launch} {e : Env} {s : State} {m : MethodId} {args : Array Value} {below : List Frame} {meth : Method} {c : Code} {G : GG} {M : Mm} {a0 : Nat} {x1 : Int32} {x2 : Int32} {r : Int32} {M2 : Mm} (C : CX p s m args c prog_7_method_3_code 4 "SnowSentries$Law" 0 G) (hlk : meth.locks = false) (hr : meth.sig.returnType = (some .int)) (ha0 : kU 0 a0 = 5) : f_X5_change_52 M a0 x1 x2 = some (r, M2) → Z p l e { frames := 1, cells := 0, slots := 0, locals := 22 } s m args below meth c 0 G 4 (MQ below (QC 0 G (some (.int r)) M2) args s 0 0 (AU 0 G)) 52 [(0, .ref (gB G + a0)), (1, .int x1), (2, .int x2)] [] M := by
  intro h
  unfold f_X5_change_52 at h
  refine z_iload_n 1 C d_X5_change_52 rfl rfl ?_
  refine z_iconst (v := (2 : Int32)) C d_X5_change_53 (by decide) ?_
  refine z_icmp_ne C d_X5_change_54 (fun q1 => ?_) (fun q1 => ?_)
  · have h := o_f q1 h
    exact z_sub [] rfl (k_X5_change_78 C hlk hr h)
  · have h := o_t q1 h
    refine z_iload_n 2 C d_X5_change_57 rfl rfl ?_
    refine z_iconst (v := (0 : Int32)) C d_X5_change_58 (by decide) ?_
    refine z_iconst (v := (1 : Int32)) C d_X5_change_59 (by decide) ?_
    obtain ⟨p3, e2, h⟩ := o_bd h
    refine z_SN (S := []) (As := [.int x2, .int (0 : Int32), .int (1 : Int32)]) C (c_X11_isAmong l G (M := M) e2) wc_X11_isAmong wm_X5_21 ws_X11_isAmong wi_X11 hy_X11_isAmong ⟨Nat.le_of_ble_eq_true rfl, Nat.le_of_ble_eq_true rfl⟩ rfl rfl (Nat.le_of_ble_eq_true rfl) d_X5_change_60 ?_
    refine z_if_eq C d_X5_change_63 (fun q4 => ?_) (fun q4 => ?_)
    · have h := o_t q4 h
      exact z_sub [] rfl (k_X5_change_78 C hlk hr h)
    · have h := o_f q4 h
      refine z_aload_n 0 C d_X5_change_66 rfl rfl ?_
      refine z_get (k := 2) (v := .int (M.1 a0 2)) C ((E_5 ha0 G) _ _) (kU_in ha0 (by decide)) rfl inX5 (by decide) wf_X5_18 rfl d_X5_change_67 ?_
      obtain ⟨v5, e6, h⟩ := o_nm h
      refine z_nI e6 ?_
      refine z_istore_n (L' := [(3, .int v5), (0, .ref (gB G + a0)), (1, .int x1), (2, .int x2)]) C d_X5_change_70 rfl (by decide) rfl ?_
      refine z_aload_n 1 C d_X5_change_71 rfl rfl ?_
      refine z_iload_n 3 C d_X5_change_72 rfl rfl ?_
      obtain ⟨M7, e8, h⟩ := o_wr h
      refine z_pI (k := 2) (ty := .int) C (fun r q => (E_5 ha0 G) r q) (fun _ _ => rfl) (kU_in ha0 (by decide)) rfl inX5 tyX5 tyX5_ok nmX5 (by decide) wf_X5_18 rfl (by decide +kernel) rfl rfl (Nat.le_of_ble_eq_true rfl) d_X5_change_73 ?_
      refine z_nM e8 ?_
      refine z_iload_n 0 C d_X5_change_76 rfl rfl ?_
      obtain ⟨rfl, rfl⟩ := o_pair h
      exact z_iret C hlk hr d_X5_change_77
set_option maxRecDepth 4000 in
theorem k_X5_change_26 {p : Program} {l : Launch} {e : Env} {s : State} {m : MethodId} {args : Array Value} {below : List Frame} {meth : Method} {c : Code} {G : GG} {M : Mm} {a0 : Nat} {x1 : Int32} {x2 : Int32} {r : Int32} {M2 : Mm} (C : CX p s m args c prog_7_method_3_code 4 "SnowSentries$Law" 0 G) (hlk : meth.locks = false) (hr : meth.sig.returnType = (some .int)) (ha0 : kU 0 a0 = 5) : f_X5_change_26 M a0 x1 x2 = some (r, M2) → Z p l e { frames := 1, cells := 0, slots := 0, locals := 22 } s m args below meth c 0 G 4 (MQ below (QC 0 G (some (.int r)) M2) args s 0 0 (AU 0 G)) 26 [(0, .ref (gB G + a0)), (1, .int x1), (2, .int x2)] [] M := by
  intro h
  unfold f_X5_change_26 at h
  refine z_iload_n 1 C d_X5_change_26 rfl rfl ?_
  refine z_iconst (v := (1 : Int32)) C d_X5_change_27 (by decide) ?_
  refine z_icmp_ne C d_X5_change_28 (fun q1 => ?_) (fun q1 => ?_)
  · have h := o_f q1 h
    exact z_sub [0, 1, 2] rfl (k_X5_change_52 C hlk hr ha0 h)
  · have h := o_t q1 h
    refine z_iload_n 2 C d_X5_change_31 rfl rfl ?_
    refine z_iconst (v := (0 : Int32)) C d_X5_change_32 (by decide) ?_
    refine z_iconst (v := (3 : Int32)) C d_X5_change_33 (by decide) ?_
    obtain ⟨p3, e2, h⟩ := o_bd h
    refine z_SN (S := []) (As := [.int x2, .int (0 : Int32), .int (3 : Int32)]) C (c_X11_isAmong l G (M := M) e2) wc_X11_isAmong wm_X5_21 ws_X11_isAmong wi_X11 hy_X11_isAmong ⟨Nat.le_of_ble_eq_true rfl, Nat.le_of_ble_eq_true rfl⟩ rfl rfl (Nat.le_of_ble_eq_true rfl) d_X5_change_34 ?_
    refine z_if_eq C d_X5_change_37 (fun q4 => ?_) (fun q4 => ?_)
    · have h := o_t q4 h
      exact z_sub [0, 1, 2] rfl (k_X5_change_52 C hlk hr ha0 h)
    · have h := o_f q4 h
      refine z_aload_n 0 C d_X5_change_40 rfl rfl ?_
      refine z_get (k := 1) (v := .int (M.1 a0 1)) C ((E_5 ha0 G) _ _) (kU_in ha0 (by decide)) rfl inX5 (by decide) wf_X5_15 rfl d_X5_change_41 ?_
      obtain ⟨v5, e6, h⟩ := o_nm h
      refine z_nI e6 ?_
      refine z_istore_n (L' := [(3, .int v5), (0, .ref (gB G + a0)), (1, .int x1), (2, .int x2)]) C d_X5_change_44 rfl (by decide) rfl ?_
      refine z_aload_n 1 C d_X5_change_45 rfl rfl ?_
      refine z_iload_n 3 C d_X5_change_46 rfl rfl ?_
      obtain ⟨M7, e8, h⟩ := o_wr h
      refine z_pI (k := 1) (ty := .int) C (fun r q => (E_5 ha0 G) r q) (fun _ _ => rfl) (kU_in ha0 (by decide)) rfl inX5 tyX5 tyX5_ok nmX5 (by decide) wf_X5_15 rfl (by decide +kernel) rfl rfl (Nat.le_of_ble_eq_true rfl) d_X5_change_47 ?_
      refine z_nM e8 ?_
      refine z_iload_n 0 C d_X5_change_50 rfl rfl ?_
      obtain ⟨rfl, rfl⟩ := o_pair h
      exact z_iret C hlk hr d_X5_change_51
set_option maxRecDepth 4000 in
theorem k_X5_change_0 {p : Program} {l : Launch} {e : Env} {s : State} {m : MethodId} {args : Array Value} {below : List Frame} {meth : Method} {c : Code} {G : GG} {M : Mm} {a0 : Nat} {x1 : Int32} {x2 : Int32} {r : Int32} {M2 : Mm} (C : CX p s m args c prog_7_method_3_code 4 "SnowSentries$Law" 0 G) (hlk : meth.locks = false) (hr : meth.sig.returnType = (some .int)) (ha0 : kU 0 a0 = 5) : f_X5_change M a0 x1 x2 = some (r, M2) → Z p l e { frames := 1, cells := 0, slots := 0, locals := 22 } s m args below meth c 0 G 4 (MQ below (QC 0 G (some (.int r)) M2) args s 0 0 (AU 0 G)) 0 [(0, .ref (gB G + a0)), (1, .int x1), (2, .int x2)] [] M := by
  intro h
  unfold f_X5_change at h
  refine z_iload_n 1 C d_X5_change_0 rfl rfl ?_
  refine z_if_ne C d_X5_change_1 (fun q1 => ?_) (fun q1 => ?_)
  · have h := o_f q1 h
    exact z_sub [0, 1, 2] rfl (k_X5_change_26 C hlk hr ha0 h)
  · have h := o_t q1 h
    refine z_iload_n 2 C d_X5_change_4 rfl rfl ?_
    refine z_iconst (v := (1 : Int32)) C d_X5_change_5 (by decide) ?_
    refine z_bipush (v := (99 : Int32)) C d_X5_change_6 (by decide) ?_
    obtain ⟨p3, e2, h⟩ := o_bd h
    refine z_SN (S := []) (As := [.int x2, .int (1 : Int32), .int (99 : Int32)]) C (c_X11_isAmong l G (M := M) e2) wc_X11_isAmong wm_X5_21 ws_X11_isAmong wi_X11 hy_X11_isAmong ⟨Nat.le_of_ble_eq_true rfl, Nat.le_of_ble_eq_true rfl⟩ rfl rfl (Nat.le_of_ble_eq_true rfl) d_X5_change_8 ?_
    refine z_if_eq C d_X5_change_11 (fun q4 => ?_) (fun q4 => ?_)
    · have h := o_t q4 h
      exact z_sub [0, 1, 2] rfl (k_X5_change_26 C hlk hr ha0 h)
    · have h := o_f q4 h
      refine z_aload_n 0 C d_X5_change_14 rfl rfl ?_
      refine z_get (k := 0) (v := .int (M.1 a0 0)) C ((E_5 ha0 G) _ _) (kU_in ha0 (by decide)) rfl inX5 (by decide) wf_X5_9 rfl d_X5_change_15 ?_
      obtain ⟨v5, e6, h⟩ := o_nm h
      refine z_nI e6 ?_
      refine z_istore_n (L' := [(3, .int v5), (0, .ref (gB G + a0)), (1, .int x1), (2, .int x2)]) C d_X5_change_18 rfl (by decide) rfl ?_
      refine z_aload_n 1 C d_X5_change_19 rfl rfl ?_
      refine z_iload_n 3 C d_X5_change_20 rfl rfl ?_
      obtain ⟨M7, e8, h⟩ := o_wr h
      refine z_pI (k := 0) (ty := .int) C (fun r q => (E_5 ha0 G) r q) (fun _ _ => rfl) (kU_in ha0 (by decide)) rfl inX5 tyX5 tyX5_ok nmX5 (by decide) wf_X5_9 rfl (by decide +kernel) rfl rfl (Nat.le_of_ble_eq_true rfl) d_X5_change_21 ?_
      refine z_nM e8 ?_
      refine z_iload_n 0 C d_X5_change_24 rfl rfl ?_
      obtain ⟨rfl, rfl⟩ := o_pair h
      exact z_iret C hlk hr d_X5_change_25
theorem c_X5_change (l : Launch) (G : GG) {M : Mm} {a0 : Nat} {x1 : Int32} {x2 : Int32} {r : Int32} {M2 : Mm} (ha0 : kU 0 a0 = 5) (h : f_X5_change M a0 x1 x2 = some (r, M2)) : CT l 0 G y_X5_change prog_7_method_3_code 4 (some .int) 1 22 [.ref (gB G + a0), .int x1, .int x2] M (some (.int r)) M2 :=
  CT.of (by decide +kernel) (Nat.le_of_ble_eq_true rfl) rfl (fun p e s m args below meth c C hlk hr => k_X5_change_0 C hlk hr ha0 h)
-- SnowSentries$Man.become(LSnowSentries$Man;)V
set_option maxRecDepth 4000 in
theorem k_X6_become_0 {p : Program} {l : Launch} {e : Env} {s : State} {m : MethodId} {args : Array Value} {below : List Frame} {meth : Method} {c : Code} {G : GG} {M : Mm} {a0 : Nat} {a1 : Nat} {M2 : Mm} (C : CX p s m args c prog_8_method_2_code 2 "SnowSentries$Man" 0 G) (hlk : meth.locks = false) (hr : meth.sig.returnType = none) (ha0 : kU 0 a0 = 6) (ha1 : kU 0 a1 = 6) : f_X6_become M a0 a1 = some M2 → Z p l e { frames := 0, cells := 0, slots := 0, locals := 0 } s m args below meth c 0 G 2 (MQ below (QC 0 G none M2) args s 0 0 (AU 0 G)) 0 [(0, .ref (gB G + a0)), (1, .ref (gB G + a1))] [] M := by
  intro h
  unfold f_X6_become at h
  refine z_aload_n 0 C d_X6_become_0 rfl rfl ?_
  refine z_aload_n 1 C d_X6_become_1 rfl rfl ?_
  refine z_get (k := 0) (v := .int (M.1 a1 0)) C ((E_6 ha1 G) _ _) (kU_in ha1 (by decide)) rfl inX6 (by decide) wf_X6_9 rfl d_X6_become_2 ?_
  obtain ⟨q3, h⟩ := o_ck h
  obtain ⟨M1, e2, h⟩ := o_wr h
  refine z_pI (k := 0) (ty := .boolean) C (fun r q => (E_6 ha0 G) r q) (fun _ _ => rfl) (kU_in ha0 (by decide)) rfl inX6 tyX6 tyX6_ok nmX6 (by decide) wf_X6_9 rfl (by decide +kernel) (isB_nar q3) (isB_fit q3) (Nat.le_of_ble_eq_true rfl) d_X6_become_5 ?_
  refine z_nM e2 ?_
  refine z_aload_n 0 C d_X6_become_8 rfl rfl ?_
  refine z_aload_n 1 C d_X6_become_9 rfl rfl ?_
  refine z_get (k := 1) (v := .int (M1.1 a1 1)) C ((E_6 ha1 G) _ _) (kU_in ha1 (by decide)) rfl inX6 (by decide) wf_X6_15 rfl d_X6_become_10 ?_
  obtain ⟨M4, e5, h⟩ := o_wr h
  refine z_pI (k := 1) (ty := .int) C (fun r q => (E_6 ha0 G) r q) (fun _ _ => rfl) (kU_in ha0 (by decide)) rfl inX6 tyX6 tyX6_ok nmX6 (by decide) wf_X6_15 rfl (by decide +kernel) rfl rfl (Nat.le_of_ble_eq_true rfl) d_X6_become_13 ?_
  refine z_nM e5 ?_
  refine z_aload_n 0 C d_X6_become_16 rfl rfl ?_
  refine z_aload_n 1 C d_X6_become_17 rfl rfl ?_
  refine z_get (k := 2) (v := .int (M4.1 a1 2)) C ((E_6 ha1 G) _ _) (kU_in ha1 (by decide)) rfl inX6 (by decide) wf_X6_19 rfl d_X6_become_18 ?_
  obtain ⟨M6, e7, h⟩ := o_wr h
  refine z_pI (k := 2) (ty := .int) C (fun r q => (E_6 ha0 G) r q) (fun _ _ => rfl) (kU_in ha0 (by decide)) rfl inX6 tyX6 tyX6_ok nmX6 (by decide) wf_X6_19 rfl (by decide +kernel) rfl rfl (Nat.le_of_ble_eq_true rfl) d_X6_become_21 ?_
  refine z_nM e7 ?_
  refine z_aload_n 0 C d_X6_become_24 rfl rfl ?_
  refine z_aload_n 1 C d_X6_become_25 rfl rfl ?_
  refine z_get (k := 3) (v := .int (M6.1 a1 3)) C ((E_6 ha1 G) _ _) (kU_in ha1 (by decide)) rfl inX6 (by decide) wf_X6_22 rfl d_X6_become_26 ?_
  obtain ⟨M8, e9, h⟩ := o_wr h
  refine z_pI (k := 3) (ty := .int) C (fun r q => (E_6 ha0 G) r q) (fun _ _ => rfl) (kU_in ha0 (by decide)) rfl inX6 tyX6 tyX6_ok nmX6 (by decide) wf_X6_22 rfl (by decide +kernel) rfl rfl (Nat.le_of_ble_eq_true rfl) d_X6_become_29 ?_
  refine z_nM e9 ?_
  refine z_aload_n 0 C d_X6_become_32 rfl rfl ?_
  refine z_aload_n 1 C d_X6_become_33 rfl rfl ?_
  refine z_get (k := 4) (v := .int (M8.1 a1 4)) C ((E_6 ha1 G) _ _) (kU_in ha1 (by decide)) rfl inX6 (by decide) wf_X6_25 rfl d_X6_become_34 ?_
  obtain ⟨M10, e11, h⟩ := o_wr h
  refine z_pI (k := 4) (ty := .int) C (fun r q => (E_6 ha0 G) r q) (fun _ _ => rfl) (kU_in ha0 (by decide)) rfl inX6 tyX6 tyX6_ok nmX6 (by decide) wf_X6_25 rfl (by decide +kernel) rfl rfl (Nat.le_of_ble_eq_true rfl) d_X6_become_37 ?_
  refine z_nM e11 ?_
  refine z_aload_n 0 C d_X6_become_40 rfl rfl ?_
  refine z_aload_n 1 C d_X6_become_41 rfl rfl ?_
  refine z_get (k := 5) (v := .int (M10.1 a1 5)) C ((E_6 ha1 G) _ _) (kU_in ha1 (by decide)) rfl inX6 (by decide) wf_X6_28 rfl d_X6_become_42 ?_
  obtain ⟨M12, e13, h⟩ := o_wr h
  refine z_pI (k := 5) (ty := .int) C (fun r q => (E_6 ha0 G) r q) (fun _ _ => rfl) (kU_in ha0 (by decide)) rfl inX6 tyX6 tyX6_ok nmX6 (by decide) wf_X6_28 rfl (by decide +kernel) rfl rfl (Nat.le_of_ble_eq_true rfl) d_X6_become_45 ?_
  refine z_nM e13 ?_
  refine z_aload_n 0 C d_X6_become_48 rfl rfl ?_
  refine z_aload_n 1 C d_X6_become_49 rfl rfl ?_
  refine z_get (k := 6) (v := .int (M12.1 a1 6)) C ((E_6 ha1 G) _ _) (kU_in ha1 (by decide)) rfl inX6 (by decide) wf_X6_31 rfl d_X6_become_50 ?_
  obtain ⟨q16, h⟩ := o_ck h
  obtain ⟨M14, e15, h⟩ := o_wr h
  refine z_pI (k := 6) (ty := .boolean) C (fun r q => (E_6 ha0 G) r q) (fun _ _ => rfl) (kU_in ha0 (by decide)) rfl inX6 tyX6 tyX6_ok nmX6 (by decide) wf_X6_31 rfl (by decide +kernel) (isB_nar q16) (isB_fit q16) (Nat.le_of_ble_eq_true rfl) d_X6_become_53 ?_
  refine z_nM e15 ?_
  obtain rfl := o_some h
  exact z_vret C hlk hr d_X6_become_56
theorem c_X6_become (l : Launch) (G : GG) {M : Mm} {a0 : Nat} {a1 : Nat} {M2 : Mm} (ha0 : kU 0 a0 = 6) (ha1 : kU 0 a1 = 6) (h : f_X6_become M a0 a1 = some M2) : CT l 0 G y_X6_become prog_8_method_2_code 2 none 0 0 [.ref (gB G + a0), .ref (gB G + a1)] M none M2 :=
  CT.of (by decide +kernel) (Nat.le_of_ble_eq_true rfl) rfl (fun p e s m args below meth c C hlk hr => k_X6_become_0 C hlk hr ha0 ha1 h)
