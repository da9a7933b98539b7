def y_X1_cheapest : MethodName := ⟨"SnowSentries$Crews", "cheapest", "(LSnowSentries$Land;)I"⟩
def y_X1_send : MethodName := ⟨"SnowSentries$Crews", "send", "(LSnowSentries$Land;III)V"⟩
def y_X2_put : MethodName := ⟨"SnowSentries$Felt", "put", "(I)V"⟩
def y_X2_isFeltBy : MethodName := ⟨"SnowSentries$Felt", "isFeltBy", "(IIII)Z"⟩
def y_X2_note : MethodName := ⟨"SnowSentries$Felt", "note", "(IIII)V"⟩
def y_X2_seekOne : MethodName := ⟨"SnowSentries$Felt", "seekOne", "(I)V"⟩
def y_X2_seekHeats : MethodName := ⟨"SnowSentries$Felt", "seekHeats", "(II)V"⟩
def y_X2_seekTwo : MethodName := ⟨"SnowSentries$Felt", "seekTwo", "(I)V"⟩
def y_X3_pass : MethodName := ⟨"SnowSentries$Forecast", "pass", "(III)V"⟩
def y_X3_casesBelow : MethodName := ⟨"SnowSentries$Forecast", "casesBelow", "(I)J"⟩
def y_X3_reduce : MethodName := ⟨"SnowSentries$Forecast", "reduce", "(JJ)V"⟩
def y_X3_weigh : MethodName := ⟨"SnowSentries$Forecast", "weigh", "(LSnowSentries$Land;III)V"⟩
def y_X8_renew : MethodName := ⟨"SnowSentries$Sheet", "renew", "(II)V"⟩
def y_X8_put : MethodName := ⟨"SnowSentries$Sheet", "put", "(II)V"⟩
def y_X8_readable : MethodName := ⟨"SnowSentries$Sheet", "readable", "(III)I"⟩
def y_X8_faultFor : MethodName := ⟨"SnowSentries$Sheet", "faultFor", "(I)I"⟩
def y_X10_leastNext : MethodName := ⟨"SnowSentries$Ways", "leastNext", "(II)I"⟩
def y_X10_weigh : MethodName := ⟨"SnowSentries$Ways", "weigh", "(LSnowSentries$Land;)V"⟩
def y_X10_lastOf : MethodName := ⟨"SnowSentries$Ways", "lastOf", "(II)I"⟩
def y_X10_stepFrom : MethodName := ⟨"SnowSentries$Ways", "stepFrom", "(IIZ)I"⟩
def y_X10_placeOn : MethodName := ⟨"SnowSentries$Ways", "placeOn", "(III)I"⟩
theorem kx_130 : kU 0 130 = 1 := by decide +kernel
theorem wf_X1_22 : Cond.fieldLink "SnowSentries$Crews" 22 "SnowSentries$Crews" "bits" "I" ∈ TB := it_2 (List.mem_of_getElem? (i := 49) rfl) rfl
theorem wf_X1_9 : Cond.fieldLink "SnowSentries$Crews" 9 "SnowSentries$Crews" "needs" "[I" ∈ TB := it_2 (List.mem_of_getElem? (i := 51) rfl) rfl
theorem kx_131 : kU 0 131 = 21 := by decide +kernel
theorem wf_X1_25 : Cond.fieldLink "SnowSentries$Crews" 25 "SnowSentries$Land" "furlongs" "I" ∈ TB := it_2 (List.mem_of_getElem? (i := 134) rfl) rfl
theorem wf_X1_38 : Cond.fieldLink "SnowSentries$Crews" 38 "SnowSentries$Land" "scene" "LSnowSentries$Scene;" ∈ TB := it_2 (List.mem_of_getElem? (i := 157) rfl) rfl
theorem wf_X1_42 : Cond.fieldLink "SnowSentries$Crews" 42 "SnowSentries$Scene" "snow" "[I" ∈ TB := it_1 (List.mem_of_getElem? (i := 170) rfl) rfl
theorem wm_X1_34 : Cond.methodLink "SnowSentries$Crews" 34 y_X1_cheapest ∈ TB := it_4 (List.mem_of_getElem? (i := 167) rfl) rfl
theorem wc_X1_cheapest : Cond.code y_X1_cheapest prog_3_method_3_code 5 (some .int) ∈ TB := it_4 (List.mem_of_getElem? (i := 170) rfl) rfl
theorem ws_X1_cheapest : Cond.instanceMethod y_X1_cheapest ∈ TB := it_4 (List.mem_of_getElem? (i := 169) rfl) rfl
theorem wi_X1 : Cond.initialized "SnowSentries$Crews" ∈ TB := it_1 (List.mem_of_getElem? (i := 9) rfl) rfl
theorem hy_X1_cheapest : (y_X1_cheapest).cls ≠ "java/lang/invoke/MethodHandle" ∧ (y_X1_cheapest).cls ≠ "java/lang/invoke/VarHandle" ∧ (parseMethodDescriptor (y_X1_cheapest).desc).map (fun d => d.parameters.length) = some 1 := by decide +kernel
theorem wl_X1_cheapest : Cond.selects "SnowSentries$Crews" y_X1_cheapest y_X1_cheapest ∈ TB := TB_in (List.mem_append_left _ (List.mem_of_getElem? (i := 27) rfl)) rfl
theorem wf_X1_15 : Cond.fieldLink "SnowSentries$Crews" 15 "SnowSentries$Crews" "held" "I" ∈ TB := it_2 (List.mem_of_getElem? (i := 45) rfl) rfl
theorem wf_X1_19 : Cond.fieldLink "SnowSentries$Crews" 19 "SnowSentries$Crews" "snow" "I" ∈ TB := it_2 (List.mem_of_getElem? (i := 47) rfl) rfl
theorem wm_X1_30 : Cond.methodLink "SnowSentries$Crews" 30 y_X4_needOf ∈ TB := it_4 (List.mem_of_getElem? (i := 166) rfl) rfl
theorem kx_98 : kU 0 98 = 2 := by decide +kernel
theorem wf_X2_15 : Cond.fieldLink "SnowSentries$Felt" 15 "SnowSentries$Felt" "size" "I" ∈ TB := it_1 (List.mem_of_getElem? (i := 210) rfl) rfl
theorem wf_X2_9 : Cond.fieldLink "SnowSentries$Felt" 9 "SnowSentries$Felt" "heats" "[I" ∈ TB := it_1 (List.mem_of_getElem? (i := 222) rfl) rfl
theorem kx_99 : kU 0 99 = 21 := by decide +kernel
theorem wm_X2_34 : Cond.methodLink "SnowSentries$Felt" 34 y_X0_reach ∈ TB := it_4 (List.mem_of_getElem? (i := 230) rfl) rfl
theorem wf_X2_19 : Cond.fieldLink "SnowSentries$Felt" 19 "SnowSentries$Felt" "found" "I" ∈ TB := it_1 (List.mem_of_getElem? (i := 212) rfl) rfl
theorem wf_X2_40 : Cond.fieldLink "SnowSentries$Felt" 40 "SnowSentries$Felt" "firstFurlong" "I" ∈ TB := it_1 (List.mem_of_getElem? (i := 214) rfl) rfl
theorem wf_X2_43 : Cond.fieldLink "SnowSentries$Felt" 43 "SnowSentries$Felt" "firstHeat" "I" ∈ TB := it_1 (List.mem_of_getElem? (i := 218) rfl) rfl
theorem wf_X2_46 : Cond.fieldLink "SnowSentries$Felt" 46 "SnowSentries$Felt" "otherFurlong" "I" ∈ TB := it_1 (List.mem_of_getElem? (i := 216) rfl) rfl
theorem wf_X2_49 : Cond.fieldLink "SnowSentries$Felt" 49 "SnowSentries$Felt" "otherHeat" "I" ∈ TB := it_1 (List.mem_of_getElem? (i := 220) rfl) rfl
theorem wm_X2_22 : Cond.methodLink "SnowSentries$Felt" 22 y_X2_isFeltBy ∈ TB := it_4 (List.mem_of_getElem? (i := 226) rfl) rfl
theorem wc_X2_isFeltBy : Cond.code y_X2_isFeltBy prog_4_method_6_code 6 (some .boolean) ∈ TB := it_4 (List.mem_of_getElem? (i := 229) rfl) rfl
theorem ws_X2_isFeltBy : Cond.instanceMethod y_X2_isFeltBy ∈ TB := it_4 (List.mem_of_getElem? (i := 228) rfl) rfl
theorem wi_X2 : Cond.initialized "SnowSentries$Felt" ∈ TB := it_1 (List.mem_of_getElem? (i := 6) rfl) rfl
theorem hy_X2_isFeltBy : (y_X2_isFeltBy).cls ≠ "java/lang/invoke/MethodHandle" ∧ (y_X2_isFeltBy).cls ≠ "java/lang/invoke/VarHandle" ∧ (parseMethodDescriptor (y_X2_isFeltBy).desc).map (fun d => d.parameters.length) = some 4 := by decide +kernel
theorem wl_X2_isFeltBy : Cond.selects "SnowSentries$Felt" y_X2_isFeltBy y_X2_isFeltBy ∈ TB := TB_in (List.mem_append_left _ (List.mem_of_getElem? (i := 30) rfl)) rfl
theorem wm_X2_26 : Cond.methodLink "SnowSentries$Felt" 26 y_X2_note ∈ TB := it_4 (List.mem_of_getElem? (i := 231) rfl) rfl
theorem wc_X2_note : Cond.code y_X2_note prog_4_method_7_code 5 none ∈ TB := it_4 (List.mem_of_getElem? (i := 234) rfl) rfl
theorem ws_X2_note : Cond.instanceMethod y_X2_note ∈ TB := it_4 (List.mem_of_getElem? (i := 233) rfl) rfl
theorem hy_X2_note : (y_X2_note).cls ≠ "java/lang/invoke/MethodHandle" ∧ (y_X2_note).cls ≠ "java/lang/invoke/VarHandle" ∧ (parseMethodDescriptor (y_X2_note).desc).map (fun d => d.parameters.length) = some 4 := by decide +kernel
theorem wl_X2_note : Cond.selects "SnowSentries$Felt" y_X2_note y_X2_note ∈ TB := TB_in (List.mem_append_left _ (List.mem_of_getElem? (i := 31) rfl)) rfl
theorem wm_X2_30 : Cond.methodLink "SnowSentries$Felt" 30 y_X2_seekHeats ∈ TB := it_5 (List.mem_of_getElem? (i := 3) rfl) rfl
theorem wc_X2_seekHeats : Cond.code y_X2_seekHeats prog_4_method_5_code 5 none ∈ TB := it_5 (List.mem_of_getElem? (i := 6) rfl) rfl
theorem ws_X2_seekHeats : Cond.instanceMethod y_X2_seekHeats ∈ TB := it_5 (List.mem_of_getElem? (i := 5) rfl) rfl
theorem hy_X2_seekHeats : (y_X2_seekHeats).cls ≠ "java/lang/invoke/MethodHandle" ∧ (y_X2_seekHeats).cls ≠ "java/lang/invoke/VarHandle" ∧ (parseMethodDescriptor (y_X2_seekHeats).desc).map (fun d => d.parameters.length) = some 2 := by decide +kernel
theorem wl_X2_seekHeats : Cond.selects "SnowSentries$Felt" y_X2_seekHeats y_X2_seekHeats ∈ TB := TB_in (List.mem_append_left _ (List.mem_of_getElem? (i := 32) rfl)) rfl
theorem kx_128 : kU 0 128 = 3 := by decide +kernel
theorem wf_X3_9 : Cond.fieldLink "SnowSentries$Forecast" 9 "SnowSentries$Forecast" "cases" "[J" ∈ TB := it_2 (List.mem_of_getElem? (i := 30) rfl) rfl
theorem kx_129 : kU 0 129 = 27 := by decide +kernel
theorem wm_X3_87 : Cond.methodLink "SnowSentries$Forecast" 87 Lib.Math.max.name ∈ TB := it_5 (List.mem_of_getElem? (i := 27) rfl) rfl
theorem wf_X3_92 : Cond.fieldLink "SnowSentries$Forecast" 92 "SnowSentries$Forecast" "numerator" "J" ∈ TB := it_2 (List.mem_of_getElem? (i := 26) rfl) rfl
theorem wf_X3_96 : Cond.fieldLink "SnowSentries$Forecast" 96 "SnowSentries$Forecast" "denominator" "J" ∈ TB := it_2 (List.mem_of_getElem? (i := 28) rfl) rfl
theorem wm_X3_83 : Cond.methodLink "SnowSentries$Forecast" 83 y_X3_reduce ∈ TB := it_5 (List.mem_of_getElem? (i := 34) rfl) rfl
theorem wc_X3_reduce : Cond.code y_X3_reduce prog_5_method_5_code 12 none ∈ TB := it_5 (List.mem_of_getElem? (i := 37) rfl) rfl
theorem ws_X3_reduce : Cond.instanceMethod y_X3_reduce ∈ TB := it_5 (List.mem_of_getElem? (i := 36) rfl) rfl
theorem wi_X3 : Cond.initialized "SnowSentries$Forecast" ∈ TB := it_1 (List.mem_of_getElem? (i := 8) rfl) rfl
theorem hy_X3_reduce : (y_X3_reduce).cls ≠ "java/lang/invoke/MethodHandle" ∧ (y_X3_reduce).cls ≠ "java/lang/invoke/VarHandle" ∧ (parseMethodDescriptor (y_X3_reduce).desc).map (fun d => d.parameters.length) = some 2 := by decide +kernel
theorem wl_X3_reduce : Cond.selects "SnowSentries$Forecast" y_X3_reduce y_X3_reduce ∈ TB := TB_in (List.mem_append_left _ (List.mem_of_getElem? (i := 35) rfl)) rfl
theorem wf_X3_68 : Cond.fieldLink "SnowSentries$Forecast" 68 "SnowSentries$Land" "law" "LSnowSentries$Law;" ∈ TB := it_2 (List.mem_of_getElem? (i := 144) rfl) rfl
theorem wm_X3_72 : Cond.methodLink "SnowSentries$Forecast" 72 y_X5_suits ∈ TB := it_5 (List.mem_of_getElem? (i := 29) rfl) rfl
theorem wf_X3_78 : Cond.fieldLink "SnowSentries$Forecast" 78 "SnowSentries$Law" "head" "I" ∈ TB := it_2 (List.mem_of_getElem? (i := 97) rfl) rfl
theorem wm_X3_79 : Cond.methodLink "SnowSentries$Forecast" 79 y_X3_casesBelow ∈ TB := it_5 (List.mem_of_getElem? (i := 30) rfl) rfl
theorem wc_X3_casesBelow : Cond.code y_X3_casesBelow prog_5_method_4_code 5 (some .long) ∈ TB := it_5 (List.mem_of_getElem? (i := 33) rfl) rfl
theorem ws_X3_casesBelow : Cond.instanceMethod y_X3_casesBelow ∈ TB := it_5 (List.mem_of_getElem? (i := 32) rfl) rfl
theorem hy_X3_casesBelow : (y_X3_casesBelow).cls ≠ "java/lang/invoke/MethodHandle" ∧ (y_X3_casesBelow).cls ≠ "java/lang/invoke/VarHandle" ∧ (parseMethodDescriptor (y_X3_casesBelow).desc).map (fun d => d.parameters.length) = some 1 := by decide +kernel
theorem wl_X3_casesBelow : Cond.selects "SnowSentries$Forecast" y_X3_casesBelow y_X3_casesBelow ∈ TB := TB_in (List.mem_append_left _ (List.mem_of_getElem? (i := 34) rfl)) rfl
theorem wf_X3_42 : Cond.fieldLink "SnowSentries$Forecast" 42 "SnowSentries$Scene" "fires" "LSnowSentries$Braziers;" ∈ TB := it_1 (List.mem_of_getElem? (i := 184) rfl) rfl
theorem wm_X3_46 : Cond.methodLink "SnowSentries$Forecast" 46 y_X0_warmthOn ∈ TB := it_5 (List.mem_of_getElem? (i := 21) rfl) rfl
theorem wf_X3_52 : Cond.fieldLink "SnowSentries$Forecast" 52 "SnowSentries$Scene" "sun" "[I" ∈ TB := it_1 (List.mem_of_getElem? (i := 179) rfl) rfl
theorem wm_X3_56 : Cond.methodLink "SnowSentries$Forecast" 56 y_X6_lossBy ∈ TB := it_5 (List.mem_of_getElem? (i := 22) rfl) rfl
theorem wf_X3_59 : Cond.fieldLink "SnowSentries$Forecast" 59 "SnowSentries$Land" "chance" "I" ∈ TB := it_2 (List.mem_of_getElem? (i := 138) rfl) rfl
theorem wm_X3_62 : Cond.methodLink "SnowSentries$Forecast" 62 y_X3_pass ∈ TB := it_5 (List.mem_of_getElem? (i := 23) rfl) rfl
theorem wc_X3_pass : Cond.code y_X3_pass prog_5_method_3_code 7 none ∈ TB := it_5 (List.mem_of_getElem? (i := 26) rfl) rfl
theorem ws_X3_pass : Cond.instanceMethod y_X3_pass ∈ TB := it_5 (List.mem_of_getElem? (i := 25) rfl) rfl
theorem hy_X3_pass : (y_X3_pass).cls ≠ "java/lang/invoke/MethodHandle" ∧ (y_X3_pass).cls ≠ "java/lang/invoke/VarHandle" ∧ (parseMethodDescriptor (y_X3_pass).desc).map (fun d => d.parameters.length) = some 3 := by decide +kernel
theorem wl_X3_pass : Cond.selects "SnowSentries$Forecast" y_X3_pass y_X3_pass ∈ TB := TB_in (List.mem_append_left _ (List.mem_of_getElem? (i := 33) rfl)) rfl
theorem wk_X3_66 : Cond.constantLong "SnowSentries$Forecast" 66 (10 : Int64) ∈ TB := it_5 (List.mem_of_getElem? (i := 28) rfl) rfl
theorem wf_X3_15 : Cond.fieldLink "SnowSentries$Forecast" 15 "SnowSentries$Land" "scene" "LSnowSentries$Scene;" ∈ TB := it_2 (List.mem_of_getElem? (i := 155) rfl) rfl
theorem wm_X3_21 : Cond.methodLink "SnowSentries$Forecast" 21 y_X7_manOf ∈ TB := it_5 (List.mem_of_getElem? (i := 17) rfl) rfl
theorem wm_X3_27 : Cond.methodLink "SnowSentries$Forecast" 27 y_J7_fill_d0a16 ∈ TB := it_5 (List.mem_of_getElem? (i := 18) rfl) rfl
theorem wf_X3_33 : Cond.fieldLink "SnowSentries$Forecast" 33 "SnowSentries$Man" "head" "I" ∈ TB := it_1 (List.mem_of_getElem? (i := 134) rfl) rfl
theorem wf_X3_39 : Cond.fieldLink "SnowSentries$Forecast" 39 "SnowSentries$Scene" "hour" "I" ∈ TB := it_1 (List.mem_of_getElem? (i := 165) rfl) rfl
theorem wf_X8_15 : Cond.fieldLink "SnowSentries$Sheet" 15 "SnowSentries$Sheet" "there" "Z" ∈ TB := it_2 (List.mem_of_getElem? (i := 68) rfl) rfl
theorem wf_X8_19 : Cond.fieldLink "SnowSentries$Sheet" 19 "SnowSentries$Sheet" "lane" "I" ∈ TB := it_2 (List.mem_of_getElem? (i := 74) rfl) rfl
theorem wf_X8_23 : Cond.fieldLink "SnowSentries$Sheet" 23 "SnowSentries$Sheet" "size" "I" ∈ TB := it_2 (List.mem_of_getElem? (i := 70) rfl) rfl
theorem wf_X8_9 : Cond.fieldLink "SnowSentries$Sheet" 9 "SnowSentries$Sheet" "cells" "[I" ∈ TB := it_2 (List.mem_of_getElem? (i := 72) rfl) rfl
theorem wm_X8_26 : Cond.methodLink "SnowSentries$Sheet" 26 y_J7_fill_53178 ∈ TB := it_5 (List.mem_of_getElem? (i := 69) rfl) rfl
theorem wm_X8_32 : (("SnowSentries$Sheet", 32, y_X11_isAmong, "SnowSentries") : String × Nat × MethodName × String) ∈ nestL := List.mem_of_getElem? (i := 11) rfl
theorem wm_X8_36 : Cond.methodLink "SnowSentries$Sheet" 36 Lib.Math.min.name ∈ TB := it_5 (List.mem_of_getElem? (i := 87) rfl) rfl
theorem kx_100 : kU 0 100 = 10 := by decide +kernel
theorem wf_X10_25 : Cond.fieldLink "SnowSentries$Ways" 25 "SnowSentries$Ways" "furlongs" "I" ∈ TB := it_2 (List.mem_of_getElem? (i := 7) rfl) rfl
theorem wf_X10_11 : Cond.fieldLink "SnowSentries$Ways" 11 "SnowSentries$Ways" "through" "[[I" ∈ TB := it_2 (List.mem_of_getElem? (i := 9) rfl) rfl
theorem kx_101 : kU 0 101 = 31 := by decide +kernel
theorem wm_X10_45 : Cond.methodLink "SnowSentries$Ways" 45 Lib.Math.min.name ∈ TB := it_4 (List.mem_of_getElem? (i := 191) rfl) rfl
theorem wf_X10_16 : Cond.fieldLink "SnowSentries$Ways" 16 "SnowSentries$Ways" "least" "[[I" ∈ TB := it_2 (List.mem_of_getElem? (i := 10) rfl) rfl
theorem kx_114 : kU 0 114 = 32 := by decide +kernel
theorem wm_X10_42 : Cond.methodLink "SnowSentries$Ways" 42 y_X10_leastNext ∈ TB := it_4 (List.mem_of_getElem? (i := 187) rfl) rfl
theorem wc_X10_leastNext : Cond.code y_X10_leastNext prog_12_method_3_code 4 (some .int) ∈ TB := it_4 (List.mem_of_getElem? (i := 190) rfl) rfl
theorem ws_X10_leastNext : Cond.instanceMethod y_X10_leastNext ∈ TB := it_4 (List.mem_of_getElem? (i := 189) rfl) rfl
theorem wi_X10 : Cond.initialized "SnowSentries$Ways" ∈ TB := it_1 (List.mem_of_getElem? (i := 7) rfl) rfl
theorem hy_X10_leastNext : (y_X10_leastNext).cls ≠ "java/lang/invoke/MethodHandle" ∧ (y_X10_leastNext).cls ≠ "java/lang/invoke/VarHandle" ∧ (parseMethodDescriptor (y_X10_leastNext).desc).map (fun d => d.parameters.length) = some 2 := by decide +kernel
theorem wl_X10_leastNext : Cond.selects "SnowSentries$Ways" y_X10_leastNext y_X10_leastNext ∈ TB := TB_in (List.mem_append_left _ (List.mem_of_getElem? (i := 28) rfl)) rfl
theorem wf_X10_26 : Cond.fieldLink "SnowSentries$Ways" 26 "SnowSentries$Land" "scene" "LSnowSentries$Scene;" ∈ TB := it_2 (List.mem_of_getElem? (i := 156) rfl) rfl
theorem wm_X10_38 : Cond.methodLink "SnowSentries$Ways" 38 y_X7_heatOn ∈ TB := it_4 (List.mem_of_getElem? (i := 186) rfl) rfl
theorem wc_X7_heatOn : Cond.code y_X7_heatOn prog_9_method_5_code 3 (some .int) ∈ TB := it_4 (List.mem_of_getElem? (i := 36) rfl) rfl
theorem ws_X7_heatOn : Cond.instanceMethod y_X7_heatOn ∈ TB := it_4 (List.mem_of_getElem? (i := 34) rfl) rfl
theorem hy_X7_heatOn : (y_X7_heatOn).cls ≠ "java/lang/invoke/MethodHandle" ∧ (y_X7_heatOn).cls ≠ "java/lang/invoke/VarHandle" ∧ (parseMethodDescriptor (y_X7_heatOn).desc).map (fun d => d.parameters.length) = some 2 := by decide +kernel
theorem wl_X7_heatOn : Cond.selects "SnowSentries$Scene" y_X7_heatOn y_X7_heatOn ∈ TB := it_4 (List.mem_of_getElem? (i := 35) rfl) rfl
theorem wf_X10_35 : Cond.fieldLink "SnowSentries$Ways" 35 "SnowSentries$Ways" "first" "I" ∈ TB := it_2 (List.mem_of_getElem? (i := 8) rfl) rfl
theorem wf_X10_19 : Cond.fieldLink "SnowSentries$Ways" 19 "SnowSentries$Land" "furlongs" "I" ∈ TB := it_2 (List.mem_of_getElem? (i := 133) rfl) rfl
theorem wf_X10_30 : Cond.fieldLink "SnowSentries$Ways" 30 "SnowSentries$Scene" "hour" "I" ∈ TB := it_1 (List.mem_of_getElem? (i := 164) rfl) rfl
theorem wm_X10_50 : Cond.methodLink "SnowSentries$Ways" 50 Lib.Math.max.name ∈ TB := it_4 (List.mem_of_getElem? (i := 196) rfl) rfl
theorem wm_X10_56 : Cond.methodLink "SnowSentries$Ways" 56 y_X10_stepFrom ∈ TB := it_4 (List.mem_of_getElem? (i := 202) rfl) rfl
theorem wc_X10_stepFrom : Cond.code y_X10_stepFrom prog_12_method_6_code 4 (some .int) ∈ TB := it_4 (List.mem_of_getElem? (i := 205) rfl) rfl
theorem ws_X10_stepFrom : Cond.instanceMethod y_X10_stepFrom ∈ TB := it_4 (List.mem_of_getElem? (i := 204) rfl) rfl
theorem hy_X10_stepFrom : (y_X10_stepFrom).cls ≠ "java/lang/invoke/MethodHandle" ∧ (y_X10_stepFrom).cls ≠ "java/lang/invoke/VarHandle" ∧ (parseMethodDescriptor (y_X10_stepFrom).desc).map (fun d => d.parameters.length) = some 3 := by decide +kernel
theorem wl_X10_stepFrom : Cond.selects "SnowSentries$Ways" y_X10_stepFrom y_X10_stepFrom ∈ TB := TB_in (List.mem_append_left _ (List.mem_of_getElem? (i := 29) rfl)) rfl
theorem wm_X10_53 : Cond.methodLink "SnowSentries$Ways" 53 y_X10_lastOf ∈ TB := it_4 (List.mem_of_getElem? (i := 201) rfl) rfl
theorem wc_X10_lastOf : Cond.code y_X10_lastOf prog_12_method_4_code 3 (some .int) ∈ TB := it_4 (List.mem_of_getElem? (i := 195) rfl) rfl
theorem ws_X10_lastOf : Cond.instanceMethod y_X10_lastOf ∈ TB := it_4 (List.mem_of_getElem? (i := 193) rfl) rfl
theorem hy_X10_lastOf : (y_X10_lastOf).cls ≠ "java/lang/invoke/MethodHandle" ∧ (y_X10_lastOf).cls ≠ "java/lang/invoke/VarHandle" ∧ (parseMethodDescriptor (y_X10_lastOf).desc).map (fun d => d.parameters.length) = some 2 := by decide +kernel
theorem wl_X10_lastOf : Cond.selects "SnowSentries$Ways" y_X10_lastOf y_X10_lastOf ∈ TB := it_4 (List.mem_of_getElem? (i := 194) rfl) rfl
theorem d_X1_cheapest_0 : DD prog_3_method_3_code 0 (.iconst (-1)) 1 1 := ⟨by decide +kernel, rfl⟩
theorem d_X1_cheapest_1 : DD prog_3_method_3_code 1 (.istore_n 2) 1 2 := ⟨by decide +kernel, rfl⟩
theorem d_X1_cheapest_2 : DD prog_3_method_3_code 2 (.iconst 0) 1 3 := ⟨by decide +kernel, rfl⟩
theorem d_X1_cheapest_3 : DD prog_3_method_3_code 3 (.istore_n 3) 1 4 := ⟨by decide +kernel, rfl⟩
theorem d_X1_cheapest_4 : DD prog_3_method_3_code 4 (.iload_n 3) 1 5 := ⟨by decide +kernel, rfl⟩
theorem d_X1_cheapest_5 : DD prog_3_method_3_code 5 (.aload_n 1) 1 6 := ⟨by decide +kernel, rfl⟩
theorem d_X1_cheapest_6 : DD prog_3_method_3_code 6 (.getfield 25) 3 9 := ⟨by decide +kernel, rfl⟩
theorem d_X1_cheapest_9 : DJ prog_3_method_3_code 9 (fun o => .if_icmp .ge o) 90 3 12 := ⟨by decide +kernel, rfl⟩
theorem d_X1_cheapest_12 : DD prog_3_method_3_code 12 (.aload_n 0) 1 13 := ⟨by decide +kernel, rfl⟩
theorem d_X1_cheapest_13 : DD prog_3_method_3_code 13 (.getfield 9) 3 16 := ⟨by decide +kernel, rfl⟩
theorem d_X1_cheapest_16 : DD prog_3_method_3_code 16 (.iload_n 3) 1 17 := ⟨by decide +kernel, rfl⟩
theorem d_X1_cheapest_17 : DD prog_3_method_3_code 17 (.iaload) 1 18 := ⟨by decide +kernel, rfl⟩
theorem d_X1_cheapest_18 : DD prog_3_method_3_code 18 (.iconst 1) 1 19 := ⟨by decide +kernel, rfl⟩
theorem d_X1_cheapest_19 : DJ prog_3_method_3_code 19 (fun o => .if_icmp .lt o) 44 3 22 := ⟨by decide +kernel, rfl⟩
theorem d_X1_cheapest_22 : DD prog_3_method_3_code 22 (.aload_n 0) 1 23 := ⟨by decide +kernel, rfl⟩
theorem d_X1_cheapest_23 : DD prog_3_method_3_code 23 (.getfield 9) 3 26 := ⟨by decide +kernel, rfl⟩
theorem d_X1_cheapest_26 : DD prog_3_method_3_code 26 (.iload_n 3) 1 27 := ⟨by decide +kernel, rfl⟩
theorem d_X1_cheapest_27 : DD prog_3_method_3_code 27 (.iaload) 1 28 := ⟨by decide +kernel, rfl⟩
theorem d_X1_cheapest_28 : DD prog_3_method_3_code 28 (.aload_n 1) 1 29 := ⟨by decide +kernel, rfl⟩
theorem d_X1_cheapest_29 : DD prog_3_method_3_code 29 (.getfield 38) 3 32 := ⟨by decide +kernel, rfl⟩
theorem d_X1_cheapest_32 : DD prog_3_method_3_code 32 (.getfield 42) 3 35 := ⟨by decide +kernel, rfl⟩
theorem d_X1_cheapest_35 : DD prog_3_method_3_code 35 (.iload_n 3) 1 36 := ⟨by decide +kernel, rfl⟩
theorem d_X1_cheapest_36 : DD prog_3_method_3_code 36 (.iaload) 1 37 := ⟨by decide +kernel, rfl⟩
theorem d_X1_cheapest_37 : DJ prog_3_method_3_code 37 (fun o => .if_icmp .gt o) 44 3 40 := ⟨by decide +kernel, rfl⟩
theorem d_X1_cheapest_40 : DD prog_3_method_3_code 40 (.iconst 1) 1 41 := ⟨by decide +kernel, rfl⟩
theorem d_X1_cheapest_41 : DJ prog_3_method_3_code 41 (fun o => .goto o) 45 3 44 := ⟨by decide +kernel, rfl⟩
theorem d_X1_cheapest_44 : DD prog_3_method_3_code 44 (.iconst 0) 1 45 := ⟨by decide +kernel, rfl⟩
theorem d_X1_cheapest_45 : DD prog_3_method_3_code 45 (.istore 4) 2 47 := ⟨by decide +kernel, rfl⟩
theorem d_X1_cheapest_47 : DD prog_3_method_3_code 47 (.iload 4) 2 49 := ⟨by decide +kernel, rfl⟩
theorem d_X1_cheapest_49 : DJ prog_3_method_3_code 49 (fun o => .ifCond .eq o) 84 3 52 := ⟨by decide +kernel, rfl⟩
theorem d_X1_cheapest_52 : DD prog_3_method_3_code 52 (.aload_n 0) 1 53 := ⟨by decide +kernel, rfl⟩
theorem d_X1_cheapest_53 : DD prog_3_method_3_code 53 (.getfield 22) 3 56 := ⟨by decide +kernel, rfl⟩
theorem d_X1_cheapest_56 : DD prog_3_method_3_code 56 (.iload_n 3) 1 57 := ⟨by decide +kernel, rfl⟩
theorem d_X1_cheapest_57 : DD prog_3_method_3_code 57 (.ishr) 1 58 := ⟨by decide +kernel, rfl⟩
theorem d_X1_cheapest_58 : DD prog_3_method_3_code 58 (.iconst 1) 1 59 := ⟨by decide +kernel, rfl⟩
theorem d_X1_cheapest_59 : DD prog_3_method_3_code 59 (.iand) 1 60 := ⟨by decide +kernel, rfl⟩
theorem d_X1_cheapest_60 : DJ prog_3_method_3_code 60 (fun o => .ifCond .ne o) 84 3 63 := ⟨by decide +kernel, rfl⟩
theorem d_X1_cheapest_63 : DD prog_3_method_3_code 63 (.iload_n 2) 1 64 := ⟨by decide +kernel, rfl⟩
theorem d_X1_cheapest_64 : DJ prog_3_method_3_code 64 (fun o => .ifCond .lt o) 82 3 67 := ⟨by decide +kernel, rfl⟩
theorem d_X1_cheapest_67 : DD prog_3_method_3_code 67 (.aload_n 0) 1 68 := ⟨by decide +kernel, rfl⟩
theorem d_X1_cheapest_68 : DD prog_3_method_3_code 68 (.getfield 9) 3 71 := ⟨by decide +kernel, rfl⟩
theorem d_X1_cheapest_71 : DD prog_3_method_3_code 71 (.iload_n 3) 1 72 := ⟨by decide +kernel, rfl⟩
theorem d_X1_cheapest_72 : DD prog_3_method_3_code 72 (.iaload) 1 73 := ⟨by decide +kernel, rfl⟩
theorem d_X1_cheapest_73 : DD prog_3_method_3_code 73 (.aload_n 0) 1 74 := ⟨by decide +kernel, rfl⟩
theorem d_X1_cheapest_74 : DD prog_3_method_3_code 74 (.getfield 9) 3 77 := ⟨by decide +kernel, rfl⟩
theorem d_X1_cheapest_77 : DD prog_3_method_3_code 77 (.iload_n 2) 1 78 := ⟨by decide +kernel, rfl⟩
theorem d_X1_cheapest_78 : DD prog_3_method_3_code 78 (.iaload) 1 79 := ⟨by decide +kernel, rfl⟩
theorem d_X1_cheapest_79 : DJ prog_3_method_3_code 79 (fun o => .if_icmp .ge o) 84 3 82 := ⟨by decide +kernel, rfl⟩
theorem d_X1_cheapest_82 : DD prog_3_method_3_code 82 (.iload_n 3) 1 83 := ⟨by decide +kernel, rfl⟩
theorem d_X1_cheapest_83 : DD prog_3_method_3_code 83 (.istore_n 2) 1 84 := ⟨by decide +kernel, rfl⟩
theorem d_X1_cheapest_84 : DD prog_3_method_3_code 84 (.iinc 3 1) 3 87 := ⟨by decide +kernel, rfl⟩
theorem d_X1_cheapest_87 : DJ prog_3_method_3_code 87 (fun o => .goto o) 4 3 90 := ⟨by decide +kernel, rfl⟩
theorem d_X1_cheapest_90 : DD prog_3_method_3_code 90 (.iload_n 2) 1 91 := ⟨by decide +kernel, rfl⟩
theorem d_X1_cheapest_91 : DD prog_3_method_3_code 91 (.ireturn) 1 92 := ⟨by decide +kernel, rfl⟩
theorem d_X1_send_0 : DD prog_3_method_2_code 0 (.aload_n 0) 1 1 := ⟨by decide +kernel, rfl⟩
theorem d_X1_send_1 : DD prog_3_method_2_code 1 (.iconst 0) 1 2 := ⟨by decide +kernel, rfl⟩
theorem d_X1_send_2 : DD prog_3_method_2_code 2 (.putfield 15) 3 5 := ⟨by decide +kernel, rfl⟩
theorem d_X1_send_5 : DD prog_3_method_2_code 5 (.aload_n 0) 1 6 := ⟨by decide +kernel, rfl⟩
theorem d_X1_send_6 : DD prog_3_method_2_code 6 (.iconst 0) 1 7 := ⟨by decide +kernel, rfl⟩
theorem d_X1_send_7 : DD prog_3_method_2_code 7 (.putfield 19) 3 10 := ⟨by decide +kernel, rfl⟩
theorem d_X1_send_10 : DD prog_3_method_2_code 10 (.aload_n 0) 1 11 := ⟨by decide +kernel, rfl⟩
theorem d_X1_send_11 : DD prog_3_method_2_code 11 (.iconst 0) 1 12 := ⟨by decide +kernel, rfl⟩
theorem d_X1_send_12 : DD prog_3_method_2_code 12 (.putfield 22) 3 15 := ⟨by decide +kernel, rfl⟩
theorem d_X1_send_15 : DD prog_3_method_2_code 15 (.iconst 0) 1 16 := ⟨by decide +kernel, rfl⟩
theorem d_X1_send_16 : DD prog_3_method_2_code 16 (.istore 5) 2 18 := ⟨by decide +kernel, rfl⟩
theorem d_X1_send_18 : DD prog_3_method_2_code 18 (.iload 5) 2 20 := ⟨by decide +kernel, rfl⟩
theorem d_X1_send_20 : DD prog_3_method_2_code 20 (.aload_n 1) 1 21 := ⟨by decide +kernel, rfl⟩
theorem d_X1_send_21 : DD prog_3_method_2_code 21 (.getfield 25) 3 24 := ⟨by decide +kernel, rfl⟩
theorem d_X1_send_24 : DJ prog_3_method_2_code 24 (fun o => .if_icmp .ge o) 68 3 27 := ⟨by decide +kernel, rfl⟩
theorem d_X1_send_27 : DD prog_3_method_2_code 27 (.aload_n 0) 1 28 := ⟨by decide +kernel, rfl⟩
theorem d_X1_send_28 : DD prog_3_method_2_code 28 (.getfield 9) 3 31 := ⟨by decide +kernel, rfl⟩
theorem d_X1_send_31 : DD prog_3_method_2_code 31 (.iload 5) 2 33 := ⟨by decide +kernel, rfl⟩
theorem d_X1_send_33 : DD prog_3_method_2_code 33 (.aload_n 1) 1 34 := ⟨by decide +kernel, rfl⟩
theorem d_X1_send_34 : DD prog_3_method_2_code 34 (.iload_n 2) 1 35 := ⟨by decide +kernel, rfl⟩
theorem d_X1_send_35 : DD prog_3_method_2_code 35 (.iload 5) 2 37 := ⟨by decide +kernel, rfl⟩
theorem d_X1_send_37 : DD prog_3_method_2_code 37 (.iload_n 3) 1 38 := ⟨by decide +kernel, rfl⟩
theorem d_X1_send_38 : DD prog_3_method_2_code 38 (.invokevirtual 30) 3 41 := ⟨by decide +kernel, rfl⟩
theorem d_X1_send_41 : DD prog_3_method_2_code 41 (.iastore) 1 42 := ⟨by decide +kernel, rfl⟩
theorem d_X1_send_42 : DD prog_3_method_2_code 42 (.aload_n 0) 1 43 := ⟨by decide +kernel, rfl⟩
theorem d_X1_send_43 : DD prog_3_method_2_code 43 (.getfield 9) 3 46 := ⟨by decide +kernel, rfl⟩
theorem d_X1_send_46 : DD prog_3_method_2_code 46 (.iload 5) 2 48 := ⟨by decide +kernel, rfl⟩
theorem d_X1_send_48 : DD prog_3_method_2_code 48 (.iaload) 1 49 := ⟨by decide +kernel, rfl⟩
theorem d_X1_send_49 : DJ prog_3_method_2_code 49 (fun o => .ifCond .ne o) 62 3 52 := ⟨by decide +kernel, rfl⟩
theorem d_X1_send_52 : DD prog_3_method_2_code 52 (.aload_n 0) 1 53 := ⟨by decide +kernel, rfl⟩
theorem d_X1_send_53 : DD prog_3_method_2_code 53 (.dup) 1 54 := ⟨by decide +kernel, rfl⟩
theorem d_X1_send_54 : DD prog_3_method_2_code 54 (.getfield 15) 3 57 := ⟨by decide +kernel, rfl⟩
theorem d_X1_send_57 : DD prog_3_method_2_code 57 (.iconst 1) 1 58 := ⟨by decide +kernel, rfl⟩
theorem d_X1_send_58 : DD prog_3_method_2_code 58 (.iadd) 1 59 := ⟨by decide +kernel, rfl⟩
theorem d_X1_send_59 : DD prog_3_method_2_code 59 (.putfield 15) 3 62 := ⟨by decide +kernel, rfl⟩
theorem d_X1_send_62 : DD prog_3_method_2_code 62 (.iinc 5 1) 3 65 := ⟨by decide +kernel, rfl⟩
theorem d_X1_send_65 : DJ prog_3_method_2_code 65 (fun o => .goto o) 18 3 68 := ⟨by decide +kernel, rfl⟩
theorem d_X1_send_68 : DD prog_3_method_2_code 68 (.iconst 0) 1 69 := ⟨by decide +kernel, rfl⟩
theorem d_X1_send_69 : DD prog_3_method_2_code 69 (.istore 5) 2 71 := ⟨by decide +kernel, rfl⟩
theorem d_X1_send_71 : DD prog_3_method_2_code 71 (.iload 5) 2 73 := ⟨by decide +kernel, rfl⟩
theorem d_X1_send_73 : DD prog_3_method_2_code 73 (.iload 4) 2 75 := ⟨by decide +kernel, rfl⟩
theorem d_X1_send_75 : DJ prog_3_method_2_code 75 (fun o => .if_icmp .ge o) 136 3 78 := ⟨by decide +kernel, rfl⟩
theorem d_X1_send_78 : DD prog_3_method_2_code 78 (.aload_n 0) 1 79 := ⟨by decide +kernel, rfl⟩
theorem d_X1_send_79 : DD prog_3_method_2_code 79 (.aload_n 1) 1 80 := ⟨by decide +kernel, rfl⟩
theorem d_X1_send_80 : DD prog_3_method_2_code 80 (.invokevirtual 34) 3 83 := ⟨by decide +kernel, rfl⟩
theorem d_X1_send_83 : DD prog_3_method_2_code 83 (.istore 6) 2 85 := ⟨by decide +kernel, rfl⟩
theorem d_X1_send_85 : DD prog_3_method_2_code 85 (.iload 6) 2 87 := ⟨by decide +kernel, rfl⟩
theorem d_X1_send_87 : DJ prog_3_method_2_code 87 (fun o => .ifCond .ge o) 91 3 90 := ⟨by decide +kernel, rfl⟩
theorem d_X1_send_90 : DD prog_3_method_2_code 90 (.return_) 1 91 := ⟨by decide +kernel, rfl⟩
theorem d_X1_send_91 : DD prog_3_method_2_code 91 (.aload_n 0) 1 92 := ⟨by decide +kernel, rfl⟩
theorem d_X1_send_92 : DD prog_3_method_2_code 92 (.dup) 1 93 := ⟨by decide +kernel, rfl⟩
theorem d_X1_send_93 : DD prog_3_method_2_code 93 (.getfield 15) 3 96 := ⟨by decide +kernel, rfl⟩
theorem d_X1_send_96 : DD prog_3_method_2_code 96 (.iconst 1) 1 97 := ⟨by decide +kernel, rfl⟩
theorem d_X1_send_97 : DD prog_3_method_2_code 97 (.iadd) 1 98 := ⟨by decide +kernel, rfl⟩
theorem d_X1_send_98 : DD prog_3_method_2_code 98 (.putfield 15) 3 101 := ⟨by decide +kernel, rfl⟩
theorem d_X1_send_101 : DD prog_3_method_2_code 101 (.aload_n 0) 1 102 := ⟨by decide +kernel, rfl⟩
theorem d_X1_send_102 : DD prog_3_method_2_code 102 (.dup) 1 103 := ⟨by decide +kernel, rfl⟩
theorem d_X1_send_103 : DD prog_3_method_2_code 103 (.getfield 19) 3 106 := ⟨by decide +kernel, rfl⟩
theorem d_X1_send_106 : DD prog_3_method_2_code 106 (.aload_n 0) 1 107 := ⟨by decide +kernel, rfl⟩
theorem d_X1_send_107 : DD prog_3_method_2_code 107 (.getfield 9) 3 110 := ⟨by decide +kernel, rfl⟩
theorem d_X1_send_110 : DD prog_3_method_2_code 110 (.iload 6) 2 112 := ⟨by decide +kernel, rfl⟩
theorem d_X1_send_112 : DD prog_3_method_2_code 112 (.iaload) 1 113 := ⟨by decide +kernel, rfl⟩
theorem d_X1_send_113 : DD prog_3_method_2_code 113 (.iadd) 1 114 := ⟨by decide +kernel, rfl⟩
theorem d_X1_send_114 : DD prog_3_method_2_code 114 (.putfield 19) 3 117 := ⟨by decide +kernel, rfl⟩
theorem d_X1_send_117 : DD prog_3_method_2_code 117 (.aload_n 0) 1 118 := ⟨by decide +kernel, rfl⟩
theorem d_X1_send_118 : DD prog_3_method_2_code 118 (.dup) 1 119 := ⟨by decide +kernel, rfl⟩
theorem d_X1_send_119 : DD prog_3_method_2_code 119 (.getfield 22) 3 122 := ⟨by decide +kernel, rfl⟩
theorem d_X1_send_122 : DD prog_3_method_2_code 122 (.iconst 1) 1 123 := ⟨by decide +kernel, rfl⟩
theorem d_X1_send_123 : DD prog_3_method_2_code 123 (.iload 6) 2 125 := ⟨by decide +kernel, rfl⟩
theorem d_X1_send_125 : DD prog_3_method_2_code 125 (.ishl) 1 126 := ⟨by decide +kernel, rfl⟩
theorem d_X1_send_126 : DD prog_3_method_2_code 126 (.ior) 1 127 := ⟨by decide +kernel, rfl⟩
theorem d_X1_send_127 : DD prog_3_method_2_code 127 (.putfield 22) 3 130 := ⟨by decide +kernel, rfl⟩
theorem d_X1_send_130 : DD prog_3_method_2_code 130 (.iinc 5 1) 3 133 := ⟨by decide +kernel, rfl⟩
theorem d_X1_send_133 : DJ prog_3_method_2_code 133 (fun o => .goto o) 71 3 136 := ⟨by decide +kernel, rfl⟩
theorem d_X1_send_136 : DD prog_3_method_2_code 136 (.return_) 1 137 := ⟨by decide +kernel, rfl⟩
theorem d_X2_put_0 : DD prog_4_method_2_code 0 (.aload_n 0) 1 1 := ⟨by decide +kernel, rfl⟩
theorem d_X2_put_1 : DD prog_4_method_2_code 1 (.getfield 15) 3 4 := ⟨by decide +kernel, rfl⟩
theorem d_X2_put_4 : DD prog_4_method_2_code 4 (.bipush 10) 2 6 := ⟨by decide +kernel, rfl⟩
theorem d_X2_put_6 : DJ prog_4_method_2_code 6 (fun o => .if_icmp .ge o) 29 3 9 := ⟨by decide +kernel, rfl⟩
theorem d_X2_put_9 : DD prog_4_method_2_code 9 (.aload_n 0) 1 10 := ⟨by decide +kernel, rfl⟩
theorem d_X2_put_10 : DD prog_4_method_2_code 10 (.getfield 9) 3 13 := ⟨by decide +kernel, rfl⟩
theorem d_X2_put_13 : DD prog_4_method_2_code 13 (.aload_n 0) 1 14 := ⟨by decide +kernel, rfl⟩
theorem d_X2_put_14 : DD prog_4_method_2_code 14 (.getfield 15) 3 17 := ⟨by decide +kernel, rfl⟩
theorem d_X2_put_17 : DD prog_4_method_2_code 17 (.iload_n 1) 1 18 := ⟨by decide +kernel, rfl⟩
theorem d_X2_put_18 : DD prog_4_method_2_code 18 (.iastore) 1 19 := ⟨by decide +kernel, rfl⟩
theorem d_X2_put_19 : DD prog_4_method_2_code 19 (.aload_n 0) 1 20 := ⟨by decide +kernel, rfl⟩
theorem d_X2_put_20 : DD prog_4_method_2_code 20 (.dup) 1 21 := ⟨by decide +kernel, rfl⟩
theorem d_X2_put_21 : DD prog_4_method_2_code 21 (.getfield 15) 3 24 := ⟨by decide +kernel, rfl⟩
theorem d_X2_put_24 : DD prog_4_method_2_code 24 (.iconst 1) 1 25 := ⟨by decide +kernel, rfl⟩
theorem d_X2_put_25 : DD prog_4_method_2_code 25 (.iadd) 1 26 := ⟨by decide +kernel, rfl⟩
theorem d_X2_put_26 : DD prog_4_method_2_code 26 (.putfield 15) 3 29 := ⟨by decide +kernel, rfl⟩
theorem d_X2_put_29 : DD prog_4_method_2_code 29 (.return_) 1 30 := ⟨by decide +kernel, rfl⟩
theorem d_X2_isFeltBy_0 : DD prog_4_method_6_code 0 (.iconst 0) 1 1 := ⟨by decide +kernel, rfl⟩
theorem d_X2_isFeltBy_1 : DD prog_4_method_6_code 1 (.istore 5) 2 3 := ⟨by decide +kernel, rfl⟩
theorem d_X2_isFeltBy_3 : DD prog_4_method_6_code 3 (.iload 5) 2 5 := ⟨by decide +kernel, rfl⟩
theorem d_X2_isFeltBy_5 : DD prog_4_method_6_code 5 (.aload_n 0) 1 6 := ⟨by decide +kernel, rfl⟩
theorem d_X2_isFeltBy_6 : DD prog_4_method_6_code 6 (.getfield 15) 3 9 := ⟨by decide +kernel, rfl⟩
theorem d_X2_isFeltBy_9 : DJ prog_4_method_6_code 9 (fun o => .if_icmp .ge o) 46 3 12 := ⟨by decide +kernel, rfl⟩
theorem d_X2_isFeltBy_12 : DD prog_4_method_6_code 12 (.iload_n 2) 1 13 := ⟨by decide +kernel, rfl⟩
theorem d_X2_isFeltBy_13 : DD prog_4_method_6_code 13 (.iload_n 1) 1 14 := ⟨by decide +kernel, rfl⟩
theorem d_X2_isFeltBy_14 : DD prog_4_method_6_code 14 (.iload 5) 2 16 := ⟨by decide +kernel, rfl⟩
theorem d_X2_isFeltBy_16 : DD prog_4_method_6_code 16 (.invokestatic 34) 3 19 := ⟨by decide +kernel, rfl⟩
theorem d_X2_isFeltBy_19 : DD prog_4_method_6_code 19 (.iload 4) 2 21 := ⟨by decide +kernel, rfl⟩
theorem d_X2_isFeltBy_21 : DD prog_4_method_6_code 21 (.iload_n 3) 1 22 := ⟨by decide +kernel, rfl⟩
theorem d_X2_isFeltBy_22 : DD prog_4_method_6_code 22 (.iload 5) 2 24 := ⟨by decide +kernel, rfl⟩
theorem d_X2_isFeltBy_24 : DD prog_4_method_6_code 24 (.invokestatic 34) 3 27 := ⟨by decide +kernel, rfl⟩
theorem d_X2_isFeltBy_27 : DD prog_4_method_6_code 27 (.iadd) 1 28 := ⟨by decide +kernel, rfl⟩
theorem d_X2_isFeltBy_28 : DD prog_4_method_6_code 28 (.aload_n 0) 1 29 := ⟨by decide +kernel, rfl⟩
theorem d_X2_isFeltBy_29 : DD prog_4_method_6_code 29 (.getfield 9) 3 32 := ⟨by decide +kernel, rfl⟩
theorem d_X2_isFeltBy_32 : DD prog_4_method_6_code 32 (.iload 5) 2 34 := ⟨by decide +kernel, rfl⟩
theorem d_X2_isFeltBy_34 : DD prog_4_method_6_code 34 (.iaload) 1 35 := ⟨by decide +kernel, rfl⟩
theorem d_X2_isFeltBy_35 : DJ prog_4_method_6_code 35 (fun o => .if_icmp .eq o) 40 3 38 := ⟨by decide +kernel, rfl⟩
theorem d_X2_isFeltBy_38 : DD prog_4_method_6_code 38 (.iconst 0) 1 39 := ⟨by decide +kernel, rfl⟩
theorem d_X2_isFeltBy_39 : DD prog_4_method_6_code 39 (.ireturn) 1 40 := ⟨by decide +kernel, rfl⟩
theorem d_X2_isFeltBy_40 : DD prog_4_method_6_code 40 (.iinc 5 1) 3 43 := ⟨by decide +kernel, rfl⟩
theorem d_X2_isFeltBy_43 : DJ prog_4_method_6_code 43 (fun o => .goto o) 3 3 46 := ⟨by decide +kernel, rfl⟩
theorem d_X2_isFeltBy_46 : DD prog_4_method_6_code 46 (.iconst 1) 1 47 := ⟨by decide +kernel, rfl⟩
theorem d_X2_isFeltBy_47 : DD prog_4_method_6_code 47 (.ireturn) 1 48 := ⟨by decide +kernel, rfl⟩
theorem d_X2_note_0 : DD prog_4_method_7_code 0 (.aload_n 0) 1 1 := ⟨by decide +kernel, rfl⟩
theorem d_X2_note_1 : DD prog_4_method_7_code 1 (.getfield 19) 3 4 := ⟨by decide +kernel, rfl⟩
theorem d_X2_note_4 : DJ prog_4_method_7_code 4 (fun o => .ifCond .ne o) 28 3 7 := ⟨by decide +kernel, rfl⟩
theorem d_X2_note_7 : DD prog_4_method_7_code 7 (.aload_n 0) 1 8 := ⟨by decide +kernel, rfl⟩
theorem d_X2_note_8 : DD prog_4_method_7_code 8 (.iload_n 1) 1 9 := ⟨by decide +kernel, rfl⟩
theorem d_X2_note_9 : DD prog_4_method_7_code 9 (.putfield 40) 3 12 := ⟨by decide +kernel, rfl⟩
theorem d_X2_note_12 : DD prog_4_method_7_code 12 (.aload_n 0) 1 13 := ⟨by decide +kernel, rfl⟩
theorem d_X2_note_13 : DD prog_4_method_7_code 13 (.iload_n 2) 1 14 := ⟨by decide +kernel, rfl⟩
theorem d_X2_note_14 : DD prog_4_method_7_code 14 (.putfield 43) 3 17 := ⟨by decide +kernel, rfl⟩
theorem d_X2_note_17 : DD prog_4_method_7_code 17 (.aload_n 0) 1 18 := ⟨by decide +kernel, rfl⟩
theorem d_X2_note_18 : DD prog_4_method_7_code 18 (.iload_n 3) 1 19 := ⟨by decide +kernel, rfl⟩
theorem d_X2_note_19 : DD prog_4_method_7_code 19 (.putfield 46) 3 22 := ⟨by decide +kernel, rfl⟩
theorem d_X2_note_22 : DD prog_4_method_7_code 22 (.aload_n 0) 1 23 := ⟨by decide +kernel, rfl⟩
theorem d_X2_note_23 : DD prog_4_method_7_code 23 (.iload 4) 2 25 := ⟨by decide +kernel, rfl⟩
theorem d_X2_note_25 : DD prog_4_method_7_code 25 (.putfield 49) 3 28 := ⟨by decide +kernel, rfl⟩
theorem d_X2_note_28 : DD prog_4_method_7_code 28 (.aload_n 0) 1 29 := ⟨by decide +kernel, rfl⟩
theorem d_X2_note_29 : DD prog_4_method_7_code 29 (.dup) 1 30 := ⟨by decide +kernel, rfl⟩
theorem d_X2_note_30 : DD prog_4_method_7_code 30 (.getfield 19) 3 33 := ⟨by decide +kernel, rfl⟩
theorem d_X2_note_33 : DD prog_4_method_7_code 33 (.iconst 1) 1 34 := ⟨by decide +kernel, rfl⟩
theorem d_X2_note_34 : DD prog_4_method_7_code 34 (.iadd) 1 35 := ⟨by decide +kernel, rfl⟩
theorem d_X2_note_35 : DD prog_4_method_7_code 35 (.putfield 19) 3 38 := ⟨by decide +kernel, rfl⟩
theorem d_X2_note_38 : DD prog_4_method_7_code 38 (.return_) 1 39 := ⟨by decide +kernel, rfl⟩
theorem d_X2_seekOne_0 : DD prog_4_method_3_code 0 (.aload_n 0) 1 1 := ⟨by decide +kernel, rfl⟩
theorem d_X2_seekOne_1 : DD prog_4_method_3_code 1 (.iconst 0) 1 2 := ⟨by decide +kernel, rfl⟩
theorem d_X2_seekOne_2 : DD prog_4_method_3_code 2 (.putfield 19) 3 5 := ⟨by decide +kernel, rfl⟩
theorem d_X2_seekOne_5 : DD prog_4_method_3_code 5 (.iconst 0) 1 6 := ⟨by decide +kernel, rfl⟩
theorem d_X2_seekOne_6 : DD prog_4_method_3_code 6 (.istore_n 2) 1 7 := ⟨by decide +kernel, rfl⟩
theorem d_X2_seekOne_7 : DD prog_4_method_3_code 7 (.iload_n 2) 1 8 := ⟨by decide +kernel, rfl⟩
theorem d_X2_seekOne_8 : DD prog_4_method_3_code 8 (.iload_n 1) 1 9 := ⟨by decide +kernel, rfl⟩
theorem d_X2_seekOne_9 : DJ prog_4_method_3_code 9 (fun o => .if_icmp .ge o) 51 3 12 := ⟨by decide +kernel, rfl⟩
theorem d_X2_seekOne_12 : DD prog_4_method_3_code 12 (.iconst 1) 1 13 := ⟨by decide +kernel, rfl⟩
theorem d_X2_seekOne_13 : DD prog_4_method_3_code 13 (.istore_n 3) 1 14 := ⟨by decide +kernel, rfl⟩
theorem d_X2_seekOne_14 : DD prog_4_method_3_code 14 (.iload_n 3) 1 15 := ⟨by decide +kernel, rfl⟩
theorem d_X2_seekOne_15 : DD prog_4_method_3_code 15 (.bipush 20) 2 17 := ⟨by decide +kernel, rfl⟩
theorem d_X2_seekOne_17 : DJ prog_4_method_3_code 17 (fun o => .if_icmp .gt o) 45 3 20 := ⟨by decide +kernel, rfl⟩
theorem d_X2_seekOne_20 : DD prog_4_method_3_code 20 (.aload_n 0) 1 21 := ⟨by decide +kernel, rfl⟩
theorem d_X2_seekOne_21 : DD prog_4_method_3_code 21 (.iload_n 2) 1 22 := ⟨by decide +kernel, rfl⟩
theorem d_X2_seekOne_22 : DD prog_4_method_3_code 22 (.iload_n 3) 1 23 := ⟨by decide +kernel, rfl⟩
theorem d_X2_seekOne_23 : DD prog_4_method_3_code 23 (.iload_n 2) 1 24 := ⟨by decide +kernel, rfl⟩
theorem d_X2_seekOne_24 : DD prog_4_method_3_code 24 (.iconst 0) 1 25 := ⟨by decide +kernel, rfl⟩
theorem d_X2_seekOne_25 : DD prog_4_method_3_code 25 (.invokevirtual 22) 3 28 := ⟨by decide +kernel, rfl⟩
theorem d_X2_seekOne_28 : DJ prog_4_method_3_code 28 (fun o => .ifCond .eq o) 39 3 31 := ⟨by decide +kernel, rfl⟩
theorem d_X2_seekOne_31 : DD prog_4_method_3_code 31 (.aload_n 0) 1 32 := ⟨by decide +kernel, rfl⟩
theorem d_X2_seekOne_32 : DD prog_4_method_3_code 32 (.iload_n 2) 1 33 := ⟨by decide +kernel, rfl⟩
theorem d_X2_seekOne_33 : DD prog_4_method_3_code 33 (.iload_n 3) 1 34 := ⟨by decide +kernel, rfl⟩
theorem d_X2_seekOne_34 : DD prog_4_method_3_code 34 (.iload_n 2) 1 35 := ⟨by decide +kernel, rfl⟩
theorem d_X2_seekOne_35 : DD prog_4_method_3_code 35 (.iconst 0) 1 36 := ⟨by decide +kernel, rfl⟩
theorem d_X2_seekOne_36 : DD prog_4_method_3_code 36 (.invokevirtual 26) 3 39 := ⟨by decide +kernel, rfl⟩
theorem d_X2_seekOne_39 : DD prog_4_method_3_code 39 (.iinc 3 1) 3 42 := ⟨by decide +kernel, rfl⟩
theorem d_X2_seekOne_42 : DJ prog_4_method_3_code 42 (fun o => .goto o) 14 3 45 := ⟨by decide +kernel, rfl⟩
theorem d_X2_seekOne_45 : DD prog_4_method_3_code 45 (.iinc 2 1) 3 48 := ⟨by decide +kernel, rfl⟩
theorem d_X2_seekOne_48 : DJ prog_4_method_3_code 48 (fun o => .goto o) 7 3 51 := ⟨by decide +kernel, rfl⟩
theorem d_X2_seekOne_51 : DD prog_4_method_3_code 51 (.return_) 1 52 := ⟨by decide +kernel, rfl⟩
theorem d_X2_seekHeats_0 : DD prog_4_method_5_code 0 (.iconst 1) 1 1 := ⟨by decide +kernel, rfl⟩
theorem d_X2_seekHeats_1 : DD prog_4_method_5_code 1 (.istore_n 3) 1 2 := ⟨by decide +kernel, rfl⟩
theorem d_X2_seekHeats_2 : DD prog_4_method_5_code 2 (.iload_n 3) 1 3 := ⟨by decide +kernel, rfl⟩
theorem d_X2_seekHeats_3 : DD prog_4_method_5_code 3 (.bipush 20) 2 5 := ⟨by decide +kernel, rfl⟩
theorem d_X2_seekHeats_5 : DJ prog_4_method_5_code 5 (fun o => .if_icmp .gt o) 51 3 8 := ⟨by decide +kernel, rfl⟩
theorem d_X2_seekHeats_8 : DD prog_4_method_5_code 8 (.iconst 1) 1 9 := ⟨by decide +kernel, rfl⟩
theorem d_X2_seekHeats_9 : DD prog_4_method_5_code 9 (.istore 4) 2 11 := ⟨by decide +kernel, rfl⟩
theorem d_X2_seekHeats_11 : DD prog_4_method_5_code 11 (.iload 4) 2 13 := ⟨by decide +kernel, rfl⟩
theorem d_X2_seekHeats_13 : DD prog_4_method_5_code 13 (.bipush 20) 2 15 := ⟨by decide +kernel, rfl⟩
theorem d_X2_seekHeats_15 : DJ prog_4_method_5_code 15 (fun o => .if_icmp .gt o) 45 3 18 := ⟨by decide +kernel, rfl⟩
theorem d_X2_seekHeats_18 : DD prog_4_method_5_code 18 (.aload_n 0) 1 19 := ⟨by decide +kernel, rfl⟩
theorem d_X2_seekHeats_19 : DD prog_4_method_5_code 19 (.iload_n 1) 1 20 := ⟨by decide +kernel, rfl⟩
theorem d_X2_seekHeats_20 : DD prog_4_method_5_code 20 (.iload_n 3) 1 21 := ⟨by decide +kernel, rfl⟩
theorem d_X2_seekHeats_21 : DD prog_4_method_5_code 21 (.iload_n 2) 1 22 := ⟨by decide +kernel, rfl⟩
theorem d_X2_seekHeats_22 : DD prog_4_method_5_code 22 (.iload 4) 2 24 := ⟨by decide +kernel, rfl⟩
theorem d_X2_seekHeats_24 : DD prog_4_method_5_code 24 (.invokevirtual 22) 3 27 := ⟨by decide +kernel, rfl⟩
theorem d_X2_seekHeats_27 : DJ prog_4_method_5_code 27 (fun o => .ifCond .eq o) 39 3 30 := ⟨by decide +kernel, rfl⟩
theorem d_X2_seekHeats_30 : DD prog_4_method_5_code 30 (.aload_n 0) 1 31 := ⟨by decide +kernel, rfl⟩
theorem d_X2_seekHeats_31 : DD prog_4_method_5_code 31 (.iload_n 1) 1 32 := ⟨by decide +kernel, rfl⟩
theorem d_X2_seekHeats_32 : DD prog_4_method_5_code 32 (.iload_n 3) 1 33 := ⟨by decide +kernel, rfl⟩
theorem d_X2_seekHeats_33 : DD prog_4_method_5_code 33 (.iload_n 2) 1 34 := ⟨by decide +kernel, rfl⟩
theorem d_X2_seekHeats_34 : DD prog_4_method_5_code 34 (.iload 4) 2 36 := ⟨by decide +kernel, rfl⟩
theorem d_X2_seekHeats_36 : DD prog_4_method_5_code 36 (.invokevirtual 26) 3 39 := ⟨by decide +kernel, rfl⟩
theorem d_X2_seekHeats_39 : DD prog_4_method_5_code 39 (.iinc 4 1) 3 42 := ⟨by decide +kernel, rfl⟩
theorem d_X2_seekHeats_42 : DJ prog_4_method_5_code 42 (fun o => .goto o) 11 3 45 := ⟨by decide +kernel, rfl⟩
theorem d_X2_seekHeats_45 : DD prog_4_method_5_code 45 (.iinc 3 1) 3 48 := ⟨by decide +kernel, rfl⟩
theorem d_X2_seekHeats_48 : DJ prog_4_method_5_code 48 (fun o => .goto o) 2 3 51 := ⟨by decide +kernel, rfl⟩
theorem d_X2_seekHeats_51 : DD prog_4_method_5_code 51 (.return_) 1 52 := ⟨by decide +kernel, rfl⟩
theorem d_X2_seekTwo_0 : DD prog_4_method_4_code 0 (.aload_n 0) 1 1 := ⟨by decide +kernel, rfl⟩
theorem d_X2_seekTwo_1 : DD prog_4_method_4_code 1 (.iconst 0) 1 2 := ⟨by decide +kernel, rfl⟩
theorem d_X2_seekTwo_2 : DD prog_4_method_4_code 2 (.putfield 19) 3 5 := ⟨by decide +kernel, rfl⟩
theorem d_X2_seekTwo_5 : DD prog_4_method_4_code 5 (.iconst 0) 1 6 := ⟨by decide +kernel, rfl⟩
theorem d_X2_seekTwo_6 : DD prog_4_method_4_code 6 (.istore_n 2) 1 7 := ⟨by decide +kernel, rfl⟩
theorem d_X2_seekTwo_7 : DD prog_4_method_4_code 7 (.iload_n 2) 1 8 := ⟨by decide +kernel, rfl⟩
theorem d_X2_seekTwo_8 : DD prog_4_method_4_code 8 (.iload_n 1) 1 9 := ⟨by decide +kernel, rfl⟩
theorem d_X2_seekTwo_9 : DJ prog_4_method_4_code 9 (fun o => .if_icmp .ge o) 39 3 12 := ⟨by decide +kernel, rfl⟩
theorem d_X2_seekTwo_12 : DD prog_4_method_4_code 12 (.iload_n 2) 1 13 := ⟨by decide +kernel, rfl⟩
theorem d_X2_seekTwo_13 : DD prog_4_method_4_code 13 (.iconst 1) 1 14 := ⟨by decide +kernel, rfl⟩
theorem d_X2_seekTwo_14 : DD prog_4_method_4_code 14 (.iadd) 1 15 := ⟨by decide +kernel, rfl⟩
theorem d_X2_seekTwo_15 : DD prog_4_method_4_code 15 (.istore_n 3) 1 16 := ⟨by decide +kernel, rfl⟩
theorem d_X2_seekTwo_16 : DD prog_4_method_4_code 16 (.iload_n 3) 1 17 := ⟨by decide +kernel, rfl⟩
theorem d_X2_seekTwo_17 : DD prog_4_method_4_code 17 (.iload_n 1) 1 18 := ⟨by decide +kernel, rfl⟩
theorem d_X2_seekTwo_18 : DJ prog_4_method_4_code 18 (fun o => .if_icmp .ge o) 33 3 21 := ⟨by decide +kernel, rfl⟩
theorem d_X2_seekTwo_21 : DD prog_4_method_4_code 21 (.aload_n 0) 1 22 := ⟨by decide +kernel, rfl⟩
theorem d_X2_seekTwo_22 : DD prog_4_method_4_code 22 (.iload_n 2) 1 23 := ⟨by decide +kernel, rfl⟩
theorem d_X2_seekTwo_23 : DD prog_4_method_4_code 23 (.iload_n 3) 1 24 := ⟨by decide +kernel, rfl⟩
theorem d_X2_seekTwo_24 : DD prog_4_method_4_code 24 (.invokevirtual 30) 3 27 := ⟨by decide +kernel, rfl⟩
theorem d_X2_seekTwo_27 : DD prog_4_method_4_code 27 (.iinc 3 1) 3 30 := ⟨by decide +kernel, rfl⟩
theorem d_X2_seekTwo_30 : DJ prog_4_method_4_code 30 (fun o => .goto o) 16 3 33 := ⟨by decide +kernel, rfl⟩
theorem d_X2_seekTwo_33 : DD prog_4_method_4_code 33 (.iinc 2 1) 3 36 := ⟨by decide +kernel, rfl⟩
theorem d_X2_seekTwo_36 : DJ prog_4_method_4_code 36 (fun o => .goto o) 7 3 39 := ⟨by decide +kernel, rfl⟩
theorem d_X2_seekTwo_39 : DD prog_4_method_4_code 39 (.return_) 1 40 := ⟨by decide +kernel, rfl⟩
theorem d_X3_pass_0 : DD prog_5_method_3_code 0 (.iconst 0) 1 1 := ⟨by decide +kernel, rfl⟩
theorem d_X3_pass_1 : DD prog_5_method_3_code 1 (.istore 4) 2 3 := ⟨by decide +kernel, rfl⟩
theorem d_X3_pass_3 : DD prog_5_method_3_code 3 (.iload 4) 2 5 := ⟨by decide +kernel, rfl⟩
theorem d_X3_pass_5 : DD prog_5_method_3_code 5 (.bipush 99) 2 7 := ⟨by decide +kernel, rfl⟩
theorem d_X3_pass_7 : DJ prog_5_method_3_code 7 (fun o => .if_icmp .gt o) 78 3 10 := ⟨by decide +kernel, rfl⟩
theorem d_X3_pass_10 : DD prog_5_method_3_code 10 (.aload_n 0) 1 11 := ⟨by decide +kernel, rfl⟩
theorem d_X3_pass_11 : DD prog_5_method_3_code 11 (.getfield 9) 3 14 := ⟨by decide +kernel, rfl⟩
theorem d_X3_pass_14 : DD prog_5_method_3_code 14 (.iload 4) 2 16 := ⟨by decide +kernel, rfl⟩
theorem d_X3_pass_16 : DD prog_5_method_3_code 16 (.laload) 1 17 := ⟨by decide +kernel, rfl⟩
theorem d_X3_pass_17 : DD prog_5_method_3_code 17 (.lstore 5) 2 19 := ⟨by decide +kernel, rfl⟩
theorem d_X3_pass_19 : DD prog_5_method_3_code 19 (.aload_n 0) 1 20 := ⟨by decide +kernel, rfl⟩
theorem d_X3_pass_20 : DD prog_5_method_3_code 20 (.getfield 9) 3 23 := ⟨by decide +kernel, rfl⟩
theorem d_X3_pass_23 : DD prog_5_method_3_code 23 (.iload 4) 2 25 := ⟨by decide +kernel, rfl⟩
theorem d_X3_pass_25 : DD prog_5_method_3_code 25 (.lconst 0) 1 26 := ⟨by decide +kernel, rfl⟩
theorem d_X3_pass_26 : DD prog_5_method_3_code 26 (.lastore) 1 27 := ⟨by decide +kernel, rfl⟩
theorem d_X3_pass_27 : DD prog_5_method_3_code 27 (.aload_n 0) 1 28 := ⟨by decide +kernel, rfl⟩
theorem d_X3_pass_28 : DD prog_5_method_3_code 28 (.getfield 9) 3 31 := ⟨by decide +kernel, rfl⟩
theorem d_X3_pass_31 : DD prog_5_method_3_code 31 (.iconst 0) 1 32 := ⟨by decide +kernel, rfl⟩
theorem d_X3_pass_32 : DD prog_5_method_3_code 32 (.iload 4) 2 34 := ⟨by decide +kernel, rfl⟩
theorem d_X3_pass_34 : DD prog_5_method_3_code 34 (.iload_n 1) 1 35 := ⟨by decide +kernel, rfl⟩
theorem d_X3_pass_35 : DD prog_5_method_3_code 35 (.isub) 1 36 := ⟨by decide +kernel, rfl⟩
theorem d_X3_pass_36 : DD prog_5_method_3_code 36 (.invokestatic 87) 3 39 := ⟨by decide +kernel, rfl⟩
theorem d_X3_pass_39 : DD prog_5_method_3_code 39 (.dup2) 1 40 := ⟨by decide +kernel, rfl⟩
theorem d_X3_pass_40 : DD prog_5_method_3_code 40 (.laload) 1 41 := ⟨by decide +kernel, rfl⟩
theorem d_X3_pass_41 : DD prog_5_method_3_code 41 (.lload 5) 2 43 := ⟨by decide +kernel, rfl⟩
theorem d_X3_pass_43 : DD prog_5_method_3_code 43 (.bipush 10) 2 45 := ⟨by decide +kernel, rfl⟩
theorem d_X3_pass_45 : DD prog_5_method_3_code 45 (.iload_n 3) 1 46 := ⟨by decide +kernel, rfl⟩
theorem d_X3_pass_46 : DD prog_5_method_3_code 46 (.isub) 1 47 := ⟨by decide +kernel, rfl⟩
theorem d_X3_pass_47 : DD prog_5_method_3_code 47 (.i2l) 1 48 := ⟨by decide +kernel, rfl⟩
theorem d_X3_pass_48 : DD prog_5_method_3_code 48 (.lmul) 1 49 := ⟨by decide +kernel, rfl⟩
theorem d_X3_pass_49 : DD prog_5_method_3_code 49 (.ladd) 1 50 := ⟨by decide +kernel, rfl⟩
theorem d_X3_pass_50 : DD prog_5_method_3_code 50 (.lastore) 1 51 := ⟨by decide +kernel, rfl⟩
theorem d_X3_pass_51 : DD prog_5_method_3_code 51 (.aload_n 0) 1 52 := ⟨by decide +kernel, rfl⟩
theorem d_X3_pass_52 : DD prog_5_method_3_code 52 (.getfield 9) 3 55 := ⟨by decide +kernel, rfl⟩
theorem d_X3_pass_55 : DD prog_5_method_3_code 55 (.iconst 0) 1 56 := ⟨by decide +kernel, rfl⟩
theorem d_X3_pass_56 : DD prog_5_method_3_code 56 (.iload 4) 2 58 := ⟨by decide +kernel, rfl⟩
theorem d_X3_pass_58 : DD prog_5_method_3_code 58 (.iload_n 2) 1 59 := ⟨by decide +kernel, rfl⟩
theorem d_X3_pass_59 : DD prog_5_method_3_code 59 (.isub) 1 60 := ⟨by decide +kernel, rfl⟩
theorem d_X3_pass_60 : DD prog_5_method_3_code 60 (.invokestatic 87) 3 63 := ⟨by decide +kernel, rfl⟩
theorem d_X3_pass_63 : DD prog_5_method_3_code 63 (.dup2) 1 64 := ⟨by decide +kernel, rfl⟩
theorem d_X3_pass_64 : DD prog_5_method_3_code 64 (.laload) 1 65 := ⟨by decide +kernel, rfl⟩
theorem d_X3_pass_65 : DD prog_5_method_3_code 65 (.lload 5) 2 67 := ⟨by decide +kernel, rfl⟩
theorem d_X3_pass_67 : DD prog_5_method_3_code 67 (.iload_n 3) 1 68 := ⟨by decide +kernel, rfl⟩
theorem d_X3_pass_68 : DD prog_5_method_3_code 68 (.i2l) 1 69 := ⟨by decide +kernel, rfl⟩
theorem d_X3_pass_69 : DD prog_5_method_3_code 69 (.lmul) 1 70 := ⟨by decide +kernel, rfl⟩
theorem d_X3_pass_70 : DD prog_5_method_3_code 70 (.ladd) 1 71 := ⟨by decide +kernel, rfl⟩
theorem d_X3_pass_71 : DD prog_5_method_3_code 71 (.lastore) 1 72 := ⟨by decide +kernel, rfl⟩
theorem d_X3_pass_72 : DD prog_5_method_3_code 72 (.iinc 4 1) 3 75 := ⟨by decide +kernel, rfl⟩
theorem d_X3_pass_75 : DJ prog_5_method_3_code 75 (fun o => .goto o) 3 3 78 := ⟨by decide +kernel, rfl⟩
theorem d_X3_pass_78 : DD prog_5_method_3_code 78 (.return_) 1 79 := ⟨by decide +kernel, rfl⟩
theorem d_X3_casesBelow_0 : DD prog_5_method_4_code 0 (.lconst 0) 1 1 := ⟨by decide +kernel, rfl⟩
theorem d_X3_casesBelow_1 : DD prog_5_method_4_code 1 (.lstore_n 2) 1 2 := ⟨by decide +kernel, rfl⟩
theorem d_X3_casesBelow_2 : DD prog_5_method_4_code 2 (.iconst 0) 1 3 := ⟨by decide +kernel, rfl⟩
theorem d_X3_casesBelow_3 : DD prog_5_method_4_code 3 (.istore 4) 2 5 := ⟨by decide +kernel, rfl⟩
theorem d_X3_casesBelow_5 : DD prog_5_method_4_code 5 (.iload 4) 2 7 := ⟨by decide +kernel, rfl⟩
theorem d_X3_casesBelow_7 : DD prog_5_method_4_code 7 (.iload_n 1) 1 8 := ⟨by decide +kernel, rfl⟩
theorem d_X3_casesBelow_8 : DJ prog_5_method_4_code 8 (fun o => .if_icmp .ge o) 34 3 11 := ⟨by decide +kernel, rfl⟩
theorem d_X3_casesBelow_11 : DD prog_5_method_4_code 11 (.iload 4) 2 13 := ⟨by decide +kernel, rfl⟩
theorem d_X3_casesBelow_13 : DD prog_5_method_4_code 13 (.bipush 99) 2 15 := ⟨by decide +kernel, rfl⟩
theorem d_X3_casesBelow_15 : DJ prog_5_method_4_code 15 (fun o => .if_icmp .gt o) 34 3 18 := ⟨by decide +kernel, rfl⟩
theorem d_X3_casesBelow_18 : DD prog_5_method_4_code 18 (.lload_n 2) 1 19 := ⟨by decide +kernel, rfl⟩
theorem d_X3_casesBelow_19 : DD prog_5_method_4_code 19 (.aload_n 0) 1 20 := ⟨by decide +kernel, rfl⟩
theorem d_X3_casesBelow_20 : DD prog_5_method_4_code 20 (.getfield 9) 3 23 := ⟨by decide +kernel, rfl⟩
theorem d_X3_casesBelow_23 : DD prog_5_method_4_code 23 (.iload 4) 2 25 := ⟨by decide +kernel, rfl⟩
theorem d_X3_casesBelow_25 : DD prog_5_method_4_code 25 (.laload) 1 26 := ⟨by decide +kernel, rfl⟩
theorem d_X3_casesBelow_26 : DD prog_5_method_4_code 26 (.ladd) 1 27 := ⟨by decide +kernel, rfl⟩
theorem d_X3_casesBelow_27 : DD prog_5_method_4_code 27 (.lstore_n 2) 1 28 := ⟨by decide +kernel, rfl⟩
theorem d_X3_casesBelow_28 : DD prog_5_method_4_code 28 (.iinc 4 1) 3 31 := ⟨by decide +kernel, rfl⟩
theorem d_X3_casesBelow_31 : DJ prog_5_method_4_code 31 (fun o => .goto o) 5 3 34 := ⟨by decide +kernel, rfl⟩
theorem d_X3_casesBelow_34 : DD prog_5_method_4_code 34 (.lload_n 2) 1 35 := ⟨by decide +kernel, rfl⟩
theorem d_X3_casesBelow_35 : DD prog_5_method_4_code 35 (.lreturn) 1 36 := ⟨by decide +kernel, rfl⟩
theorem d_X3_reduce_0 : DD prog_5_method_5_code 0 (.lload_n 3) 1 1 := ⟨by decide +kernel, rfl⟩
theorem d_X3_reduce_1 : DD prog_5_method_5_code 1 (.lstore 5) 2 3 := ⟨by decide +kernel, rfl⟩
theorem d_X3_reduce_3 : DD prog_5_method_5_code 3 (.lload_n 1) 1 4 := ⟨by decide +kernel, rfl⟩
theorem d_X3_reduce_4 : DD prog_5_method_5_code 4 (.lstore 7) 2 6 := ⟨by decide +kernel, rfl⟩
theorem d_X3_reduce_6 : DD prog_5_method_5_code 6 (.iconst 0) 1 7 := ⟨by decide +kernel, rfl⟩
theorem d_X3_reduce_7 : DD prog_5_method_5_code 7 (.istore 9) 2 9 := ⟨by decide +kernel, rfl⟩
theorem d_X3_reduce_9 : DD prog_5_method_5_code 9 (.iload 9) 2 11 := ⟨by decide +kernel, rfl⟩
theorem d_X3_reduce_11 : DD prog_5_method_5_code 11 (.sipush 200) 3 14 := ⟨by decide +kernel, rfl⟩
theorem d_X3_reduce_14 : DJ prog_5_method_5_code 14 (fun o => .if_icmp .ge o) 45 3 17 := ⟨by decide +kernel, rfl⟩
theorem d_X3_reduce_17 : DD prog_5_method_5_code 17 (.lload 7) 2 19 := ⟨by decide +kernel, rfl⟩
theorem d_X3_reduce_19 : DD prog_5_method_5_code 19 (.lconst 0) 1 20 := ⟨by decide +kernel, rfl⟩
theorem d_X3_reduce_20 : DD prog_5_method_5_code 20 (.lcmp) 1 21 := ⟨by decide +kernel, rfl⟩
theorem d_X3_reduce_21 : DJ prog_5_method_5_code 21 (fun o => .ifCond .eq o) 45 3 24 := ⟨by decide +kernel, rfl⟩
theorem d_X3_reduce_24 : DD prog_5_method_5_code 24 (.lload 5) 2 26 := ⟨by decide +kernel, rfl⟩
theorem d_X3_reduce_26 : DD prog_5_method_5_code 26 (.lload 7) 2 28 := ⟨by decide +kernel, rfl⟩
theorem d_X3_reduce_28 : DD prog_5_method_5_code 28 (.lrem) 1 29 := ⟨by decide +kernel, rfl⟩
theorem d_X3_reduce_29 : DD prog_5_method_5_code 29 (.lstore 10) 2 31 := ⟨by decide +kernel, rfl⟩
theorem d_X3_reduce_31 : DD prog_5_method_5_code 31 (.lload 7) 2 33 := ⟨by decide +kernel, rfl⟩
theorem d_X3_reduce_33 : DD prog_5_method_5_code 33 (.lstore 5) 2 35 := ⟨by decide +kernel, rfl⟩
theorem d_X3_reduce_35 : DD prog_5_method_5_code 35 (.lload 10) 2 37 := ⟨by decide +kernel, rfl⟩
theorem d_X3_reduce_37 : DD prog_5_method_5_code 37 (.lstore 7) 2 39 := ⟨by decide +kernel, rfl⟩
theorem d_X3_reduce_39 : DD prog_5_method_5_code 39 (.iinc 9 1) 3 42 := ⟨by decide +kernel, rfl⟩
theorem d_X3_reduce_42 : DJ prog_5_method_5_code 42 (fun o => .goto o) 9 3 45 := ⟨by decide +kernel, rfl⟩
theorem d_X3_reduce_45 : DD prog_5_method_5_code 45 (.lload 5) 2 47 := ⟨by decide +kernel, rfl⟩
theorem d_X3_reduce_47 : DD prog_5_method_5_code 47 (.lconst 0) 1 48 := ⟨by decide +kernel, rfl⟩
theorem d_X3_reduce_48 : DD prog_5_method_5_code 48 (.lcmp) 1 49 := ⟨by decide +kernel, rfl⟩
theorem d_X3_reduce_49 : DJ prog_5_method_5_code 49 (fun o => .ifCond .le o) 68 3 52 := ⟨by decide +kernel, rfl⟩
theorem d_X3_reduce_52 : DD prog_5_method_5_code 52 (.aload_n 0) 1 53 := ⟨by decide +kernel, rfl⟩
theorem d_X3_reduce_53 : DD prog_5_method_5_code 53 (.lload_n 1) 1 54 := ⟨by decide +kernel, rfl⟩
theorem d_X3_reduce_54 : DD prog_5_method_5_code 54 (.lload 5) 2 56 := ⟨by decide +kernel, rfl⟩
theorem d_X3_reduce_56 : DD prog_5_method_5_code 56 (.ldiv) 1 57 := ⟨by decide +kernel, rfl⟩
theorem d_X3_reduce_57 : DD prog_5_method_5_code 57 (.putfield 92) 3 60 := ⟨by decide +kernel, rfl⟩
theorem d_X3_reduce_60 : DD prog_5_method_5_code 60 (.aload_n 0) 1 61 := ⟨by decide +kernel, rfl⟩
theorem d_X3_reduce_61 : DD prog_5_method_5_code 61 (.lload_n 3) 1 62 := ⟨by decide +kernel, rfl⟩
theorem d_X3_reduce_62 : DD prog_5_method_5_code 62 (.lload 5) 2 64 := ⟨by decide +kernel, rfl⟩
theorem d_X3_reduce_64 : DD prog_5_method_5_code 64 (.ldiv) 1 65 := ⟨by decide +kernel, rfl⟩
theorem d_X3_reduce_65 : DD prog_5_method_5_code 65 (.putfield 96) 3 68 := ⟨by decide +kernel, rfl⟩
theorem d_X3_reduce_68 : DD prog_5_method_5_code 68 (.return_) 1 69 := ⟨by decide +kernel, rfl⟩
theorem d_X3_weigh_0 : DD prog_5_method_2_code 0 (.aload_n 1) 1 1 := ⟨by decide +kernel, rfl⟩
theorem d_X3_weigh_1 : DD prog_5_method_2_code 1 (.getfield 15) 3 4 := ⟨by decide +kernel, rfl⟩
theorem d_X3_weigh_4 : DD prog_5_method_2_code 4 (.astore 5) 2 6 := ⟨by decide +kernel, rfl⟩
theorem d_X3_weigh_6 : DD prog_5_method_2_code 6 (.aload 5) 2 8 := ⟨by decide +kernel, rfl⟩
theorem d_X3_weigh_8 : DD prog_5_method_2_code 8 (.iload_n 2) 1 9 := ⟨by decide +kernel, rfl⟩
theorem d_X3_weigh_9 : DD prog_5_method_2_code 9 (.iload_n 3) 1 10 := ⟨by decide +kernel, rfl⟩
theorem d_X3_weigh_10 : DD prog_5_method_2_code 10 (.invokevirtual 21) 3 13 := ⟨by decide +kernel, rfl⟩
theorem d_X3_weigh_13 : DD prog_5_method_2_code 13 (.astore 6) 2 15 := ⟨by decide +kernel, rfl⟩
theorem d_X3_weigh_15 : DD prog_5_method_2_code 15 (.aload_n 0) 1 16 := ⟨by decide +kernel, rfl⟩
theorem d_X3_weigh_16 : DD prog_5_method_2_code 16 (.getfield 9) 3 19 := ⟨by decide +kernel, rfl⟩
theorem d_X3_weigh_19 : DD prog_5_method_2_code 19 (.lconst 0) 1 20 := ⟨by decide +kernel, rfl⟩
theorem d_X3_weigh_20 : DD prog_5_method_2_code 20 (.invokestatic 27) 3 23 := ⟨by decide +kernel, rfl⟩
theorem d_X3_weigh_23 : DD prog_5_method_2_code 23 (.aload_n 0) 1 24 := ⟨by decide +kernel, rfl⟩
theorem d_X3_weigh_24 : DD prog_5_method_2_code 24 (.getfield 9) 3 27 := ⟨by decide +kernel, rfl⟩
theorem d_X3_weigh_27 : DD prog_5_method_2_code 27 (.aload 6) 2 29 := ⟨by decide +kernel, rfl⟩
theorem d_X3_weigh_29 : DD prog_5_method_2_code 29 (.getfield 33) 3 32 := ⟨by decide +kernel, rfl⟩
theorem d_X3_weigh_32 : DD prog_5_method_2_code 32 (.lconst 1) 1 33 := ⟨by decide +kernel, rfl⟩
theorem d_X3_weigh_33 : DD prog_5_method_2_code 33 (.lastore) 1 34 := ⟨by decide +kernel, rfl⟩
theorem d_X3_weigh_34 : DD prog_5_method_2_code 34 (.lconst 1) 1 35 := ⟨by decide +kernel, rfl⟩
theorem d_X3_weigh_35 : DD prog_5_method_2_code 35 (.lstore 7) 2 37 := ⟨by decide +kernel, rfl⟩
theorem d_X3_weigh_37 : DD prog_5_method_2_code 37 (.aload 5) 2 39 := ⟨by decide +kernel, rfl⟩
theorem d_X3_weigh_39 : DD prog_5_method_2_code 39 (.getfield 39) 3 42 := ⟨by decide +kernel, rfl⟩
theorem d_X3_weigh_42 : DD prog_5_method_2_code 42 (.istore 9) 2 44 := ⟨by decide +kernel, rfl⟩
theorem d_X3_weigh_44 : DD prog_5_method_2_code 44 (.iload 9) 2 46 := ⟨by decide +kernel, rfl⟩
theorem d_X3_weigh_46 : DD prog_5_method_2_code 46 (.iload 4) 2 48 := ⟨by decide +kernel, rfl⟩
theorem d_X3_weigh_48 : DJ prog_5_method_2_code 48 (fun o => .if_icmp .ge o) 125 3 51 := ⟨by decide +kernel, rfl⟩
theorem d_X3_weigh_51 : DD prog_5_method_2_code 51 (.iload 9) 2 53 := ⟨by decide +kernel, rfl⟩
theorem d_X3_weigh_53 : DD prog_5_method_2_code 53 (.bipush 12) 2 55 := ⟨by decide +kernel, rfl⟩
theorem d_X3_weigh_55 : DJ prog_5_method_2_code 55 (fun o => .if_icmp .ge o) 125 3 58 := ⟨by decide +kernel, rfl⟩
theorem d_X3_weigh_58 : DD prog_5_method_2_code 58 (.aload 5) 2 60 := ⟨by decide +kernel, rfl⟩
theorem d_X3_weigh_60 : DD prog_5_method_2_code 60 (.getfield 42) 3 63 := ⟨by decide +kernel, rfl⟩
theorem d_X3_weigh_63 : DD prog_5_method_2_code 63 (.iload_n 3) 1 64 := ⟨by decide +kernel, rfl⟩
theorem d_X3_weigh_64 : DD prog_5_method_2_code 64 (.iload 9) 2 66 := ⟨by decide +kernel, rfl⟩
theorem d_X3_weigh_66 : DD prog_5_method_2_code 66 (.invokevirtual 46) 3 69 := ⟨by decide +kernel, rfl⟩
theorem d_X3_weigh_69 : DD prog_5_method_2_code 69 (.istore 10) 2 71 := ⟨by decide +kernel, rfl⟩
theorem d_X3_weigh_71 : DD prog_5_method_2_code 71 (.aload_n 0) 1 72 := ⟨by decide +kernel, rfl⟩
theorem d_X3_weigh_72 : DD prog_5_method_2_code 72 (.aload 6) 2 74 := ⟨by decide +kernel, rfl⟩
theorem d_X3_weigh_74 : DD prog_5_method_2_code 74 (.iload 10) 2 76 := ⟨by decide +kernel, rfl⟩
theorem d_X3_weigh_76 : DD prog_5_method_2_code 76 (.aload 5) 2 78 := ⟨by decide +kernel, rfl⟩
theorem d_X3_weigh_78 : DD prog_5_method_2_code 78 (.getfield 52) 3 81 := ⟨by decide +kernel, rfl⟩
theorem d_X3_weigh_81 : DD prog_5_method_2_code 81 (.iload 9) 2 83 := ⟨by decide +kernel, rfl⟩
theorem d_X3_weigh_83 : DD prog_5_method_2_code 83 (.iaload) 1 84 := ⟨by decide +kernel, rfl⟩
theorem d_X3_weigh_84 : DD prog_5_method_2_code 84 (.invokevirtual 56) 3 87 := ⟨by decide +kernel, rfl⟩
theorem d_X3_weigh_87 : DD prog_5_method_2_code 87 (.aload 6) 2 89 := ⟨by decide +kernel, rfl⟩
theorem d_X3_weigh_89 : DD prog_5_method_2_code 89 (.iload 10) 2 91 := ⟨by decide +kernel, rfl⟩
theorem d_X3_weigh_91 : DD prog_5_method_2_code 91 (.aload 5) 2 93 := ⟨by decide +kernel, rfl⟩
theorem d_X3_weigh_93 : DD prog_5_method_2_code 93 (.getfield 52) 3 96 := ⟨by decide +kernel, rfl⟩
theorem d_X3_weigh_96 : DD prog_5_method_2_code 96 (.iload 9) 2 98 := ⟨by decide +kernel, rfl⟩
theorem d_X3_weigh_98 : DD prog_5_method_2_code 98 (.iaload) 1 99 := ⟨by decide +kernel, rfl⟩
theorem d_X3_weigh_99 : DD prog_5_method_2_code 99 (.iconst 1) 1 100 := ⟨by decide +kernel, rfl⟩
theorem d_X3_weigh_100 : DD prog_5_method_2_code 100 (.iadd) 1 101 := ⟨by decide +kernel, rfl⟩
theorem d_X3_weigh_101 : DD prog_5_method_2_code 101 (.invokevirtual 56) 3 104 := ⟨by decide +kernel, rfl⟩
theorem d_X3_weigh_104 : DD prog_5_method_2_code 104 (.aload_n 1) 1 105 := ⟨by decide +kernel, rfl⟩
theorem d_X3_weigh_105 : DD prog_5_method_2_code 105 (.getfield 59) 3 108 := ⟨by decide +kernel, rfl⟩
theorem d_X3_weigh_108 : DD prog_5_method_2_code 108 (.invokevirtual 62) 3 111 := ⟨by decide +kernel, rfl⟩
theorem d_X3_weigh_111 : DD prog_5_method_2_code 111 (.lload 7) 2 113 := ⟨by decide +kernel, rfl⟩
theorem d_X3_weigh_113 : DD prog_5_method_2_code 113 (.ldc2_w 66) 3 116 := ⟨by decide +kernel, rfl⟩
theorem d_X3_weigh_116 : DD prog_5_method_2_code 116 (.lmul) 1 117 := ⟨by decide +kernel, rfl⟩
theorem d_X3_weigh_117 : DD prog_5_method_2_code 117 (.lstore 7) 2 119 := ⟨by decide +kernel, rfl⟩
theorem d_X3_weigh_119 : DD prog_5_method_2_code 119 (.iinc 9 1) 3 122 := ⟨by decide +kernel, rfl⟩
theorem d_X3_weigh_122 : DJ prog_5_method_2_code 122 (fun o => .goto o) 44 3 125 := ⟨by decide +kernel, rfl⟩
theorem d_X3_weigh_125 : DD prog_5_method_2_code 125 (.aload_n 1) 1 126 := ⟨by decide +kernel, rfl⟩
theorem d_X3_weigh_126 : DD prog_5_method_2_code 126 (.getfield 68) 3 129 := ⟨by decide +kernel, rfl⟩
theorem d_X3_weigh_129 : DD prog_5_method_2_code 129 (.aload 6) 2 131 := ⟨by decide +kernel, rfl⟩
theorem d_X3_weigh_131 : DD prog_5_method_2_code 131 (.invokevirtual 72) 3 134 := ⟨by decide +kernel, rfl⟩
theorem d_X3_weigh_134 : DJ prog_5_method_2_code 134 (fun o => .ifCond .eq o) 151 3 137 := ⟨by decide +kernel, rfl⟩
theorem d_X3_weigh_137 : DD prog_5_method_2_code 137 (.aload_n 0) 1 138 := ⟨by decide +kernel, rfl⟩
theorem d_X3_weigh_138 : DD prog_5_method_2_code 138 (.aload_n 1) 1 139 := ⟨by decide +kernel, rfl⟩
theorem d_X3_weigh_139 : DD prog_5_method_2_code 139 (.getfield 68) 3 142 := ⟨by decide +kernel, rfl⟩
theorem d_X3_weigh_142 : DD prog_5_method_2_code 142 (.getfield 78) 3 145 := ⟨by decide +kernel, rfl⟩
theorem d_X3_weigh_145 : DD prog_5_method_2_code 145 (.invokevirtual 79) 3 148 := ⟨by decide +kernel, rfl⟩
theorem d_X3_weigh_148 : DJ prog_5_method_2_code 148 (fun o => .goto o) 153 3 151 := ⟨by decide +kernel, rfl⟩
theorem d_X3_weigh_151 : DD prog_5_method_2_code 151 (.lload 7) 2 153 := ⟨by decide +kernel, rfl⟩
theorem d_X3_weigh_153 : DD prog_5_method_2_code 153 (.lstore 9) 2 155 := ⟨by decide +kernel, rfl⟩
theorem d_X3_weigh_155 : DD prog_5_method_2_code 155 (.aload_n 0) 1 156 := ⟨by decide +kernel, rfl⟩
theorem d_X3_weigh_156 : DD prog_5_method_2_code 156 (.lload 9) 2 158 := ⟨by decide +kernel, rfl⟩
theorem d_X3_weigh_158 : DD prog_5_method_2_code 158 (.lload 7) 2 160 := ⟨by decide +kernel, rfl⟩
theorem d_X3_weigh_160 : DD prog_5_method_2_code 160 (.invokevirtual 83) 3 163 := ⟨by decide +kernel, rfl⟩
theorem d_X3_weigh_163 : DD prog_5_method_2_code 163 (.return_) 1 164 := ⟨by decide +kernel, rfl⟩
theorem d_X8_renew_0 : DD prog_10_method_2_code 0 (.aload_n 0) 1 1 := ⟨by decide +kernel, rfl⟩
theorem d_X8_renew_1 : DD prog_10_method_2_code 1 (.iconst 1) 1 2 := ⟨by decide +kernel, rfl⟩
theorem d_X8_renew_2 : DD prog_10_method_2_code 2 (.putfield 15) 3 5 := ⟨by decide +kernel, rfl⟩
theorem d_X8_renew_5 : DD prog_10_method_2_code 5 (.aload_n 0) 1 6 := ⟨by decide +kernel, rfl⟩
theorem d_X8_renew_6 : DD prog_10_method_2_code 6 (.iload_n 1) 1 7 := ⟨by decide +kernel, rfl⟩
theorem d_X8_renew_7 : DD prog_10_method_2_code 7 (.putfield 19) 3 10 := ⟨by decide +kernel, rfl⟩
theorem d_X8_renew_10 : DD prog_10_method_2_code 10 (.aload_n 0) 1 11 := ⟨by decide +kernel, rfl⟩
theorem d_X8_renew_11 : DD prog_10_method_2_code 11 (.iload_n 2) 1 12 := ⟨by decide +kernel, rfl⟩
theorem d_X8_renew_12 : DD prog_10_method_2_code 12 (.putfield 23) 3 15 := ⟨by decide +kernel, rfl⟩
theorem d_X8_renew_15 : DD prog_10_method_2_code 15 (.aload_n 0) 1 16 := ⟨by decide +kernel, rfl⟩
theorem d_X8_renew_16 : DD prog_10_method_2_code 16 (.getfield 9) 3 19 := ⟨by decide +kernel, rfl⟩
theorem d_X8_renew_19 : DD prog_10_method_2_code 19 (.iconst 0) 1 20 := ⟨by decide +kernel, rfl⟩
theorem d_X8_renew_20 : DD prog_10_method_2_code 20 (.invokestatic 26) 3 23 := ⟨by decide +kernel, rfl⟩
theorem d_X8_renew_23 : DD prog_10_method_2_code 23 (.return_) 1 24 := ⟨by decide +kernel, rfl⟩
theorem d_X8_put_0 : DD prog_10_method_3_code 0 (.aload_n 0) 1 1 := ⟨by decide +kernel, rfl⟩
theorem d_X8_put_1 : DD prog_10_method_3_code 1 (.getfield 19) 3 4 := ⟨by decide +kernel, rfl⟩
theorem d_X8_put_4 : DD prog_10_method_3_code 4 (.lookupswitch 50 #[(0, 28), (1, 39)]) 28 32 := ⟨by decide +kernel, rfl⟩
theorem d_X8_put_32 : DD prog_10_method_3_code 32 (.aload_n 0) 1 33 := ⟨by decide +kernel, rfl⟩
theorem d_X8_put_33 : DD prog_10_method_3_code 33 (.getfield 9) 3 36 := ⟨by decide +kernel, rfl⟩
theorem d_X8_put_36 : DD prog_10_method_3_code 36 (.iload_n 1) 1 37 := ⟨by decide +kernel, rfl⟩
theorem d_X8_put_37 : DD prog_10_method_3_code 37 (.iload_n 2) 1 38 := ⟨by decide +kernel, rfl⟩
theorem d_X8_put_38 : DD prog_10_method_3_code 38 (.i2b) 1 39 := ⟨by decide +kernel, rfl⟩
theorem d_X8_put_39 : DD prog_10_method_3_code 39 (.iastore) 1 40 := ⟨by decide +kernel, rfl⟩
theorem d_X8_put_40 : DJ prog_10_method_3_code 40 (fun o => .goto o) 61 3 43 := ⟨by decide +kernel, rfl⟩
theorem d_X8_put_43 : DD prog_10_method_3_code 43 (.aload_n 0) 1 44 := ⟨by decide +kernel, rfl⟩
theorem d_X8_put_44 : DD prog_10_method_3_code 44 (.getfield 9) 3 47 := ⟨by decide +kernel, rfl⟩
theorem d_X8_put_47 : DD prog_10_method_3_code 47 (.iload_n 1) 1 48 := ⟨by decide +kernel, rfl⟩
theorem d_X8_put_48 : DD prog_10_method_3_code 48 (.iload_n 2) 1 49 := ⟨by decide +kernel, rfl⟩
theorem d_X8_put_49 : DD prog_10_method_3_code 49 (.i2s) 1 50 := ⟨by decide +kernel, rfl⟩
theorem d_X8_put_50 : DD prog_10_method_3_code 50 (.iastore) 1 51 := ⟨by decide +kernel, rfl⟩
theorem d_X8_put_51 : DJ prog_10_method_3_code 51 (fun o => .goto o) 61 3 54 := ⟨by decide +kernel, rfl⟩
theorem d_X8_put_54 : DD prog_10_method_3_code 54 (.aload_n 0) 1 55 := ⟨by decide +kernel, rfl⟩
theorem d_X8_put_55 : DD prog_10_method_3_code 55 (.getfield 9) 3 58 := ⟨by decide +kernel, rfl⟩
theorem d_X8_put_58 : DD prog_10_method_3_code 58 (.iload_n 1) 1 59 := ⟨by decide +kernel, rfl⟩
theorem d_X8_put_59 : DD prog_10_method_3_code 59 (.iload_n 2) 1 60 := ⟨by decide +kernel, rfl⟩
theorem d_X8_put_60 : DD prog_10_method_3_code 60 (.iastore) 1 61 := ⟨by decide +kernel, rfl⟩
theorem d_X8_put_61 : DD prog_10_method_3_code 61 (.return_) 1 62 := ⟨by decide +kernel, rfl⟩
theorem d_X8_readable_0 : DD prog_10_method_4_code 0 (.aload_n 0) 1 1 := ⟨by decide +kernel, rfl⟩
theorem d_X8_readable_1 : DD prog_10_method_4_code 1 (.getfield 15) 3 4 := ⟨by decide +kernel, rfl⟩
theorem d_X8_readable_4 : DJ prog_10_method_4_code 4 (fun o => .ifCond .eq o) 29 3 7 := ⟨by decide +kernel, rfl⟩
theorem d_X8_readable_7 : DD prog_10_method_4_code 7 (.iload_n 1) 1 8 := ⟨by decide +kernel, rfl⟩
theorem d_X8_readable_8 : DD prog_10_method_4_code 8 (.aload_n 0) 1 9 := ⟨by decide +kernel, rfl⟩
theorem d_X8_readable_9 : DD prog_10_method_4_code 9 (.getfield 19) 3 12 := ⟨by decide +kernel, rfl⟩
theorem d_X8_readable_12 : DJ prog_10_method_4_code 12 (fun o => .if_icmp .ne o) 29 3 15 := ⟨by decide +kernel, rfl⟩
theorem d_X8_readable_15 : DD prog_10_method_4_code 15 (.iload_n 2) 1 16 := ⟨by decide +kernel, rfl⟩
theorem d_X8_readable_16 : DD prog_10_method_4_code 16 (.iconst 0) 1 17 := ⟨by decide +kernel, rfl⟩
theorem d_X8_readable_17 : DD prog_10_method_4_code 17 (.aload_n 0) 1 18 := ⟨by decide +kernel, rfl⟩
theorem d_X8_readable_18 : DD prog_10_method_4_code 18 (.getfield 23) 3 21 := ⟨by decide +kernel, rfl⟩
theorem d_X8_readable_21 : DD prog_10_method_4_code 21 (.iconst 1) 1 22 := ⟨by decide +kernel, rfl⟩
theorem d_X8_readable_22 : DD prog_10_method_4_code 22 (.isub) 1 23 := ⟨by decide +kernel, rfl⟩
theorem d_X8_readable_23 : DD prog_10_method_4_code 23 (.invokestatic 32) 3 26 := ⟨by decide +kernel, rfl⟩
theorem d_X8_readable_26 : DJ prog_10_method_4_code 26 (fun o => .ifCond .ne o) 31 3 29 := ⟨by decide +kernel, rfl⟩
theorem d_X8_readable_29 : DD prog_10_method_4_code 29 (.iconst 0) 1 30 := ⟨by decide +kernel, rfl⟩
theorem d_X8_readable_30 : DD prog_10_method_4_code 30 (.ireturn) 1 31 := ⟨by decide +kernel, rfl⟩
theorem d_X8_readable_31 : DD prog_10_method_4_code 31 (.iload_n 3) 1 32 := ⟨by decide +kernel, rfl⟩
theorem d_X8_readable_32 : DD prog_10_method_4_code 32 (.aload_n 0) 1 33 := ⟨by decide +kernel, rfl⟩
theorem d_X8_readable_33 : DD prog_10_method_4_code 33 (.getfield 23) 3 36 := ⟨by decide +kernel, rfl⟩
theorem d_X8_readable_36 : DD prog_10_method_4_code 36 (.iload_n 2) 1 37 := ⟨by decide +kernel, rfl⟩
theorem d_X8_readable_37 : DD prog_10_method_4_code 37 (.isub) 1 38 := ⟨by decide +kernel, rfl⟩
theorem d_X8_readable_38 : DD prog_10_method_4_code 38 (.invokestatic 36) 3 41 := ⟨by decide +kernel, rfl⟩
theorem d_X8_readable_41 : DD prog_10_method_4_code 41 (.ireturn) 1 42 := ⟨by decide +kernel, rfl⟩
theorem d_X8_faultFor_0 : DD prog_10_method_5_code 0 (.aload_n 0) 1 1 := ⟨by decide +kernel, rfl⟩
theorem d_X8_faultFor_1 : DD prog_10_method_5_code 1 (.getfield 15) 3 4 := ⟨by decide +kernel, rfl⟩
theorem d_X8_faultFor_4 : DJ prog_10_method_5_code 4 (fun o => .ifCond .ne o) 9 3 7 := ⟨by decide +kernel, rfl⟩
theorem d_X8_faultFor_7 : DD prog_10_method_5_code 7 (.iconst 1) 1 8 := ⟨by decide +kernel, rfl⟩
theorem d_X8_faultFor_8 : DD prog_10_method_5_code 8 (.ireturn) 1 9 := ⟨by decide +kernel, rfl⟩
theorem d_X8_faultFor_9 : DD prog_10_method_5_code 9 (.iload_n 1) 1 10 := ⟨by decide +kernel, rfl⟩
theorem d_X8_faultFor_10 : DD prog_10_method_5_code 10 (.aload_n 0) 1 11 := ⟨by decide +kernel, rfl⟩
theorem d_X8_faultFor_11 : DD prog_10_method_5_code 11 (.getfield 19) 3 14 := ⟨by decide +kernel, rfl⟩
theorem d_X8_faultFor_14 : DJ prog_10_method_5_code 14 (fun o => .if_icmp .ne o) 21 3 17 := ⟨by decide +kernel, rfl⟩
theorem d_X8_faultFor_17 : DD prog_10_method_5_code 17 (.iconst 2) 1 18 := ⟨by decide +kernel, rfl⟩
theorem d_X8_faultFor_18 : DJ prog_10_method_5_code 18 (fun o => .goto o) 22 3 21 := ⟨by decide +kernel, rfl⟩
theorem d_X8_faultFor_21 : DD prog_10_method_5_code 21 (.iconst 3) 1 22 := ⟨by decide +kernel, rfl⟩
theorem d_X8_faultFor_22 : DD prog_10_method_5_code 22 (.ireturn) 1 23 := ⟨by decide +kernel, rfl⟩
theorem d_X10_leastNext_0 : DD prog_12_method_3_code 0 (.aload_n 0) 1 1 := ⟨by decide +kernel, rfl⟩
theorem d_X10_leastNext_1 : DD prog_12_method_3_code 1 (.getfield 11) 3 4 := ⟨by decide +kernel, rfl⟩
theorem d_X10_leastNext_4 : DD prog_12_method_3_code 4 (.iload_n 2) 1 5 := ⟨by decide +kernel, rfl⟩
theorem d_X10_leastNext_5 : DD prog_12_method_3_code 5 (.aaload) 1 6 := ⟨by decide +kernel, rfl⟩
theorem d_X10_leastNext_6 : DD prog_12_method_3_code 6 (.iload_n 1) 1 7 := ⟨by decide +kernel, rfl⟩
theorem d_X10_leastNext_7 : DD prog_12_method_3_code 7 (.iaload) 1 8 := ⟨by decide +kernel, rfl⟩
theorem d_X10_leastNext_8 : DD prog_12_method_3_code 8 (.istore_n 3) 1 9 := ⟨by decide +kernel, rfl⟩
theorem d_X10_leastNext_9 : DD prog_12_method_3_code 9 (.iload_n 1) 1 10 := ⟨by decide +kernel, rfl⟩
theorem d_X10_leastNext_10 : DJ prog_12_method_3_code 10 (fun o => .ifCond .le o) 28 3 13 := ⟨by decide +kernel, rfl⟩
theorem d_X10_leastNext_13 : DD prog_12_method_3_code 13 (.iload_n 3) 1 14 := ⟨by decide +kernel, rfl⟩
theorem d_X10_leastNext_14 : DD prog_12_method_3_code 14 (.aload_n 0) 1 15 := ⟨by decide +kernel, rfl⟩
theorem d_X10_leastNext_15 : DD prog_12_method_3_code 15 (.getfield 11) 3 18 := ⟨by decide +kernel, rfl⟩
theorem d_X10_leastNext_18 : DD prog_12_method_3_code 18 (.iload_n 2) 1 19 := ⟨by decide +kernel, rfl⟩
theorem d_X10_leastNext_19 : DD prog_12_method_3_code 19 (.aaload) 1 20 := ⟨by decide +kernel, rfl⟩
theorem d_X10_leastNext_20 : DD prog_12_method_3_code 20 (.iload_n 1) 1 21 := ⟨by decide +kernel, rfl⟩
theorem d_X10_leastNext_21 : DD prog_12_method_3_code 21 (.iconst 1) 1 22 := ⟨by decide +kernel, rfl⟩
theorem d_X10_leastNext_22 : DD prog_12_method_3_code 22 (.isub) 1 23 := ⟨by decide +kernel, rfl⟩
theorem d_X10_leastNext_23 : DD prog_12_method_3_code 23 (.iaload) 1 24 := ⟨by decide +kernel, rfl⟩
theorem d_X10_leastNext_24 : DD prog_12_method_3_code 24 (.invokestatic 45) 3 27 := ⟨by decide +kernel, rfl⟩
theorem d_X10_leastNext_27 : DD prog_12_method_3_code 27 (.istore_n 3) 1 28 := ⟨by decide +kernel, rfl⟩
theorem d_X10_leastNext_28 : DD prog_12_method_3_code 28 (.iload_n 1) 1 29 := ⟨by decide +kernel, rfl⟩
theorem d_X10_leastNext_29 : DD prog_12_method_3_code 29 (.iconst 1) 1 30 := ⟨by decide +kernel, rfl⟩
theorem d_X10_leastNext_30 : DD prog_12_method_3_code 30 (.iadd) 1 31 := ⟨by decide +kernel, rfl⟩
theorem d_X10_leastNext_31 : DD prog_12_method_3_code 31 (.aload_n 0) 1 32 := ⟨by decide +kernel, rfl⟩
theorem d_X10_leastNext_32 : DD prog_12_method_3_code 32 (.getfield 25) 3 35 := ⟨by decide +kernel, rfl⟩
theorem d_X10_leastNext_35 : DJ prog_12_method_3_code 35 (fun o => .if_icmp .ge o) 53 3 38 := ⟨by decide +kernel, rfl⟩
theorem d_X10_leastNext_38 : DD prog_12_method_3_code 38 (.iload_n 3) 1 39 := ⟨by decide +kernel, rfl⟩
theorem d_X10_leastNext_39 : DD prog_12_method_3_code 39 (.aload_n 0) 1 40 := ⟨by decide +kernel, rfl⟩
theorem d_X10_leastNext_40 : DD prog_12_method_3_code 40 (.getfield 11) 3 43 := ⟨by decide +kernel, rfl⟩
theorem d_X10_leastNext_43 : DD prog_12_method_3_code 43 (.iload_n 2) 1 44 := ⟨by decide +kernel, rfl⟩
theorem d_X10_leastNext_44 : DD prog_12_method_3_code 44 (.aaload) 1 45 := ⟨by decide +kernel, rfl⟩
theorem d_X10_leastNext_45 : DD prog_12_method_3_code 45 (.iload_n 1) 1 46 := ⟨by decide +kernel, rfl⟩
theorem d_X10_leastNext_46 : DD prog_12_method_3_code 46 (.iconst 1) 1 47 := ⟨by decide +kernel, rfl⟩
theorem d_X10_leastNext_47 : DD prog_12_method_3_code 47 (.iadd) 1 48 := ⟨by decide +kernel, rfl⟩
theorem d_X10_leastNext_48 : DD prog_12_method_3_code 48 (.iaload) 1 49 := ⟨by decide +kernel, rfl⟩
theorem d_X10_leastNext_49 : DD prog_12_method_3_code 49 (.invokestatic 45) 3 52 := ⟨by decide +kernel, rfl⟩
theorem d_X10_leastNext_52 : DD prog_12_method_3_code 52 (.istore_n 3) 1 53 := ⟨by decide +kernel, rfl⟩
theorem d_X10_leastNext_53 : DD prog_12_method_3_code 53 (.iload_n 3) 1 54 := ⟨by decide +kernel, rfl⟩
theorem d_X10_leastNext_54 : DD prog_12_method_3_code 54 (.ireturn) 1 55 := ⟨by decide +kernel, rfl⟩
theorem d_X10_weigh_0 : DD prog_12_method_2_code 0 (.aload_n 0) 1 1 := ⟨by decide +kernel, rfl⟩
theorem d_X10_weigh_1 : DD prog_12_method_2_code 1 (.aload_n 1) 1 2 := ⟨by decide +kernel, rfl⟩
theorem d_X10_weigh_2 : DD prog_12_method_2_code 2 (.getfield 19) 3 5 := ⟨by decide +kernel, rfl⟩
theorem d_X10_weigh_5 : DD prog_12_method_2_code 5 (.putfield 25) 3 8 := ⟨by decide +kernel, rfl⟩
theorem d_X10_weigh_8 : DD prog_12_method_2_code 8 (.aload_n 0) 1 9 := ⟨by decide +kernel, rfl⟩
theorem d_X10_weigh_9 : DD prog_12_method_2_code 9 (.aload_n 1) 1 10 := ⟨by decide +kernel, rfl⟩
theorem d_X10_weigh_10 : DD prog_12_method_2_code 10 (.getfield 26) 3 13 := ⟨by decide +kernel, rfl⟩
theorem d_X10_weigh_13 : DD prog_12_method_2_code 13 (.getfield 30) 3 16 := ⟨by decide +kernel, rfl⟩
theorem d_X10_weigh_16 : DD prog_12_method_2_code 16 (.putfield 35) 3 19 := ⟨by decide +kernel, rfl⟩
theorem d_X10_weigh_19 : DD prog_12_method_2_code 19 (.bipush 11) 2 21 := ⟨by decide +kernel, rfl⟩
theorem d_X10_weigh_21 : DD prog_12_method_2_code 21 (.istore_n 2) 1 22 := ⟨by decide +kernel, rfl⟩
theorem d_X10_weigh_22 : DD prog_12_method_2_code 22 (.iload_n 2) 1 23 := ⟨by decide +kernel, rfl⟩
theorem d_X10_weigh_23 : DD prog_12_method_2_code 23 (.aload_n 0) 1 24 := ⟨by decide +kernel, rfl⟩
theorem d_X10_weigh_24 : DD prog_12_method_2_code 24 (.getfield 35) 3 27 := ⟨by decide +kernel, rfl⟩
theorem d_X10_weigh_27 : DJ prog_12_method_2_code 27 (fun o => .if_icmp .lt o) 110 3 30 := ⟨by decide +kernel, rfl⟩
theorem d_X10_weigh_30 : DD prog_12_method_2_code 30 (.iconst 0) 1 31 := ⟨by decide +kernel, rfl⟩
theorem d_X10_weigh_31 : DD prog_12_method_2_code 31 (.istore_n 3) 1 32 := ⟨by decide +kernel, rfl⟩
theorem d_X10_weigh_32 : DD prog_12_method_2_code 32 (.iload_n 3) 1 33 := ⟨by decide +kernel, rfl⟩
theorem d_X10_weigh_33 : DD prog_12_method_2_code 33 (.aload_n 0) 1 34 := ⟨by decide +kernel, rfl⟩
theorem d_X10_weigh_34 : DD prog_12_method_2_code 34 (.getfield 25) 3 37 := ⟨by decide +kernel, rfl⟩
theorem d_X10_weigh_37 : DJ prog_12_method_2_code 37 (fun o => .if_icmp .ge o) 74 3 40 := ⟨by decide +kernel, rfl⟩
theorem d_X10_weigh_40 : DD prog_12_method_2_code 40 (.aload_n 0) 1 41 := ⟨by decide +kernel, rfl⟩
theorem d_X10_weigh_41 : DD prog_12_method_2_code 41 (.getfield 11) 3 44 := ⟨by decide +kernel, rfl⟩
theorem d_X10_weigh_44 : DD prog_12_method_2_code 44 (.iload_n 2) 1 45 := ⟨by decide +kernel, rfl⟩
theorem d_X10_weigh_45 : DD prog_12_method_2_code 45 (.aaload) 1 46 := ⟨by decide +kernel, rfl⟩
theorem d_X10_weigh_46 : DD prog_12_method_2_code 46 (.iload_n 3) 1 47 := ⟨by decide +kernel, rfl⟩
theorem d_X10_weigh_47 : DD prog_12_method_2_code 47 (.aload_n 1) 1 48 := ⟨by decide +kernel, rfl⟩
theorem d_X10_weigh_48 : DD prog_12_method_2_code 48 (.getfield 26) 3 51 := ⟨by decide +kernel, rfl⟩
theorem d_X10_weigh_51 : DD prog_12_method_2_code 51 (.iload_n 3) 1 52 := ⟨by decide +kernel, rfl⟩
theorem d_X10_weigh_52 : DD prog_12_method_2_code 52 (.iload_n 2) 1 53 := ⟨by decide +kernel, rfl⟩
theorem d_X10_weigh_53 : DD prog_12_method_2_code 53 (.invokevirtual 38) 3 56 := ⟨by decide +kernel, rfl⟩
theorem d_X10_weigh_56 : DD prog_12_method_2_code 56 (.aload_n 0) 1 57 := ⟨by decide +kernel, rfl⟩
theorem d_X10_weigh_57 : DD prog_12_method_2_code 57 (.getfield 16) 3 60 := ⟨by decide +kernel, rfl⟩
theorem d_X10_weigh_60 : DD prog_12_method_2_code 60 (.iload_n 2) 1 61 := ⟨by decide +kernel, rfl⟩
theorem d_X10_weigh_61 : DD prog_12_method_2_code 61 (.iconst 1) 1 62 := ⟨by decide +kernel, rfl⟩
theorem d_X10_weigh_62 : DD prog_12_method_2_code 62 (.iadd) 1 63 := ⟨by decide +kernel, rfl⟩
theorem d_X10_weigh_63 : DD prog_12_method_2_code 63 (.aaload) 1 64 := ⟨by decide +kernel, rfl⟩
theorem d_X10_weigh_64 : DD prog_12_method_2_code 64 (.iload_n 3) 1 65 := ⟨by decide +kernel, rfl⟩
theorem d_X10_weigh_65 : DD prog_12_method_2_code 65 (.iaload) 1 66 := ⟨by decide +kernel, rfl⟩
theorem d_X10_weigh_66 : DD prog_12_method_2_code 66 (.iadd) 1 67 := ⟨by decide +kernel, rfl⟩
theorem d_X10_weigh_67 : DD prog_12_method_2_code 67 (.iastore) 1 68 := ⟨by decide +kernel, rfl⟩
theorem d_X10_weigh_68 : DD prog_12_method_2_code 68 (.iinc 3 1) 3 71 := ⟨by decide +kernel, rfl⟩
theorem d_X10_weigh_71 : DJ prog_12_method_2_code 71 (fun o => .goto o) 32 3 74 := ⟨by decide +kernel, rfl⟩
theorem d_X10_weigh_74 : DD prog_12_method_2_code 74 (.iconst 0) 1 75 := ⟨by decide +kernel, rfl⟩
theorem d_X10_weigh_75 : DD prog_12_method_2_code 75 (.istore_n 3) 1 76 := ⟨by decide +kernel, rfl⟩
theorem d_X10_weigh_76 : DD prog_12_method_2_code 76 (.iload_n 3) 1 77 := ⟨by decide +kernel, rfl⟩
theorem d_X10_weigh_77 : DD prog_12_method_2_code 77 (.aload_n 0) 1 78 := ⟨by decide +kernel, rfl⟩
theorem d_X10_weigh_78 : DD prog_12_method_2_code 78 (.getfield 25) 3 81 := ⟨by decide +kernel, rfl⟩
theorem d_X10_weigh_81 : DJ prog_12_method_2_code 81 (fun o => .if_icmp .ge o) 104 3 84 := ⟨by decide +kernel, rfl⟩
theorem d_X10_weigh_84 : DD prog_12_method_2_code 84 (.aload_n 0) 1 85 := ⟨by decide +kernel, rfl⟩
theorem d_X10_weigh_85 : DD prog_12_method_2_code 85 (.getfield 16) 3 88 := ⟨by decide +kernel, rfl⟩
theorem d_X10_weigh_88 : DD prog_12_method_2_code 88 (.iload_n 2) 1 89 := ⟨by decide +kernel, rfl⟩
theorem d_X10_weigh_89 : DD prog_12_method_2_code 89 (.aaload) 1 90 := ⟨by decide +kernel, rfl⟩
theorem d_X10_weigh_90 : DD prog_12_method_2_code 90 (.iload_n 3) 1 91 := ⟨by decide +kernel, rfl⟩
theorem d_X10_weigh_91 : DD prog_12_method_2_code 91 (.aload_n 0) 1 92 := ⟨by decide +kernel, rfl⟩
theorem d_X10_weigh_92 : DD prog_12_method_2_code 92 (.iload_n 3) 1 93 := ⟨by decide +kernel, rfl⟩
theorem d_X10_weigh_93 : DD prog_12_method_2_code 93 (.iload_n 2) 1 94 := ⟨by decide +kernel, rfl⟩
theorem d_X10_weigh_94 : DD prog_12_method_2_code 94 (.invokevirtual 42) 3 97 := ⟨by decide +kernel, rfl⟩
theorem d_X10_weigh_97 : DD prog_12_method_2_code 97 (.iastore) 1 98 := ⟨by decide +kernel, rfl⟩
theorem d_X10_weigh_98 : DD prog_12_method_2_code 98 (.iinc 3 1) 3 101 := ⟨by decide +kernel, rfl⟩
theorem d_X10_weigh_101 : DJ prog_12_method_2_code 101 (fun o => .goto o) 76 3 104 := ⟨by decide +kernel, rfl⟩
theorem d_X10_weigh_104 : DD prog_12_method_2_code 104 (.iinc 2 (-1)) 3 107 := ⟨by decide +kernel, rfl⟩
theorem d_X10_weigh_107 : DJ prog_12_method_2_code 107 (fun o => .goto o) 22 3 110 := ⟨by decide +kernel, rfl⟩
theorem d_X10_weigh_110 : DD prog_12_method_2_code 110 (.return_) 1 111 := ⟨by decide +kernel, rfl⟩
theorem d_X10_lastOf_0 : DD prog_12_method_4_code 0 (.iconst 0) 1 1 := ⟨by decide +kernel, rfl⟩
theorem d_X10_lastOf_1 : DD prog_12_method_4_code 1 (.iload_n 2) 1 2 := ⟨by decide +kernel, rfl⟩
theorem d_X10_lastOf_2 : DD prog_12_method_4_code 2 (.aload_n 0) 1 3 := ⟨by decide +kernel, rfl⟩
theorem d_X10_lastOf_3 : DD prog_12_method_4_code 3 (.getfield 16) 3 6 := ⟨by decide +kernel, rfl⟩
theorem d_X10_lastOf_6 : DD prog_12_method_4_code 6 (.aload_n 0) 1 7 := ⟨by decide +kernel, rfl⟩
theorem d_X10_lastOf_7 : DD prog_12_method_4_code 7 (.getfield 35) 3 10 := ⟨by decide +kernel, rfl⟩
theorem d_X10_lastOf_10 : DD prog_12_method_4_code 10 (.aaload) 1 11 := ⟨by decide +kernel, rfl⟩
theorem d_X10_lastOf_11 : DD prog_12_method_4_code 11 (.iload_n 1) 1 12 := ⟨by decide +kernel, rfl⟩
theorem d_X10_lastOf_12 : DD prog_12_method_4_code 12 (.iaload) 1 13 := ⟨by decide +kernel, rfl⟩
theorem d_X10_lastOf_13 : DD prog_12_method_4_code 13 (.isub) 1 14 := ⟨by decide +kernel, rfl⟩
theorem d_X10_lastOf_14 : DD prog_12_method_4_code 14 (.invokestatic 50) 3 17 := ⟨by decide +kernel, rfl⟩
theorem d_X10_lastOf_17 : DD prog_12_method_4_code 17 (.ireturn) 1 18 := ⟨by decide +kernel, rfl⟩
theorem d_X10_stepFrom_0 : DD prog_12_method_6_code 0 (.iload_n 1) 1 1 := ⟨by decide +kernel, rfl⟩
theorem d_X10_stepFrom_1 : DJ prog_12_method_6_code 1 (fun o => .ifCond .le o) 33 3 4 := ⟨by decide +kernel, rfl⟩
theorem d_X10_stepFrom_4 : DD prog_12_method_6_code 4 (.iload_n 3) 1 5 := ⟨by decide +kernel, rfl⟩
theorem d_X10_stepFrom_5 : DJ prog_12_method_6_code 5 (fun o => .ifCond .ne o) 29 3 8 := ⟨by decide +kernel, rfl⟩
theorem d_X10_stepFrom_8 : DD prog_12_method_6_code 8 (.aload_n 0) 1 9 := ⟨by decide +kernel, rfl⟩
theorem d_X10_stepFrom_9 : DD prog_12_method_6_code 9 (.getfield 11) 3 12 := ⟨by decide +kernel, rfl⟩
theorem d_X10_stepFrom_12 : DD prog_12_method_6_code 12 (.iload_n 2) 1 13 := ⟨by decide +kernel, rfl⟩
theorem d_X10_stepFrom_13 : DD prog_12_method_6_code 13 (.aaload) 1 14 := ⟨by decide +kernel, rfl⟩
theorem d_X10_stepFrom_14 : DD prog_12_method_6_code 14 (.iload_n 1) 1 15 := ⟨by decide +kernel, rfl⟩
theorem d_X10_stepFrom_15 : DD prog_12_method_6_code 15 (.iconst 1) 1 16 := ⟨by decide +kernel, rfl⟩
theorem d_X10_stepFrom_16 : DD prog_12_method_6_code 16 (.isub) 1 17 := ⟨by decide +kernel, rfl⟩
theorem d_X10_stepFrom_17 : DD prog_12_method_6_code 17 (.iaload) 1 18 := ⟨by decide +kernel, rfl⟩
theorem d_X10_stepFrom_18 : DD prog_12_method_6_code 18 (.aload_n 0) 1 19 := ⟨by decide +kernel, rfl⟩
theorem d_X10_stepFrom_19 : DD prog_12_method_6_code 19 (.getfield 16) 3 22 := ⟨by decide +kernel, rfl⟩
theorem d_X10_stepFrom_22 : DD prog_12_method_6_code 22 (.iload_n 2) 1 23 := ⟨by decide +kernel, rfl⟩
theorem d_X10_stepFrom_23 : DD prog_12_method_6_code 23 (.aaload) 1 24 := ⟨by decide +kernel, rfl⟩
theorem d_X10_stepFrom_24 : DD prog_12_method_6_code 24 (.iload_n 1) 1 25 := ⟨by decide +kernel, rfl⟩
theorem d_X10_stepFrom_25 : DD prog_12_method_6_code 25 (.iaload) 1 26 := ⟨by decide +kernel, rfl⟩
theorem d_X10_stepFrom_26 : DJ prog_12_method_6_code 26 (fun o => .if_icmp .ne o) 33 3 29 := ⟨by decide +kernel, rfl⟩
theorem d_X10_stepFrom_29 : DD prog_12_method_6_code 29 (.iload_n 1) 1 30 := ⟨by decide +kernel, rfl⟩
theorem d_X10_stepFrom_30 : DD prog_12_method_6_code 30 (.iconst 1) 1 31 := ⟨by decide +kernel, rfl⟩
theorem d_X10_stepFrom_31 : DD prog_12_method_6_code 31 (.isub) 1 32 := ⟨by decide +kernel, rfl⟩
theorem d_X10_stepFrom_32 : DD prog_12_method_6_code 32 (.ireturn) 1 33 := ⟨by decide +kernel, rfl⟩
theorem d_X10_stepFrom_33 : DD prog_12_method_6_code 33 (.iload_n 3) 1 34 := ⟨by decide +kernel, rfl⟩
theorem d_X10_stepFrom_34 : DJ prog_12_method_6_code 34 (fun o => .ifCond .ne o) 56 3 37 := ⟨by decide +kernel, rfl⟩
theorem d_X10_stepFrom_37 : DD prog_12_method_6_code 37 (.aload_n 0) 1 38 := ⟨by decide +kernel, rfl⟩
theorem d_X10_stepFrom_38 : DD prog_12_method_6_code 38 (.getfield 11) 3 41 := ⟨by decide +kernel, rfl⟩
theorem d_X10_stepFrom_41 : DD prog_12_method_6_code 41 (.iload_n 2) 1 42 := ⟨by decide +kernel, rfl⟩
theorem d_X10_stepFrom_42 : DD prog_12_method_6_code 42 (.aaload) 1 43 := ⟨by decide +kernel, rfl⟩
theorem d_X10_stepFrom_43 : DD prog_12_method_6_code 43 (.iload_n 1) 1 44 := ⟨by decide +kernel, rfl⟩
theorem d_X10_stepFrom_44 : DD prog_12_method_6_code 44 (.iaload) 1 45 := ⟨by decide +kernel, rfl⟩
theorem d_X10_stepFrom_45 : DD prog_12_method_6_code 45 (.aload_n 0) 1 46 := ⟨by decide +kernel, rfl⟩
theorem d_X10_stepFrom_46 : DD prog_12_method_6_code 46 (.getfield 16) 3 49 := ⟨by decide +kernel, rfl⟩
theorem d_X10_stepFrom_49 : DD prog_12_method_6_code 49 (.iload_n 2) 1 50 := ⟨by decide +kernel, rfl⟩
theorem d_X10_stepFrom_50 : DD prog_12_method_6_code 50 (.aaload) 1 51 := ⟨by decide +kernel, rfl⟩
theorem d_X10_stepFrom_51 : DD prog_12_method_6_code 51 (.iload_n 1) 1 52 := ⟨by decide +kernel, rfl⟩
theorem d_X10_stepFrom_52 : DD prog_12_method_6_code 52 (.iaload) 1 53 := ⟨by decide +kernel, rfl⟩
theorem d_X10_stepFrom_53 : DJ prog_12_method_6_code 53 (fun o => .if_icmp .ne o) 58 3 56 := ⟨by decide +kernel, rfl⟩
theorem d_X10_stepFrom_56 : DD prog_12_method_6_code 56 (.iload_n 1) 1 57 := ⟨by decide +kernel, rfl⟩
theorem d_X10_stepFrom_57 : DD prog_12_method_6_code 57 (.ireturn) 1 58 := ⟨by decide +kernel, rfl⟩
theorem d_X10_stepFrom_58 : DD prog_12_method_6_code 58 (.iload_n 1) 1 59 := ⟨by decide +kernel, rfl⟩
theorem d_X10_stepFrom_59 : DD prog_12_method_6_code 59 (.iconst 1) 1 60 := ⟨by decide +kernel, rfl⟩
theorem d_X10_stepFrom_60 : DD prog_12_method_6_code 60 (.iadd) 1 61 := ⟨by decide +kernel, rfl⟩
theorem d_X10_stepFrom_61 : DD prog_12_method_6_code 61 (.aload_n 0) 1 62 := ⟨by decide +kernel, rfl⟩
theorem d_X10_stepFrom_62 : DD prog_12_method_6_code 62 (.getfield 25) 3 65 := ⟨by decide +kernel, rfl⟩
theorem d_X10_stepFrom_65 : DD prog_12_method_6_code 65 (.iconst 1) 1 66 := ⟨by decide +kernel, rfl⟩
theorem d_X10_stepFrom_66 : DD prog_12_method_6_code 66 (.isub) 1 67 := ⟨by decide +kernel, rfl⟩
theorem d_X10_stepFrom_67 : DD prog_12_method_6_code 67 (.invokestatic 45) 3 70 := ⟨by decide +kernel, rfl⟩
theorem d_X10_stepFrom_70 : DD prog_12_method_6_code 70 (.ireturn) 1 71 := ⟨by decide +kernel, rfl⟩
theorem d_X10_placeOn_0 : DD prog_12_method_5_code 0 (.aload_n 0) 1 1 := ⟨by decide +kernel, rfl⟩
theorem d_X10_placeOn_1 : DD prog_12_method_5_code 1 (.iload_n 1) 1 2 := ⟨by decide +kernel, rfl⟩
theorem d_X10_placeOn_2 : DD prog_12_method_5_code 2 (.iload_n 2) 1 3 := ⟨by decide +kernel, rfl⟩
theorem d_X10_placeOn_3 : DD prog_12_method_5_code 3 (.invokevirtual 53) 3 6 := ⟨by decide +kernel, rfl⟩
theorem d_X10_placeOn_6 : DJ prog_12_method_5_code 6 (fun o => .ifCond .ne o) 13 3 9 := ⟨by decide +kernel, rfl⟩
theorem d_X10_placeOn_9 : DD prog_12_method_5_code 9 (.iconst 1) 1 10 := ⟨by decide +kernel, rfl⟩
theorem d_X10_placeOn_10 : DJ prog_12_method_5_code 10 (fun o => .goto o) 14 3 13 := ⟨by decide +kernel, rfl⟩
theorem d_X10_placeOn_13 : DD prog_12_method_5_code 13 (.iconst 0) 1 14 := ⟨by decide +kernel, rfl⟩
theorem d_X10_placeOn_14 : DD prog_12_method_5_code 14 (.istore 4) 2 16 := ⟨by decide +kernel, rfl⟩
theorem d_X10_placeOn_16 : DD prog_12_method_5_code 16 (.iload_n 1) 1 17 := ⟨by decide +kernel, rfl⟩
theorem d_X10_placeOn_17 : DD prog_12_method_5_code 17 (.istore 5) 2 19 := ⟨by decide +kernel, rfl⟩
theorem d_X10_placeOn_19 : DD prog_12_method_5_code 19 (.aload_n 0) 1 20 := ⟨by decide +kernel, rfl⟩
theorem d_X10_placeOn_20 : DD prog_12_method_5_code 20 (.getfield 35) 3 23 := ⟨by decide +kernel, rfl⟩
theorem d_X10_placeOn_23 : DD prog_12_method_5_code 23 (.istore 6) 2 25 := ⟨by decide +kernel, rfl⟩
theorem d_X10_placeOn_25 : DD prog_12_method_5_code 25 (.iload 6) 2 27 := ⟨by decide +kernel, rfl⟩
theorem d_X10_placeOn_27 : DD prog_12_method_5_code 27 (.aload_n 0) 1 28 := ⟨by decide +kernel, rfl⟩
theorem d_X10_placeOn_28 : DD prog_12_method_5_code 28 (.getfield 35) 3 31 := ⟨by decide +kernel, rfl⟩
theorem d_X10_placeOn_31 : DD prog_12_method_5_code 31 (.iload_n 3) 1 32 := ⟨by decide +kernel, rfl⟩
theorem d_X10_placeOn_32 : DD prog_12_method_5_code 32 (.iadd) 1 33 := ⟨by decide +kernel, rfl⟩
theorem d_X10_placeOn_33 : DJ prog_12_method_5_code 33 (fun o => .if_icmp .gt o) 61 3 36 := ⟨by decide +kernel, rfl⟩
theorem d_X10_placeOn_36 : DD prog_12_method_5_code 36 (.iload 6) 2 38 := ⟨by decide +kernel, rfl⟩
theorem d_X10_placeOn_38 : DD prog_12_method_5_code 38 (.bipush 12) 2 40 := ⟨by decide +kernel, rfl⟩
theorem d_X10_placeOn_40 : DJ prog_12_method_5_code 40 (fun o => .if_icmp .ge o) 61 3 43 := ⟨by decide +kernel, rfl⟩
theorem d_X10_placeOn_43 : DD prog_12_method_5_code 43 (.aload_n 0) 1 44 := ⟨by decide +kernel, rfl⟩
theorem d_X10_placeOn_44 : DD prog_12_method_5_code 44 (.iload 5) 2 46 := ⟨by decide +kernel, rfl⟩
theorem d_X10_placeOn_46 : DD prog_12_method_5_code 46 (.iload 6) 2 48 := ⟨by decide +kernel, rfl⟩
theorem d_X10_placeOn_48 : DD prog_12_method_5_code 48 (.iload 4) 2 50 := ⟨by decide +kernel, rfl⟩
theorem d_X10_placeOn_50 : DD prog_12_method_5_code 50 (.invokevirtual 56) 3 53 := ⟨by decide +kernel, rfl⟩
theorem d_X10_placeOn_53 : DD prog_12_method_5_code 53 (.istore 5) 2 55 := ⟨by decide +kernel, rfl⟩
theorem d_X10_placeOn_55 : DD prog_12_method_5_code 55 (.iinc 6 1) 3 58 := ⟨by decide +kernel, rfl⟩
theorem d_X10_placeOn_58 : DJ prog_12_method_5_code 58 (fun o => .goto o) 25 3 61 := ⟨by decide +kernel, rfl⟩
theorem d_X10_placeOn_61 : DD prog_12_method_5_code 61 (.iload 5) 2 63 := ⟨by decide +kernel, rfl⟩
theorem d_X10_placeOn_63 : DD prog_12_method_5_code 63 (.ireturn) 1 64 := ⟨by decide +kernel, rfl⟩
def f_X1_cheapest_84 (k4 : Int32 → Int32 → Option Int32) (M : Mm) (a1 : Nat) (x2 : Int32) (x3 : Int32) : Option Int32 :=
k4 x2 (x3 + (1 : Int32))
def f_X1_cheapest_82 (k4 : Int32 → Int32 → Option Int32) (M : Mm) (a1 : Nat) (x3 : Int32) : Option Int32 :=
f_X1_cheapest_84 k4 M a1 x3 x3
def f_X1_cheapest_45 (k4 : Int32 → Int32 → Option Int32) (M : Mm) (a1 : Nat) (x2 : Int32) (x3 : Int32) (s_0 : Int32) : Option Int32 :=
if s_0 = 0 then
(f_X1_cheapest_84 k4 M a1 x2 x3)
else
(if (((M.1 130 2) >>> (x3 &&& 31)) &&& (1 : Int32)) = 0 then
(if x2 < 0 then
(f_X1_cheapest_82 k4 M a1 x3)
else
(ck (inn x3 10) <|
ck (inn x2 10) <|
if (M.1 131 x2.toNatClampNeg) ≤ (M.1 131 x3.toNatClampNeg) then
(f_X1_cheapest_84 k4 M a1 x2 x3)
else
(f_X1_cheapest_82 k4 M a1 x3)))
else
(f_X1_cheapest_84 k4 M a1 x2 x3))
def f_X1_cheapest_44 (k4 : Int32 → Int32 → Option Int32) (M : Mm) (a1 : Nat) (x2 : Int32) (x3 : Int32) : Option Int32 :=
f_X1_cheapest_45 k4 M a1 x2 x3 (0 : Int32)
def b_X1_cheapest_4 (k4 : Int32 → Int32 → Option Int32) (M : Mm) (a1 : Nat) (x2 : Int32) (x3 : Int32) : Option Int32 :=
if (M.1 a1 0) ≤ x3 then
(some x2)
else
(ck (inn x3 10) <|
if (M.1 131 x3.toNatClampNeg) < (1 : Int32) then
(f_X1_cheapest_44 k4 M a1 x2 x3)
else
(if (M.1 ((a1 + 5) + 2) x3.toNatClampNeg) < (M.1 131 x3.toNatClampNeg) then
(f_X1_cheapest_44 k4 M a1 x2 x3)
else
(f_X1_cheapest_45 k4 M a1 x2 x3 (1 : Int32))))
def f_X1_cheapest_4 (M : Mm) (a1 : Nat) : Nat → Int32 → Int32 → Option Int32
  | 0, _, _ => none
  | n + 1, x2, x3 => b_X1_cheapest_4 (fun x2 x3 => f_X1_cheapest_4 M a1 n x2 x3) M a1 x2 x3
def f_X1_cheapest (M : Mm) (a1 : Nat) : Option Int32 :=
f_X1_cheapest_4 M a1 FU (-1 : Int32) (0 : Int32)
def f_X1_send_62 (k18 : Mm → Int32 → Option Mm) (M : Mm) (a1 : Nat) (x2 : Int32) (x3 : Int32) (x4 : Int32) (x5 : Int32) : Option Mm :=
k18 M (x5 + (1 : Int32))
def b_X1_send_71 (k71 : Mm → Int32 → Option Mm) (a1 : Nat) (x4 : Int32) (M : Mm) (x5 : Int32) : Option Mm :=
if x4 ≤ x5 then
(some M)
else
(bd (f_X1_cheapest M a1) fun p3 =>
if 0 ≤ p3 then
(wr (wI M 130 0 ((M.1 130 0) + (1 : Int32))) fun M5 =>
ck (inn p3 10) <|
wr (wI M5 130 1 ((M5.1 130 1) + (M5.1 131 p3.toNatClampNeg))) fun M8 =>
wr (wI M8 130 2 ((M8.1 130 2) ||| ((1 : Int32) <<< (p3 &&& 31)))) fun M10 =>
k71 M10 (x5 + (1 : Int32)))
else
(some M))
def f_X1_send_71 (a1 : Nat) (x4 : Int32) : Nat → Mm → Int32 → Option Mm
  | 0, _, _ => none
  | n + 1, M, x5 => b_X1_send_71 (fun M x5 => f_X1_send_71 a1 x4 n M x5) a1 x4 M x5
def f_X1_send_68 (M : Mm) (a1 : Nat) (x4 : Int32) : Option Mm :=
f_X1_send_71 a1 x4 FU M (0 : Int32)
def b_X1_send_18 (k18 : Mm → Int32 → Option Mm) (a1 : Nat) (x2 : Int32) (x3 : Int32) (x4 : Int32) (M : Mm) (x5 : Int32) : Option Mm :=
if (M.1 a1 0) ≤ x5 then
(f_X1_send_68 M a1 x4)
else
(bd (f_X4_needOf M a1 x2 x5 x3) fun p3 =>
ck (inn x5 10) <|
wr (wI M 131 x5.toNatClampNeg p3) fun M4 =>
if (M4.1 131 x5.toNatClampNeg) = 0 then
(wr (wI M4 130 0 ((M4.1 130 0) + (1 : Int32))) fun M8 =>
f_X1_send_62 k18 M8 a1 x2 x3 x4 x5)
else
(f_X1_send_62 k18 M4 a1 x2 x3 x4 x5))
def f_X1_send_18 (a1 : Nat) (x2 : Int32) (x3 : Int32) (x4 : Int32) : Nat → Mm → Int32 → Option Mm
  | 0, _, _ => none
  | n + 1, M, x5 => b_X1_send_18 (fun M x5 => f_X1_send_18 a1 x2 x3 x4 n M x5) a1 x2 x3 x4 M x5
def f_X1_send (M : Mm) (a1 : Nat) (x2 : Int32) (x3 : Int32) (x4 : Int32) : Option Mm :=
wr (wI M 130 0 (0 : Int32)) fun M1 =>
wr (wI M1 130 1 (0 : Int32)) fun M3 =>
wr (wI M3 130 2 (0 : Int32)) fun M5 =>
f_X1_send_18 a1 x2 x3 x4 FU M5 (0 : Int32)
def f_X2_put_29 (M : Mm) : Option Mm :=
some M
def f_X2_put (M : Mm) (x1 : Int32) : Option Mm :=
if (10 : Int32) ≤ (M.1 98 0) then
(f_X2_put_29 M)
else
(ck (inn (M.1 98 0) 10) <|
wr (wI M 99 (M.1 98 0).toNatClampNeg x1) fun M2 =>
wr (wI M2 98 0 ((M2.1 98 0) + (1 : Int32))) fun M5 =>
f_X2_put_29 M5)
def b_X2_isFeltBy_3 (k3 : Int32 → Option Int32) (M : Mm) (x1 : Int32) (x2 : Int32) (x3 : Int32) (x4 : Int32) (x5 : Int32) : Option Int32 :=
if (M.1 98 0) ≤ x5 then
(some (1 : Int32))
else
(bd (f_X0_reach x2 x1 x5) fun p3 =>
bd (f_X0_reach x4 x3 x5) fun p5 =>
ck (inn x5 10) <|
if (p3 + p5) = (M.1 99 x5.toNatClampNeg) then
(k3 (x5 + (1 : Int32)))
else
(some (0 : Int32)))
def f_X2_isFeltBy_3 (M : Mm) (x1 : Int32) (x2 : Int32) (x3 : Int32) (x4 : Int32) : Nat → Int32 → Option Int32
  | 0, _ => none
  | n + 1, x5 => b_X2_isFeltBy_3 (fun x5 => f_X2_isFeltBy_3 M x1 x2 x3 x4 n x5) M x1 x2 x3 x4 x5
def f_X2_isFeltBy (M : Mm) (x1 : Int32) (x2 : Int32) (x3 : Int32) (x4 : Int32) : Option Int32 :=
f_X2_isFeltBy_3 M x1 x2 x3 x4 FU (0 : Int32)
def f_X2_note_28 (M : Mm) : Option Mm :=
wr (wI M 98 1 ((M.1 98 1) + (1 : Int32))) fun M1 =>
some M1
def f_X2_note (M : Mm) (x1 : Int32) (x2 : Int32) (x3 : Int32) (x4 : Int32) : Option Mm :=
if (M.1 98 1) = 0 then
(wr (wI M 98 2 x1) fun M2 =>
wr (wI M2 98 4 x2) fun M4 =>
wr (wI M4 98 3 x3) fun M6 =>
wr (wI M6 98 5 x4) fun M8 =>
f_X2_note_28 M8)
else
(f_X2_note_28 M)
def f_X2_seekOne_39 (k7 : Mm → Int32 → Option Mm) (k14 : Mm → Int32 → Option Mm) (M : Mm) (x1 : Int32) (x2 : Int32) (x3 : Int32) : Option Mm :=
k14 M (x3 + (1 : Int32))
def f_X2_seekOne_45 (k7 : Mm → Int32 → Option Mm) (M : Mm) (x1 : Int32) (x2 : Int32) : Option Mm :=
k7 M (x2 + (1 : Int32))
def b_X2_seekOne_14 (k7 : Mm → Int32 → Option Mm) (k14 : Mm → Int32 → Option Mm) (x1 : Int32) (x2 : Int32) (M : Mm) (x3 : Int32) : Option Mm :=
if (20 : Int32) < x3 then
(f_X2_seekOne_45 k7 M x1 x2)
else
(bd (f_X2_isFeltBy M x2 x3 x2 (0 : Int32)) fun p3 =>
if p3 = 0 then
(f_X2_seekOne_39 k7 k14 M x1 x2 x3)
else
(bd (f_X2_note M x2 x3 x2 (0 : Int32)) fun p6 =>
f_X2_seekOne_39 k7 k14 p6 x1 x2 x3))
def f_X2_seekOne_14 (k7 : Mm → Int32 → Option Mm) (x1 : Int32) (x2 : Int32) : Nat → Mm → Int32 → Option Mm
  | 0, _, _ => none
  | n + 1, M, x3 => b_X2_seekOne_14 k7 (fun M x3 => f_X2_seekOne_14 k7 x1 x2 n M x3) x1 x2 M x3
def b_X2_seekOne_7 (k7 : Mm → Int32 → Option Mm) (x1 : Int32) (M : Mm) (x2 : Int32) : Option Mm :=
if x1 ≤ x2 then
(some M)
else
(f_X2_seekOne_14 k7 x1 x2 FU M (1 : Int32))
def f_X2_seekOne_7 (x1 : Int32) : Nat → Mm → Int32 → Option Mm
  | 0, _, _ => none
  | n + 1, M, x2 => b_X2_seekOne_7 (fun M x2 => f_X2_seekOne_7 x1 n M x2) x1 M x2
def f_X2_seekOne (M : Mm) (x1 : Int32) : Option Mm :=
wr (wI M 98 1 (0 : Int32)) fun M1 =>
f_X2_seekOne_7 x1 FU M1 (0 : Int32)
def f_X2_seekHeats_39 (k2 : Mm → Int32 → Option Mm) (k11 : Mm → Int32 → Option Mm) (M : Mm) (x1 : Int32) (x2 : Int32) (x3 : Int32) (x4 : Int32) : Option Mm :=
k11 M (x4 + (1 : Int32))
def f_X2_seekHeats_45 (k2 : Mm → Int32 → Option Mm) (M : Mm) (x1 : Int32) (x2 : Int32) (x3 : Int32) : Option Mm :=
k2 M (x3 + (1 : Int32))
def b_X2_seekHeats_11 (k2 : Mm → Int32 → Option Mm) (k11 : Mm → Int32 → Option Mm) (x1 : Int32) (x2 : Int32) (x3 : Int32) (M : Mm) (x4 : Int32) : Option Mm :=
if (20 : Int32) < x4 then
(f_X2_seekHeats_45 k2 M x1 x2 x3)
else
(bd (f_X2_isFeltBy M x1 x3 x2 x4) fun p3 =>
if p3 = 0 then
(f_X2_seekHeats_39 k2 k11 M x1 x2 x3 x4)
else
(bd (f_X2_note M x1 x3 x2 x4) fun p6 =>
f_X2_seekHeats_39 k2 k11 p6 x1 x2 x3 x4))
def f_X2_seekHeats_11 (k2 : Mm → Int32 → Option Mm) (x1 : Int32) (x2 : Int32) (x3 : Int32) : Nat → Mm → Int32 → Option Mm
  | 0, _, _ => none
  | n + 1, M, x4 => b_X2_seekHeats_11 k2 (fun M x4 => f_X2_seekHeats_11 k2 x1 x2 x3 n M x4) x1 x2 x3 M x4
def b_X2_seekHeats_2 (k2 : Mm → Int32 → Option Mm) (x1 : Int32) (x2 : Int32) (M : Mm) (x3 : Int32) : Option Mm :=
if (20 : Int32) < x3 then
(some M)
else
(f_X2_seekHeats_11 k2 x1 x2 x3 FU M (1 : Int32))
def f_X2_seekHeats_2 (x1 : Int32) (x2 : Int32) : Nat → Mm → Int32 → Option Mm
  | 0, _, _ => none
  | n + 1, M, x3 => b_X2_seekHeats_2 (fun M x3 => f_X2_seekHeats_2 x1 x2 n M x3) x1 x2 M x3
def f_X2_seekHeats (M : Mm) (x1 : Int32) (x2 : Int32) : Option Mm :=
f_X2_seekHeats_2 x1 x2 FU M (1 : Int32)
def f_X2_seekTwo_33 (k7 : Mm → Int32 → Option Mm) (M : Mm) (x1 : Int32) (x2 : Int32) : Option Mm :=
k7 M (x2 + (1 : Int32))
def b_X2_seekTwo_16 (k7 : Mm → Int32 → Option Mm) (k16 : Mm → Int32 → Option Mm) (x1 : Int32) (x2 : Int32) (M : Mm) (x3 : Int32) : Option Mm :=
if x1 ≤ x3 then
(f_X2_seekTwo_33 k7 M x1 x2)
else
(bd (f_X2_seekHeats M x2 x3) fun p3 =>
k16 p3 (x3 + (1 : Int32)))
def f_X2_seekTwo_16 (k7 : Mm → Int32 → Option Mm) (x1 : Int32) (x2 : Int32) : Nat → Mm → Int32 → Option Mm
  | 0, _, _ => none
  | n + 1, M, x3 => b_X2_seekTwo_16 k7 (fun M x3 => f_X2_seekTwo_16 k7 x1 x2 n M x3) x1 x2 M x3
def b_X2_seekTwo_7 (k7 : Mm → Int32 → Option Mm) (x1 : Int32) (M : Mm) (x2 : Int32) : Option Mm :=
if x1 ≤ x2 then
(some M)
else
(nm ((x2 + (1 : Int32))) fun v2 =>
f_X2_seekTwo_16 k7 x1 x2 FU M v2)
def f_X2_seekTwo_7 (x1 : Int32) : Nat → Mm → Int32 → Option Mm
  | 0, _, _ => none
  | n + 1, M, x2 => b_X2_seekTwo_7 (fun M x2 => f_X2_seekTwo_7 x1 n M x2) x1 M x2
def f_X2_seekTwo (M : Mm) (x1 : Int32) : Option Mm :=
wr (wI M 98 1 (0 : Int32)) fun M1 =>
f_X2_seekTwo_7 x1 FU M1 (0 : Int32)
def b_X3_pass_3 (k3 : Mm → Int32 → Option Mm) (x1 : Int32) (x2 : Int32) (x3 : Int32) (M : Mm) (x4 : Int32) : Option Mm :=
if (99 : Int32) < x4 then
(some M)
else
(ck (inn x4 100) <|
nm ((M.2 129 x4.toNatClampNeg)) fun v3 =>
wr (wJ M 129 x4.toNatClampNeg (0 : Int64)) fun M5 =>
ck (inn (iMax (0 : Int32) (x4 - x1)) 100) <|
wr (wJ M5 129 (iMax (0 : Int32) (x4 - x1)).toNatClampNeg ((M5.2 129 (iMax (0 : Int32) (x4 - x1)).toNatClampNeg) + (v3 * ((10 : Int32) - x3).toInt64))) fun M8 =>
ck (inn (iMax (0 : Int32) (x4 - x2)) 100) <|
wr (wJ M8 129 (iMax (0 : Int32) (x4 - x2)).toNatClampNeg ((M8.2 129 (iMax (0 : Int32) (x4 - x2)).toNatClampNeg) + (v3 * x3.toInt64))) fun M11 =>
k3 M11 (x4 + (1 : Int32)))
def f_X3_pass_3 (x1 : Int32) (x2 : Int32) (x3 : Int32) : Nat → Mm → Int32 → Option Mm
  | 0, _, _ => none
  | n + 1, M, x4 => b_X3_pass_3 (fun M x4 => f_X3_pass_3 x1 x2 x3 n M x4) x1 x2 x3 M x4
def f_X3_pass (M : Mm) (x1 : Int32) (x2 : Int32) (x3 : Int32) : Option Mm :=
f_X3_pass_3 x1 x2 x3 FU M (0 : Int32)
def f_X3_casesBelow_34 (M : Mm) (j2 : Int64) : Option Int64 :=
some j2
def b_X3_casesBelow_5 (k5 : Int64 → Int32 → Option Int64) (M : Mm) (x1 : Int32) (j2 : Int64) (x4 : Int32) : Option Int64 :=
if x1 ≤ x4 then
(f_X3_casesBelow_34 M j2)
else
(if (99 : Int32) < x4 then
(f_X3_casesBelow_34 M j2)
else
(ck (inn x4 100) <|
nm ((j2 + (M.2 129 x4.toNatClampNeg))) fun v4 =>
k5 v4 (x4 + (1 : Int32))))
def f_X3_casesBelow_5 (M : Mm) (x1 : Int32) : Nat → Int64 → Int32 → Option Int64
  | 0, _, _ => none
  | n + 1, j2, x4 => b_X3_casesBelow_5 (fun j2 x4 => f_X3_casesBelow_5 M x1 n j2 x4) M x1 j2 x4
def f_X3_casesBelow (M : Mm) (x1 : Int32) : Option Int64 :=
f_X3_casesBelow_5 M x1 FU (0 : Int64) (0 : Int32)
def f_X3_reduce_68 (M : Mm) : Option Mm :=
some M
def f_X3_reduce_45 (M : Mm) (j1 : Int64) (j3 : Int64) (j5 : Int64) : Option Mm :=
if (lg_cmp j5 (0 : Int64)) ≤ 0 then
(f_X3_reduce_68 M)
else
(ck (¬ j5 = 0) <|
wr (wJ M 128 0 (j1 / j5)) fun M3 =>
ck (¬ j5 = 0) <|
wr (wJ M3 128 1 (j3 / j5)) fun M6 =>
f_X3_reduce_68 M6)
def b_X3_reduce_9 (k9 : Int64 → Int64 → Int32 → Option Mm) (M : Mm) (j1 : Int64) (j3 : Int64) (j5 : Int64) (j7 : Int64) (x9 : Int32) : Option Mm :=
if (200 : Int32) ≤ x9 then
(f_X3_reduce_45 M j1 j3 j5)
else
(if (lg_cmp j7 (0 : Int64)) = 0 then
(f_X3_reduce_45 M j1 j3 j5)
else
(ck (¬ j7 = 0) <|
nm ((j5 - j5 / j7 * j7)) fun v4 =>
k9 j7 v4 (x9 + (1 : Int32))))
def f_X3_reduce_9 (M : Mm) (j1 : Int64) (j3 : Int64) : Nat → Int64 → Int64 → Int32 → Option Mm
  | 0, _, _, _ => none
  | n + 1, j5, j7, x9 => b_X3_reduce_9 (fun j5 j7 x9 => f_X3_reduce_9 M j1 j3 n j5 j7 x9) M j1 j3 j5 j7 x9
def f_X3_reduce (M : Mm) (j1 : Int64) (j3 : Int64) : Option Mm :=
f_X3_reduce_9 M j1 j3 FU j3 j1 (0 : Int32)
def f_X3_weigh_153 (M : Mm) (j7 : Int64) (t_0 : Int64) : Option Mm :=
bd (f_X3_reduce M t_0 j7) fun p2 =>
some p2
def f_X3_weigh_125 (M : Mm) (a1 : Nat) (a6 : Nat) (j7 : Int64) : Option Mm :=
bd (f_X5_suits M (a1 + 2) a6) fun p2 =>
if p2 = 0 then
(f_X3_weigh_153 M j7 j7)
else
(bd (f_X3_casesBelow M (M.1 (a1 + 2) 0)) fun p5 =>
f_X3_weigh_153 M j7 p5)
def b_X3_weigh_44 (k44 : Mm → Int64 → Int32 → Option Mm) (a1 : Nat) (x3 : Int32) (x4 : Int32) (a5 : Nat) (a6 : Nat) (M : Mm) (j7 : Int64) (x9 : Int32) : Option Mm :=
if x4 ≤ x9 then
(f_X3_weigh_125 M a1 a6 j7)
else
(if (12 : Int32) ≤ x9 then
(f_X3_weigh_125 M a1 a6 j7)
else
(bd (f_X0_warmthOn M (a5 + 6) x3 x9) fun p4 =>
ck (inn x9 12) <|
bd (f_X6_lossBy M a6 p4 (M.1 (a5 + 5) x9.toNatClampNeg)) fun p7 =>
bd (f_X6_lossBy M a6 p4 ((M.1 (a5 + 5) x9.toNatClampNeg) + (1 : Int32))) fun p9 =>
bd (f_X3_pass M p7 p9 (M.1 a1 1)) fun p11 =>
nm ((j7 * (10 : Int64))) fun v12 =>
k44 p11 v12 (x9 + (1 : Int32))))
def f_X3_weigh_44 (a1 : Nat) (x3 : Int32) (x4 : Int32) (a5 : Nat) (a6 : Nat) : Nat → Mm → Int64 → Int32 → Option Mm
  | 0, _, _, _ => none
  | n + 1, M, j7, x9 => b_X3_weigh_44 (fun M j7 x9 => f_X3_weigh_44 a1 x3 x4 a5 a6 n M j7 x9) a1 x3 x4 a5 a6 M j7 x9
def f_X3_weigh (M : Mm) (a1 : Nat) (x2 : Int32) (x3 : Int32) (x4 : Int32) : Option Mm :=
nm ((a1 + 5)) fun b1 =>
bd (f_X7_manOf M b1 x2 x3) fun p5 =>
wr (fillJ M 129 100 (0 : Int64)) fun M6 =>
ck (inn (M6.1 p5 4) 100) <|
wr (wJ M6 129 (M6.1 p5 4).toNatClampNeg (1 : Int64)) fun M8 =>
nm ((M8.1 b1 0)) fun v11 =>
f_X3_weigh_44 a1 x3 x4 b1 p5 FU M8 (1 : Int64) v11
def f_X8_renew (M : Mm) (a0 : Nat) (x1 : Int32) (x2 : Int32) : Option Mm :=
wr (wI M a0 0 (1 : Int32)) fun M1 =>
wr (wI M1 a0 3 x1) fun M4 =>
wr (wI M4 a0 1 x2) fun M6 =>
wr (fillI M6 (a0 + 1) 40 (0 : Int32)) fun M8 =>
some M8
def f_X8_put_61 (M : Mm) : Option Mm :=
some M
def f_X8_put (M : Mm) (a0 : Nat) (x1 : Int32) (x2 : Int32) : Option Mm :=
if (M.1 a0 3) = (0 : Int32) then
(ck (inn x1 40) <|
wr (wI M (a0 + 1) x1.toNatClampNeg x2.toInt8.toInt32) fun M2 =>
f_X8_put_61 M2)
else
if (M.1 a0 3) = (1 : Int32) then
(ck (inn x1 40) <|
wr (wI M (a0 + 1) x1.toNatClampNeg x2.toInt16.toInt32) fun M6 =>
f_X8_put_61 M6)
else
(ck (inn x1 40) <|
wr (wI M (a0 + 1) x1.toNatClampNeg x2) fun M9 =>
f_X8_put_61 M9)
def f_X8_readable_29 (M : Mm) : Option Int32 :=
some (0 : Int32)
def f_X8_readable (M : Mm) (a0 : Nat) (x1 : Int32) (x2 : Int32) (x3 : Int32) : Option Int32 :=
if (M.1 a0 0) = 0 then
(f_X8_readable_29 M)
else
(if x1 = (M.1 a0 3) then
(bd (f_X11_isAmong x2 (0 : Int32) ((M.1 a0 1) - (1 : Int32))) fun p4 =>
if p4 = 0 then
(f_X8_readable_29 M)
else
(some (iMin x3 ((M.1 a0 1) - x2))))
else
(f_X8_readable_29 M))
def f_X8_faultFor_22 (M : Mm) (s_0 : Int32) : Option Int32 :=
some s_0
def f_X8_faultFor (M : Mm) (a0 : Nat) (x1 : Int32) : Option Int32 :=
if (M.1 a0 0) = 0 then
(some (1 : Int32))
else
(if x1 = (M.1 a0 3) then
(f_X8_faultFor_22 M (2 : Int32))
else
(f_X8_faultFor_22 M (3 : Int32)))
def f_X10_leastNext_53 (M : Mm) (x3 : Int32) : Option Int32 :=
some x3
def f_X10_leastNext_28 (M : Mm) (x1 : Int32) (x2 : Int32) (x3 : Int32) : Option Int32 :=
if (M.1 100 0) ≤ (x1 + (1 : Int32)) then
(f_X10_leastNext_53 M x3)
else
(ck (inn x2 12) <|
ck (inn (x1 + (1 : Int32)) 10) <|
nm ((iMin x3 (M.1 (101 + 1 + x2.toNatClampNeg) (x1 + (1 : Int32)).toNatClampNeg))) fun v4 =>
f_X10_leastNext_53 M v4)
def f_X10_leastNext (M : Mm) (x1 : Int32) (x2 : Int32) : Option Int32 :=
ck (inn x2 12) <|
ck (inn x1 10) <|
nm ((M.1 (101 + 1 + x2.toNatClampNeg) x1.toNatClampNeg)) fun v3 =>
if x1 ≤ 0 then
(f_X10_leastNext_28 M x1 x2 v3)
else
(ck (inn (x1 - (1 : Int32)) 10) <|
nm ((iMin v3 (M.1 (101 + 1 + x2.toNatClampNeg) (x1 - (1 : Int32)).toNatClampNeg))) fun v7 =>
f_X10_leastNext_28 M x1 x2 v7)
def f_X10_weigh_104 (k22 : Mm → Int32 → Option Mm) (M : Mm) (a1 : Nat) (x2 : Int32) : Option Mm :=
k22 M (x2 + (-1 : Int32))
def b_X10_weigh_76 (k22 : Mm → Int32 → Option Mm) (k76 : Mm → Int32 → Option Mm) (a1 : Nat) (x2 : Int32) (M : Mm) (x3 : Int32) : Option Mm :=
if (M.1 100 0) ≤ x3 then
(f_X10_weigh_104 k22 M a1 x2)
else
(ck (inn x2 13) <|
bd (f_X10_leastNext M x3 x2) fun p4 =>
ck (inn x3 10) <|
wr (wI M (114 + 1 + x2.toNatClampNeg) x3.toNatClampNeg p4) fun M5 =>
k76 M5 (x3 + (1 : Int32)))
def f_X10_weigh_76 (k22 : Mm → Int32 → Option Mm) (a1 : Nat) (x2 : Int32) : Nat → Mm → Int32 → Option Mm
  | 0, _, _ => none
  | n + 1, M, x3 => b_X10_weigh_76 k22 (fun M x3 => f_X10_weigh_76 k22 a1 x2 n M x3) a1 x2 M x3
def f_X10_weigh_74 (k22 : Mm → Int32 → Option Mm) (M : Mm) (a1 : Nat) (x2 : Int32) : Option Mm :=
f_X10_weigh_76 k22 a1 x2 FU M (0 : Int32)
def b_X10_weigh_32 (k22 : Mm → Int32 → Option Mm) (k32 : Mm → Int32 → Option Mm) (a1 : Nat) (x2 : Int32) (M : Mm) (x3 : Int32) : Option Mm :=
if (M.1 100 0) ≤ x3 then
(f_X10_weigh_74 k22 M a1 x2)
else
(ck (inn x2 12) <|
bd (f_X7_heatOn M (a1 + 5) x3 x2) fun p4 =>
ck (inn (x2 + (1 : Int32)) 13) <|
ck (inn x3 10) <|
wr (wI M (101 + 1 + x2.toNatClampNeg) x3.toNatClampNeg (p4 + (M.1 (114 + 1 + (x2 + (1 : Int32)).toNatClampNeg) x3.toNatClampNeg))) fun M7 =>
k32 M7 (x3 + (1 : Int32)))
def f_X10_weigh_32 (k22 : Mm → Int32 → Option Mm) (a1 : Nat) (x2 : Int32) : Nat → Mm → Int32 → Option Mm
  | 0, _, _ => none
  | n + 1, M, x3 => b_X10_weigh_32 k22 (fun M x3 => f_X10_weigh_32 k22 a1 x2 n M x3) a1 x2 M x3
def b_X10_weigh_22 (k22 : Mm → Int32 → Option Mm) (a1 : Nat) (M : Mm) (x2 : Int32) : Option Mm :=
if x2 < (M.1 100 1) then
(some M)
else
(f_X10_weigh_32 k22 a1 x2 FU M (0 : Int32))
def f_X10_weigh_22 (a1 : Nat) : Nat → Mm → Int32 → Option Mm
  | 0, _, _ => none
  | n + 1, M, x2 => b_X10_weigh_22 (fun M x2 => f_X10_weigh_22 a1 n M x2) a1 M x2
def f_X10_weigh (M : Mm) (a1 : Nat) : Option Mm :=
wr (wI M 100 0 (M.1 a1 0)) fun M1 =>
wr (wI M1 100 1 (M1.1 (a1 + 5) 0)) fun M3 =>
f_X10_weigh_22 a1 FU M3 (11 : Int32)
def f_X10_lastOf (M : Mm) (x1 : Int32) (x2 : Int32) : Option Int32 :=
ck (inn (M.1 100 1) 13) <|
ck (inn x1 10) <|
some (iMax (0 : Int32) (x2 - (M.1 (114 + 1 + (M.1 100 1).toNatClampNeg) x1.toNatClampNeg)))
def f_X10_stepFrom_29 (M : Mm) (x1 : Int32) : Option Int32 :=
some (x1 - (1 : Int32))
def f_X10_stepFrom_56 (M : Mm) (x1 : Int32) : Option Int32 :=
some x1
def f_X10_stepFrom_33 (M : Mm) (x1 : Int32) (x2 : Int32) (x3 : Int32) : Option Int32 :=
if x3 = 0 then
(ck (inn x2 12) <|
ck (inn x1 10) <|
ck (inn x2 13) <|
if (M.1 (101 + 1 + x2.toNatClampNeg) x1.toNatClampNeg) = (M.1 (114 + 1 + x2.toNatClampNeg) x1.toNatClampNeg) then
(f_X10_stepFrom_56 M x1)
else
(some (iMin (x1 + (1 : Int32)) ((M.1 100 0) - (1 : Int32)))))
else
(f_X10_stepFrom_56 M x1)
def f_X10_stepFrom (M : Mm) (x1 : Int32) (x2 : Int32) (x3 : Int32) : Option Int32 :=
if x1 ≤ 0 then
(f_X10_stepFrom_33 M x1 x2 x3)
else
(if x3 = 0 then
(ck (inn x2 12) <|
ck (inn (x1 - (1 : Int32)) 10) <|
ck (inn x2 13) <|
ck (inn x1 10) <|
if (M.1 (101 + 1 + x2.toNatClampNeg) (x1 - (1 : Int32)).toNatClampNeg) = (M.1 (114 + 1 + x2.toNatClampNeg) x1.toNatClampNeg) then
(f_X10_stepFrom_29 M x1)
else
(f_X10_stepFrom_33 M x1 x2 x3))
else
(f_X10_stepFrom_29 M x1))
def f_X10_placeOn_61 (M : Mm) (x5 : Int32) : Option Int32 :=
some x5
def b_X10_placeOn_25 (k25 : Int32 → Int32 → Option Int32) (M : Mm) (x3 : Int32) (x4 : Int32) (x5 : Int32) (x6 : Int32) : Option Int32 :=
if ((M.1 100 1) + x3) < x6 then
(f_X10_placeOn_61 M x5)
else
(if (12 : Int32) ≤ x6 then
(f_X10_placeOn_61 M x5)
else
(bd (f_X10_stepFrom M x5 x6 x4) fun p4 =>
k25 p4 (x6 + (1 : Int32))))
def f_X10_placeOn_25 (M : Mm) (x3 : Int32) (x4 : Int32) : Nat → Int32 → Int32 → Option Int32
  | 0, _, _ => none
  | n + 1, x5, x6 => b_X10_placeOn_25 (fun x5 x6 => f_X10_placeOn_25 M x3 x4 n x5 x6) M x3 x4 x5 x6
def f_X10_placeOn_14 (M : Mm) (x1 : Int32) (x3 : Int32) (s_0 : Int32) : Option Int32 :=
nm ((M.1 100 1)) fun v1 =>
f_X10_placeOn_25 M x3 s_0 FU x1 v1
def f_X10_placeOn (M : Mm) (x1 : Int32) (x2 : Int32) (x3 : Int32) : Option Int32 :=
bd (f_X10_lastOf M x1 x2) fun p2 =>
if p2 = 0 then
(f_X10_placeOn_14 M x1 x3 (1 : Int32))
else
(f_X10_placeOn_14 M x1 x3 (0 : Int32))
-- SnowSentries$Crews.cheapest(LSnowSentries$Land;)I
set_option maxRecDepth 4000 in
theorem k_X1_cheapest_84 {p : Program} {l : Launch} {e : Env} {s : State} {m : MethodId} {args : Array Value} {below : List Frame} {meth : Method} {c : Code} {G : GG} {k4 : Int32 → Int32 → Option Int32} {M : Mm} {a1 : Nat} {x2 : Int32} {x3 : Int32} {r : Int32} (C : CX p s m args c prog_3_method_3_code 5 "SnowSentries$Crews" 0 G) (hlk : meth.locks = false) (hr : meth.sig.returnType = (some .int)) (ha1 : kU 0 a1 = 4) (hk4 : ∀ (x2 : Int32) (x3 : Int32), k4 x2 x3 = some r → Z p l e { frames := 0, cells := 0, slots := 0, locals := 0 } s m args below meth c 0 G 5 (MQ below (QC 0 G (some (.int r)) M) args s 0 0 (AU 0 G)) 4 [(0, .ref (gB G + 130)), (1, .ref (gB G + a1)), (2, .int x2), (3, .int x3)] [] M) : f_X1_cheapest_84 k4 M a1 x2 x3 = some r → Z p l e { frames := 0, cells := 0, slots := 0, locals := 0 } s m args below meth c 0 G 5 (MQ below (QC 0 G (some (.int r)) M) args s 0 0 (AU 0 G)) 84 [(0, .ref (gB G + 130)), (1, .ref (gB G + a1)), (2, .int x2), (3, .int x3)] [] M := by
  intro h
  unfold f_X1_cheapest_84 at h
  refine z_iinc (v := (1 : Int32)) (L' := [(3, .int (x3 + (1 : Int32))), (0, .ref (gB G + 130)), (1, .ref (gB G + a1)), (2, .int x2)]) 3 C d_X1_cheapest_84 rfl (by decide) (by decide) rfl ?_
  refine z_goto C d_X1_cheapest_87 ?_
  exact z_sub [1, 2, 3, 0] rfl (hk4 _ _  h)
set_option maxRecDepth 4000 in
theorem k_X1_cheapest_82 {p : Program} {l : Launch} {e : Env} {s : State} {m : MethodId} {args : Array Value} {below : List Frame} {meth : Method} {c : Code} {G : GG} {k4 : Int32 → Int32 → Option Int32} {M : Mm} {a1 : Nat} {x3 : Int32} {r : Int32} (C : CX p s m args c prog_3_method_3_code 5 "SnowSentries$Crews" 0 G) (hlk : meth.locks = false) (hr : meth.sig.returnType = (some .int)) (ha1 : kU 0 a1 = 4) (hk4 : ∀ (x2 : Int32) (x3 : Int32), k4 x2 x3 = some r → Z p l e { frames := 0, cells := 0, slots := 0, locals := 0 } s m args below meth c 0 G 5 (MQ below (QC 0 G (some (.int r)) M) args s 0 0 (AU 0 G)) 4 [(0, .ref (gB G + 130)), (1, .ref (gB G + a1)), (2, .int x2), (3, .int x3)] [] M) : f_X1_cheapest_82 k4 M a1 x3 = some r → Z p l e { frames := 0, cells := 0, slots := 0, locals := 0 } s m args below meth c 0 G 5 (MQ below (QC 0 G (some (.int r)) M) args s 0 0 (AU 0 G)) 82 [(0, .ref (gB G + 130)), (1, .ref (gB G + a1)), (3, .int x3)] [] M := by
  intro h
  unfold f_X1_cheapest_82 at h
  refine z_iload_n 2 C d_X1_cheapest_82 rfl rfl ?_
  refine z_istore_n (L' := [(2, .int x3), (0, .ref (gB G + 130)), (1, .ref (gB G + a1)), (3, .int x3)]) C d_X1_cheapest_83 rfl (by decide) rfl ?_
  exact z_sub [1, 2, 0, 3] rfl (k_X1_cheapest_84 C hlk hr ha1 hk4 h)
set_option maxRecDepth 4000 in
theorem k_X1_cheapest_45 {p : Program} {l : Launch} {e : Env} {s : State} {m : MethodId} {args : Array Value} {below : List Frame} {meth : Method} {c : Code} {G : GG} {k4 : Int32 → Int32 → Option Int32} {M : Mm} {a1 : Nat} {x2 : Int32} {x3 : Int32} {s_0 : Int32} {r : Int32} (C : CX p s m args c prog_3_method_3_code 5 "SnowSentries$Crews" 0 G) (hlk : meth.locks = false) (hr : meth.sig.returnType = (some .int)) (ha1 : kU 0 a1 = 4) (hk4 : ∀ (x2 : Int32) (x3 : Int32), k4 x2 x3 = some r → Z p l e { frames := 0, cells := 0, slots := 0, locals := 0 } s m args below meth c 0 G 5 (MQ below (QC 0 G (some (.int r)) M) args s 0 0 (AU 0 G)) 4 [(0, .ref (gB G + 130)), (1, .ref (gB G + a1)), (2, .int x2), (3, .int x3)] [] M) : f_X1_cheapest_45 k4 M a1 x2 x3 s_0 = some r → Z p l e { frames := 0, cells := 0, slots := 0, locals := 0 } s m args below meth c 0 G 5 (MQ below (QC 0 G (some (.int r)) M) args s 0 0 (AU 0 G)) 45 [(0, .ref (gB G + 130)), (1, .ref (gB G + a1)), (2, .int x2), (3, .int x3)] [.int s_0] M := by
  intro h
  unfold f_X1_cheapest_45 at h
  refine z_istore (L' := [(4, .int s_0), (0, .ref (gB G + 130)), (1, .ref (gB G + a1)), (2, .int x2), (3, .int x3)]) C d_X1_cheapest_45 (by decide) rfl ?_
  refine z_iload 0 C d_X1_cheapest_47 rfl ?_
  refine z_if_eq C d_X1_cheapest_49 (fun q1 => ?_) (fun q1 => ?_)
  · have h := o_t q1 h
    exact z_sub [1, 2, 3, 4] rfl (k_X1_cheapest_84 C hlk hr ha1 hk4 h)
  · have h := o_f q1 h
    refine z_aload_n 1 C d_X1_cheapest_52 rfl rfl ?_
    refine z_get (k := 2) (v := .int (M.1 130 2)) C ((E_1 kx_130 G) _ _) (kU_in kx_130 (by decide)) rfl inX1 (by decide) wf_X1_22 rfl d_X1_cheapest_53 ?_
    refine z_iload_n 4 C d_X1_cheapest_56 rfl rfl ?_
    refine z_ishr C d_X1_cheapest_57 ?_
    refine z_iconst (v := (1 : Int32)) C d_X1_cheapest_58 (by decide) ?_
    refine z_iand C d_X1_cheapest_59 ?_
    refine z_if_ne C d_X1_cheapest_60 (fun q2 => ?_) (fun q2 => ?_)
    · have h := o_f q2 h
      exact z_sub [1, 2, 3, 4] rfl (k_X1_cheapest_84 C hlk hr ha1 hk4 h)
    · have h := o_t q2 h
      refine z_iload_n 3 C d_X1_cheapest_63 rfl rfl ?_
      refine z_if_lt C d_X1_cheapest_64 (fun q3 => ?_) (fun q3 => ?_)
      · have h := o_t q3 h
        exact z_sub [1, 2, 4] rfl (k_X1_cheapest_82 C hlk hr ha1 hk4 h)
      · have h := o_f q3 h
        refine z_aload_n 1 C d_X1_cheapest_67 rfl rfl ?_
        refine z_get (k := 3) (v := .ref (gB G + 131)) C ((E_1 kx_130 G) _ _) (kU_in kx_130 (by decide)) rfl inX1 (by decide) wf_X1_9 rfl d_X1_cheapest_68 ?_
        refine z_iload_n 4 C d_X1_cheapest_71 rfl rfl ?_
        obtain ⟨q4, h⟩ := o_ck h
        refine z_ald ((E_21 kx_131 G) _ _) C (kU_in kx_131 (by decide)) q4 d_X1_cheapest_72 ?_
        refine z_aload_n 1 C d_X1_cheapest_73 rfl rfl ?_
        refine z_get (k := 3) (v := .ref (gB G + 131)) C ((E_1 kx_130 G) _ _) (kU_in kx_130 (by decide)) rfl inX1 (by decide) wf_X1_9 rfl d_X1_cheapest_74 ?_
        refine z_iload_n 3 C d_X1_cheapest_77 rfl rfl ?_
        obtain ⟨q5, h⟩ := o_ck h
        refine z_ald ((E_21 kx_131 G) _ _) C (kU_in kx_131 (by decide)) q5 d_X1_cheapest_78 ?_
        refine z_icmp_ge C d_X1_cheapest_79 (fun q6 => ?_) (fun q6 => ?_)
        · have h := o_t q6 h
          exact z_sub [1, 2, 3, 4] rfl (k_X1_cheapest_84 C hlk hr ha1 hk4 h)
        · have h := o_f q6 h
          exact z_sub [1, 2, 4] rfl (k_X1_cheapest_82 C hlk hr ha1 hk4 h)
set_option maxRecDepth 4000 in
theorem k_X1_cheapest_44 {p : Program} {l : Launch} {e : Env} {s : State} {m : MethodId} {args : Array Value} {below : List Frame} {meth : Method} {c : Code} {G : GG} {k4 : Int32 → Int32 → Option Int32} {M : Mm} {a1 : Nat} {x2 : Int32} {x3 : Int32} {r : Int32} (C : CX p s m args c prog_3_method_3_code 5 "SnowSentries$Crews" 0 G) (hlk : meth.locks = false) (hr : meth.sig.returnType = (some .int)) (ha1 : kU 0 a1 = 4) (hk4 : ∀ (x2 : Int32) (x3 : Int32), k4 x2 x3 = some r → Z p l e { frames := 0, cells := 0, slots := 0, locals := 0 } s m args below meth c 0 G 5 (MQ below (QC 0 G (some (.int r)) M) args s 0 0 (AU 0 G)) 4 [(0, .ref (gB G + 130)), (1, .ref (gB G + a1)), (2, .int x2), (3, .int x3)] [] M) : f_X1_cheapest_44 k4 M a1 x2 x3 = some r → Z p l e { frames := 0, cells := 0, slots := 0, locals := 0 } s m args below meth c 0 G 5 (MQ below (QC 0 G (some (.int r)) M) args s 0 0 (AU 0 G)) 44 [(0, .ref (gB G + 130)), (1, .ref (gB G + a1)), (2, .int x2), (3, .int x3)] [] M := by
  intro h
  unfold f_X1_cheapest_44 at h
  refine z_iconst (v := (0 : Int32)) C d_X1_cheapest_44 (by decide) ?_
  exact z_sub [0, 1, 2, 3] rfl (k_X1_cheapest_45 C hlk hr ha1 hk4 h)
set_option maxRecDepth 4000 in
theorem kb_X1_cheapest_4 {p : Program} {l : Launch} {e : Env} {s : State} {m : MethodId} {args : Array Value} {below : List Frame} {meth : Method} {c : Code} {G : GG} {k4 : Int32 → Int32 → Option Int32} {M : Mm} {a1 : Nat} {x2 : Int32} {x3 : Int32} {r : Int32} (C : CX p s m args c prog_3_method_3_code 5 "SnowSentries$Crews" 0 G) (hlk : meth.locks = false) (hr : meth.sig.returnType = (some .int)) (ha1 : kU 0 a1 = 4) (hk4 : ∀ (x2 : Int32) (x3 : Int32), k4 x2 x3 = some r → Z p l e { frames := 0, cells := 0, slots := 0, locals := 0 } s m args below meth c 0 G 5 (MQ below (QC 0 G (some (.int r)) M) args s 0 0 (AU 0 G)) 4 [(0, .ref (gB G + 130)), (1, .ref (gB G + a1)), (2, .int x2), (3, .int x3)] [] M) : b_X1_cheapest_4 k4 M a1 x2 x3 = some r → Z p l e { frames := 0, cells := 0, slots := 0, locals := 0 } s m args below meth c 0 G 5 (MQ below (QC 0 G (some (.int r)) M) args s 0 0 (AU 0 G)) 4 [(0, .ref (gB G + 130)), (1, .ref (gB G + a1)), (2, .int x2), (3, .int x3)] [] M := by
  intro h
  unfold b_X1_cheapest_4 at h
  refine z_iload_n 3 C d_X1_cheapest_4 rfl rfl ?_
  refine z_aload_n 1 C d_X1_cheapest_5 rfl rfl ?_
  refine z_get (k := 0) (v := .int (M.1 a1 0)) C ((E_4 ha1 G) _ _) (kU_in ha1 (by decide)) rfl inX4 (by decide) wf_X1_25 rfl d_X1_cheapest_6 ?_
  refine z_icmp_ge C d_X1_cheapest_9 (fun q1 => ?_) (fun q1 => ?_)
  · have h := o_t q1 h
    refine z_iload_n 2 C d_X1_cheapest_90 rfl rfl ?_
    obtain rfl := o_some h
    exact z_iret C hlk hr d_X1_cheapest_91
  · have h := o_f q1 h
    refine z_aload_n 0 C d_X1_cheapest_12 rfl rfl ?_
    refine z_get (k := 3) (v := .ref (gB G + 131)) C ((E_1 kx_130 G) _ _) (kU_in kx_130 (by decide)) rfl inX1 (by decide) wf_X1_9 rfl d_X1_cheapest_13 ?_
    refine z_iload_n 3 C d_X1_cheapest_16 rfl rfl ?_
    obtain ⟨q2, h⟩ := o_ck h
    refine z_ald ((E_21 kx_131 G) _ _) C (kU_in kx_131 (by decide)) q2 d_X1_cheapest_17 ?_
    refine z_iconst (v := (1 : Int32)) C d_X1_cheapest_18 (by decide) ?_
    refine z_icmp_lt C d_X1_cheapest_19 (fun q3 => ?_) (fun q3 => ?_)
    · have h := o_t q3 h
      exact z_sub [0, 1, 2, 3] rfl (k_X1_cheapest_44 C hlk hr ha1 hk4 h)
    · have h := o_f q3 h
      refine z_aload_n 0 C d_X1_cheapest_22 rfl rfl ?_
      refine z_get (k := 3) (v := .ref (gB G + 131)) C ((E_1 kx_130 G) _ _) (kU_in kx_130 (by decide)) rfl inX1 (by decide) wf_X1_9 rfl d_X1_cheapest_23 ?_
      refine z_iload_n 3 C d_X1_cheapest_26 rfl rfl ?_
      refine z_ald ((E_21 kx_131 G) _ _) C (kU_in kx_131 (by decide)) q2 d_X1_cheapest_27 ?_
      refine z_aload_n 1 C d_X1_cheapest_28 rfl rfl ?_
      refine z_get (k := 7) (v := .ref (gB G + (a1 + 5))) C ((E_4 ha1 G) _ _) (kU_in ha1 (by decide)) rfl inX4 (by decide) wf_X1_38 rfl d_X1_cheapest_29 ?_
      refine z_get (k := 2) (v := .ref (gB G + ((a1 + 5) + 2))) C ((E_7 (k_4_7 ha1) G) _ _) (kU_in (k_4_7 ha1) (by decide)) rfl inX7 (by decide) wf_X1_42 rfl d_X1_cheapest_32 ?_
      refine z_iload_n 3 C d_X1_cheapest_35 rfl rfl ?_
      refine z_ald ((E_21 (k_7_2 (k_4_7 ha1)) G) _ _) C (kU_in (k_7_2 (k_4_7 ha1)) (by decide)) q2 d_X1_cheapest_36 ?_
      refine z_icmp_gt C d_X1_cheapest_37 (fun q4 => ?_) (fun q4 => ?_)
      · have h := o_t q4 h
        exact z_sub [0, 1, 2, 3] rfl (k_X1_cheapest_44 C hlk hr ha1 hk4 h)
      · have h := o_f q4 h
        refine z_iconst (v := (1 : Int32)) C d_X1_cheapest_40 (by decide) ?_
        refine z_goto C d_X1_cheapest_41 ?_
        exact z_sub [0, 1, 2, 3] rfl (k_X1_cheapest_45 C hlk hr ha1 hk4 h)
theorem k_X1_cheapest_4 {p : Program} {l : Launch} {e : Env} {s : State} {m : MethodId} {args : Array Value} {below : List Frame} {meth : Method} {c : Code} {G : GG} {M : Mm} {a1 : Nat} {r : Int32} (C : CX p s m args c prog_3_method_3_code 5 "SnowSentries$Crews" 0 G) (hlk : meth.locks = false) (hr : meth.sig.returnType = (some .int)) (ha1 : kU 0 a1 = 4) : ∀ (n : Nat) (x2 : Int32) (x3 : Int32), f_X1_cheapest_4 M a1 n x2 x3 = some r → Z p l e { frames := 0, cells := 0, slots := 0, locals := 0 } s m args below meth c 0 G 5 (MQ below (QC 0 G (some (.int r)) M) args s 0 0 (AU 0 G)) 4 [(0, .ref (gB G + 130)), (1, .ref (gB G + a1)), (2, .int x2), (3, .int x3)] [] M := by
  intro n
  induction n with
  | zero =>
    intro x2 x3  h
    exact absurd h (fun z => by cases z)
  | succ n ih =>
    intro x2 x3  h
    exact kb_X1_cheapest_4 C hlk hr ha1 (fun x2 x3 h => ih x2 x3 h) h
set_option maxRecDepth 4000 in
theorem k_X1_cheapest_0 {p : Program} {l : Launch} {e : Env} {s : State} {m : MethodId} {args : Array Value} {below : List Frame} {meth : Method} {c : Code} {G : GG} {M : Mm} {a1 : Nat} {r : Int32} (C : CX p s m args c prog_3_method_3_code 5 "SnowSentries$Crews" 0 G) (hlk : meth.locks = false) (hr : meth.sig.returnType = (some .int)) (ha1 : kU 0 a1 = 4) : f_X1_cheapest M a1 = some r → Z p l e { frames := 0, cells := 0, slots := 0, locals := 0 } s m args below meth c 0 G 5 (MQ below (QC 0 G (some (.int r)) M) args s 0 0 (AU 0 G)) 0 [(0, .ref (gB G + 130)), (1, .ref (gB G + a1))] [] M := by
  intro h
  unfold f_X1_cheapest at h
  refine z_iconst (v := (-1 : Int32)) C d_X1_cheapest_0 (by decide) ?_
  refine z_istore_n (L' := [(2, .int (-1 : Int32)), (0, .ref (gB G + 130)), (1, .ref (gB G + a1))]) C d_X1_cheapest_1 rfl (by decide) rfl ?_
  refine z_iconst (v := (0 : Int32)) C d_X1_cheapest_2 (by decide) ?_
  refine z_istore_n (L' := [(3, .int (0 : Int32)), (2, .int (-1 : Int32)), (0, .ref (gB G + 130)), (1, .ref (gB G + a1))]) C d_X1_cheapest_3 rfl (by decide) rfl ?_
  exact z_sub [2, 3, 1, 0] rfl (k_X1_cheapest_4 C hlk hr ha1 _ _ _ h)
theorem c_X1_cheapest (l : Launch) (G : GG) {M : Mm} {a1 : Nat} {r : Int32} (ha1 : kU 0 a1 = 4) (h : f_X1_cheapest M a1 = some r) : CT l 0 G y_X1_cheapest prog_3_method_3_code 5 (some .int) 0 0 [.ref (gB G + 130), .ref (gB G + a1)] M (some (.int r)) M :=
  CT.of (by decide +kernel) (Nat.le_of_ble_eq_true rfl) rfl (fun p e s m args below meth c C hlk hr => k_X1_cheapest_0 C hlk hr ha1 h)
-- SnowSentries$Crews.send(LSnowSentries$Land;III)V
set_option maxRecDepth 4000 in
theorem k_X1_send_62 {p : Program} {l : Launch} {e : Env} {s : State} {m : MethodId} {args : Array Value} {below : List Frame} {meth : Method} {c : Code} {G : GG} {k18 : Mm → Int32 → Option Mm} {M : Mm} {a1 : Nat} {x2 : Int32} {x3 : Int32} {x4 : Int32} {x5 : Int32} {M2 : Mm} (C : CX p s m args c prog_3_method_2_code 7 "SnowSentries$Crews" 0 G) (hlk : meth.locks = false) (hr : meth.sig.returnType = none) (ha1 : kU 0 a1 = 4) (hk18 : ∀ (M : Mm) (x5 : Int32), k18 M x5 = some M2 → Z p l e { frames := 5, cells := 0, slots := 0, locals := 117 } s m args below meth c 0 G 7 (MQ below (QC 0 G none M2) args s 0 0 (AU 0 G)) 18 [(0, .ref (gB G + 130)), (1, .ref (gB G + a1)), (2, .int x2), (3, .int x3), (4, .int x4), (5, .int x5)] [] M) : f_X1_send_62 k18 M a1 x2 x3 x4 x5 = some M2 → Z p l e { frames := 5, cells := 0, slots := 0, locals := 117 } s m args below meth c 0 G 7 (MQ below (QC 0 G none M2) args s 0 0 (AU 0 G)) 62 [(0, .ref (gB G + 130)), (1, .ref (gB G + a1)), (2, .int x2), (3, .int x3), (4, .int x4), (5, .int x5)] [] M := by
  intro h
  unfold f_X1_send_62 at h
  refine z_iinc (v := (1 : Int32)) (L' := [(5, .int (x5 + (1 : Int32))), (0, .ref (gB G + 130)), (1, .ref (gB G + a1)), (2, .int x2), (3, .int x3), (4, .int x4)]) 5 C d_X1_send_62 rfl (by decide) (by decide) rfl ?_
  refine z_goto C d_X1_send_65 ?_
  exact z_sub [1, 2, 3, 4, 5, 0] rfl (hk18 _ _  h)
set_option maxRecDepth 4000 in
theorem kb_X1_send_71 {p : Program} {l : Launch} {e : Env} {s : State} {m : MethodId} {args : Array Value} {below : List Frame} {meth : Method} {c : Code} {G : GG} {k71 : Mm → Int32 → Option Mm} {a1 : Nat} {x4 : Int32} {M : Mm} {x5 : Int32} {M2 : Mm} (C : CX p s m args c prog_3_method_2_code 7 "SnowSentries$Crews" 0 G) (hlk : meth.locks = false) (hr : meth.sig.returnType = none) (ha1 : kU 0 a1 = 4) (hk71 : ∀ (M : Mm) (x5 : Int32), k71 M x5 = some M2 → Z p l e { frames := 5, cells := 0, slots := 0, locals := 117 } s m args below meth c 0 G 7 (MQ below (QC 0 G none M2) args s 0 0 (AU 0 G)) 71 [(0, .ref (gB G + 130)), (1, .ref (gB G + a1)), (4, .int x4), (5, .int x5)] [] M) : b_X1_send_71 k71 a1 x4 M x5 = some M2 → Z p l e { frames := 5, cells := 0, slots := 0, locals := 117 } s m args below meth c 0 G 7 (MQ below (QC 0 G none M2) args s 0 0 (AU 0 G)) 71 [(0, .ref (gB G + 130)), (1, .ref (gB G + a1)), (4, .int x4), (5, .int x5)] [] M := by
  intro h
  unfold b_X1_send_71 at h
  refine z_iload 3 C d_X1_send_71 rfl ?_
  refine z_iload 2 C d_X1_send_73 rfl ?_
  refine z_icmp_ge C d_X1_send_75 (fun q1 => ?_) (fun q1 => ?_)
  · have h := o_t q1 h
    obtain rfl := o_some h
    exact z_vret C hlk hr d_X1_send_136
  · have h := o_f q1 h
    refine z_aload_n 0 C d_X1_send_78 rfl rfl ?_
    refine z_aload_n 1 C d_X1_send_79 rfl rfl ?_
    obtain ⟨p3, e2, h⟩ := o_bd h
    refine z_V (S := []) (As := [.ref (gB G + a1)]) C (c_X1_cheapest l G ha1 e2) ((E_1 kx_130 G) _ _) (kU_in kx_130 (by decide)) rfl wc_X1_cheapest wm_X1_34 ws_X1_cheapest wl_X1_cheapest wi_X1 hy_X1_cheapest ⟨Nat.le_of_ble_eq_true rfl, Nat.le_of_ble_eq_true rfl⟩ rfl rfl (Nat.le_of_ble_eq_true rfl) d_X1_send_80 ?_
    refine z_istore (L' := [(6, .int p3), (0, .ref (gB G + 130)), (1, .ref (gB G + a1)), (4, .int x4), (5, .int x5)]) C d_X1_send_83 (by decide) rfl ?_
    refine z_iload 0 C d_X1_send_85 rfl ?_
    refine z_if_ge C d_X1_send_87 (fun q4 => ?_) (fun q4 => ?_)
    · have h := o_t q4 h
      refine z_aload_n 1 C d_X1_send_91 rfl rfl ?_
      refine z_dup C d_X1_send_92 rfl ?_
      refine z_get (k := 0) (v := .int (M.1 130 0)) C ((E_1 kx_130 G) _ _) (kU_in kx_130 (by decide)) rfl inX1 (by decide) wf_X1_15 rfl d_X1_send_93 ?_
      refine z_iconst (v := (1 : Int32)) C d_X1_send_96 (by decide) ?_
      refine z_iadd C d_X1_send_97 ?_
      obtain ⟨M5, e6, h⟩ := o_wr h
      refine z_pI (k := 0) (ty := .int) C (fun r q => (E_1 kx_130 G) r q) (fun _ _ => rfl) (kU_in kx_130 (by decide)) rfl inX1 tyX1 tyX1_ok nmX1 (by decide) wf_X1_15 rfl (by decide +kernel) rfl rfl (Nat.le_of_ble_eq_true rfl) d_X1_send_98 ?_
      refine z_nM e6 ?_
      refine z_aload_n 1 C d_X1_send_101 rfl rfl ?_
      refine z_dup C d_X1_send_102 rfl ?_
      refine z_get (k := 1) (v := .int (M5.1 130 1)) C ((E_1 kx_130 G) _ _) (kU_in kx_130 (by decide)) rfl inX1 (by decide) wf_X1_19 rfl d_X1_send_103 ?_
      refine z_aload_n 1 C d_X1_send_106 rfl rfl ?_
      refine z_get (k := 3) (v := .ref (gB G + 131)) C ((E_1 kx_130 G) _ _) (kU_in kx_130 (by decide)) rfl inX1 (by decide) wf_X1_9 rfl d_X1_send_107 ?_
      refine z_iload 0 C d_X1_send_110 rfl ?_
      obtain ⟨q7, h⟩ := o_ck h
      refine z_ald ((E_21 kx_131 G) _ _) C (kU_in kx_131 (by decide)) q7 d_X1_send_112 ?_
      refine z_iadd C d_X1_send_113 ?_
      obtain ⟨M8, e9, h⟩ := o_wr h
      refine z_pI (k := 1) (ty := .int) C (fun r q => (E_1 kx_130 G) r q) (fun _ _ => rfl) (kU_in kx_130 (by decide)) rfl inX1 tyX1 tyX1_ok nmX1 (by decide) wf_X1_19 rfl (by decide +kernel) rfl rfl (Nat.le_of_ble_eq_true rfl) d_X1_send_114 ?_
      refine z_nM e9 ?_
      refine z_aload_n 1 C d_X1_send_117 rfl rfl ?_
      refine z_dup C d_X1_send_118 rfl ?_
      refine z_get (k := 2) (v := .int (M8.1 130 2)) C ((E_1 kx_130 G) _ _) (kU_in kx_130 (by decide)) rfl inX1 (by decide) wf_X1_22 rfl d_X1_send_119 ?_
      refine z_iconst (v := (1 : Int32)) C d_X1_send_122 (by decide) ?_
      refine z_iload 0 C d_X1_send_123 rfl ?_
      refine z_ishl C d_X1_send_125 ?_
      refine z_ior C d_X1_send_126 ?_
      obtain ⟨M10, e11, h⟩ := o_wr h
      refine z_pI (k := 2) (ty := .int) C (fun r q => (E_1 kx_130 G) r q) (fun _ _ => rfl) (kU_in kx_130 (by decide)) rfl inX1 tyX1 tyX1_ok nmX1 (by decide) wf_X1_22 rfl (by decide +kernel) rfl rfl (Nat.le_of_ble_eq_true rfl) d_X1_send_127 ?_
      refine z_nM e11 ?_
      refine z_iinc (v := (1 : Int32)) (L' := [(5, .int (x5 + (1 : Int32))), (6, .int p3), (0, .ref (gB G + 130)), (1, .ref (gB G + a1)), (4, .int x4)]) 4 C d_X1_send_130 rfl (by decide) (by decide) rfl ?_
      refine z_goto C d_X1_send_133 ?_
      exact z_sub [2, 3, 4, 0] rfl (hk71 _ _  h)
    · have h := o_f q4 h
      obtain rfl := o_some h
      exact z_vret C hlk hr d_X1_send_90
theorem k_X1_send_71 {p : Program} {l : Launch} {e : Env} {s : State} {m : MethodId} {args : Array Value} {below : List Frame} {meth : Method} {c : Code} {G : GG} {a1 : Nat} {x4 : Int32} {M2 : Mm} (C : CX p s m args c prog_3_method_2_code 7 "SnowSentries$Crews" 0 G) (hlk : meth.locks = false) (hr : meth.sig.returnType = none) (ha1 : kU 0 a1 = 4) : ∀ (n : Nat) (M : Mm) (x5 : Int32), f_X1_send_71 a1 x4 n M x5 = some M2 → Z p l e { frames := 5, cells := 0, slots := 0, locals := 117 } s m args below meth c 0 G 7 (MQ below (QC 0 G none M2) args s 0 0 (AU 0 G)) 71 [(0, .ref (gB G + 130)), (1, .ref (gB G + a1)), (4, .int x4), (5, .int x5)] [] M := by
  intro n
  induction n with
  | zero =>
    intro M x5  h
    exact absurd h (fun z => by cases z)
  | succ n ih =>
    intro M x5  h
    exact kb_X1_send_71 C hlk hr ha1 (fun M x5 h => ih M x5 h) h
set_option maxRecDepth 4000 in
theorem k_X1_send_68 {p : Program} {l : Launch} {e : Env} {s : State} {m : MethodId} {args : Array Value} {below : List Frame} {meth : Method} {c : Code} {G : GG} {M : Mm} {a1 : Nat} {x4 : Int32} {M2 : Mm} (C : CX p s m args c prog_3_method_2_code 7 "SnowSentries$Crews" 0 G) (hlk : meth.locks = false) (hr : meth.sig.returnType = none) (ha1 : kU 0 a1 = 4) : f_X1_send_68 M a1 x4 = some M2 → Z p l e { frames := 5, cells := 0, slots := 0, locals := 117 } s m args below meth c 0 G 7 (MQ below (QC 0 G none M2) args s 0 0 (AU 0 G)) 68 [(0, .ref (gB G + 130)), (1, .ref (gB G + a1)), (4, .int x4)] [] M := by
  intro h
  unfold f_X1_send_68 at h
  refine z_iconst (v := (0 : Int32)) C d_X1_send_68 (by decide) ?_
  refine z_istore (L' := [(5, .int (0 : Int32)), (0, .ref (gB G + 130)), (1, .ref (gB G + a1)), (4, .int x4)]) C d_X1_send_69 (by decide) rfl ?_
  exact z_sub [1, 2, 3, 0] rfl (k_X1_send_71 C hlk hr ha1 _ _ _ h)
set_option maxRecDepth 4000 in
theorem kb_X1_send_18 {p : Program} {l : Launch} {e : Env} {s : State} {m : MethodId} {args : Array Value} {below : List Frame} {meth : Method} {c : Code} {G : GG} {k18 : Mm → Int32 → Option Mm} {a1 : Nat} {x2 : Int32} {x3 : Int32} {x4 : Int32} {M : Mm} {x5 : Int32} {M2 : Mm} (C : CX p s m args c prog_3_method_2_code 7 "SnowSentries$Crews" 0 G) (hlk : meth.locks = false) (hr : meth.sig.returnType = none) (ha1 : kU 0 a1 = 4) (hk18 : ∀ (M : Mm) (x5 : Int32), k18 M x5 = some M2 → Z p l e { frames := 5, cells := 0, slots := 0, locals := 117 } s m args below meth c 0 G 7 (MQ below (QC 0 G none M2) args s 0 0 (AU 0 G)) 18 [(0, .ref (gB G + 130)), (1, .ref (gB G + a1)), (2, .int x2), (3, .int x3), (4, .int x4), (5, .int x5)] [] M) : b_X1_send_18 k18 a1 x2 x3 x4 M x5 = some M2 → Z p l e { frames := 5, cells := 0, slots := 0, locals := 117 } s m args below meth c 0 G 7 (MQ below (QC 0 G none M2) args s 0 0 (AU 0 G)) 18 [(0, .ref (gB G + 130)), (1, .ref (gB G + a1)), (2, .int x2), (3, .int x3), (4, .int x4), (5, .int x5)] [] M := by
  intro h
  unfold b_X1_send_18 at h
  refine z_iload 5 C d_X1_send_18 rfl ?_
  refine z_aload_n 1 C d_X1_send_20 rfl rfl ?_
  refine z_get (k := 0) (v := .int (M.1 a1 0)) C ((E_4 ha1 G) _ _) (kU_in ha1 (by decide)) rfl inX4 (by decide) wf_X1_25 rfl d_X1_send_21 ?_
  refine z_icmp_ge C d_X1_send_24 (fun q1 => ?_) (fun q1 => ?_)
  · have h := o_t q1 h
    exact z_sub [0, 1, 4] rfl (k_X1_send_68 C hlk hr ha1 h)
  · have h := o_f q1 h
    refine z_aload_n 0 C d_X1_send_27 rfl rfl ?_
    refine z_get (k := 3) (v := .ref (gB G + 131)) C ((E_1 kx_130 G) _ _) (kU_in kx_130 (by decide)) rfl inX1 (by decide) wf_X1_9 rfl d_X1_send_28 ?_
    refine z_iload 5 C d_X1_send_31 rfl ?_
    refine z_aload_n 1 C d_X1_send_33 rfl rfl ?_
    refine z_iload_n 2 C d_X1_send_34 rfl rfl ?_
    refine z_iload 5 C d_X1_send_35 rfl ?_
    refine z_iload_n 3 C d_X1_send_37 rfl rfl ?_
    obtain ⟨p3, e2, h⟩ := o_bd h
    refine z_V (S := [.int x5, .ref (gB G + 131)]) (As := [.int x2, .int x5, .int x3]) C (c_X4_needOf l G ha1 e2) ((E_4 ha1 G) _ _) (kU_in ha1 (by decide)) rfl wc_X4_needOf wm_X1_30 ws_X4_needOf wl_X4_needOf wi_X4 hy_X4_needOf ⟨Nat.le_of_ble_eq_true rfl, Nat.le_of_ble_eq_true rfl⟩ rfl rfl (Nat.le_of_ble_eq_true rfl) d_X1_send_38 ?_
    obtain ⟨q6, h⟩ := o_ck h
    obtain ⟨M4, e5, h⟩ := o_wr h
    refine z_ast (fun r q => (E_21 kx_131 G) r q) C (kU_in kx_131 (by decide)) q6 d_X1_send_41 ?_
    refine z_nM e5 ?_
    refine z_aload_n 0 C d_X1_send_42 rfl rfl ?_
    refine z_get (k := 3) (v := .ref (gB G + 131)) C ((E_1 kx_130 G) _ _) (kU_in kx_130 (by decide)) rfl inX1 (by decide) wf_X1_9 rfl d_X1_send_43 ?_
    refine z_iload 5 C d_X1_send_46 rfl ?_
    refine z_ald ((E_21 kx_131 G) _ _) C (kU_in kx_131 (by decide)) q6 d_X1_send_48 ?_
    refine z_if_ne C d_X1_send_49 (fun q7 => ?_) (fun q7 => ?_)
    · have h := o_f q7 h
      exact z_sub [0, 1, 2, 3, 4, 5] rfl (k_X1_send_62 C hlk hr ha1 hk18 h)
    · have h := o_t q7 h
      refine z_aload_n 0 C d_X1_send_52 rfl rfl ?_
      refine z_dup C d_X1_send_53 rfl ?_
      refine z_get (k := 0) (v := .int (M4.1 130 0)) C ((E_1 kx_130 G) _ _) (kU_in kx_130 (by decide)) rfl inX1 (by decide) wf_X1_15 rfl d_X1_send_54 ?_
      refine z_iconst (v := (1 : Int32)) C d_X1_send_57 (by decide) ?_
      refine z_iadd C d_X1_send_58 ?_
      obtain ⟨M8, e9, h⟩ := o_wr h
      refine z_pI (k := 0) (ty := .int) C (fun r q => (E_1 kx_130 G) r q) (fun _ _ => rfl) (kU_in kx_130 (by decide)) rfl inX1 tyX1 tyX1_ok nmX1 (by decide) wf_X1_15 rfl (by decide +kernel) rfl rfl (Nat.le_of_ble_eq_true rfl) d_X1_send_59 ?_
      refine z_nM e9 ?_
      exact z_sub [0, 1, 2, 3, 4, 5] rfl (k_X1_send_62 C hlk hr ha1 hk18 h)
theorem k_X1_send_18 {p : Program} {l : Launch} {e : Env} {s : State} {m : MethodId} {args : Array Value} {below : List Frame} {meth : Method} {c : Code} {G : GG} {a1 : Nat} {x2 : Int32} {x3 : Int32} {x4 : Int32} {M2 : Mm} (C : CX p s m args c prog_3_method_2_code 7 "SnowSentries$Crews" 0 G) (hlk : meth.locks = false) (hr : meth.sig.returnType = none) (ha1 : kU 0 a1 = 4) : ∀ (n : Nat) (M : Mm) (x5 : Int32), f_X1_send_18 a1 x2 x3 x4 n M x5 = some M2 → Z p l e { frames := 5, cells := 0, slots := 0, locals := 117 } s m args below meth c 0 G 7 (MQ below (QC 0 G none M2) args s 0 0 (AU 0 G)) 18 [(0, .ref (gB G + 130)), (1, .ref (gB G + a1)), (2, .int x2), (3, .int x3), (4, .int x4), (5, .int x5)] [] M := by
  intro n
  induction n with
  | zero =>
    intro M x5  h
    exact absurd h (fun z => by cases z)
  | succ n ih =>
    intro M x5  h
    exact kb_X1_send_18 C hlk hr ha1 (fun M x5 h => ih M x5 h) h
set_option maxRecDepth 4000 in
theorem k_X1_send_0 {p : Program} {l : Launch} {e : Env} {s : State} {m : MethodId} {args : Array Value} {below : List Frame} {meth : Method} {c : Code} {G : GG} {M : Mm} {a1 : Nat} {x2 : Int32} {x3 : Int32} {x4 : Int32} {M2 : Mm} (C : CX p s m args c prog_3_method_2_code 7 "SnowSentries$Crews" 0 G) (hlk : meth.locks = false) (hr : meth.sig.returnType = none) (ha1 : kU 0 a1 = 4) : f_X1_send M a1 x2 x3 x4 = some M2 → Z p l e { frames := 5, cells := 0, slots := 0, locals := 117 } s m args below meth c 0 G 7 (MQ below (QC 0 G none M2) args s 0 0 (AU 0 G)) 0 [(0, .ref (gB G + 130)), (1, .ref (gB G + a1)), (2, .int x2), (3, .int x3), (4, .int x4)] [] M := by
  intro h
  unfold f_X1_send at h
  refine z_aload_n 0 C d_X1_send_0 rfl rfl ?_
  refine z_iconst (v := (0 : Int32)) C d_X1_send_1 (by decide) ?_
  obtain ⟨M1, e2, h⟩ := o_wr h
  refine z_pI (k := 0) (ty := .int) C (fun r q => (E_1 kx_130 G) r q) (fun _ _ => rfl) (kU_in kx_130 (by decide)) rfl inX1 tyX1 tyX1_ok nmX1 (by decide) wf_X1_15 rfl (by decide +kernel) rfl rfl (Nat.le_of_ble_eq_true rfl) d_X1_send_2 ?_
  refine z_nM e2 ?_
  refine z_aload_n 0 C d_X1_send_5 rfl rfl ?_
  refine z_iconst (v := (0 : Int32)) C d_X1_send_6 (by decide) ?_
  obtain ⟨M3, e4, h⟩ := o_wr h
  refine z_pI (k := 1) (ty := .int) C (fun r q => (E_1 kx_130 G) r q) (fun _ _ => rfl) (kU_in kx_130 (by decide)) rfl inX1 tyX1 tyX1_ok nmX1 (by decide) wf_X1_19 rfl (by decide +kernel) rfl rfl (Nat.le_of_ble_eq_true rfl) d_X1_send_7 ?_
  refine z_nM e4 ?_
  refine z_aload_n 0 C d_X1_send_10 rfl rfl ?_
  refine z_iconst (v := (0 : Int32)) C d_X1_send_11 (by decide) ?_
  obtain ⟨M5, e6, h⟩ := o_wr h
  refine z_pI (k := 2) (ty := .int) C (fun r q => (E_1 kx_130 G) r q) (fun _ _ => rfl) (kU_in kx_130 (by decide)) rfl inX1 tyX1 tyX1_ok nmX1 (by decide) wf_X1_22 rfl (by decide +kernel) rfl rfl (Nat.le_of_ble_eq_true rfl) d_X1_send_12 ?_
  refine z_nM e6 ?_
  refine z_iconst (v := (0 : Int32)) C d_X1_send_15 (by decide) ?_
  refine z_istore (L' := [(5, .int (0 : Int32)), (0, .ref (gB G + 130)), (1, .ref (gB G + a1)), (2, .int x2), (3, .int x3), (4, .int x4)]) C d_X1_send_16 (by decide) rfl ?_
  exact z_sub [1, 2, 3, 4, 5, 0] rfl (k_X1_send_18 C hlk hr ha1 _ _ _ h)
theorem c_X1_send (l : Launch) (G : GG) {M : Mm} {a1 : Nat} {x2 : Int32} {x3 : Int32} {x4 : Int32} {M2 : Mm} (ha1 : kU 0 a1 = 4) (h : f_X1_send M a1 x2 x3 x4 = some M2) : CT l 0 G y_X1_send prog_3_method_2_code 7 none 5 117 [.ref (gB G + 130), .ref (gB G + a1), .int x2, .int x3, .int x4] M none M2 :=
  CT.of (by decide +kernel) (Nat.le_of_ble_eq_true rfl) rfl (fun p e s m args below meth c C hlk hr => k_X1_send_0 C hlk hr ha1 h)
-- SnowSentries$Felt.put(I)V
set_option maxRecDepth 4000 in
theorem k_X2_put_29 {p : Program} {l : Launch} {e : Env} {s : State} {m : MethodId} {args : Array Value} {below : List Frame} {meth : Method} {c : Code} {G : GG} {M : Mm} {M2 : Mm} (C : CX p s m args c prog_4_method_2_code 2 "SnowSentries$Felt" 0 G) (hlk : meth.locks = false) (hr : meth.sig.returnType = none) : f_X2_put_29 M = some M2 → Z p l e { frames := 0, cells := 0, slots := 0, locals := 0 } s m args below meth c 0 G 2 (MQ below (QC 0 G none M2) args s 0 0 (AU 0 G)) 29 [] [] M := by
  intro h
  unfold f_X2_put_29 at h
  obtain rfl := o_some h
  exact z_vret C hlk hr d_X2_put_29
set_option maxRecDepth 4000 in
theorem k_X2_put_0 {p : Program} {l : Launch} {e : Env} {s : State} {m : MethodId} {args : Array Value} {below : List Frame} {meth : Method} {c : Code} {G : GG} {M : Mm} {x1 : Int32} {M2 : Mm} (C : CX p s m args c prog_4_method_2_code 2 "SnowSentries$Felt" 0 G) (hlk : meth.locks = false) (hr : meth.sig.returnType = none) : f_X2_put M x1 = some M2 → Z p l e { frames := 0, cells := 0, slots := 0, locals := 0 } s m args below meth c 0 G 2 (MQ below (QC 0 G none M2) args s 0 0 (AU 0 G)) 0 [(0, .ref (gB G + 98)), (1, .int x1)] [] M := by
  intro h
  unfold f_X2_put at h
  refine z_aload_n 0 C d_X2_put_0 rfl rfl ?_
  refine z_get (k := 0) (v := .int (M.1 98 0)) C ((E_2 kx_98 G) _ _) (kU_in kx_98 (by decide)) rfl inX2 (by decide) wf_X2_15 rfl d_X2_put_1 ?_
  refine z_bipush (v := (10 : Int32)) C d_X2_put_4 (by decide) ?_
  refine z_icmp_ge C d_X2_put_6 (fun q1 => ?_) (fun q1 => ?_)
  · have h := o_t q1 h
    exact z_sub [] rfl (k_X2_put_29 C hlk hr h)
  · have h := o_f q1 h
    refine z_aload_n 0 C d_X2_put_9 rfl rfl ?_
    refine z_get (k := 6) (v := .ref (gB G + 99)) C ((E_2 kx_98 G) _ _) (kU_in kx_98 (by decide)) rfl inX2 (by decide) wf_X2_9 rfl d_X2_put_10 ?_
    refine z_aload_n 0 C d_X2_put_13 rfl rfl ?_
    refine z_get (k := 0) (v := .int (M.1 98 0)) C ((E_2 kx_98 G) _ _) (kU_in kx_98 (by decide)) rfl inX2 (by decide) wf_X2_15 rfl d_X2_put_14 ?_
    refine z_iload_n 1 C d_X2_put_17 rfl rfl ?_
    obtain ⟨q4, h⟩ := o_ck h
    obtain ⟨M2, e3, h⟩ := o_wr h
    refine z_ast (fun r q => (E_21 kx_99 G) r q) C (kU_in kx_99 (by decide)) q4 d_X2_put_18 ?_
    refine z_nM e3 ?_
    refine z_aload_n 0 C d_X2_put_19 rfl rfl ?_
    refine z_dup C d_X2_put_20 rfl ?_
    refine z_get (k := 0) (v := .int (M2.1 98 0)) C ((E_2 kx_98 G) _ _) (kU_in kx_98 (by decide)) rfl inX2 (by decide) wf_X2_15 rfl d_X2_put_21 ?_
    refine z_iconst (v := (1 : Int32)) C d_X2_put_24 (by decide) ?_
    refine z_iadd C d_X2_put_25 ?_
    obtain ⟨M5, e6, h⟩ := o_wr h
    refine z_pI (k := 0) (ty := .int) C (fun r q => (E_2 kx_98 G) r q) (fun _ _ => rfl) (kU_in kx_98 (by decide)) rfl inX2 tyX2 tyX2_ok nmX2 (by decide) wf_X2_15 rfl (by decide +kernel) rfl rfl (Nat.le_of_ble_eq_true rfl) d_X2_put_26 ?_
    refine z_nM e6 ?_
    exact z_sub [] rfl (k_X2_put_29 C hlk hr h)
theorem c_X2_put (l : Launch) (G : GG) {M : Mm} {x1 : Int32} {M2 : Mm} (h : f_X2_put M x1 = some M2) : CT l 0 G y_X2_put prog_4_method_2_code 2 none 0 0 [.ref (gB G + 98), .int x1] M none M2 :=
  CT.of (by decide +kernel) (Nat.le_of_ble_eq_true rfl) rfl (fun p e s m args below meth c C hlk hr => k_X2_put_0 C hlk hr h)
-- SnowSentries$Felt.isFeltBy(IIII)Z
set_option maxRecDepth 4000 in
theorem kb_X2_isFeltBy_3 {p : Program} {l : Launch} {e : Env} {s : State} {m : MethodId} {args : Array Value} {below : List Frame} {meth : Method} {c : Code} {G : GG} {k3 : Int32 → Option Int32} {M : Mm} {x1 : Int32} {x2 : Int32} {x3 : Int32} {x4 : Int32} {x5 : Int32} {r : Int32} (C : CX p s m args c prog_4_method_6_code 6 "SnowSentries$Felt" 0 G) (hlk : meth.locks = false) (hr : meth.sig.returnType = (some .boolean)) (hk3 : ∀ (x5 : Int32), k3 x5 = some r → Z p l e { frames := 2, cells := 0, slots := 0, locals := 43 } s m args below meth c 0 G 6 (MQ below (QC 0 G (some (.int r)) M) args s 0 0 (AU 0 G)) 3 [(0, .ref (gB G + 98)), (1, .int x1), (2, .int x2), (3, .int x3), (4, .int x4), (5, .int x5)] [] M) : b_X2_isFeltBy_3 k3 M x1 x2 x3 x4 x5 = some r → Z p l e { frames := 2, cells := 0, slots := 0, locals := 43 } s m args below meth c 0 G 6 (MQ below (QC 0 G (some (.int r)) M) args s 0 0 (AU 0 G)) 3 [(0, .ref (gB G + 98)), (1, .int x1), (2, .int x2), (3, .int x3), (4, .int x4), (5, .int x5)] [] M := by
  intro h
  unfold b_X2_isFeltBy_3 at h
  refine z_iload 5 C d_X2_isFeltBy_3 rfl ?_
  refine z_aload_n 0 C d_X2_isFeltBy_5 rfl rfl ?_
  refine z_get (k := 0) (v := .int (M.1 98 0)) C ((E_2 kx_98 G) _ _) (kU_in kx_98 (by decide)) rfl inX2 (by decide) wf_X2_15 rfl d_X2_isFeltBy_6 ?_
  refine z_icmp_ge C d_X2_isFeltBy_9 (fun q1 => ?_) (fun q1 => ?_)
  · have h := o_t q1 h
    refine z_iconst (v := (1 : Int32)) C d_X2_isFeltBy_46 (by decide) ?_
    obtain rfl := o_some h
    exact z_zret C hlk hr (by decide) d_X2_isFeltBy_47
  · have h := o_f q1 h
    refine z_iload_n 2 C d_X2_isFeltBy_12 rfl rfl ?_
    refine z_iload_n 1 C d_X2_isFeltBy_13 rfl rfl ?_
    refine z_iload 5 C d_X2_isFeltBy_14 rfl ?_
    obtain ⟨p3, e2, h⟩ := o_bd h
    refine z_S (S := []) (As := [.int x2, .int x1, .int x5]) C (c_X0_reach l G (M := M) e2) wc_X0_reach wm_X2_34 ws_X0_reach wi_X0 hy_X0_reach ⟨Nat.le_of_ble_eq_true rfl, Nat.le_of_ble_eq_true rfl⟩ rfl rfl (Nat.le_of_ble_eq_true rfl) d_X2_isFeltBy_16 ?_
    refine z_iload 4 C d_X2_isFeltBy_19 rfl ?_
    refine z_iload_n 3 C d_X2_isFeltBy_21 rfl rfl ?_
    refine z_iload 5 C d_X2_isFeltBy_22 rfl ?_
    obtain ⟨p5, e4, h⟩ := o_bd h
    refine z_S (S := [.int p3]) (As := [.int x4, .int x3, .int x5]) C (c_X0_reach l G (M := M) e4) wc_X0_reach wm_X2_34 ws_X0_reach wi_X0 hy_X0_reach ⟨Nat.le_of_ble_eq_true rfl, Nat.le_of_ble_eq_true rfl⟩ rfl rfl (Nat.le_of_ble_eq_true rfl) d_X2_isFeltBy_24 ?_
    refine z_iadd C d_X2_isFeltBy_27 ?_
    refine z_aload_n 0 C d_X2_isFeltBy_28 rfl rfl ?_
    refine z_get (k := 6) (v := .ref (gB G + 99)) C ((E_2 kx_98 G) _ _) (kU_in kx_98 (by decide)) rfl inX2 (by decide) wf_X2_9 rfl d_X2_isFeltBy_29 ?_
    refine z_iload 5 C d_X2_isFeltBy_32 rfl ?_
    obtain ⟨q6, h⟩ := o_ck h
    refine z_ald ((E_21 kx_99 G) _ _) C (kU_in kx_99 (by decide)) q6 d_X2_isFeltBy_34 ?_
    refine z_icmp_eq C d_X2_isFeltBy_35 (fun q7 => ?_) (fun q7 => ?_)
    · have h := o_t q7 h
      refine z_iinc (v := (1 : Int32)) (L' := [(5, .int (x5 + (1 : Int32))), (0, .ref (gB G + 98)), (1, .int x1), (2, .int x2), (3, .int x3), (4, .int x4)]) 5 C d_X2_isFeltBy_40 rfl (by decide) (by decide) rfl ?_
      refine z_goto C d_X2_isFeltBy_43 ?_
      exact z_sub [1, 2, 3, 4, 5, 0] rfl (hk3 _  h)
    · have h := o_f q7 h
      refine z_iconst (v := (0 : Int32)) C d_X2_isFeltBy_38 (by decide) ?_
      obtain rfl := o_some h
      exact z_zret C hlk hr (by decide) d_X2_isFeltBy_39
theorem k_X2_isFeltBy_3 {p : Program} {l : Launch} {e : Env} {s : State} {m : MethodId} {args : Array Value} {below : List Frame} {meth : Method} {c : Code} {G : GG} {M : Mm} {x1 : Int32} {x2 : Int32} {x3 : Int32} {x4 : Int32} {r : Int32} (C : CX p s m args c prog_4_method_6_code 6 "SnowSentries$Felt" 0 G) (hlk : meth.locks = false) (hr : meth.sig.returnType = (some .boolean)) : ∀ (n : Nat) (x5 : Int32), f_X2_isFeltBy_3 M x1 x2 x3 x4 n x5 = some r → Z p l e { frames := 2, cells := 0, slots := 0, locals := 43 } s m args below meth c 0 G 6 (MQ below (QC 0 G (some (.int r)) M) args s 0 0 (AU 0 G)) 3 [(0, .ref (gB G + 98)), (1, .int x1), (2, .int x2), (3, .int x3), (4, .int x4), (5, .int x5)] [] M := by
  intro n
  induction n with
  | zero =>
    intro x5  h
    exact absurd h (fun z => by cases z)
  | succ n ih =>
    intro x5  h
    exact kb_X2_isFeltBy_3 C hlk hr  (fun x5 h => ih x5 h) h
set_option maxRecDepth 4000 in
theorem k_X2_isFeltBy_0 {p : Program} {l : Launch} {e : Env} {s : State} {m : MethodId} {args : Array Value} {below : List Frame} {meth : Method} {c : Code} {G : GG} {M : Mm} {x1 : Int32} {x2 : Int32} {x3 : Int32} {x4 : Int32} {r : Int32} (C : CX p s m args c prog_4_method_6_code 6 "SnowSentries$Felt" 0 G) (hlk : meth.locks = false) (hr : meth.sig.returnType = (some .boolean)) : f_X2_isFeltBy M x1 x2 x3 x4 = some r → Z p l e { frames := 2, cells := 0, slots := 0, locals := 43 } s m args below meth c 0 G 6 (MQ below (QC 0 G (some (.int r)) M) args s 0 0 (AU 0 G)) 0 [(0, .ref (gB G + 98)), (1, .int x1), (2, .int x2), (3, .int x3), (4, .int x4)] [] M := by
  intro h
  unfold f_X2_isFeltBy at h
  refine z_iconst (v := (0 : Int32)) C d_X2_isFeltBy_0 (by decide) ?_
  refine z_istore (L' := [(5, .int (0 : Int32)), (0, .ref (gB G + 98)), (1, .int x1), (2, .int x2), (3, .int x3), (4, .int x4)]) C d_X2_isFeltBy_1 (by decide) rfl ?_
  exact z_sub [1, 2, 3, 4, 5, 0] rfl (k_X2_isFeltBy_3 C hlk hr _ _ h)
theorem c_X2_isFeltBy (l : Launch) (G : GG) {M : Mm} {x1 : Int32} {x2 : Int32} {x3 : Int32} {x4 : Int32} {r : Int32} (h : f_X2_isFeltBy M x1 x2 x3 x4 = some r) : CT l 0 G y_X2_isFeltBy prog_4_method_6_code 6 (some .boolean) 2 43 [.ref (gB G + 98), .int x1, .int x2, .int x3, .int x4] M (some (.int r)) M :=
  CT.of (by decide +kernel) (Nat.le_of_ble_eq_true rfl) rfl (fun p e s m args below meth c C hlk hr => k_X2_isFeltBy_0 C hlk hr h)
-- SnowSentries$Felt.note(IIII)V
set_option maxRecDepth 4000 in
theorem k_X2_note_28 {p : Program} {l : Launch} {e : Env} {s : State} {m : MethodId} {args : Array Value} {below : List Frame} {meth : Method} {c : Code} {G : GG} {M : Mm} {M2 : Mm} (C : CX p s m args c prog_4_method_7_code 5 "SnowSentries$Felt" 0 G) (hlk : meth.locks = false) (hr : meth.sig.returnType = none) : f_X2_note_28 M = some M2 → Z p l e { frames := 0, cells := 0, slots := 0, locals := 0 } s m args below meth c 0 G 5 (MQ below (QC 0 G none M2) args s 0 0 (AU 0 G)) 28 [(0, .ref (gB G + 98))] [] M := by
  intro h
  unfold f_X2_note_28 at h
  refine z_aload_n 0 C d_X2_note_28 rfl rfl ?_
  refine z_dup C d_X2_note_29 rfl ?_
  refine z_get (k := 1) (v := .int (M.1 98 1)) C ((E_2 kx_98 G) _ _) (kU_in kx_98 (by decide)) rfl inX2 (by decide) wf_X2_19 rfl d_X2_note_30 ?_
  refine z_iconst (v := (1 : Int32)) C d_X2_note_33 (by decide) ?_
  refine z_iadd C d_X2_note_34 ?_
  obtain ⟨M1, e2, h⟩ := o_wr h
  refine z_pI (k := 1) (ty := .int) C (fun r q => (E_2 kx_98 G) r q) (fun _ _ => rfl) (kU_in kx_98 (by decide)) rfl inX2 tyX2 tyX2_ok nmX2 (by decide) wf_X2_19 rfl (by decide +kernel) rfl rfl (Nat.le_of_ble_eq_true rfl) d_X2_note_35 ?_
  refine z_nM e2 ?_
  obtain rfl := o_some h
  exact z_vret C hlk hr d_X2_note_38
set_option maxRecDepth 4000 in
theorem k_X2_note_0 {p : Program} {l : Launch} {e : Env} {s : State} {m : MethodId} {args : Array Value} {below : List Frame} {meth : Method} {c : Code} {G : GG} {M : Mm} {x1 : Int32} {x2 : Int32} {x3 : Int32} {x4 : Int32} {M2 : Mm} (C : CX p s m args c prog_4_method_7_code 5 "SnowSentries$Felt" 0 G) (hlk : meth.locks = false) (hr : meth.sig.returnType = none) : f_X2_note M x1 x2 x3 x4 = some M2 → Z p l e { frames := 0, cells := 0, slots := 0, locals := 0 } s m args below meth c 0 G 5 (MQ below (QC 0 G none M2) args s 0 0 (AU 0 G)) 0 [(0, .ref (gB G + 98)), (1, .int x1), (2, .int x2), (3, .int x3), (4, .int x4)] [] M := by
  intro h
  unfold f_X2_note at h
  refine z_aload_n 0 C d_X2_note_0 rfl rfl ?_
  refine z_get (k := 1) (v := .int (M.1 98 1)) C ((E_2 kx_98 G) _ _) (kU_in kx_98 (by decide)) rfl inX2 (by decide) wf_X2_19 rfl d_X2_note_1 ?_
  refine z_if_ne C d_X2_note_4 (fun q1 => ?_) (fun q1 => ?_)
  · have h := o_f q1 h
    exact z_sub [0] rfl (k_X2_note_28 C hlk hr h)
  · have h := o_t q1 h
    refine z_aload_n 0 C d_X2_note_7 rfl rfl ?_
    refine z_iload_n 1 C d_X2_note_8 rfl rfl ?_
    obtain ⟨M2, e3, h⟩ := o_wr h
    refine z_pI (k := 2) (ty := .int) C (fun r q => (E_2 kx_98 G) r q) (fun _ _ => rfl) (kU_in kx_98 (by decide)) rfl inX2 tyX2 tyX2_ok nmX2 (by decide) wf_X2_40 rfl (by decide +kernel) rfl rfl (Nat.le_of_ble_eq_true rfl) d_X2_note_9 ?_
    refine z_nM e3 ?_
    refine z_aload_n 0 C d_X2_note_12 rfl rfl ?_
    refine z_iload_n 2 C d_X2_note_13 rfl rfl ?_
    obtain ⟨M4, e5, h⟩ := o_wr h
    refine z_pI (k := 4) (ty := .int) C (fun r q => (E_2 kx_98 G) r q) (fun _ _ => rfl) (kU_in kx_98 (by decide)) rfl inX2 tyX2 tyX2_ok nmX2 (by decide) wf_X2_43 rfl (by decide +kernel) rfl rfl (Nat.le_of_ble_eq_true rfl) d_X2_note_14 ?_
    refine z_nM e5 ?_
    refine z_aload_n 0 C d_X2_note_17 rfl rfl ?_
    refine z_iload_n 3 C d_X2_note_18 rfl rfl ?_
    obtain ⟨M6, e7, h⟩ := o_wr h
    refine z_pI (k := 3) (ty := .int) C (fun r q => (E_2 kx_98 G) r q) (fun _ _ => rfl) (kU_in kx_98 (by decide)) rfl inX2 tyX2 tyX2_ok nmX2 (by decide) wf_X2_46 rfl (by decide +kernel) rfl rfl (Nat.le_of_ble_eq_true rfl) d_X2_note_19 ?_
    refine z_nM e7 ?_
    refine z_aload_n 0 C d_X2_note_22 rfl rfl ?_
    refine z_iload 4 C d_X2_note_23 rfl ?_
    obtain ⟨M8, e9, h⟩ := o_wr h
    refine z_pI (k := 5) (ty := .int) C (fun r q => (E_2 kx_98 G) r q) (fun _ _ => rfl) (kU_in kx_98 (by decide)) rfl inX2 tyX2 tyX2_ok nmX2 (by decide) wf_X2_49 rfl (by decide +kernel) rfl rfl (Nat.le_of_ble_eq_true rfl) d_X2_note_25 ?_
    refine z_nM e9 ?_
    exact z_sub [0] rfl (k_X2_note_28 C hlk hr h)
theorem c_X2_note (l : Launch) (G : GG) {M : Mm} {x1 : Int32} {x2 : Int32} {x3 : Int32} {x4 : Int32} {M2 : Mm} (h : f_X2_note M x1 x2 x3 x4 = some M2) : CT l 0 G y_X2_note prog_4_method_7_code 5 none 0 0 [.ref (gB G + 98), .int x1, .int x2, .int x3, .int x4] M none M2 :=
  CT.of (by decide +kernel) (Nat.le_of_ble_eq_true rfl) rfl (fun p e s m args below meth c C hlk hr => k_X2_note_0 C hlk hr h)
-- SnowSentries$Felt.seekOne(I)V
set_option maxRecDepth 4000 in
theorem k_X2_seekOne_39 {p : Program} {l : Launch} {e : Env} {s : State} {m : MethodId} {args : Array Value} {below : List Frame} {meth : Method} {c : Code} {G : GG} {k7 : Mm → Int32 → Option Mm} {k14 : Mm → Int32 → Option Mm} {M : Mm} {x1 : Int32} {x2 : Int32} {x3 : Int32} {M2 : Mm} (C : CX p s m args c prog_4_method_3_code 4 "SnowSentries$Felt" 0 G) (hlk : meth.locks = false) (hr : meth.sig.returnType = none) (hk7 : ∀ (M : Mm) (x2 : Int32), k7 M x2 = some M2 → Z p l e { frames := 3, cells := 0, slots := 0, locals := 68 } s m args below meth c 0 G 4 (MQ below (QC 0 G none M2) args s 0 0 (AU 0 G)) 7 [(0, .ref (gB G + 98)), (1, .int x1), (2, .int x2)] [] M) (hk14 : ∀ (M : Mm) (x3 : Int32), k14 M x3 = some M2 → Z p l e { frames := 3, cells := 0, slots := 0, locals := 68 } s m args below meth c 0 G 4 (MQ below (QC 0 G none M2) args s 0 0 (AU 0 G)) 14 [(0, .ref (gB G + 98)), (1, .int x1), (2, .int x2), (3, .int x3)] [] M) : f_X2_seekOne_39 k7 k14 M x1 x2 x3 = some M2 → Z p l e { frames := 3, cells := 0, slots := 0, locals := 68 } s m args below meth c 0 G 4 (MQ below (QC 0 G none M2) args s 0 0 (AU 0 G)) 39 [(0, .ref (gB G + 98)), (1, .int x1), (2, .int x2), (3, .int x3)] [] M := by
  intro h
  unfold f_X2_seekOne_39 at h
  refine z_iinc (v := (1 : Int32)) (L' := [(3, .int (x3 + (1 : Int32))), (0, .ref (gB G + 98)), (1, .int x1), (2, .int x2)]) 3 C d_X2_seekOne_39 rfl (by decide) (by decide) rfl ?_
  refine z_goto C d_X2_seekOne_42 ?_
  exact z_sub [1, 2, 3, 0] rfl (hk14 _ _  h)
set_option maxRecDepth 4000 in
theorem k_X2_seekOne_45 {p : Program} {l : Launch} {e : Env} {s : State} {m : MethodId} {args : Array Value} {below : List Frame} {meth : Method} {c : Code} {G : GG} {k7 : Mm → Int32 → Option Mm} {M : Mm} {x1 : Int32} {x2 : Int32} {M2 : Mm} (C : CX p s m args c prog_4_method_3_code 4 "SnowSentries$Felt" 0 G) (hlk : meth.locks = false) (hr : meth.sig.returnType = none) (hk7 : ∀ (M : Mm) (x2 : Int32), k7 M x2 = some M2 → Z p l e { frames := 3, cells := 0, slots := 0, locals := 68 } s m args below meth c 0 G 4 (MQ below (QC 0 G none M2) args s 0 0 (AU 0 G)) 7 [(0, .ref (gB G + 98)), (1, .int x1), (2, .int x2)] [] M) : f_X2_seekOne_45 k7 M x1 x2 = some M2 → Z p l e { frames := 3, cells := 0, slots := 0, locals := 68 } s m args below meth c 0 G 4 (MQ below (QC 0 G none M2) args s 0 0 (AU 0 G)) 45 [(0, .ref (gB G + 98)), (1, .int x1), (2, .int x2)] [] M := by
  intro h
  unfold f_X2_seekOne_45 at h
  refine z_iinc (v := (1 : Int32)) (L' := [(2, .int (x2 + (1 : Int32))), (0, .ref (gB G + 98)), (1, .int x1)]) 2 C d_X2_seekOne_45 rfl (by decide) (by decide) rfl ?_
  refine z_goto C d_X2_seekOne_48 ?_
  exact z_sub [1, 2, 0] rfl (hk7 _ _  h)
set_option maxRecDepth 4000 in
theorem kb_X2_seekOne_14 {p : Program} {l : Launch} {e : Env} {s : State} {m : MethodId} {args : Array Value} {below : List Frame} {meth : Method} {c : Code} {G : GG} {k7 : Mm → Int32 → Option Mm} {k14 : Mm → Int32 → Option Mm} {x1 : Int32} {x2 : Int32} {M : Mm} {x3 : Int32} {M2 : Mm} (C : CX p s m args c prog_4_method_3_code 4 "SnowSentries$Felt" 0 G) (hlk : meth.locks = false) (hr : meth.sig.returnType = none) (hk7 : ∀ (M : Mm) (x2 : Int32), k7 M x2 = some M2 → Z p l e { frames := 3, cells := 0, slots := 0, locals := 68 } s m args below meth c 0 G 4 (MQ below (QC 0 G none M2) args s 0 0 (AU 0 G)) 7 [(0, .ref (gB G + 98)), (1, .int x1), (2, .int x2)] [] M) (hk14 : ∀ (M : Mm) (x3 : Int32), k14 M x3 = some M2 → Z p l e { frames := 3, cells := 0, slots := 0, locals := 68 } s m args below meth c 0 G 4 (MQ below (QC 0 G none M2) args s 0 0 (AU 0 G)) 14 [(0, .ref (gB G + 98)), (1, .int x1), (2, .int x2), (3, .int x3)] [] M) : b_X2_seekOne_14 k7 k14 x1 x2 M x3 = some M2 → Z p l e { frames := 3, cells := 0, slots := 0, locals := 68 } s m args below meth c 0 G 4 (MQ below (QC 0 G none M2) args s 0 0 (AU 0 G)) 14 [(0, .ref (gB G + 98)), (1, .int x1), (2, .int x2), (3, .int x3)] [] M := by
  intro h
  unfold b_X2_seekOne_14 at h
  refine z_iload_n 3 C d_X2_seekOne_14 rfl rfl ?_
  refine z_bipush (v := (20 : Int32)) C d_X2_seekOne_15 (by decide) ?_
  refine z_icmp_gt C d_X2_seekOne_17 (fun q1 => ?_) (fun q1 => ?_)
  · have h := o_t q1 h
    exact z_sub [0, 1, 2] rfl (k_X2_seekOne_45 C hlk hr hk7 h)
  · have h := o_f q1 h
    refine z_aload_n 0 C d_X2_seekOne_20 rfl rfl ?_
    refine z_iload_n 2 C d_X2_seekOne_21 rfl rfl ?_
    refine z_iload_n 3 C d_X2_seekOne_22 rfl rfl ?_
    refine z_iload_n 2 C d_X2_seekOne_23 rfl rfl ?_
    refine z_iconst (v := (0 : Int32)) C d_X2_seekOne_24 (by decide) ?_
    obtain ⟨p3, e2, h⟩ := o_bd h
    refine z_V (S := []) (As := [.int x2, .int x3, .int x2, .int (0 : Int32)]) C (c_X2_isFeltBy l G e2) ((E_2 kx_98 G) _ _) (kU_in kx_98 (by decide)) rfl wc_X2_isFeltBy wm_X2_22 ws_X2_isFeltBy wl_X2_isFeltBy wi_X2 hy_X2_isFeltBy ⟨Nat.le_of_ble_eq_true rfl, Nat.le_of_ble_eq_true rfl⟩ rfl rfl (Nat.le_of_ble_eq_true rfl) d_X2_seekOne_25 ?_
    refine z_if_eq C d_X2_seekOne_28 (fun q4 => ?_) (fun q4 => ?_)
    · have h := o_t q4 h
      exact z_sub [0, 1, 2, 3] rfl (k_X2_seekOne_39 C hlk hr hk7 hk14 h)
    · have h := o_f q4 h
      refine z_aload_n 0 C d_X2_seekOne_31 rfl rfl ?_
      refine z_iload_n 2 C d_X2_seekOne_32 rfl rfl ?_
      refine z_iload_n 3 C d_X2_seekOne_33 rfl rfl ?_
      refine z_iload_n 2 C d_X2_seekOne_34 rfl rfl ?_
      refine z_iconst (v := (0 : Int32)) C d_X2_seekOne_35 (by decide) ?_
      obtain ⟨p6, e5, h⟩ := o_bd h
      refine z_V (S := []) (As := [.int x2, .int x3, .int x2, .int (0 : Int32)]) C (c_X2_note l G e5) ((E_2 kx_98 G) _ _) (kU_in kx_98 (by decide)) rfl wc_X2_note wm_X2_26 ws_X2_note wl_X2_note wi_X2 hy_X2_note ⟨Nat.le_of_ble_eq_true rfl, Nat.le_of_ble_eq_true rfl⟩ rfl rfl (Nat.le_of_ble_eq_true rfl) d_X2_seekOne_36 ?_
      exact z_sub [0, 1, 2, 3] rfl (k_X2_seekOne_39 C hlk hr hk7 hk14 h)
theorem k_X2_seekOne_14 {p : Program} {l : Launch} {e : Env} {s : State} {m : MethodId} {args : Array Value} {below : List Frame} {meth : Method} {c : Code} {G : GG} {k7 : Mm → Int32 → Option Mm} {x1 : Int32} {x2 : Int32} {M2 : Mm} (C : CX p s m args c prog_4_method_3_code 4 "SnowSentries$Felt" 0 G) (hlk : meth.locks = false) (hr : meth.sig.returnType = none) (hk7 : ∀ (M : Mm) (x2 : Int32), k7 M x2 = some M2 → Z p l e { frames := 3, cells := 0, slots := 0, locals := 68 } s m args below meth c 0 G 4 (MQ below (QC 0 G none M2) args s 0 0 (AU 0 G)) 7 [(0, .ref (gB G + 98)), (1, .int x1), (2, .int x2)] [] M) : ∀ (n : Nat) (M : Mm) (x3 : Int32), f_X2_seekOne_14 k7 x1 x2 n M x3 = some M2 → Z p l e { frames := 3, cells := 0, slots := 0, locals := 68 } s m args below meth c 0 G 4 (MQ below (QC 0 G none M2) args s 0 0 (AU 0 G)) 14 [(0, .ref (gB G + 98)), (1, .int x1), (2, .int x2), (3, .int x3)] [] M := by
  intro n
  induction n with
  | zero =>
    intro M x3  h
    exact absurd h (fun z => by cases z)
  | succ n ih =>
    intro M x3  h
    exact kb_X2_seekOne_14 C hlk hr hk7 (fun M x3 h => ih M x3 h) h
set_option maxRecDepth 4000 in
theorem kb_X2_seekOne_7 {p : Program} {l : Launch} {e : Env} {s : State} {m : MethodId} {args : Array Value} {below : List Frame} {meth : Method} {c : Code} {G : GG} {k7 : Mm → Int32 → Option Mm} {x1 : Int32} {M : Mm} {x2 : Int32} {M2 : Mm} (C : CX p s m args c prog_4_method_3_code 4 "SnowSentries$Felt" 0 G) (hlk : meth.locks = false) (hr : meth.sig.returnType = none) (hk7 : ∀ (M : Mm) (x2 : Int32), k7 M x2 = some M2 → Z p l e { frames := 3, cells := 0, slots := 0, locals := 68 } s m args below meth c 0 G 4 (MQ below (QC 0 G none M2) args s 0 0 (AU 0 G)) 7 [(0, .ref (gB G + 98)), (1, .int x1), (2, .int x2)] [] M) : b_X2_seekOne_7 k7 x1 M x2 = some M2 → Z p l e { frames := 3, cells := 0, slots := 0, locals := 68 } s m args below meth c 0 G 4 (MQ below (QC 0 G none M2) args s 0 0 (AU 0 G)) 7 [(0, .ref (gB G + 98)), (1, .int x1), (2, .int x2)] [] M := by
  intro h
  unfold b_X2_seekOne_7 at h
  refine z_iload_n 2 C d_X2_seekOne_7 rfl rfl ?_
  refine z_iload_n 1 C d_X2_seekOne_8 rfl rfl ?_
  refine z_icmp_ge C d_X2_seekOne_9 (fun q1 => ?_) (fun q1 => ?_)
  · have h := o_t q1 h
    obtain rfl := o_some h
    exact z_vret C hlk hr d_X2_seekOne_51
  · have h := o_f q1 h
    refine z_iconst (v := (1 : Int32)) C d_X2_seekOne_12 (by decide) ?_
    refine z_istore_n (L' := [(3, .int (1 : Int32)), (0, .ref (gB G + 98)), (1, .int x1), (2, .int x2)]) C d_X2_seekOne_13 rfl (by decide) rfl ?_
    exact z_sub [1, 2, 3, 0] rfl (k_X2_seekOne_14 C hlk hr hk7 _ _ _ h)
theorem k_X2_seekOne_7 {p : Program} {l : Launch} {e : Env} {s : State} {m : MethodId} {args : Array Value} {below : List Frame} {meth : Method} {c : Code} {G : GG} {x1 : Int32} {M2 : Mm} (C : CX p s m args c prog_4_method_3_code 4 "SnowSentries$Felt" 0 G) (hlk : meth.locks = false) (hr : meth.sig.returnType = none) : ∀ (n : Nat) (M : Mm) (x2 : Int32), f_X2_seekOne_7 x1 n M x2 = some M2 → Z p l e { frames := 3, cells := 0, slots := 0, locals := 68 } s m args below meth c 0 G 4 (MQ below (QC 0 G none M2) args s 0 0 (AU 0 G)) 7 [(0, .ref (gB G + 98)), (1, .int x1), (2, .int x2)] [] M := by
  intro n
  induction n with
  | zero =>
    intro M x2  h
    exact absurd h (fun z => by cases z)
  | succ n ih =>
    intro M x2  h
    exact kb_X2_seekOne_7 C hlk hr  (fun M x2 h => ih M x2 h) h
set_option maxRecDepth 4000 in
theorem k_X2_seekOne_0 {p : Program} {l : Launch} {e : Env} {s : State} {m : MethodId} {args : Array Value} {below : List Frame} {meth : Method} {c : Code} {G : GG} {M : Mm} {x1 : Int32} {M2 : Mm} (C : CX p s m args c prog_4_method_3_code 4 "SnowSentries$Felt" 0 G) (hlk : meth.locks = false) (hr : meth.sig.returnType = none) : f_X2_seekOne M x1 = some M2 → Z p l e { frames := 3, cells := 0, slots := 0, locals := 68 } s m args below meth c 0 G 4 (MQ below (QC 0 G none M2) args s 0 0 (AU 0 G)) 0 [(0, .ref (gB G + 98)), (1, .int x1)] [] M := by
  intro h
  unfold f_X2_seekOne at h
  refine z_aload_n 0 C d_X2_seekOne_0 rfl rfl ?_
  refine z_iconst (v := (0 : Int32)) C d_X2_seekOne_1 (by decide) ?_
  obtain ⟨M1, e2, h⟩ := o_wr h
  refine z_pI (k := 1) (ty := .int) C (fun r q => (E_2 kx_98 G) r q) (fun _ _ => rfl) (kU_in kx_98 (by decide)) rfl inX2 tyX2 tyX2_ok nmX2 (by decide) wf_X2_19 rfl (by decide +kernel) rfl rfl (Nat.le_of_ble_eq_true rfl) d_X2_seekOne_2 ?_
  refine z_nM e2 ?_
  refine z_iconst (v := (0 : Int32)) C d_X2_seekOne_5 (by decide) ?_
  refine z_istore_n (L' := [(2, .int (0 : Int32)), (0, .ref (gB G + 98)), (1, .int x1)]) C d_X2_seekOne_6 rfl (by decide) rfl ?_
  exact z_sub [1, 2, 0] rfl (k_X2_seekOne_7 C hlk hr _ _ _ h)
theorem c_X2_seekOne (l : Launch) (G : GG) {M : Mm} {x1 : Int32} {M2 : Mm} (h : f_X2_seekOne M x1 = some M2) : CT l 0 G y_X2_seekOne prog_4_method_3_code 4 none 3 68 [.ref (gB G + 98), .int x1] M none M2 :=
  CT.of (by decide +kernel) (Nat.le_of_ble_eq_true rfl) rfl (fun p e s m args below meth c C hlk hr => k_X2_seekOne_0 C hlk hr h)
-- SnowSentries$Felt.seekHeats(II)V
set_option maxRecDepth 4000 in
theorem k_X2_seekHeats_39 {p : Program} {l : Launch} {e : Env} {s : State} {m : MethodId} {args : Array Value} {below : List Frame} {meth : Method} {c : Code} {G : GG} {k2 : Mm → Int32 → Option Mm} {k11 : Mm → Int32 → Option Mm} {M : Mm} {x1 : Int32} {x2 : Int32} {x3 : Int32} {x4 : Int32} {M2 : Mm} (C : CX p s m args c prog_4_method_5_code 5 "SnowSentries$Felt" 0 G) (hlk : meth.locks = false) (hr : meth.sig.returnType = none) (hk2 : ∀ (M : Mm) (x3 : Int32), k2 M x3 = some M2 → Z p l e { frames := 3, cells := 0, slots := 0, locals := 68 } s m args below meth c 0 G 5 (MQ below (QC 0 G none M2) args s 0 0 (AU 0 G)) 2 [(0, .ref (gB G + 98)), (1, .int x1), (2, .int x2), (3, .int x3)] [] M) (hk11 : ∀ (M : Mm) (x4 : Int32), k11 M x4 = some M2 → Z p l e { frames := 3, cells := 0, slots := 0, locals := 68 } s m args below meth c 0 G 5 (MQ below (QC 0 G none M2) args s 0 0 (AU 0 G)) 11 [(0, .ref (gB G + 98)), (1, .int x1), (2, .int x2), (3, .int x3), (4, .int x4)] [] M) : f_X2_seekHeats_39 k2 k11 M x1 x2 x3 x4 = some M2 → Z p l e { frames := 3, cells := 0, slots := 0, locals := 68 } s m args below meth c 0 G 5 (MQ below (QC 0 G none M2) args s 0 0 (AU 0 G)) 39 [(0, .ref (gB G + 98)), (1, .int x1), (2, .int x2), (3, .int x3), (4, .int x4)] [] M := by
  intro h
  unfold f_X2_seekHeats_39 at h
  refine z_iinc (v := (1 : Int32)) (L' := [(4, .int (x4 + (1 : Int32))), (0, .ref (gB G + 98)), (1, .int x1), (2, .int x2), (3, .int x3)]) 4 C d_X2_seekHeats_39 rfl (by decide) (by decide) rfl ?_
  refine z_goto C d_X2_seekHeats_42 ?_
  exact z_sub [1, 2, 3, 4, 0] rfl (hk11 _ _  h)
set_option maxRecDepth 4000 in
theorem k_X2_seekHeats_45 {p : Program} {l : Launch} {e : Env} {s : State} {m : MethodId} {args : Array Value} {below : List Frame} {meth : Method} {c : Code} {G : GG} {k2 : Mm → Int32 → Option Mm} {M : Mm} {x1 : Int32} {x2 : Int32} {x3 : Int32} {M2 : Mm} (C : CX p s m args c prog_4_method_5_code 5 "SnowSentries$Felt" 0 G) (hlk : meth.locks = false) (hr : meth.sig.returnType = none) (hk2 : ∀ (M : Mm) (x3 : Int32), k2 M x3 = some M2 → Z p l e { frames := 3, cells := 0, slots := 0, locals := 68 } s m args below meth c 0 G 5 (MQ below (QC 0 G none M2) args s 0 0 (AU 0 G)) 2 [(0, .ref (gB G + 98)), (1, .int x1), (2, .int x2), (3, .int x3)] [] M) : f_X2_seekHeats_45 k2 M x1 x2 x3 = some M2 → Z p l e { frames := 3, cells := 0, slots := 0, locals := 68 } s m args below meth c 0 G 5 (MQ below (QC 0 G none M2) args s 0 0 (AU 0 G)) 45 [(0, .ref (gB G + 98)), (1, .int x1), (2, .int x2), (3, .int x3)] [] M := by
  intro h
  unfold f_X2_seekHeats_45 at h
  refine z_iinc (v := (1 : Int32)) (L' := [(3, .int (x3 + (1 : Int32))), (0, .ref (gB G + 98)), (1, .int x1), (2, .int x2)]) 3 C d_X2_seekHeats_45 rfl (by decide) (by decide) rfl ?_
  refine z_goto C d_X2_seekHeats_48 ?_
  exact z_sub [1, 2, 3, 0] rfl (hk2 _ _  h)
set_option maxRecDepth 4000 in
theorem kb_X2_seekHeats_11 {p : Program} {l : Launch} {e : Env} {s : State} {m : MethodId} {args : Array Value} {below : List Frame} {meth : Method} {c : Code} {G : GG} {k2 : Mm → Int32 → Option Mm} {k11 : Mm → Int32 → Option Mm} {x1 : Int32} {x2 : Int32} {x3 : Int32} {M : Mm} {x4 : Int32} {M2 : Mm} (C : CX p s m args c prog_4_method_5_code 5 "SnowSentries$Felt" 0 G) (hlk : meth.locks = false) (hr : meth.sig.returnType = none) (hk2 : ∀ (M : Mm) (x3 : Int32), k2 M x3 = some M2 → Z p l e { frames := 3, cells := 0, slots := 0, locals := 68 } s m args below meth c 0 G 5 (MQ below (QC 0 G none M2) args s 0 0 (AU 0 G)) 2 [(0, .ref (gB G + 98)), (1, .int x1), (2, .int x2), (3, .int x3)] [] M) (hk11 : ∀ (M : Mm) (x4 : Int32), k11 M x4 = some M2 → Z p l e { frames := 3, cells := 0, slots := 0, locals := 68 } s m args below meth c 0 G 5 (MQ below (QC 0 G none M2) args s 0 0 (AU 0 G)) 11 [(0, .ref (gB G + 98)), (1, .int x1), (2, .int x2), (3, .int x3), (4, .int x4)] [] M) : b_X2_seekHeats_11 k2 k11 x1 x2 x3 M x4 = some M2 → Z p l e { frames := 3, cells := 0, slots := 0, locals := 68 } s m args below meth c 0 G 5 (MQ below (QC 0 G none M2) args s 0 0 (AU 0 G)) 11 [(0, .ref (gB G + 98)), (1, .int x1), (2, .int x2), (3, .int x3), (4, .int x4)] [] M := by
  intro h
  unfold b_X2_seekHeats_11 at h
  refine z_iload 4 C d_X2_seekHeats_11 rfl ?_
  refine z_bipush (v := (20 : Int32)) C d_X2_seekHeats_13 (by decide) ?_
  refine z_icmp_gt C d_X2_seekHeats_15 (fun q1 => ?_) (fun q1 => ?_)
  · have h := o_t q1 h
    exact z_sub [0, 1, 2, 3] rfl (k_X2_seekHeats_45 C hlk hr hk2 h)
  · have h := o_f q1 h
    refine z_aload_n 0 C d_X2_seekHeats_18 rfl rfl ?_
    refine z_iload_n 1 C d_X2_seekHeats_19 rfl rfl ?_
    refine z_iload_n 3 C d_X2_seekHeats_20 rfl rfl ?_
    refine z_iload_n 2 C d_X2_seekHeats_21 rfl rfl ?_
    refine z_iload 4 C d_X2_seekHeats_22 rfl ?_
    obtain ⟨p3, e2, h⟩ := o_bd h
    refine z_V (S := []) (As := [.int x1, .int x3, .int x2, .int x4]) C (c_X2_isFeltBy l G e2) ((E_2 kx_98 G) _ _) (kU_in kx_98 (by decide)) rfl wc_X2_isFeltBy wm_X2_22 ws_X2_isFeltBy wl_X2_isFeltBy wi_X2 hy_X2_isFeltBy ⟨Nat.le_of_ble_eq_true rfl, Nat.le_of_ble_eq_true rfl⟩ rfl rfl (Nat.le_of_ble_eq_true rfl) d_X2_seekHeats_24 ?_
    refine z_if_eq C d_X2_seekHeats_27 (fun q4 => ?_) (fun q4 => ?_)
    · have h := o_t q4 h
      exact z_sub [0, 1, 2, 3, 4] rfl (k_X2_seekHeats_39 C hlk hr hk2 hk11 h)
    · have h := o_f q4 h
      refine z_aload_n 0 C d_X2_seekHeats_30 rfl rfl ?_
      refine z_iload_n 1 C d_X2_seekHeats_31 rfl rfl ?_
      refine z_iload_n 3 C d_X2_seekHeats_32 rfl rfl ?_
      refine z_iload_n 2 C d_X2_seekHeats_33 rfl rfl ?_
      refine z_iload 4 C d_X2_seekHeats_34 rfl ?_
      obtain ⟨p6, e5, h⟩ := o_bd h
      refine z_V (S := []) (As := [.int x1, .int x3, .int x2, .int x4]) C (c_X2_note l G e5) ((E_2 kx_98 G) _ _) (kU_in kx_98 (by decide)) rfl wc_X2_note wm_X2_26 ws_X2_note wl_X2_note wi_X2 hy_X2_note ⟨Nat.le_of_ble_eq_true rfl, Nat.le_of_ble_eq_true rfl⟩ rfl rfl (Nat.le_of_ble_eq_true rfl) d_X2_seekHeats_36 ?_
      exact z_sub [0, 1, 2, 3, 4] rfl (k_X2_seekHeats_39 C hlk hr hk2 hk11 h)
theorem k_X2_seekHeats_11 {p : Program} {l : Launch} {e : Env} {s : State} {m : MethodId} {args : Array Value} {below : List Frame} {meth : Method} {c : Code} {G : GG} {k2 : Mm → Int32 → Option Mm} {x1 : Int32} {x2 : Int32} {x3 : Int32} {M2 : Mm} (C : CX p s m args c prog_4_method_5_code 5 "SnowSentries$Felt" 0 G) (hlk : meth.locks = false) (hr : meth.sig.returnType = none) (hk2 : ∀ (M : Mm) (x3 : Int32), k2 M x3 = some M2 → Z p l e { frames := 3, cells := 0, slots := 0, locals := 68 } s m args below meth c 0 G 5 (MQ below (QC 0 G none M2) args s 0 0 (AU 0 G)) 2 [(0, .ref (gB G + 98)), (1, .int x1), (2, .int x2), (3, .int x3)] [] M) : ∀ (n : Nat) (M : Mm) (x4 : Int32), f_X2_seekHeats_11 k2 x1 x2 x3 n M x4 = some M2 → Z p l e { frames := 3, cells := 0, slots := 0, locals := 68 } s m args below meth c 0 G 5 (MQ below (QC 0 G none M2) args s 0 0 (AU 0 G)) 11 [(0, .ref (gB G + 98)), (1, .int x1), (2, .int x2), (3, .int x3), (4, .int x4)] [] M := by
  intro n
  induction n with
  | zero =>
    intro M x4  h
    exact absurd h (fun z => by cases z)
  | succ n ih =>
    intro M x4  h
    exact kb_X2_seekHeats_11 C hlk hr hk2 (fun M x4 h => ih M x4 h) h
set_option maxRecDepth 4000 in
theorem kb_X2_seekHeats_2 {p : Program} {l : Launch} {e : Env} {s : State} {m : MethodId} {args : Array Value} {below : List Frame} {meth : Method} {c : Code} {G : GG} {k2 : Mm → Int32 → Option Mm} {x1 : Int32} {x2 : Int32} {M : Mm} {x3 : Int32} {M2 : Mm} (C : CX p s m args c prog_4_method_5_code 5 "SnowSentries$Felt" 0 G) (hlk : meth.locks = false) (hr : meth.sig.returnType = none) (hk2 : ∀ (M : Mm) (x3 : Int32), k2 M x3 = some M2 → Z p l e { frames := 3, cells := 0, slots := 0, locals := 68 } s m args below meth c 0 G 5 (MQ below (QC 0 G none M2) args s 0 0 (AU 0 G)) 2 [(0, .ref (gB G + 98)), (1, .int x1), (2, .int x2), (3, .int x3)] [] M) : b_X2_seekHeats_2 k2 x1 x2 M x3 = some M2 → Z p l e { frames := 3, cells := 0, slots := 0, locals := 68 } s m args below meth c 0 G 5 (MQ below (QC 0 G none M2) args s 0 0 (AU 0 G)) 2 [(0, .ref (gB G + 98)), (1, .int x1), (2, .int x2), (3, .int x3)] [] M := by
  intro h
  unfold b_X2_seekHeats_2 at h
  refine z_iload_n 3 C d_X2_seekHeats_2 rfl rfl ?_
  refine z_bipush (v := (20 : Int32)) C d_X2_seekHeats_3 (by decide) ?_
  refine z_icmp_gt C d_X2_seekHeats_5 (fun q1 => ?_) (fun q1 => ?_)
  · have h := o_t q1 h
    obtain rfl := o_some h
    exact z_vret C hlk hr d_X2_seekHeats_51
  · have h := o_f q1 h
    refine z_iconst (v := (1 : Int32)) C d_X2_seekHeats_8 (by decide) ?_
    refine z_istore (L' := [(4, .int (1 : Int32)), (0, .ref (gB G + 98)), (1, .int x1), (2, .int x2), (3, .int x3)]) C d_X2_seekHeats_9 (by decide) rfl ?_
    exact z_sub [1, 2, 3, 4, 0] rfl (k_X2_seekHeats_11 C hlk hr hk2 _ _ _ h)
theorem k_X2_seekHeats_2 {p : Program} {l : Launch} {e : Env} {s : State} {m : MethodId} {args : Array Value} {below : List Frame} {meth : Method} {c : Code} {G : GG} {x1 : Int32} {x2 : Int32} {M2 : Mm} (C : CX p s m args c prog_4_method_5_code 5 "SnowSentries$Felt" 0 G) (hlk : meth.locks = false) (hr : meth.sig.returnType = none) : ∀ (n : Nat) (M : Mm) (x3 : Int32), f_X2_seekHeats_2 x1 x2 n M x3 = some M2 → Z p l e { frames := 3, cells := 0, slots := 0, locals := 68 } s m args below meth c 0 G 5 (MQ below (QC 0 G none M2) args s 0 0 (AU 0 G)) 2 [(0, .ref (gB G + 98)), (1, .int x1), (2, .int x2), (3, .int x3)] [] M := by
  intro n
  induction n with
  | zero =>
    intro M x3  h
    exact absurd h (fun z => by cases z)
  | succ n ih =>
    intro M x3  h
    exact kb_X2_seekHeats_2 C hlk hr  (fun M x3 h => ih M x3 h) h
set_option maxRecDepth 4000 in
theorem k_X2_seekHeats_0 {p : Program} {l : Launch} {e : Env} {s : State} {m : MethodId} {args : Array Value} {below : List Frame} {meth : Method} {c : Code} {G : GG} {M : Mm} {x1 : Int32} {x2 : Int32} {M2 : Mm} (C : CX p s m args c prog_4_method_5_code 5 "SnowSentries$Felt" 0 G) (hlk : meth.locks = false) (hr : meth.sig.returnType = none) : f_X2_seekHeats M x1 x2 = some M2 → Z p l e { frames := 3, cells := 0, slots := 0, locals := 68 } s m args below meth c 0 G 5 (MQ below (QC 0 G none M2) args s 0 0 (AU 0 G)) 0 [(0, .ref (gB G + 98)), (1, .int x1), (2, .int x2)] [] M := by
  intro h
  unfold f_X2_seekHeats at h
  refine z_iconst (v := (1 : Int32)) C d_X2_seekHeats_0 (by decide) ?_
  refine z_istore_n (L' := [(3, .int (1 : Int32)), (0, .ref (gB G + 98)), (1, .int x1), (2, .int x2)]) C d_X2_seekHeats_1 rfl (by decide) rfl ?_
  exact z_sub [1, 2, 3, 0] rfl (k_X2_seekHeats_2 C hlk hr _ _ _ h)
theorem c_X2_seekHeats (l : Launch) (G : GG) {M : Mm} {x1 : Int32} {x2 : Int32} {M2 : Mm} (h : f_X2_seekHeats M x1 x2 = some M2) : CT l 0 G y_X2_seekHeats prog_4_method_5_code 5 none 3 68 [.ref (gB G + 98), .int x1, .int x2] M none M2 :=
  CT.of (by decide +kernel) (Nat.le_of_ble_eq_true rfl) rfl (fun p e s m args below meth c C hlk hr => k_X2_seekHeats_0 C hlk hr h)
-- SnowSentries$Felt.seekTwo(I)V
set_option maxRecDepth 4000 in
theorem k_X2_seekTwo_33 {p : Program} {l : Launch} {e : Env} {s : State} {m : MethodId} {args : Array Value} {below : List Frame} {meth : Method} {c : Code} {G : GG} {k7 : Mm → Int32 → Option Mm} {M : Mm} {x1 : Int32} {x2 : Int32} {M2 : Mm} (C : CX p s m args c prog_4_method_4_code 4 "SnowSentries$Felt" 0 G) (hlk : meth.locks = false) (hr : meth.sig.returnType = none) (hk7 : ∀ (M : Mm) (x2 : Int32), k7 M x2 = some M2 → Z p l e { frames := 4, cells := 0, slots := 0, locals := 92 } s m args below meth c 0 G 4 (MQ below (QC 0 G none M2) args s 0 0 (AU 0 G)) 7 [(0, .ref (gB G + 98)), (1, .int x1), (2, .int x2)] [] M) : f_X2_seekTwo_33 k7 M x1 x2 = some M2 → Z p l e { frames := 4, cells := 0, slots := 0, locals := 92 } s m args below meth c 0 G 4 (MQ below (QC 0 G none M2) args s 0 0 (AU 0 G)) 33 [(0, .ref (gB G + 98)), (1, .int x1), (2, .int x2)] [] M := by
  intro h
  unfold f_X2_seekTwo_33 at h
  refine z_iinc (v := (1 : Int32)) (L' := [(2, .int (x2 + (1 : Int32))), (0, .ref (gB G + 98)), (1, .int x1)]) 2 C d_X2_seekTwo_33 rfl (by decide) (by decide) rfl ?_
  refine z_goto C d_X2_seekTwo_36 ?_
  exact z_sub [1, 2, 0] rfl (hk7 _ _  h)
set_option maxRecDepth 4000 in
theorem kb_X2_seekTwo_16 {p : Program} {l : Launch} {e : Env} {s : State} {m : MethodId} {args : Array Value} {below : List Frame} {meth : Method} {c : Code} {G : GG} {k7 : Mm → Int32 → Option Mm} {k16 : Mm → Int32 → Option Mm} {x1 : Int32} {x2 : Int32} {M : Mm} {x3 : Int32} {M2 : Mm} (C : CX p s m args c prog_4_method_4_code 4 "SnowSentries$Felt" 0 G) (hlk : meth.locks = false) (hr : meth.sig.returnType = none) (hk7 : ∀ (M : Mm) (x2 : Int32), k7 M x2 = some M2 → Z p l e { frames := 4, cells := 0, slots := 0, locals := 92 } s m args below meth c 0 G 4 (MQ below (QC 0 G none M2) args s 0 0 (AU 0 G)) 7 [(0, .ref (gB G + 98)), (1, .int x1), (2, .int x2)] [] M) (hk16 : ∀ (M : Mm) (x3 : Int32), k16 M x3 = some M2 → Z p l e { frames := 4, cells := 0, slots := 0, locals := 92 } s m args below meth c 0 G 4 (MQ below (QC 0 G none M2) args s 0 0 (AU 0 G)) 16 [(0, .ref (gB G + 98)), (1, .int x1), (2, .int x2), (3, .int x3)] [] M) : b_X2_seekTwo_16 k7 k16 x1 x2 M x3 = some M2 → Z p l e { frames := 4, cells := 0, slots := 0, locals := 92 } s m args below meth c 0 G 4 (MQ below (QC 0 G none M2) args s 0 0 (AU 0 G)) 16 [(0, .ref (gB G + 98)), (1, .int x1), (2, .int x2), (3, .int x3)] [] M := by
  intro h
  unfold b_X2_seekTwo_16 at h
  refine z_iload_n 3 C d_X2_seekTwo_16 rfl rfl ?_
  refine z_iload_n 1 C d_X2_seekTwo_17 rfl rfl ?_
  refine z_icmp_ge C d_X2_seekTwo_18 (fun q1 => ?_) (fun q1 => ?_)
  · have h := o_t q1 h
    exact z_sub [0, 1, 2] rfl (k_X2_seekTwo_33 C hlk hr hk7 h)
  · have h := o_f q1 h
    refine z_aload_n 0 C d_X2_seekTwo_21 rfl rfl ?_
    refine z_iload_n 2 C d_X2_seekTwo_22 rfl rfl ?_
    refine z_iload_n 3 C d_X2_seekTwo_23 rfl rfl ?_
    obtain ⟨p3, e2, h⟩ := o_bd h
    refine z_V (S := []) (As := [.int x2, .int x3]) C (c_X2_seekHeats l G e2) ((E_2 kx_98 G) _ _) (kU_in kx_98 (by decide)) rfl wc_X2_seekHeats wm_X2_30 ws_X2_seekHeats wl_X2_seekHeats wi_X2 hy_X2_seekHeats ⟨Nat.le_of_ble_eq_true rfl, Nat.le_of_ble_eq_true rfl⟩ rfl rfl (Nat.le_of_ble_eq_true rfl) d_X2_seekTwo_24 ?_
    refine z_iinc (v := (1 : Int32)) (L' := [(3, .int (x3 + (1 : Int32))), (0, .ref (gB G + 98)), (1, .int x1), (2, .int x2)]) 3 C d_X2_seekTwo_27 rfl (by decide) (by decide) rfl ?_
    refine z_goto C d_X2_seekTwo_30 ?_
    exact z_sub [1, 2, 3, 0] rfl (hk16 _ _  h)
theorem k_X2_seekTwo_16 {p : Program} {l : Launch} {e : Env} {s : State} {m : MethodId} {args : Array Value} {below : List Frame} {meth : Method} {c : Code} {G : GG} {k7 : Mm → Int32 → Option Mm} {x1 : Int32} {x2 : Int32} {M2 : Mm} (C : CX p s m args c prog_4_method_4_code 4 "SnowSentries$Felt" 0 G) (hlk : meth.locks = false) (hr : meth.sig.returnType = none) (hk7 : ∀ (M : Mm) (x2 : Int32), k7 M x2 = some M2 → Z p l e { frames := 4, cells := 0, slots := 0, locals := 92 } s m args below meth c 0 G 4 (MQ below (QC 0 G none M2) args s 0 0 (AU 0 G)) 7 [(0, .ref (gB G + 98)), (1, .int x1), (2, .int x2)] [] M) : ∀ (n : Nat) (M : Mm) (x3 : Int32), f_X2_seekTwo_16 k7 x1 x2 n M x3 = some M2 → Z p l e { frames := 4, cells := 0, slots := 0, locals := 92 } s m args below meth c 0 G 4 (MQ below (QC 0 G none M2) args s 0 0 (AU 0 G)) 16 [(0, .ref (gB G + 98)), (1, .int x1), (2, .int x2), (3, .int x3)] [] M := by
  intro n
  induction n with
  | zero =>
    intro M x3  h
    exact absurd h (fun z => by cases z)
  | succ n ih =>
    intro M x3  h
    exact kb_X2_seekTwo_16 C hlk hr hk7 (fun M x3 h => ih M x3 h) h
set_option maxRecDepth 4000 in
theorem kb_X2_seekTwo_7 {p : Program} {l : Launch} {e : Env} {s : State} {m : MethodId} {args : Array Value} {below : List Frame} {meth : Method} {c : Code} {G : GG} {k7 : Mm → Int32 → Option Mm} {x1 : Int32} {M : Mm} {x2 : Int32} {M2 : Mm} (C : CX p s m args c prog_4_method_4_code 4 "SnowSentries$Felt" 0 G) (hlk : meth.locks = false) (hr : meth.sig.returnType = none) (hk7 : ∀ (M : Mm) (x2 : Int32), k7 M x2 = some M2 → Z p l e { frames := 4, cells := 0, slots := 0, locals := 92 } s m args below meth c 0 G 4 (MQ below (QC 0 G none M2) args s 0 0 (AU 0 G)) 7 [(0, .ref (gB G + 98)), (1, .int x1), (2, .int x2)] [] M) : b_X2_seekTwo_7 k7 x1 M x2 = some M2 → Z p l e { frames := 4, cells := 0, slots := 0, locals := 92 } s m args below meth c 0 G 4 (MQ below (QC 0 G none M2) args s 0 0 (AU 0 G)) 7 [(0, .ref (gB G + 98)), (1, .int x1), (2, .int x2)] [] M := by
  intro h
  unfold b_X2_seekTwo_7 at h
  refine z_iload_n 2 C d_X2_seekTwo_7 rfl rfl ?_
  refine z_iload_n 1 C d_X2_seekTwo_8 rfl rfl ?_
  refine z_icmp_ge C d_X2_seekTwo_9 (fun q1 => ?_) (fun q1 => ?_)
  · have h := o_t q1 h
    obtain rfl := o_some h
    exact z_vret C hlk hr d_X2_seekTwo_39
  · have h := o_f q1 h
    refine z_iload_n 2 C d_X2_seekTwo_12 rfl rfl ?_
    refine z_iconst (v := (1 : Int32)) C d_X2_seekTwo_13 (by decide) ?_
    refine z_iadd C d_X2_seekTwo_14 ?_
    obtain ⟨v2, e3, h⟩ := o_nm h
    refine z_nI e3 ?_
    refine z_istore_n (L' := [(3, .int v2), (0, .ref (gB G + 98)), (1, .int x1), (2, .int x2)]) C d_X2_seekTwo_15 rfl (by decide) rfl ?_
    exact z_sub [1, 2, 3, 0] rfl (k_X2_seekTwo_16 C hlk hr hk7 _ _ _ h)
theorem k_X2_seekTwo_7 {p : Program} {l : Launch} {e : Env} {s : State} {m : MethodId} {args : Array Value} {below : List Frame} {meth : Method} {c : Code} {G : GG} {x1 : Int32} {M2 : Mm} (C : CX p s m args c prog_4_method_4_code 4 "SnowSentries$Felt" 0 G) (hlk : meth.locks = false) (hr : meth.sig.returnType = none) : ∀ (n : Nat) (M : Mm) (x2 : Int32), f_X2_seekTwo_7 x1 n M x2 = some M2 → Z p l e { frames := 4, cells := 0, slots := 0, locals := 92 } s m args below meth c 0 G 4 (MQ below (QC 0 G none M2) args s 0 0 (AU 0 G)) 7 [(0, .ref (gB G + 98)), (1, .int x1), (2, .int x2)] [] M := by
  intro n
  induction n with
  | zero =>
    intro M x2  h
    exact absurd h (fun z => by cases z)
  | succ n ih =>
    intro M x2  h
    exact kb_X2_seekTwo_7 C hlk hr  (fun M x2 h => ih M x2 h) h
set_option maxRecDepth 4000 in
theorem k_X2_seekTwo_0 {p : Program} {l : Launch} {e : Env} {s : State} {m : MethodId} {args : Array Value} {below : List Frame} {meth : Method} {c : Code} {G : GG} {M : Mm} {x1 : Int32} {M2 : Mm} (C : CX p s m args c prog_4_method_4_code 4 "SnowSentries$Felt" 0 G) (hlk : meth.locks = false) (hr : meth.sig.returnType = none) : f_X2_seekTwo M x1 = some M2 → Z p l e { frames := 4, cells := 0, slots := 0, locals := 92 } s m args below meth c 0 G 4 (MQ below (QC 0 G none M2) args s 0 0 (AU 0 G)) 0 [(0, .ref (gB G + 98)), (1, .int x1)] [] M := by
  intro h
  unfold f_X2_seekTwo at h
  refine z_aload_n 0 C d_X2_seekTwo_0 rfl rfl ?_
  refine z_iconst (v := (0 : Int32)) C d_X2_seekTwo_1 (by decide) ?_
  obtain ⟨M1, e2, h⟩ := o_wr h
  refine z_pI (k := 1) (ty := .int) C (fun r q => (E_2 kx_98 G) r q) (fun _ _ => rfl) (kU_in kx_98 (by decide)) rfl inX2 tyX2 tyX2_ok nmX2 (by decide) wf_X2_19 rfl (by decide +kernel) rfl rfl (Nat.le_of_ble_eq_true rfl) d_X2_seekTwo_2 ?_
  refine z_nM e2 ?_
  refine z_iconst (v := (0 : Int32)) C d_X2_seekTwo_5 (by decide) ?_
  refine z_istore_n (L' := [(2, .int (0 : Int32)), (0, .ref (gB G + 98)), (1, .int x1)]) C d_X2_seekTwo_6 rfl (by decide) rfl ?_
  exact z_sub [1, 2, 0] rfl (k_X2_seekTwo_7 C hlk hr _ _ _ h)
theorem c_X2_seekTwo (l : Launch) (G : GG) {M : Mm} {x1 : Int32} {M2 : Mm} (h : f_X2_seekTwo M x1 = some M2) : CT l 0 G y_X2_seekTwo prog_4_method_4_code 4 none 4 92 [.ref (gB G + 98), .int x1] M none M2 :=
  CT.of (by decide +kernel) (Nat.le_of_ble_eq_true rfl) rfl (fun p e s m args below meth c C hlk hr => k_X2_seekTwo_0 C hlk hr h)
-- SnowSentries$Forecast.pass(III)V
set_option maxRecDepth 4000 in
theorem kb_X3_pass_3 {p : Program} {l : Launch} {e : Env} {s : State} {m : MethodId} {args : Array Value} {below : List Frame} {meth : Method} {c : Code} {G : GG} {k3 : Mm → Int32 → Option Mm} {x1 : Int32} {x2 : Int32} {x3 : Int32} {M : Mm} {x4 : Int32} {M2 : Mm} (C : CX p s m args c prog_5_method_3_code 7 "SnowSentries$Forecast" 0 G) (hlk : meth.locks = false) (hr : meth.sig.returnType = none) (hk3 : ∀ (M : Mm) (x4 : Int32), k3 M x4 = some M2 → Z p l e { frames := 1, cells := 0, slots := 0, locals := 21 } s m args below meth c 0 G 7 (MQ below (QC 0 G none M2) args s 0 0 (AU 0 G)) 3 [(0, .ref (gB G + 128)), (1, .int x1), (2, .int x2), (3, .int x3), (4, .int x4)] [] M) : b_X3_pass_3 k3 x1 x2 x3 M x4 = some M2 → Z p l e { frames := 1, cells := 0, slots := 0, locals := 21 } s m args below meth c 0 G 7 (MQ below (QC 0 G none M2) args s 0 0 (AU 0 G)) 3 [(0, .ref (gB G + 128)), (1, .int x1), (2, .int x2), (3, .int x3), (4, .int x4)] [] M := by
  intro h
  unfold b_X3_pass_3 at h
  refine z_iload 4 C d_X3_pass_3 rfl ?_
  refine z_bipush (v := (99 : Int32)) C d_X3_pass_5 (by decide) ?_
  refine z_icmp_gt C d_X3_pass_7 (fun q1 => ?_) (fun q1 => ?_)
  · have h := o_t q1 h
    obtain rfl := o_some h
    exact z_vret C hlk hr d_X3_pass_78
  · have h := o_f q1 h
    refine z_aload_n 0 C d_X3_pass_10 rfl rfl ?_
    refine z_get (k := 2) (v := .ref (gB G + 129)) C ((E_3 kx_128 G) _ _) (kU_in kx_128 (by decide)) rfl inX3 (by decide) wf_X3_9 rfl d_X3_pass_11 ?_
    refine z_iload 4 C d_X3_pass_14 rfl ?_
    obtain ⟨q2, h⟩ := o_ck h
    refine z_lld ((E_27 kx_129 G) _ _) C (kU_in kx_129 (by decide)) q2 d_X3_pass_16 ?_
    obtain ⟨v3, e4, h⟩ := o_nm h
    refine z_nJ e4 ?_
    refine z_lstore (L' := [(5, .long v3), (0, .ref (gB G + 128)), (1, .int x1), (2, .int x2), (3, .int x3), (4, .int x4)]) C d_X3_pass_17 (by decide) rfl ?_
    refine z_aload_n 1 C d_X3_pass_19 rfl rfl ?_
    refine z_get (k := 2) (v := .ref (gB G + 129)) C ((E_3 kx_128 G) _ _) (kU_in kx_128 (by decide)) rfl inX3 (by decide) wf_X3_9 rfl d_X3_pass_20 ?_
    refine z_iload 5 C d_X3_pass_23 rfl ?_
    refine z_lconst (v := (0 : Int64)) C d_X3_pass_25 (by decide) ?_
    obtain ⟨M5, e6, h⟩ := o_wr h
    refine z_lst (fun r q => (E_27 kx_129 G) r q) C (kU_in kx_129 (by decide)) q2 d_X3_pass_26 ?_
    refine z_nM e6 ?_
    refine z_aload_n 1 C d_X3_pass_27 rfl rfl ?_
    refine z_get (k := 2) (v := .ref (gB G + 129)) C ((E_3 kx_128 G) _ _) (kU_in kx_128 (by decide)) rfl inX3 (by decide) wf_X3_9 rfl d_X3_pass_28 ?_
    refine z_iconst (v := (0 : Int32)) C d_X3_pass_31 (by decide) ?_
    refine z_iload 5 C d_X3_pass_32 rfl ?_
    refine z_iload_n 2 C d_X3_pass_34 rfl rfl ?_
    refine z_isub C d_X3_pass_35 ?_
    refine z_mmax C wm_X3_87 wMs_max wMi wMc_max (Nat.le_of_ble_eq_true rfl) (Nat.le_of_ble_eq_true rfl) d_X3_pass_36 ?_
    refine z_dup2 C d_X3_pass_39 rfl rfl ?_
    obtain ⟨q7, h⟩ := o_ck h
    refine z_lld ((E_27 kx_129 G) _ _) C (kU_in kx_129 (by decide)) q7 d_X3_pass_40 ?_
    refine z_lload 0 C d_X3_pass_41 rfl ?_
    refine z_bipush (v := (10 : Int32)) C d_X3_pass_43 (by decide) ?_
    refine z_iload_n 4 C d_X3_pass_45 rfl rfl ?_
    refine z_isub C d_X3_pass_46 ?_
    refine z_i2l C d_X3_pass_47 ?_
    refine z_lmul C d_X3_pass_48 ?_
    refine z_ladd C d_X3_pass_49 ?_
    obtain ⟨M8, e9, h⟩ := o_wr h
    refine z_lst (fun r q => (E_27 kx_129 G) r q) C (kU_in kx_129 (by decide)) q7 d_X3_pass_50 ?_
    refine z_nM e9 ?_
    refine z_aload_n 1 C d_X3_pass_51 rfl rfl ?_
    refine z_get (k := 2) (v := .ref (gB G + 129)) C ((E_3 kx_128 G) _ _) (kU_in kx_128 (by decide)) rfl inX3 (by decide) wf_X3_9 rfl d_X3_pass_52 ?_
    refine z_iconst (v := (0 : Int32)) C d_X3_pass_55 (by decide) ?_
    refine z_iload 5 C d_X3_pass_56 rfl ?_
    refine z_iload_n 3 C d_X3_pass_58 rfl rfl ?_
    refine z_isub C d_X3_pass_59 ?_
    refine z_mmax C wm_X3_87 wMs_max wMi wMc_max (Nat.le_of_ble_eq_true rfl) (Nat.le_of_ble_eq_true rfl) d_X3_pass_60 ?_
    refine z_dup2 C d_X3_pass_63 rfl rfl ?_
    obtain ⟨q10, h⟩ := o_ck h
    refine z_lld ((E_27 kx_129 G) _ _) C (kU_in kx_129 (by decide)) q10 d_X3_pass_64 ?_
    refine z_lload 0 C d_X3_pass_65 rfl ?_
    refine z_iload_n 4 C d_X3_pass_67 rfl rfl ?_
    refine z_i2l C d_X3_pass_68 ?_
    refine z_lmul C d_X3_pass_69 ?_
    refine z_ladd C d_X3_pass_70 ?_
    obtain ⟨M11, e12, h⟩ := o_wr h
    refine z_lst (fun r q => (E_27 kx_129 G) r q) C (kU_in kx_129 (by decide)) q10 d_X3_pass_71 ?_
    refine z_nM e12 ?_
    refine z_iinc (v := (1 : Int32)) (L' := [(4, .int (x4 + (1 : Int32))), (5, .long v3), (0, .ref (gB G + 128)), (1, .int x1), (2, .int x2), (3, .int x3)]) 5 C d_X3_pass_72 rfl (by decide) (by decide) rfl ?_
    refine z_goto C d_X3_pass_75 ?_
    exact z_sub [2, 3, 4, 5, 0] rfl (hk3 _ _  h)
theorem k_X3_pass_3 {p : Program} {l : Launch} {e : Env} {s : State} {m : MethodId} {args : Array Value} {below : List Frame} {meth : Method} {c : Code} {G : GG} {x1 : Int32} {x2 : Int32} {x3 : Int32} {M2 : Mm} (C : CX p s m args c prog_5_method_3_code 7 "SnowSentries$Forecast" 0 G) (hlk : meth.locks = false) (hr : meth.sig.returnType = none) : ∀ (n : Nat) (M : Mm) (x4 : Int32), f_X3_pass_3 x1 x2 x3 n M x4 = some M2 → Z p l e { frames := 1, cells := 0, slots := 0, locals := 21 } s m args below meth c 0 G 7 (MQ below (QC 0 G none M2) args s 0 0 (AU 0 G)) 3 [(0, .ref (gB G + 128)), (1, .int x1), (2, .int x2), (3, .int x3), (4, .int x4)] [] M := by
  intro n
  induction n with
  | zero =>
    intro M x4  h
    exact absurd h (fun z => by cases z)
  | succ n ih =>
    intro M x4  h
    exact kb_X3_pass_3 C hlk hr  (fun M x4 h => ih M x4 h) h
set_option maxRecDepth 4000 in
theorem k_X3_pass_0 {p : Program} {l : Launch} {e : Env} {s : State} {m : MethodId} {args : Array Value} {below : List Frame} {meth : Method} {c : Code} {G : GG} {M : Mm} {x1 : Int32} {x2 : Int32} {x3 : Int32} {M2 : Mm} (C : CX p s m args c prog_5_method_3_code 7 "SnowSentries$Forecast" 0 G) (hlk : meth.locks = false) (hr : meth.sig.returnType = none) : f_X3_pass M x1 x2 x3 = some M2 → Z p l e { frames := 1, cells := 0, slots := 0, locals := 21 } s m args below meth c 0 G 7 (MQ below (QC 0 G none M2) args s 0 0 (AU 0 G)) 0 [(0, .ref (gB G + 128)), (1, .int x1), (2, .int x2), (3, .int x3)] [] M := by
  intro h
  unfold f_X3_pass at h
  refine z_iconst (v := (0 : Int32)) C d_X3_pass_0 (by decide) ?_
  refine z_istore (L' := [(4, .int (0 : Int32)), (0, .ref (gB G + 128)), (1, .int x1), (2, .int x2), (3, .int x3)]) C d_X3_pass_1 (by decide) rfl ?_
  exact z_sub [1, 2, 3, 4, 0] rfl (k_X3_pass_3 C hlk hr _ _ _ h)
theorem c_X3_pass (l : Launch) (G : GG) {M : Mm} {x1 : Int32} {x2 : Int32} {x3 : Int32} {M2 : Mm} (h : f_X3_pass M x1 x2 x3 = some M2) : CT l 0 G y_X3_pass prog_5_method_3_code 7 none 1 21 [.ref (gB G + 128), .int x1, .int x2, .int x3] M none M2 :=
  CT.of (by decide +kernel) (Nat.le_of_ble_eq_true rfl) rfl (fun p e s m args below meth c C hlk hr => k_X3_pass_0 C hlk hr h)
-- SnowSentries$Forecast.casesBelow(I)J
set_option maxRecDepth 4000 in
theorem k_X3_casesBelow_34 {p : Program} {l : Launch} {e : Env} {s : State} {m : MethodId} {args : Array Value} {below : List Frame} {meth : Method} {c : Code} {G : GG} {M : Mm} {j2 : Int64} {r : Int64} (C : CX p s m args c prog_5_method_4_code 5 "SnowSentries$Forecast" 0 G) (hlk : meth.locks = false) (hr : meth.sig.returnType = (some .long)) : f_X3_casesBelow_34 M j2 = some r → Z p l e { frames := 0, cells := 0, slots := 0, locals := 0 } s m args below meth c 0 G 5 (MQ below (QC 0 G (some (.long r)) M) args s 0 0 (AU 0 G)) 34 [(2, .long j2)] [] M := by
  intro h
  unfold f_X3_casesBelow_34 at h
  refine z_lload_n 0 C d_X3_casesBelow_34 rfl rfl ?_
  obtain rfl := o_some h
  exact z_lret C hlk hr d_X3_casesBelow_35
set_option maxRecDepth 4000 in
theorem kb_X3_casesBelow_5 {p : Program} {l : Launch} {e : Env} {s : State} {m : MethodId} {args : Array Value} {below : List Frame} {meth : Method} {c : Code} {G : GG} {k5 : Int64 → Int32 → Option Int64} {M : Mm} {x1 : Int32} {j2 : Int64} {x4 : Int32} {r : Int64} (C : CX p s m args c prog_5_method_4_code 5 "SnowSentries$Forecast" 0 G) (hlk : meth.locks = false) (hr : meth.sig.returnType = (some .long)) (hk5 : ∀ (j2 : Int64) (x4 : Int32), k5 j2 x4 = some r → Z p l e { frames := 0, cells := 0, slots := 0, locals := 0 } s m args below meth c 0 G 5 (MQ below (QC 0 G (some (.long r)) M) args s 0 0 (AU 0 G)) 5 [(0, .ref (gB G + 128)), (1, .int x1), (2, .long j2), (4, .int x4)] [] M) : b_X3_casesBelow_5 k5 M x1 j2 x4 = some r → Z p l e { frames := 0, cells := 0, slots := 0, locals := 0 } s m args below meth c 0 G 5 (MQ below (QC 0 G (some (.long r)) M) args s 0 0 (AU 0 G)) 5 [(0, .ref (gB G + 128)), (1, .int x1), (2, .long j2), (4, .int x4)] [] M := by
  intro h
  unfold b_X3_casesBelow_5 at h
  refine z_iload 3 C d_X3_casesBelow_5 rfl ?_
  refine z_iload_n 1 C d_X3_casesBelow_7 rfl rfl ?_
  refine z_icmp_ge C d_X3_casesBelow_8 (fun q1 => ?_) (fun q1 => ?_)
  · have h := o_t q1 h
    exact z_sub [2] rfl (k_X3_casesBelow_34 C hlk hr h)
  · have h := o_f q1 h
    refine z_iload 3 C d_X3_casesBelow_11 rfl ?_
    refine z_bipush (v := (99 : Int32)) C d_X3_casesBelow_13 (by decide) ?_
    refine z_icmp_gt C d_X3_casesBelow_15 (fun q2 => ?_) (fun q2 => ?_)
    · have h := o_t q2 h
      exact z_sub [2] rfl (k_X3_casesBelow_34 C hlk hr h)
    · have h := o_f q2 h
      refine z_lload_n 2 C d_X3_casesBelow_18 rfl rfl ?_
      refine z_aload_n 0 C d_X3_casesBelow_19 rfl rfl ?_
      refine z_get (k := 2) (v := .ref (gB G + 129)) C ((E_3 kx_128 G) _ _) (kU_in kx_128 (by decide)) rfl inX3 (by decide) wf_X3_9 rfl d_X3_casesBelow_20 ?_
      refine z_iload 3 C d_X3_casesBelow_23 rfl ?_
      obtain ⟨q3, h⟩ := o_ck h
      refine z_lld ((E_27 kx_129 G) _ _) C (kU_in kx_129 (by decide)) q3 d_X3_casesBelow_25 ?_
      refine z_ladd C d_X3_casesBelow_26 ?_
      obtain ⟨v4, e5, h⟩ := o_nm h
      refine z_nJ e5 ?_
      refine z_lstore_n (L' := [(2, .long v4), (0, .ref (gB G + 128)), (1, .int x1), (4, .int x4)]) C d_X3_casesBelow_27 rfl (by decide) rfl ?_
      refine z_iinc (v := (1 : Int32)) (L' := [(4, .int (x4 + (1 : Int32))), (2, .long v4), (0, .ref (gB G + 128)), (1, .int x1)]) 3 C d_X3_casesBelow_28 rfl (by decide) (by decide) rfl ?_
      refine z_goto C d_X3_casesBelow_31 ?_
      exact z_sub [2, 3, 1, 0] rfl (hk5 _ _  h)
theorem k_X3_casesBelow_5 {p : Program} {l : Launch} {e : Env} {s : State} {m : MethodId} {args : Array Value} {below : List Frame} {meth : Method} {c : Code} {G : GG} {M : Mm} {x1 : Int32} {r : Int64} (C : CX p s m args c prog_5_method_4_code 5 "SnowSentries$Forecast" 0 G) (hlk : meth.locks = false) (hr : meth.sig.returnType = (some .long)) : ∀ (n : Nat) (j2 : Int64) (x4 : Int32), f_X3_casesBelow_5 M x1 n j2 x4 = some r → Z p l e { frames := 0, cells := 0, slots := 0, locals := 0 } s m args below meth c 0 G 5 (MQ below (QC 0 G (some (.long r)) M) args s 0 0 (AU 0 G)) 5 [(0, .ref (gB G + 128)), (1, .int x1), (2, .long j2), (4, .int x4)] [] M := by
  intro n
  induction n with
  | zero =>
    intro j2 x4  h
    exact absurd h (fun z => by cases z)
  | succ n ih =>
    intro j2 x4  h
    exact kb_X3_casesBelow_5 C hlk hr  (fun j2 x4 h => ih j2 x4 h) h
set_option maxRecDepth 4000 in
theorem k_X3_casesBelow_0 {p : Program} {l : Launch} {e : Env} {s : State} {m : MethodId} {args : Array Value} {below : List Frame} {meth : Method} {c : Code} {G : GG} {M : Mm} {x1 : Int32} {r : Int64} (C : CX p s m args c prog_5_method_4_code 5 "SnowSentries$Forecast" 0 G) (hlk : meth.locks = false) (hr : meth.sig.returnType = (some .long)) : f_X3_casesBelow M x1 = some r → Z p l e { frames := 0, cells := 0, slots := 0, locals := 0 } s m args below meth c 0 G 5 (MQ below (QC 0 G (some (.long r)) M) args s 0 0 (AU 0 G)) 0 [(0, .ref (gB G + 128)), (1, .int x1)] [] M := by
  intro h
  unfold f_X3_casesBelow at h
  refine z_lconst (v := (0 : Int64)) C d_X3_casesBelow_0 (by decide) ?_
  refine z_lstore_n (L' := [(2, .long (0 : Int64)), (0, .ref (gB G + 128)), (1, .int x1)]) C d_X3_casesBelow_1 rfl (by decide) rfl ?_
  refine z_iconst (v := (0 : Int32)) C d_X3_casesBelow_2 (by decide) ?_
  refine z_istore (L' := [(4, .int (0 : Int32)), (2, .long (0 : Int64)), (0, .ref (gB G + 128)), (1, .int x1)]) C d_X3_casesBelow_3 (by decide) rfl ?_
  exact z_sub [2, 3, 1, 0] rfl (k_X3_casesBelow_5 C hlk hr _ _ _ h)
theorem c_X3_casesBelow (l : Launch) (G : GG) {M : Mm} {x1 : Int32} {r : Int64} (h : f_X3_casesBelow M x1 = some r) : CT l 0 G y_X3_casesBelow prog_5_method_4_code 5 (some .long) 0 0 [.ref (gB G + 128), .int x1] M (some (.long r)) M :=
  CT.of (by decide +kernel) (Nat.le_of_ble_eq_true rfl) rfl (fun p e s m args below meth c C hlk hr => k_X3_casesBelow_0 C hlk hr h)
-- SnowSentries$Forecast.reduce(JJ)V
set_option maxRecDepth 4000 in
theorem k_X3_reduce_68 {p : Program} {l : Launch} {e : Env} {s : State} {m : MethodId} {args : Array Value} {below : List Frame} {meth : Method} {c : Code} {G : GG} {M : Mm} {M2 : Mm} (C : CX p s m args c prog_5_method_5_code 12 "SnowSentries$Forecast" 0 G) (hlk : meth.locks = false) (hr : meth.sig.returnType = none) : f_X3_reduce_68 M = some M2 → Z p l e { frames := 0, cells := 0, slots := 0, locals := 0 } s m args below meth c 0 G 12 (MQ below (QC 0 G none M2) args s 0 0 (AU 0 G)) 68 [] [] M := by
  intro h
  unfold f_X3_reduce_68 at h
  obtain rfl := o_some h
  exact z_vret C hlk hr d_X3_reduce_68
set_option maxRecDepth 4000 in
theorem k_X3_reduce_45 {p : Program} {l : Launch} {e : Env} {s : State} {m : MethodId} {args : Array Value} {below : List Frame} {meth : Method} {c : Code} {G : GG} {M : Mm} {j1 : Int64} {j3 : Int64} {j5 : Int64} {M2 : Mm} (C : CX p s m args c prog_5_method_5_code 12 "SnowSentries$Forecast" 0 G) (hlk : meth.locks = false) (hr : meth.sig.returnType = none) : f_X3_reduce_45 M j1 j3 j5 = some M2 → Z p l e { frames := 0, cells := 0, slots := 0, locals := 0 } s m args below meth c 0 G 12 (MQ below (QC 0 G none M2) args s 0 0 (AU 0 G)) 45 [(0, .ref (gB G + 128)), (1, .long j1), (3, .long j3), (5, .long j5)] [] M := by
  intro h
  unfold f_X3_reduce_45 at h
  refine z_lload 3 C d_X3_reduce_45 rfl ?_
  refine z_lconst (v := (0 : Int64)) C d_X3_reduce_47 (by decide) ?_
  refine z_lcmp C d_X3_reduce_48 ?_
  refine z_if_le C d_X3_reduce_49 (fun q1 => ?_) (fun q1 => ?_)
  · have h := o_t q1 h
    exact z_sub [] rfl (k_X3_reduce_68 C hlk hr h)
  · have h := o_f q1 h
    refine z_aload_n 0 C d_X3_reduce_52 rfl rfl ?_
    refine z_lload_n 1 C d_X3_reduce_53 rfl rfl ?_
    refine z_lload 3 C d_X3_reduce_54 rfl ?_
    obtain ⟨q2, h⟩ := o_ck h
    refine z_ldiv C d_X3_reduce_56 q2 ?_
    obtain ⟨M3, e4, h⟩ := o_wr h
    refine z_pJ (k := 0) (ty := .long) C (fun r q => (E_3 kx_128 G) r q) (fun _ _ => rfl) (kU_in kx_128 (by decide)) rfl inX3 tyX3 tyX3_ok nmX3 (by decide) wf_X3_92 rfl (by decide +kernel) rfl rfl (Nat.le_of_ble_eq_true rfl) d_X3_reduce_57 ?_
    refine z_nM e4 ?_
    refine z_aload_n 0 C d_X3_reduce_60 rfl rfl ?_
    refine z_lload_n 2 C d_X3_reduce_61 rfl rfl ?_
    refine z_lload 3 C d_X3_reduce_62 rfl ?_
    obtain ⟨q5, h⟩ := o_ck h
    refine z_ldiv C d_X3_reduce_64 q5 ?_
    obtain ⟨M6, e7, h⟩ := o_wr h
    refine z_pJ (k := 1) (ty := .long) C (fun r q => (E_3 kx_128 G) r q) (fun _ _ => rfl) (kU_in kx_128 (by decide)) rfl inX3 tyX3 tyX3_ok nmX3 (by decide) wf_X3_96 rfl (by decide +kernel) rfl rfl (Nat.le_of_ble_eq_true rfl) d_X3_reduce_65 ?_
    refine z_nM e7 ?_
    exact z_sub [] rfl (k_X3_reduce_68 C hlk hr h)
set_option maxRecDepth 4000 in
theorem kb_X3_reduce_9 {p : Program} {l : Launch} {e : Env} {s : State} {m : MethodId} {args : Array Value} {below : List Frame} {meth : Method} {c : Code} {G : GG} {k9 : Int64 → Int64 → Int32 → Option Mm} {M : Mm} {j1 : Int64} {j3 : Int64} {j5 : Int64} {j7 : Int64} {x9 : Int32} {M2 : Mm} (C : CX p s m args c prog_5_method_5_code 12 "SnowSentries$Forecast" 0 G) (hlk : meth.locks = false) (hr : meth.sig.returnType = none) (hk9 : ∀ (j5 : Int64) (j7 : Int64) (x9 : Int32), k9 j5 j7 x9 = some M2 → Z p l e { frames := 0, cells := 0, slots := 0, locals := 0 } s m args below meth c 0 G 12 (MQ below (QC 0 G none M2) args s 0 0 (AU 0 G)) 9 [(0, .ref (gB G + 128)), (1, .long j1), (3, .long j3), (5, .long j5), (7, .long j7), (9, .int x9)] [] M) : b_X3_reduce_9 k9 M j1 j3 j5 j7 x9 = some M2 → Z p l e { frames := 0, cells := 0, slots := 0, locals := 0 } s m args below meth c 0 G 12 (MQ below (QC 0 G none M2) args s 0 0 (AU 0 G)) 9 [(0, .ref (gB G + 128)), (1, .long j1), (3, .long j3), (5, .long j5), (7, .long j7), (9, .int x9)] [] M := by
  intro h
  unfold b_X3_reduce_9 at h
  refine z_iload 5 C d_X3_reduce_9 rfl ?_
  refine z_sipush (v := (200 : Int32)) C d_X3_reduce_11 (by decide) ?_
  refine z_icmp_ge C d_X3_reduce_14 (fun q1 => ?_) (fun q1 => ?_)
  · have h := o_t q1 h
    exact z_sub [0, 1, 2, 3] rfl (k_X3_reduce_45 C hlk hr h)
  · have h := o_f q1 h
    refine z_lload 4 C d_X3_reduce_17 rfl ?_
    refine z_lconst (v := (0 : Int64)) C d_X3_reduce_19 (by decide) ?_
    refine z_lcmp C d_X3_reduce_20 ?_
    refine z_if_eq C d_X3_reduce_21 (fun q2 => ?_) (fun q2 => ?_)
    · have h := o_t q2 h
      exact z_sub [0, 1, 2, 3] rfl (k_X3_reduce_45 C hlk hr h)
    · have h := o_f q2 h
      refine z_lload 3 C d_X3_reduce_24 rfl ?_
      refine z_lload 4 C d_X3_reduce_26 rfl ?_
      obtain ⟨q3, h⟩ := o_ck h
      refine z_lrem C d_X3_reduce_28 q3 ?_
      obtain ⟨v4, e5, h⟩ := o_nm h
      refine z_nJ e5 ?_
      refine z_lstore (L' := [(10, .long v4), (0, .ref (gB G + 128)), (1, .long j1), (3, .long j3), (5, .long j5), (7, .long j7), (9, .int x9)]) C d_X3_reduce_29 (by decide) rfl ?_
      refine z_lload 5 C d_X3_reduce_31 rfl ?_
      refine z_lstore (L' := [(5, .long j7), (10, .long v4), (0, .ref (gB G + 128)), (1, .long j1), (3, .long j3), (7, .long j7), (9, .int x9)]) C d_X3_reduce_33 (by decide) rfl ?_
      refine z_lload 1 C d_X3_reduce_35 rfl ?_
      refine z_lstore (L' := [(7, .long v4), (5, .long j7), (10, .long v4), (0, .ref (gB G + 128)), (1, .long j1), (3, .long j3), (9, .int x9)]) C d_X3_reduce_37 (by decide) rfl ?_
      refine z_iinc (v := (1 : Int32)) (L' := [(9, .int (x9 + (1 : Int32))), (7, .long v4), (5, .long j7), (10, .long v4), (0, .ref (gB G + 128)), (1, .long j1), (3, .long j3)]) 6 C d_X3_reduce_39 rfl (by decide) (by decide) rfl ?_
      refine z_goto C d_X3_reduce_42 ?_
      exact z_sub [4, 5, 6, 2, 1, 0] rfl (hk9 _ _ _  h)
theorem k_X3_reduce_9 {p : Program} {l : Launch} {e : Env} {s : State} {m : MethodId} {args : Array Value} {below : List Frame} {meth : Method} {c : Code} {G : GG} {M : Mm} {j1 : Int64} {j3 : Int64} {M2 : Mm} (C : CX p s m args c prog_5_method_5_code 12 "SnowSentries$Forecast" 0 G) (hlk : meth.locks = false) (hr : meth.sig.returnType = none) : ∀ (n : Nat) (j5 : Int64) (j7 : Int64) (x9 : Int32), f_X3_reduce_9 M j1 j3 n j5 j7 x9 = some M2 → Z p l e { frames := 0, cells := 0, slots := 0, locals := 0 } s m args below meth c 0 G 12 (MQ below (QC 0 G none M2) args s 0 0 (AU 0 G)) 9 [(0, .ref (gB G + 128)), (1, .long j1), (3, .long j3), (5, .long j5), (7, .long j7), (9, .int x9)] [] M := by
  intro n
  induction n with
  | zero =>
    intro j5 j7 x9  h
    exact absurd h (fun z => by cases z)
  | succ n ih =>
    intro j5 j7 x9  h
    exact kb_X3_reduce_9 C hlk hr  (fun j5 j7 x9 h => ih j5 j7 x9 h) h
set_option maxRecDepth 4000 in
theorem k_X3_reduce_0 {p : Program} {l : Launch} {e : Env} {s : State} {m : MethodId} {args : Array Value} {below : List Frame} {meth : Method} {c : Code} {G : GG} {M : Mm} {j1 : Int64} {j3 : Int64} {M2 : Mm} (C : CX p s m args c prog_5_method_5_code 12 "SnowSentries$Forecast" 0 G) (hlk : meth.locks = false) (hr : meth.sig.returnType = none) : f_X3_reduce M j1 j3 = some M2 → Z p l e { frames := 0, cells := 0, slots := 0, locals := 0 } s m args below meth c 0 G 12 (MQ below (QC 0 G none M2) args s 0 0 (AU 0 G)) 0 [(0, .ref (gB G + 128)), (1, .long j1), (3, .long j3)] [] M := by
  intro h
  unfold f_X3_reduce at h
  refine z_lload_n 2 C d_X3_reduce_0 rfl rfl ?_
  refine z_lstore (L' := [(5, .long j3), (0, .ref (gB G + 128)), (1, .long j1), (3, .long j3)]) C d_X3_reduce_1 (by decide) rfl ?_
  refine z_lload_n 2 C d_X3_reduce_3 rfl rfl ?_
  refine z_lstore (L' := [(7, .long j1), (5, .long j3), (0, .ref (gB G + 128)), (1, .long j1), (3, .long j3)]) C d_X3_reduce_4 (by decide) rfl ?_
  refine z_iconst (v := (0 : Int32)) C d_X3_reduce_6 (by decide) ?_
  refine z_istore (L' := [(9, .int (0 : Int32)), (7, .long j1), (5, .long j3), (0, .ref (gB G + 128)), (1, .long j1), (3, .long j3)]) C d_X3_reduce_7 (by decide) rfl ?_
  exact z_sub [3, 4, 5, 2, 1, 0] rfl (k_X3_reduce_9 C hlk hr _ _ _ _ h)
theorem c_X3_reduce (l : Launch) (G : GG) {M : Mm} {j1 : Int64} {j3 : Int64} {M2 : Mm} (h : f_X3_reduce M j1 j3 = some M2) : CT l 0 G y_X3_reduce prog_5_method_5_code 12 none 0 0 [.ref (gB G + 128), .long j1, .long j3] M none M2 :=
  CT.of (by decide +kernel) (Nat.le_of_ble_eq_true rfl) rfl (fun p e s m args below meth c C hlk hr => k_X3_reduce_0 C hlk hr h)
-- SnowSentries$Forecast.weigh(LSnowSentries$Land;III)V
set_option maxRecDepth 4000 in
theorem k_X3_weigh_153 {p : Program} {l : Launch} {e : Env} {s : State} {m : MethodId} {args : Array Value} {below : List Frame} {meth : Method} {c : Code} {G : GG} {M : Mm} {j7 : Int64} {t_0 : Int64} {M2 : Mm} (C : CX p s m args c prog_5_method_2_code 11 "SnowSentries$Forecast" 0 G) (hlk : meth.locks = false) (hr : meth.sig.returnType = none) : f_X3_weigh_153 M j7 t_0 = some M2 → Z p l e { frames := 3, cells := 0, slots := 0, locals := 67 } s m args below meth c 0 G 11 (MQ below (QC 0 G none M2) args s 0 0 (AU 0 G)) 153 [(0, .ref (gB G + 128)), (7, .long j7)] [.long t_0] M := by
  intro h
  unfold f_X3_weigh_153 at h
  refine z_lstore (L' := [(9, .long t_0), (0, .ref (gB G + 128)), (7, .long j7)]) C d_X3_weigh_153 (by decide) rfl ?_
  refine z_aload_n 1 C d_X3_weigh_155 rfl rfl ?_
  refine z_lload 0 C d_X3_weigh_156 rfl ?_
  refine z_lload 2 C d_X3_weigh_158 rfl ?_
  obtain ⟨p2, e1, h⟩ := o_bd h
  refine z_V (S := []) (As := [.long t_0, .long j7]) C (c_X3_reduce l G e1) ((E_3 kx_128 G) _ _) (kU_in kx_128 (by decide)) rfl wc_X3_reduce wm_X3_83 ws_X3_reduce wl_X3_reduce wi_X3 hy_X3_reduce ⟨Nat.le_of_ble_eq_true rfl, Nat.le_of_ble_eq_true rfl⟩ rfl rfl (Nat.le_of_ble_eq_true rfl) d_X3_weigh_160 ?_
  obtain rfl := o_some h
  exact z_vret C hlk hr d_X3_weigh_163
set_option maxRecDepth 4000 in
theorem k_X3_weigh_125 {p : Program} {l : Launch} {e : Env} {s : State} {m : MethodId} {args : Array Value} {below : List Frame} {meth : Method} {c : Code} {G : GG} {M : Mm} {a1 : Nat} {a6 : Nat} {j7 : Int64} {M2 : Mm} (C : CX p s m args c prog_5_method_2_code 11 "SnowSentries$Forecast" 0 G) (hlk : meth.locks = false) (hr : meth.sig.returnType = none) (ha1 : kU 0 a1 = 4) (ha6 : kU 0 a6 = 6) : f_X3_weigh_125 M a1 a6 j7 = some M2 → Z p l e { frames := 3, cells := 0, slots := 0, locals := 67 } s m args below meth c 0 G 11 (MQ below (QC 0 G none M2) args s 0 0 (AU 0 G)) 125 [(0, .ref (gB G + 128)), (1, .ref (gB G + a1)), (6, .ref (gB G + a6)), (7, .long j7)] [] M := by
  intro h
  unfold f_X3_weigh_125 at h
  refine z_aload_n 1 C d_X3_weigh_125 rfl rfl ?_
  refine z_get (k := 3) (v := .ref (gB G + (a1 + 2))) C ((E_4 ha1 G) _ _) (kU_in ha1 (by decide)) rfl inX4 (by decide) wf_X3_68 rfl d_X3_weigh_126 ?_
  refine z_aload 2 C d_X3_weigh_129 rfl ?_
  obtain ⟨p2, e1, h⟩ := o_bd h
  refine z_V (S := []) (As := [.ref (gB G + a6)]) C (c_X5_suits l G (k_4_3 ha1) ha6 e1) ((E_5 (k_4_3 ha1) G) _ _) (kU_in (k_4_3 ha1) (by decide)) rfl wc_X5_suits wm_X3_72 ws_X5_suits wl_X5_suits wi_X5 hy_X5_suits ⟨Nat.le_of_ble_eq_true rfl, Nat.le_of_ble_eq_true rfl⟩ rfl rfl (Nat.le_of_ble_eq_true rfl) d_X3_weigh_131 ?_
  refine z_if_eq C d_X3_weigh_134 (fun q3 => ?_) (fun q3 => ?_)
  · have h := o_t q3 h
    refine z_lload 3 C d_X3_weigh_151 rfl ?_
    exact z_sub [0, 3] rfl (k_X3_weigh_153 C hlk hr h)
  · have h := o_f q3 h
    refine z_aload_n 0 C d_X3_weigh_137 rfl rfl ?_
    refine z_aload_n 1 C d_X3_weigh_138 rfl rfl ?_
    refine z_get (k := 3) (v := .ref (gB G + (a1 + 2))) C ((E_4 ha1 G) _ _) (kU_in ha1 (by decide)) rfl inX4 (by decide) wf_X3_68 rfl d_X3_weigh_139 ?_
    refine z_get (k := 0) (v := .int (M.1 (a1 + 2) 0)) C ((E_5 (k_4_3 ha1) G) _ _) (kU_in (k_4_3 ha1) (by decide)) rfl inX5 (by decide) wf_X3_78 rfl d_X3_weigh_142 ?_
    obtain ⟨p5, e4, h⟩ := o_bd h
    refine z_V (S := []) (As := [.int (M.1 (a1 + 2) 0)]) C (c_X3_casesBelow l G e4) ((E_3 kx_128 G) _ _) (kU_in kx_128 (by decide)) rfl wc_X3_casesBelow wm_X3_79 ws_X3_casesBelow wl_X3_casesBelow wi_X3 hy_X3_casesBelow ⟨Nat.le_of_ble_eq_true rfl, Nat.le_of_ble_eq_true rfl⟩ rfl rfl (Nat.le_of_ble_eq_true rfl) d_X3_weigh_145 ?_
    refine z_goto C d_X3_weigh_148 ?_
    exact z_sub [0, 3] rfl (k_X3_weigh_153 C hlk hr h)
set_option maxRecDepth 4000 in
theorem kb_X3_weigh_44 {p : Program} {l : Launch} {e : Env} {s : State} {m : MethodId} {args : Array Value} {below : List Frame} {meth : Method} {c : Code} {G : GG} {k44 : Mm → Int64 → Int32 → Option Mm} {a1 : Nat} {x3 : Int32} {x4 : Int32} {a5 : Nat} {a6 : Nat} {M : Mm} {j7 : Int64} {x9 : Int32} {M2 : Mm} (C : CX p s m args c prog_5_method_2_code 11 "SnowSentries$Forecast" 0 G) (hlk : meth.locks = false) (hr : meth.sig.returnType = none) (ha1 : kU 0 a1 = 4) (ha5 : kU 0 a5 = 7) (ha6 : kU 0 a6 = 6) (hk44 : ∀ (M : Mm) (j7 : Int64) (x9 : Int32), k44 M j7 x9 = some M2 → Z p l e { frames := 3, cells := 0, slots := 0, locals := 67 } s m args below meth c 0 G 11 (MQ below (QC 0 G none M2) args s 0 0 (AU 0 G)) 44 [(0, .ref (gB G + 128)), (1, .ref (gB G + a1)), (3, .int x3), (4, .int x4), (5, .ref (gB G + a5)), (6, .ref (gB G + a6)), (7, .long j7), (9, .int x9)] [] M) : b_X3_weigh_44 k44 a1 x3 x4 a5 a6 M j7 x9 = some M2 → Z p l e { frames := 3, cells := 0, slots := 0, locals := 67 } s m args below meth c 0 G 11 (MQ below (QC 0 G none M2) args s 0 0 (AU 0 G)) 44 [(0, .ref (gB G + 128)), (1, .ref (gB G + a1)), (3, .int x3), (4, .int x4), (5, .ref (gB G + a5)), (6, .ref (gB G + a6)), (7, .long j7), (9, .int x9)] [] M := by
  intro h
  unfold b_X3_weigh_44 at h
  refine z_iload 7 C d_X3_weigh_44 rfl ?_
  refine z_iload 3 C d_X3_weigh_46 rfl ?_
  refine z_icmp_ge C d_X3_weigh_48 (fun q1 => ?_) (fun q1 => ?_)
  · have h := o_t q1 h
    exact z_sub [0, 1, 5, 6] rfl (k_X3_weigh_125 C hlk hr ha1 ha6 h)
  · have h := o_f q1 h
    refine z_iload 7 C d_X3_weigh_51 rfl ?_
    refine z_bipush (v := (12 : Int32)) C d_X3_weigh_53 (by decide) ?_
    refine z_icmp_ge C d_X3_weigh_55 (fun q2 => ?_) (fun q2 => ?_)
    · have h := o_t q2 h
      exact z_sub [0, 1, 5, 6] rfl (k_X3_weigh_125 C hlk hr ha1 ha6 h)
    · have h := o_f q2 h
      refine z_aload 4 C d_X3_weigh_58 rfl ?_
      refine z_get (k := 6) (v := .ref (gB G + (a5 + 6))) C ((E_7 ha5 G) _ _) (kU_in ha5 (by decide)) rfl inX7 (by decide) wf_X3_42 rfl d_X3_weigh_60 ?_
      refine z_iload_n 2 C d_X3_weigh_63 rfl rfl ?_
      refine z_iload 7 C d_X3_weigh_64 rfl ?_
      obtain ⟨p4, e3, h⟩ := o_bd h
      refine z_V (S := []) (As := [.int x3, .int x9]) C (c_X0_warmthOn l G (k_7_6 ha5) e3) ((E_0 (k_7_6 ha5) G) _ _) (kU_in (k_7_6 ha5) (by decide)) rfl wc_X0_warmthOn wm_X3_46 ws_X0_warmthOn wl_X0_warmthOn wi_X0 hy_X0_warmthOn ⟨Nat.le_of_ble_eq_true rfl, Nat.le_of_ble_eq_true rfl⟩ rfl rfl (Nat.le_of_ble_eq_true rfl) d_X3_weigh_66 ?_
      refine z_istore (L' := [(10, .int p4), (0, .ref (gB G + 128)), (1, .ref (gB G + a1)), (3, .int x3), (4, .int x4), (5, .ref (gB G + a5)), (6, .ref (gB G + a6)), (7, .long j7), (9, .int x9)]) C d_X3_weigh_69 (by decide) rfl ?_
      refine z_aload_n 1 C d_X3_weigh_71 rfl rfl ?_
      refine z_aload 6 C d_X3_weigh_72 rfl ?_
      refine z_iload 0 C d_X3_weigh_74 rfl ?_
      refine z_aload 5 C d_X3_weigh_76 rfl ?_
      refine z_get (k := 5) (v := .ref (gB G + (a5 + 5))) C ((E_7 ha5 G) _ _) (kU_in ha5 (by decide)) rfl inX7 (by decide) wf_X3_52 rfl d_X3_weigh_78 ?_
      refine z_iload 8 C d_X3_weigh_81 rfl ?_
      obtain ⟨q5, h⟩ := o_ck h
      refine z_ald ((E_22 (k_7_5 ha5) G) _ _) C (kU_in (k_7_5 ha5) (by decide)) q5 d_X3_weigh_83 ?_
      obtain ⟨p7, e6, h⟩ := o_bd h
      refine z_V (S := [.ref (gB G + 128)]) (As := [.int p4, .int (M.1 (a5 + 5) x9.toNatClampNeg)]) C (c_X6_lossBy l G ha6 e6) ((E_6 ha6 G) _ _) (kU_in ha6 (by decide)) rfl wc_X6_lossBy wm_X3_56 ws_X6_lossBy wl_X6_lossBy wi_X6 hy_X6_lossBy ⟨Nat.le_of_ble_eq_true rfl, Nat.le_of_ble_eq_true rfl⟩ rfl rfl (Nat.le_of_ble_eq_true rfl) d_X3_weigh_84 ?_
      refine z_aload 6 C d_X3_weigh_87 rfl ?_
      refine z_iload 0 C d_X3_weigh_89 rfl ?_
      refine z_aload 5 C d_X3_weigh_91 rfl ?_
      refine z_get (k := 5) (v := .ref (gB G + (a5 + 5))) C ((E_7 ha5 G) _ _) (kU_in ha5 (by decide)) rfl inX7 (by decide) wf_X3_52 rfl d_X3_weigh_93 ?_
      refine z_iload 8 C d_X3_weigh_96 rfl ?_
      refine z_ald ((E_22 (k_7_5 ha5) G) _ _) C (kU_in (k_7_5 ha5) (by decide)) q5 d_X3_weigh_98 ?_
      refine z_iconst (v := (1 : Int32)) C d_X3_weigh_99 (by decide) ?_
      refine z_iadd C d_X3_weigh_100 ?_
      obtain ⟨p9, e8, h⟩ := o_bd h
      refine z_V (S := [.int p7, .ref (gB G + 128)]) (As := [.int p4, .int ((M.1 (a5 + 5) x9.toNatClampNeg) + (1 : Int32))]) C (c_X6_lossBy l G ha6 e8) ((E_6 ha6 G) _ _) (kU_in ha6 (by decide)) rfl wc_X6_lossBy wm_X3_56 ws_X6_lossBy wl_X6_lossBy wi_X6 hy_X6_lossBy ⟨Nat.le_of_ble_eq_true rfl, Nat.le_of_ble_eq_true rfl⟩ rfl rfl (Nat.le_of_ble_eq_true rfl) d_X3_weigh_101 ?_
      refine z_aload_n 2 C d_X3_weigh_104 rfl rfl ?_
      refine z_get (k := 1) (v := .int (M.1 a1 1)) C ((E_4 ha1 G) _ _) (kU_in ha1 (by decide)) rfl inX4 (by decide) wf_X3_59 rfl d_X3_weigh_105 ?_
      obtain ⟨p11, e10, h⟩ := o_bd h
      refine z_V (S := []) (As := [.int p7, .int p9, .int (M.1 a1 1)]) C (c_X3_pass l G e10) ((E_3 kx_128 G) _ _) (kU_in kx_128 (by decide)) rfl wc_X3_pass wm_X3_62 ws_X3_pass wl_X3_pass wi_X3 hy_X3_pass ⟨Nat.le_of_ble_eq_true rfl, Nat.le_of_ble_eq_true rfl⟩ rfl rfl (Nat.le_of_ble_eq_true rfl) d_X3_weigh_108 ?_
      refine z_lload 7 C d_X3_weigh_111 rfl ?_
      refine z_ldc2 (v := (10 : Int64)) C wk_X3_66 d_X3_weigh_113 ?_
      refine z_lmul C d_X3_weigh_116 ?_
      obtain ⟨v12, e13, h⟩ := o_nm h
      refine z_nJ e13 ?_
      refine z_lstore (L' := [(7, .long v12), (10, .int p4), (0, .ref (gB G + 128)), (1, .ref (gB G + a1)), (3, .int x3), (4, .int x4), (5, .ref (gB G + a5)), (6, .ref (gB G + a6)), (9, .int x9)]) C d_X3_weigh_117 (by decide) rfl ?_
      refine z_iinc (v := (1 : Int32)) (L' := [(9, .int (x9 + (1 : Int32))), (7, .long v12), (10, .int p4), (0, .ref (gB G + 128)), (1, .ref (gB G + a1)), (3, .int x3), (4, .int x4), (5, .ref (gB G + a5)), (6, .ref (gB G + a6))]) 8 C d_X3_weigh_119 rfl (by decide) (by decide) rfl ?_
      refine z_goto C d_X3_weigh_122 ?_
      exact z_sub [3, 4, 5, 6, 7, 8, 1, 0] rfl (hk44 _ _ _  h)
theorem k_X3_weigh_44 {p : Program} {l : Launch} {e : Env} {s : State} {m : MethodId} {args : Array Value} {below : List Frame} {meth : Method} {c : Code} {G : GG} {a1 : Nat} {x3 : Int32} {x4 : Int32} {a5 : Nat} {a6 : Nat} {M2 : Mm} (C : CX p s m args c prog_5_method_2_code 11 "SnowSentries$Forecast" 0 G) (hlk : meth.locks = false) (hr : meth.sig.returnType = none) (ha1 : kU 0 a1 = 4) (ha5 : kU 0 a5 = 7) (ha6 : kU 0 a6 = 6) : ∀ (n : Nat) (M : Mm) (j7 : Int64) (x9 : Int32), f_X3_weigh_44 a1 x3 x4 a5 a6 n M j7 x9 = some M2 → Z p l e { frames := 3, cells := 0, slots := 0, locals := 67 } s m args below meth c 0 G 11 (MQ below (QC 0 G none M2) args s 0 0 (AU 0 G)) 44 [(0, .ref (gB G + 128)), (1, .ref (gB G + a1)), (3, .int x3), (4, .int x4), (5, .ref (gB G + a5)), (6, .ref (gB G + a6)), (7, .long j7), (9, .int x9)] [] M := by
  intro n
  induction n with
  | zero =>
    intro M j7 x9  h
    exact absurd h (fun z => by cases z)
  | succ n ih =>
    intro M j7 x9  h
    exact kb_X3_weigh_44 C hlk hr ha1 ha5 ha6 (fun M j7 x9 h => ih M j7 x9 h) h
set_option maxRecDepth 4000 in
theorem k_X3_weigh_0 {p : Program} {l : Launch} {e : Env} {s : State} {m : MethodId} {args : Array Value} {below : List Frame} {meth : Method} {c : Code} {G : GG} {M : Mm} {a1 : Nat} {x2 : Int32} {x3 : Int32} {x4 : Int32} {M2 : Mm} (C : CX p s m args c prog_5_method_2_code 11 "SnowSentries$Forecast" 0 G) (hlk : meth.locks = false) (hr : meth.sig.returnType = none) (ha1 : kU 0 a1 = 4) : f_X3_weigh M a1 x2 x3 x4 = some M2 → Z p l e { frames := 3, cells := 0, slots := 0, locals := 67 } s m args below meth c 0 G 11 (MQ below (QC 0 G none M2) args s 0 0 (AU 0 G)) 0 [(0, .ref (gB G + 128)), (1, .ref (gB G + a1)), (2, .int x2), (3, .int x3), (4, .int x4)] [] M := by
  intro h
  unfold f_X3_weigh at h
  refine z_aload_n 1 C d_X3_weigh_0 rfl rfl ?_
  refine z_get (k := 7) (v := .ref (gB G + (a1 + 5))) C ((E_4 ha1 G) _ _) (kU_in ha1 (by decide)) rfl inX4 (by decide) wf_X3_15 rfl d_X3_weigh_1 ?_
  obtain ⟨b1, e2, h⟩ := o_nm h
  have hb3 : kU 0 b1 = 7 := by rw [e2]; exact (k_4_7 ha1)
  refine z_nA e2 ?_
  refine z_astore (L' := [(5, .ref (gB G + b1)), (0, .ref (gB G + 128)), (1, .ref (gB G + a1)), (2, .int x2), (3, .int x3), (4, .int x4)]) C d_X3_weigh_4 (by decide) rfl ?_
  refine z_aload 0 C d_X3_weigh_6 rfl ?_
  refine z_iload_n 3 C d_X3_weigh_8 rfl rfl ?_
  refine z_iload_n 4 C d_X3_weigh_9 rfl rfl ?_
  obtain ⟨p5, e4, h⟩ := o_bd h
  refine z_V (S := []) (As := [.int x2, .int x3]) C (c_X7_manOf l G hb3 e4) ((E_7 hb3 G) _ _) (kU_in hb3 (by decide)) rfl wc_X7_manOf wm_X3_21 ws_X7_manOf wl_X7_manOf wi_X7 hy_X7_manOf ⟨Nat.le_of_ble_eq_true rfl, Nat.le_of_ble_eq_true rfl⟩ rfl rfl (Nat.le_of_ble_eq_true rfl) d_X3_weigh_10 ?_
  refine z_astore (L' := [(6, .ref (gB G + p5)), (5, .ref (gB G + b1)), (0, .ref (gB G + 128)), (1, .ref (gB G + a1)), (2, .int x2), (3, .int x3), (4, .int x4)]) C d_X3_weigh_13 (by decide) rfl ?_
  refine z_aload_n 2 C d_X3_weigh_15 rfl rfl ?_
  refine z_get (k := 2) (v := .ref (gB G + 129)) C ((E_3 kx_128 G) _ _) (kU_in kx_128 (by decide)) rfl inX3 (by decide) wf_X3_9 rfl d_X3_weigh_16 ?_
  refine z_lconst (v := (0 : Int64)) C d_X3_weigh_19 (by decide) ?_
  obtain ⟨M6, e7, h⟩ := o_wr h
  refine z_S (S := []) (As := [.ref (gB G + 129), .long (0 : Int64)]) C (c_J7_fill_d0a16 l G (n := 100) (fun r q => (E_27 kx_129 G) r q) (kU_in kx_129 (by decide)) (by decide)) wc_J7_fill_d0a16 wm_X3_27 ws_J7_fill_d0a16 wi_J7 hy_J7_fill_d0a16 ⟨Nat.le_of_ble_eq_true rfl, Nat.le_of_ble_eq_true rfl⟩ rfl rfl (Nat.le_of_ble_eq_true rfl) d_X3_weigh_20 ?_
  refine z_nM e7 ?_
  refine z_aload_n 2 C d_X3_weigh_23 rfl rfl ?_
  refine z_get (k := 2) (v := .ref (gB G + 129)) C ((E_3 kx_128 G) _ _) (kU_in kx_128 (by decide)) rfl inX3 (by decide) wf_X3_9 rfl d_X3_weigh_24 ?_
  refine z_aload 0 C d_X3_weigh_27 rfl ?_
  refine z_get (k := 4) (v := .int (M6.1 p5 4)) C ((E_6 (kr_X7_manOf hb3 e4) G) _ _) (kU_in (kr_X7_manOf hb3 e4) (by decide)) rfl inX6 (by decide) wf_X3_33 rfl d_X3_weigh_29 ?_
  refine z_lconst (v := (1 : Int64)) C d_X3_weigh_32 (by decide) ?_
  obtain ⟨q10, h⟩ := o_ck h
  obtain ⟨M8, e9, h⟩ := o_wr h
  refine z_lst (fun r q => (E_27 kx_129 G) r q) C (kU_in kx_129 (by decide)) q10 d_X3_weigh_33 ?_
  refine z_nM e9 ?_
  refine z_lconst (v := (1 : Int64)) C d_X3_weigh_34 (by decide) ?_
  refine z_lstore (L' := [(7, .long (1 : Int64)), (6, .ref (gB G + p5)), (5, .ref (gB G + b1)), (0, .ref (gB G + 128)), (1, .ref (gB G + a1)), (2, .int x2), (3, .int x3), (4, .int x4)]) C d_X3_weigh_35 (by decide) rfl ?_
  refine z_aload 2 C d_X3_weigh_37 rfl ?_
  refine z_get (k := 0) (v := .int (M8.1 b1 0)) C ((E_7 hb3 G) _ _) (kU_in hb3 (by decide)) rfl inX7 (by decide) wf_X3_39 rfl d_X3_weigh_39 ?_
  obtain ⟨v11, e12, h⟩ := o_nm h
  refine z_nI e12 ?_
  refine z_istore (L' := [(9, .int v11), (7, .long (1 : Int64)), (6, .ref (gB G + p5)), (5, .ref (gB G + b1)), (0, .ref (gB G + 128)), (1, .ref (gB G + a1)), (2, .int x2), (3, .int x3), (4, .int x4)]) C d_X3_weigh_42 (by decide) rfl ?_
  exact z_sub [4, 5, 7, 8, 3, 2, 1, 0] rfl (k_X3_weigh_44 C hlk hr ha1 hb3 (kr_X7_manOf hb3 e4) _ _ _ _ h)
theorem c_X3_weigh (l : Launch) (G : GG) {M : Mm} {a1 : Nat} {x2 : Int32} {x3 : Int32} {x4 : Int32} {M2 : Mm} (ha1 : kU 0 a1 = 4) (h : f_X3_weigh M a1 x2 x3 x4 = some M2) : CT l 0 G y_X3_weigh prog_5_method_2_code 11 none 3 67 [.ref (gB G + 128), .ref (gB G + a1), .int x2, .int x3, .int x4] M none M2 :=
  CT.of (by decide +kernel) (Nat.le_of_ble_eq_true rfl) rfl (fun p e s m args below meth c C hlk hr => k_X3_weigh_0 C hlk hr ha1 h)
-- SnowSentries$Sheet.renew(II)V
set_option maxRecDepth 4000 in
theorem k_X8_renew_0 {p : Program} {l : Launch} {e : Env} {s : State} {m : MethodId} {args : Array Value} {below : List Frame} {meth : Method} {c : Code} {G : GG} {M : Mm} {a0 : Nat} {x1 : Int32} {x2 : Int32} {M2 : Mm} (C : CX p s m args c prog_10_method_2_code 3 "SnowSentries$Sheet" 0 G) (hlk : meth.locks = false) (hr : meth.sig.returnType = none) (ha0 : kU 0 a0 = 8) : f_X8_renew M a0 x1 x2 = some M2 → Z p l e { frames := 1, cells := 0, slots := 0, locals := 23 } s m args below meth c 0 G 3 (MQ below (QC 0 G none M2) args s 0 0 (AU 0 G)) 0 [(0, .ref (gB G + a0)), (1, .int x1), (2, .int x2)] [] M := by
  intro h
  unfold f_X8_renew at h
  refine z_aload_n 0 C d_X8_renew_0 rfl rfl ?_
  refine z_iconst (v := (1 : Int32)) C d_X8_renew_1 (by decide) ?_
  obtain ⟨M1, e2, h⟩ := o_wr h
  refine z_pI (k := 0) (ty := .boolean) C (fun r q => (E_8 ha0 G) r q) (fun _ _ => rfl) (kU_in ha0 (by decide)) rfl inX8 tyX8 tyX8_ok nmX8 (by decide) wf_X8_15 rfl (by decide +kernel) (by decide) (by decide) (Nat.le_of_ble_eq_true rfl) d_X8_renew_2 ?_
  refine z_nM e2 ?_
  refine z_aload_n 0 C d_X8_renew_5 rfl rfl ?_
  refine z_iload_n 1 C d_X8_renew_6 rfl rfl ?_
  obtain ⟨M4, e5, h⟩ := o_wr h
  refine z_pI (k := 3) (ty := .int) C (fun r q => (E_8 ha0 G) r q) (fun _ _ => rfl) (kU_in ha0 (by decide)) rfl inX8 tyX8 tyX8_ok nmX8 (by decide) wf_X8_19 rfl (by decide +kernel) rfl rfl (Nat.le_of_ble_eq_true rfl) d_X8_renew_7 ?_
  refine z_nM e5 ?_
  refine z_aload_n 0 C d_X8_renew_10 rfl rfl ?_
  refine z_iload_n 2 C d_X8_renew_11 rfl rfl ?_
  obtain ⟨M6, e7, h⟩ := o_wr h
  refine z_pI (k := 1) (ty := .int) C (fun r q => (E_8 ha0 G) r q) (fun _ _ => rfl) (kU_in ha0 (by decide)) rfl inX8 tyX8 tyX8_ok nmX8 (by decide) wf_X8_23 rfl (by decide +kernel) rfl rfl (Nat.le_of_ble_eq_true rfl) d_X8_renew_12 ?_
  refine z_nM e7 ?_
  refine z_aload_n 0 C d_X8_renew_15 rfl rfl ?_
  refine z_get (k := 2) (v := .ref (gB G + (a0 + 1))) C ((E_8 ha0 G) _ _) (kU_in ha0 (by decide)) rfl inX8 (by decide) wf_X8_9 rfl d_X8_renew_16 ?_
  refine z_iconst (v := (0 : Int32)) C d_X8_renew_19 (by decide) ?_
  obtain ⟨M8, e9, h⟩ := o_wr h
  refine z_S (S := []) (As := [.ref (gB G + (a0 + 1)), .int (0 : Int32)]) C (c_J7_fill_53178 l G (n := 40) (fun r q => (E_24 (k_8_2 ha0) G) r q) (kU_in (k_8_2 ha0) (by decide)) (by decide)) wc_J7_fill_53178 wm_X8_26 ws_J7_fill_53178 wi_J7 hy_J7_fill_53178 ⟨Nat.le_of_ble_eq_true rfl, Nat.le_of_ble_eq_true rfl⟩ rfl rfl (Nat.le_of_ble_eq_true rfl) d_X8_renew_20 ?_
  refine z_nM e9 ?_
  obtain rfl := o_some h
  exact z_vret C hlk hr d_X8_renew_23
theorem c_X8_renew (l : Launch) (G : GG) {M : Mm} {a0 : Nat} {x1 : Int32} {x2 : Int32} {M2 : Mm} (ha0 : kU 0 a0 = 8) (h : f_X8_renew M a0 x1 x2 = some M2) : CT l 0 G y_X8_renew prog_10_method_2_code 3 none 1 23 [.ref (gB G + a0), .int x1, .int x2] M none M2 :=
  CT.of (by decide +kernel) (Nat.le_of_ble_eq_true rfl) rfl (fun p e s m args below meth c C hlk hr => k_X8_renew_0 C hlk hr ha0 h)
-- SnowSentries$Sheet.put(II)V
set_option maxRecDepth 4000 in
theorem k_X8_put_61 {p : Program} {l : Launch} {e : Env} {s : State} {m : MethodId} {args : Array Value} {below : List Frame} {meth : Method} {c : Code} {G : GG} {M : Mm} {M2 : Mm} (C : CX p s m args c prog_10_method_3_code 3 "SnowSentries$Sheet" 0 G) (hlk : meth.locks = false) (hr : meth.sig.returnType = none) : f_X8_put_61 M = some M2 → Z p l e { frames := 0, cells := 0, slots := 0, locals := 0 } s m args below meth c 0 G 3 (MQ below (QC 0 G none M2) args s 0 0 (AU 0 G)) 61 [] [] M := by
  intro h
  unfold f_X8_put_61 at h
  obtain rfl := o_some h
  exact z_vret C hlk hr d_X8_put_61
set_option maxRecDepth 4000 in
theorem k_X8_put_0 {p : Program} {l : Launch} {e : Env} {s : State} {m : MethodId} {args : Array Value} {below : List Frame} {meth : Method} {c : Code} {G : GG} {M : Mm} {a0 : Nat} {x1 : Int32} {x2 : Int32} {M2 : Mm} (C : CX p s m args c prog_10_method_3_code 3 "SnowSentries$Sheet" 0 G) (hlk : meth.locks = false) (hr : meth.sig.returnType = none) (ha0 : kU 0 a0 = 8) : f_X8_put M a0 x1 x2 = some M2 → Z p l e { frames := 0, cells := 0, slots := 0, locals := 0 } s m args below meth c 0 G 3 (MQ below (QC 0 G none M2) args s 0 0 (AU 0 G)) 0 [(0, .ref (gB G + a0)), (1, .int x1), (2, .int x2)] [] M := by
  intro h
  unfold f_X8_put at h
  refine z_aload_n 0 C d_X8_put_0 rfl rfl ?_
  refine z_get (k := 3) (v := .int (M.1 a0 3)) C ((E_8 ha0 G) _ _) (kU_in ha0 (by decide)) rfl inX8 (by decide) wf_X8_19 rfl d_X8_put_1 ?_
  rcases Decidable.em ((M.1 a0 3) = (0 : Int32)) with q1 | q1
  · have h := o_t q1 h
    refine z_lsw (tgt := 32) (off := 28) C d_X8_put_4 (by decide) (by rw [q1]; decide) (by decide) ?_
    refine z_aload_n 0 C d_X8_put_32 rfl rfl ?_
    refine z_get (k := 2) (v := .ref (gB G + (a0 + 1))) C ((E_8 ha0 G) _ _) (kU_in ha0 (by decide)) rfl inX8 (by decide) wf_X8_9 rfl d_X8_put_33 ?_
    refine z_iload_n 1 C d_X8_put_36 rfl rfl ?_
    refine z_iload_n 2 C d_X8_put_37 rfl rfl ?_
    refine z_i2b C d_X8_put_38 ?_
    obtain ⟨q4, h⟩ := o_ck h
    obtain ⟨M2, e3, h⟩ := o_wr h
    refine z_ast (fun r q => (E_24 (k_8_2 ha0) G) r q) C (kU_in (k_8_2 ha0) (by decide)) q4 d_X8_put_39 ?_
    refine z_nM e3 ?_
    refine z_goto C d_X8_put_40 ?_
    exact z_sub [] rfl (k_X8_put_61 C hlk hr h)
  · have h := o_f q1 h
    rcases Decidable.em ((M.1 a0 3) = (1 : Int32)) with q5 | q5
    · have h := o_t q5 h
      refine z_lsw (tgt := 43) (off := 39) C d_X8_put_4 (by decide) (by rw [q5]; decide) (by decide) ?_
      refine z_aload_n 0 C d_X8_put_43 rfl rfl ?_
      refine z_get (k := 2) (v := .ref (gB G + (a0 + 1))) C ((E_8 ha0 G) _ _) (kU_in ha0 (by decide)) rfl inX8 (by decide) wf_X8_9 rfl d_X8_put_44 ?_
      refine z_iload_n 1 C d_X8_put_47 rfl rfl ?_
      refine z_iload_n 2 C d_X8_put_48 rfl rfl ?_
      refine z_i2s C d_X8_put_49 ?_
      obtain ⟨q8, h⟩ := o_ck h
      obtain ⟨M6, e7, h⟩ := o_wr h
      refine z_ast (fun r q => (E_24 (k_8_2 ha0) G) r q) C (kU_in (k_8_2 ha0) (by decide)) q8 d_X8_put_50 ?_
      refine z_nM e7 ?_
      refine z_goto C d_X8_put_51 ?_
      exact z_sub [] rfl (k_X8_put_61 C hlk hr h)
    · have h := o_f q5 h
      refine z_lsw (tgt := 54) (off := 50) C d_X8_put_4 (by decide) (by rw [lv_osw q1 (by decide), lv_osw q5 (by decide)]; rfl) (by decide) ?_
      refine z_aload_n 0 C d_X8_put_54 rfl rfl ?_
      refine z_get (k := 2) (v := .ref (gB G + (a0 + 1))) C ((E_8 ha0 G) _ _) (kU_in ha0 (by decide)) rfl inX8 (by decide) wf_X8_9 rfl d_X8_put_55 ?_
      refine z_iload_n 1 C d_X8_put_58 rfl rfl ?_
      refine z_iload_n 2 C d_X8_put_59 rfl rfl ?_
      obtain ⟨q11, h⟩ := o_ck h
      obtain ⟨M9, e10, h⟩ := o_wr h
      refine z_ast (fun r q => (E_24 (k_8_2 ha0) G) r q) C (kU_in (k_8_2 ha0) (by decide)) q11 d_X8_put_60 ?_
      refine z_nM e10 ?_
      exact z_sub [] rfl (k_X8_put_61 C hlk hr h)
theorem c_X8_put (l : Launch) (G : GG) {M : Mm} {a0 : Nat} {x1 : Int32} {x2 : Int32} {M2 : Mm} (ha0 : kU 0 a0 = 8) (h : f_X8_put M a0 x1 x2 = some M2) : CT l 0 G y_X8_put prog_10_method_3_code 3 none 0 0 [.ref (gB G + a0), .int x1, .int x2] M none M2 :=
  CT.of (by decide +kernel) (Nat.le_of_ble_eq_true rfl) rfl (fun p e s m args below meth c C hlk hr => k_X8_put_0 C hlk hr ha0 h)
-- SnowSentries$Sheet.readable(III)I
set_option maxRecDepth 4000 in
theorem k_X8_readable_29 {p : Program} {l : Launch} {e : Env} {s : State} {m : MethodId} {args : Array Value} {below : List Frame} {meth : Method} {c : Code} {G : GG} {M : Mm} {r : Int32} (C : CX p s m args c prog_10_method_4_code 4 "SnowSentries$Sheet" 0 G) (hlk : meth.locks = false) (hr : meth.sig.returnType = (some .int)) : f_X8_readable_29 M = some r → Z p l e { frames := 1, cells := 0, slots := 0, locals := 22 } s m args below meth c 0 G 4 (MQ below (QC 0 G (some (.int r)) M) args s 0 0 (AU 0 G)) 29 [] [] M := by
  intro h
  unfold f_X8_readable_29 at h
  refine z_iconst (v := (0 : Int32)) C d_X8_readable_29 (by decide) ?_
  obtain rfl := o_some h
  exact z_iret C hlk hr d_X8_readable_30
set_option maxRecDepth 4000 in
theorem k_X8_readable_0 {p : Program} {l : Launch} {e : Env} {s : State} {m : MethodId} {args : Array Value} {below : List Frame} {meth : Method} {c : Code} {G : GG} {M : Mm} {a0 : Nat} {x1 : Int32} {x2 : Int32} {x3 : Int32} {r : Int32} (C : CX p s m args c prog_10_method_4_code 4 "SnowSentries$Sheet" 0 G) (hlk : meth.locks = false) (hr : meth.sig.returnType = (some .int)) (ha0 : kU 0 a0 = 8) : f_X8_readable M a0 x1 x2 x3 = some r → Z p l e { frames := 1, cells := 0, slots := 0, locals := 22 } s m args below meth c 0 G 4 (MQ below (QC 0 G (some (.int r)) M) args s 0 0 (AU 0 G)) 0 [(0, .ref (gB G + a0)), (1, .int x1), (2, .int x2), (3, .int x3)] [] M := by
  intro h
  unfold f_X8_readable at h
  refine z_aload_n 0 C d_X8_readable_0 rfl rfl ?_
  refine z_get (k := 0) (v := .int (M.1 a0 0)) C ((E_8 ha0 G) _ _) (kU_in ha0 (by decide)) rfl inX8 (by decide) wf_X8_15 rfl d_X8_readable_1 ?_
  refine z_if_eq C d_X8_readable_4 (fun q1 => ?_) (fun q1 => ?_)
  · have h := o_t q1 h
    exact z_sub [] rfl (k_X8_readable_29 C hlk hr h)
  · have h := o_f q1 h
    refine z_iload_n 1 C d_X8_readable_7 rfl rfl ?_
    refine z_aload_n 0 C d_X8_readable_8 rfl rfl ?_
    refine z_get (k := 3) (v := .int (M.1 a0 3)) C ((E_8 ha0 G) _ _) (kU_in ha0 (by decide)) rfl inX8 (by decide) wf_X8_19 rfl d_X8_readable_9 ?_
    refine z_icmp_ne C d_X8_readable_12 (fun q2 => ?_) (fun q2 => ?_)
    · have h := o_f q2 h
      exact z_sub [] rfl (k_X8_readable_29 C hlk hr h)
    · have h := o_t q2 h
      refine z_iload_n 2 C d_X8_readable_15 rfl rfl ?_
      refine z_iconst (v := (0 : Int32)) C d_X8_readable_16 (by decide) ?_
      refine z_aload_n 0 C d_X8_readable_17 rfl rfl ?_
      refine z_get (k := 1) (v := .int (M.1 a0 1)) C ((E_8 ha0 G) _ _) (kU_in ha0 (by decide)) rfl inX8 (by decide) wf_X8_23 rfl d_X8_readable_18 ?_
      refine z_iconst (v := (1 : Int32)) C d_X8_readable_21 (by decide) ?_
      refine z_isub C d_X8_readable_22 ?_
      obtain ⟨p4, e3, h⟩ := o_bd h
      refine z_SN (S := []) (As := [.int x2, .int (0 : Int32), .int ((M.1 a0 1) - (1 : Int32))]) C (c_X11_isAmong l G (M := M) e3) wc_X11_isAmong wm_X8_32 ws_X11_isAmong wi_X11 hy_X11_isAmong ⟨Nat.le_of_ble_eq_true rfl, Nat.le_of_ble_eq_true rfl⟩ rfl rfl (Nat.le_of_ble_eq_true rfl) d_X8_readable_23 ?_
      refine z_if_ne C d_X8_readable_26 (fun q5 => ?_) (fun q5 => ?_)
      · have h := o_f q5 h
        refine z_iload_n 3 C d_X8_readable_31 rfl rfl ?_
        refine z_aload_n 0 C d_X8_readable_32 rfl rfl ?_
        refine z_get (k := 1) (v := .int (M.1 a0 1)) C ((E_8 ha0 G) _ _) (kU_in ha0 (by decide)) rfl inX8 (by decide) wf_X8_23 rfl d_X8_readable_33 ?_
        refine z_iload_n 2 C d_X8_readable_36 rfl rfl ?_
        refine z_isub C d_X8_readable_37 ?_
        refine z_mmin C wm_X8_36 wMs_min wMi wMc_min (Nat.le_of_ble_eq_true rfl) (Nat.le_of_ble_eq_true rfl) d_X8_readable_38 ?_
        obtain rfl := o_some h
        exact z_iret C hlk hr d_X8_readable_41
      · have h := o_t q5 h
        exact z_sub [] rfl (k_X8_readable_29 C hlk hr h)
theorem c_X8_readable (l : Launch) (G : GG) {M : Mm} {a0 : Nat} {x1 : Int32} {x2 : Int32} {x3 : Int32} {r : Int32} (ha0 : kU 0 a0 = 8) (h : f_X8_readable M a0 x1 x2 x3 = some r) : CT l 0 G y_X8_readable prog_10_method_4_code 4 (some .int) 1 22 [.ref (gB G + a0), .int x1, .int x2, .int x3] M (some (.int r)) M :=
  CT.of (by decide +kernel) (Nat.le_of_ble_eq_true rfl) rfl (fun p e s m args below meth c C hlk hr => k_X8_readable_0 C hlk hr ha0 h)
-- SnowSentries$Sheet.faultFor(I)I
set_option maxRecDepth 4000 in
theorem k_X8_faultFor_22 {p : Program} {l : Launch} {e : Env} {s : State} {m : MethodId} {args : Array Value} {below : List Frame} {meth : Method} {c : Code} {G : GG} {M : Mm} {s_0 : Int32} {r : Int32} (C : CX p s m args c prog_10_method_5_code 2 "SnowSentries$Sheet" 0 G) (hlk : meth.locks = false) (hr : meth.sig.returnType = (some .int)) : f_X8_faultFor_22 M s_0 = some r → Z p l e { frames := 0, cells := 0, slots := 0, locals := 0 } s m args below meth c 0 G 2 (MQ below (QC 0 G (some (.int r)) M) args s 0 0 (AU 0 G)) 22 [] [.int s_0] M := by
  intro h
  unfold f_X8_faultFor_22 at h
  obtain rfl := o_some h
  exact z_iret C hlk hr d_X8_faultFor_22
set_option maxRecDepth 4000 in
theorem k_X8_faultFor_0 {p : Program} {l : Launch} {e : Env} {s : State} {m : MethodId} {args : Array Value} {below : List Frame} {meth : Method} {c : Code} {G : GG} {M : Mm} {a0 : Nat} {x1 : Int32} {r : Int32} (C : CX p s m args c prog_10_method_5_code 2 "SnowSentries$Sheet" 0 G) (hlk : meth.locks = false) (hr : meth.sig.returnType = (some .int)) (ha0 : kU 0 a0 = 8) : f_X8_faultFor M a0 x1 = some r → Z p l e { frames := 0, cells := 0, slots := 0, locals := 0 } s m args below meth c 0 G 2 (MQ below (QC 0 G (some (.int r)) M) args s 0 0 (AU 0 G)) 0 [(0, .ref (gB G + a0)), (1, .int x1)] [] M := by
  intro h
  unfold f_X8_faultFor at h
  refine z_aload_n 0 C d_X8_faultFor_0 rfl rfl ?_
  refine z_get (k := 0) (v := .int (M.1 a0 0)) C ((E_8 ha0 G) _ _) (kU_in ha0 (by decide)) rfl inX8 (by decide) wf_X8_15 rfl d_X8_faultFor_1 ?_
  refine z_if_ne C d_X8_faultFor_4 (fun q1 => ?_) (fun q1 => ?_)
  · have h := o_f q1 h
    refine z_iload_n 1 C d_X8_faultFor_9 rfl rfl ?_
    refine z_aload_n 0 C d_X8_faultFor_10 rfl rfl ?_
    refine z_get (k := 3) (v := .int (M.1 a0 3)) C ((E_8 ha0 G) _ _) (kU_in ha0 (by decide)) rfl inX8 (by decide) wf_X8_19 rfl d_X8_faultFor_11 ?_
    refine z_icmp_ne C d_X8_faultFor_14 (fun q2 => ?_) (fun q2 => ?_)
    · have h := o_f q2 h
      refine z_iconst (v := (3 : Int32)) C d_X8_faultFor_21 (by decide) ?_
      exact z_sub [] rfl (k_X8_faultFor_22 C hlk hr h)
    · have h := o_t q2 h
      refine z_iconst (v := (2 : Int32)) C d_X8_faultFor_17 (by decide) ?_
      refine z_goto C d_X8_faultFor_18 ?_
      exact z_sub [] rfl (k_X8_faultFor_22 C hlk hr h)
  · have h := o_t q1 h
    refine z_iconst (v := (1 : Int32)) C d_X8_faultFor_7 (by decide) ?_
    obtain rfl := o_some h
    exact z_iret C hlk hr d_X8_faultFor_8
theorem c_X8_faultFor (l : Launch) (G : GG) {M : Mm} {a0 : Nat} {x1 : Int32} {r : Int32} (ha0 : kU 0 a0 = 8) (h : f_X8_faultFor M a0 x1 = some r) : CT l 0 G y_X8_faultFor prog_10_method_5_code 2 (some .int) 0 0 [.ref (gB G + a0), .int x1] M (some (.int r)) M :=
  CT.of (by decide +kernel) (Nat.le_of_ble_eq_true rfl) rfl (fun p e s m args below meth c C hlk hr => k_X8_faultFor_0 C hlk hr ha0 h)
-- SnowSentries$Ways.leastNext(II)I
set_option maxRecDepth 4000 in
theorem k_X10_leastNext_53 {p : Program} {l : Launch} {e : Env} {s : State} {m : MethodId} {args : Array Value} {below : List Frame} {meth : Method} {c : Code} {G : GG} {M : Mm} {x3 : Int32} {r : Int32} (C : CX p s m args c prog_12_method_3_code 4 "SnowSentries$Ways" 0 G) (hlk : meth.locks = false) (hr : meth.sig.returnType = (some .int)) : f_X10_leastNext_53 M x3 = some r → Z p l e { frames := 1, cells := 0, slots := 0, locals := 21 } s m args below meth c 0 G 4 (MQ below (QC 0 G (some (.int r)) M) args s 0 0 (AU 0 G)) 53 [(3, .int x3)] [] M := by
  intro h
  unfold f_X10_leastNext_53 at h
  refine z_iload_n 0 C d_X10_leastNext_53 rfl rfl ?_
  obtain rfl := o_some h
  exact z_iret C hlk hr d_X10_leastNext_54
set_option maxRecDepth 4000 in
theorem k_X10_leastNext_28 {p : Program} {l : Launch} {e : Env} {s : State} {m : MethodId} {args : Array Value} {below : List Frame} {meth : Method} {c : Code} {G : GG} {M : Mm} {x1 : Int32} {x2 : Int32} {x3 : Int32} {r : Int32} (C : CX p s m args c prog_12_method_3_code 4 "SnowSentries$Ways" 0 G) (hlk : meth.locks = false) (hr : meth.sig.returnType = (some .int)) : f_X10_leastNext_28 M x1 x2 x3 = some r → Z p l e { frames := 1, cells := 0, slots := 0, locals := 21 } s m args below meth c 0 G 4 (MQ below (QC 0 G (some (.int r)) M) args s 0 0 (AU 0 G)) 28 [(0, .ref (gB G + 100)), (1, .int x1), (2, .int x2), (3, .int x3)] [] M := by
  intro h
  unfold f_X10_leastNext_28 at h
  refine z_iload_n 1 C d_X10_leastNext_28 rfl rfl ?_
  refine z_iconst (v := (1 : Int32)) C d_X10_leastNext_29 (by decide) ?_
  refine z_iadd C d_X10_leastNext_30 ?_
  refine z_aload_n 0 C d_X10_leastNext_31 rfl rfl ?_
  refine z_get (k := 0) (v := .int (M.1 100 0)) C ((E_10 kx_100 G) _ _) (kU_in kx_100 (by decide)) rfl inX10 (by decide) wf_X10_25 rfl d_X10_leastNext_32 ?_
  refine z_icmp_ge C d_X10_leastNext_35 (fun q1 => ?_) (fun q1 => ?_)
  · have h := o_t q1 h
    exact z_sub [3] rfl (k_X10_leastNext_53 C hlk hr h)
  · have h := o_f q1 h
    refine z_iload_n 3 C d_X10_leastNext_38 rfl rfl ?_
    refine z_aload_n 0 C d_X10_leastNext_39 rfl rfl ?_
    refine z_get (k := 2) (v := .ref (gB G + 101)) C ((E_10 kx_100 G) _ _) (kU_in kx_100 (by decide)) rfl inX10 (by decide) wf_X10_11 rfl d_X10_leastNext_40 ?_
    refine z_iload_n 2 C d_X10_leastNext_43 rfl rfl ?_
    obtain ⟨q2, h⟩ := o_ck h
    refine z_rld (t := 7) (b := (101 + 1 + x2.toNatClampNeg)) ((E_31 kx_101 G) _ _) C (kU_in kx_101 (by decide)) rfl rfl q2 (if_pos (inn_lt q2)) d_X10_leastNext_44 ?_
    refine z_iload_n 1 C d_X10_leastNext_45 rfl rfl ?_
    refine z_iconst (v := (1 : Int32)) C d_X10_leastNext_46 (by decide) ?_
    refine z_iadd C d_X10_leastNext_47 ?_
    obtain ⟨q3, h⟩ := o_ck h
    refine z_ald ((E_21 (k_31 kx_101 (inn_lt q2)) G) _ _) C (kU_in (k_31 kx_101 (inn_lt q2)) (by decide)) q3 d_X10_leastNext_48 ?_
    refine z_mmin C wm_X10_45 wMs_min wMi wMc_min (Nat.le_of_ble_eq_true rfl) (Nat.le_of_ble_eq_true rfl) d_X10_leastNext_49 ?_
    obtain ⟨v4, e5, h⟩ := o_nm h
    refine z_nI e5 ?_
    refine z_istore_n (L' := [(3, .int v4), (0, .ref (gB G + 100)), (1, .int x1), (2, .int x2)]) C d_X10_leastNext_52 rfl (by decide) rfl ?_
    exact z_sub [0] rfl (k_X10_leastNext_53 C hlk hr h)
set_option maxRecDepth 4000 in
theorem k_X10_leastNext_0 {p : Program} {l : Launch} {e : Env} {s : State} {m : MethodId} {args : Array Value} {below : List Frame} {meth : Method} {c : Code} {G : GG} {M : Mm} {x1 : Int32} {x2 : Int32} {r : Int32} (C : CX p s m args c prog_12_method_3_code 4 "SnowSentries$Ways" 0 G) (hlk : meth.locks = false) (hr : meth.sig.returnType = (some .int)) : f_X10_leastNext M x1 x2 = some r → Z p l e { frames := 1, cells := 0, slots := 0, locals := 21 } s m args below meth c 0 G 4 (MQ below (QC 0 G (some (.int r)) M) args s 0 0 (AU 0 G)) 0 [(0, .ref (gB G + 100)), (1, .int x1), (2, .int x2)] [] M := by
  intro h
  unfold f_X10_leastNext at h
  refine z_aload_n 0 C d_X10_leastNext_0 rfl rfl ?_
  refine z_get (k := 2) (v := .ref (gB G + 101)) C ((E_10 kx_100 G) _ _) (kU_in kx_100 (by decide)) rfl inX10 (by decide) wf_X10_11 rfl d_X10_leastNext_1 ?_
  refine z_iload_n 2 C d_X10_leastNext_4 rfl rfl ?_
  obtain ⟨q1, h⟩ := o_ck h
  refine z_rld (t := 7) (b := (101 + 1 + x2.toNatClampNeg)) ((E_31 kx_101 G) _ _) C (kU_in kx_101 (by decide)) rfl rfl q1 (if_pos (inn_lt q1)) d_X10_leastNext_5 ?_
  refine z_iload_n 1 C d_X10_leastNext_6 rfl rfl ?_
  obtain ⟨q2, h⟩ := o_ck h
  refine z_ald ((E_21 (k_31 kx_101 (inn_lt q1)) G) _ _) C (kU_in (k_31 kx_101 (inn_lt q1)) (by decide)) q2 d_X10_leastNext_7 ?_
  obtain ⟨v3, e4, h⟩ := o_nm h
  refine z_nI e4 ?_
  refine z_istore_n (L' := [(3, .int v3), (0, .ref (gB G + 100)), (1, .int x1), (2, .int x2)]) C d_X10_leastNext_8 rfl (by decide) rfl ?_
  refine z_iload_n 2 C d_X10_leastNext_9 rfl rfl ?_
  refine z_if_le C d_X10_leastNext_10 (fun q5 => ?_) (fun q5 => ?_)
  · have h := o_t q5 h
    exact z_sub [1, 2, 3, 0] rfl (k_X10_leastNext_28 C hlk hr h)
  · have h := o_f q5 h
    refine z_iload_n 0 C d_X10_leastNext_13 rfl rfl ?_
    refine z_aload_n 1 C d_X10_leastNext_14 rfl rfl ?_
    refine z_get (k := 2) (v := .ref (gB G + 101)) C ((E_10 kx_100 G) _ _) (kU_in kx_100 (by decide)) rfl inX10 (by decide) wf_X10_11 rfl d_X10_leastNext_15 ?_
    refine z_iload_n 3 C d_X10_leastNext_18 rfl rfl ?_
    refine z_rld (t := 7) (b := (101 + 1 + x2.toNatClampNeg)) ((E_31 kx_101 G) _ _) C (kU_in kx_101 (by decide)) rfl rfl q1 (if_pos (inn_lt q1)) d_X10_leastNext_19 ?_
    refine z_iload_n 2 C d_X10_leastNext_20 rfl rfl ?_
    refine z_iconst (v := (1 : Int32)) C d_X10_leastNext_21 (by decide) ?_
    refine z_isub C d_X10_leastNext_22 ?_
    obtain ⟨q6, h⟩ := o_ck h
    refine z_ald ((E_21 (k_31 kx_101 (inn_lt q1)) G) _ _) C (kU_in (k_31 kx_101 (inn_lt q1)) (by decide)) q6 d_X10_leastNext_23 ?_
    refine z_mmin C wm_X10_45 wMs_min wMi wMc_min (Nat.le_of_ble_eq_true rfl) (Nat.le_of_ble_eq_true rfl) d_X10_leastNext_24 ?_
    obtain ⟨v7, e8, h⟩ := o_nm h
    refine z_nI e8 ?_
    refine z_istore_n (L' := [(3, .int v7), (0, .ref (gB G + 100)), (1, .int x1), (2, .int x2)]) C d_X10_leastNext_27 rfl (by decide) rfl ?_
    exact z_sub [1, 2, 3, 0] rfl (k_X10_leastNext_28 C hlk hr h)
theorem c_X10_leastNext (l : Launch) (G : GG) {M : Mm} {x1 : Int32} {x2 : Int32} {r : Int32} (h : f_X10_leastNext M x1 x2 = some r) : CT l 0 G y_X10_leastNext prog_12_method_3_code 4 (some .int) 1 21 [.ref (gB G + 100), .int x1, .int x2] M (some (.int r)) M :=
  CT.of (by decide +kernel) (Nat.le_of_ble_eq_true rfl) rfl (fun p e s m args below meth c C hlk hr => k_X10_leastNext_0 C hlk hr h)
-- SnowSentries$Ways.weigh(LSnowSentries$Land;)V
set_option maxRecDepth 4000 in
theorem k_X10_weigh_104 {p : Program} {l : Launch} {e : Env} {s : State} {m : MethodId} {args : Array Value} {below : List Frame} {meth : Method} {c : Code} {G : GG} {k22 : Mm → Int32 → Option Mm} {M : Mm} {a1 : Nat} {x2 : Int32} {M2 : Mm} (C : CX p s m args c prog_12_method_2_code 4 "SnowSentries$Ways" 0 G) (hlk : meth.locks = false) (hr : meth.sig.returnType = none) (ha1 : kU 0 a1 = 4) (hk22 : ∀ (M : Mm) (x2 : Int32), k22 M x2 = some M2 → Z p l e { frames := 4, cells := 0, slots := 0, locals := 89 } s m args below meth c 0 G 4 (MQ below (QC 0 G none M2) args s 0 0 (AU 0 G)) 22 [(0, .ref (gB G + 100)), (1, .ref (gB G + a1)), (2, .int x2)] [] M) : f_X10_weigh_104 k22 M a1 x2 = some M2 → Z p l e { frames := 4, cells := 0, slots := 0, locals := 89 } s m args below meth c 0 G 4 (MQ below (QC 0 G none M2) args s 0 0 (AU 0 G)) 104 [(0, .ref (gB G + 100)), (1, .ref (gB G + a1)), (2, .int x2)] [] M := by
  intro h
  unfold f_X10_weigh_104 at h
  refine z_iinc (v := (-1 : Int32)) (L' := [(2, .int (x2 + (-1 : Int32))), (0, .ref (gB G + 100)), (1, .ref (gB G + a1))]) 2 C d_X10_weigh_104 rfl (by decide) (by decide) rfl ?_
  refine z_goto C d_X10_weigh_107 ?_
  exact z_sub [1, 2, 0] rfl (hk22 _ _  h)
set_option maxRecDepth 4000 in
theorem kb_X10_weigh_76 {p : Program} {l : Launch} {e : Env} {s : State} {m : MethodId} {args : Array Value} {below : List Frame} {meth : Method} {c : Code} {G : GG} {k22 : Mm → Int32 → Option Mm} {k76 : Mm → Int32 → Option Mm} {a1 : Nat} {x2 : Int32} {M : Mm} {x3 : Int32} {M2 : Mm} (C : CX p s m args c prog_12_method_2_code 4 "SnowSentries$Ways" 0 G) (hlk : meth.locks = false) (hr : meth.sig.returnType = none) (ha1 : kU 0 a1 = 4) (hk22 : ∀ (M : Mm) (x2 : Int32), k22 M x2 = some M2 → Z p l e { frames := 4, cells := 0, slots := 0, locals := 89 } s m args below meth c 0 G 4 (MQ below (QC 0 G none M2) args s 0 0 (AU 0 G)) 22 [(0, .ref (gB G + 100)), (1, .ref (gB G + a1)), (2, .int x2)] [] M) (hk76 : ∀ (M : Mm) (x3 : Int32), k76 M x3 = some M2 → Z p l e { frames := 4, cells := 0, slots := 0, locals := 89 } s m args below meth c 0 G 4 (MQ below (QC 0 G none M2) args s 0 0 (AU 0 G)) 76 [(0, .ref (gB G + 100)), (1, .ref (gB G + a1)), (2, .int x2), (3, .int x3)] [] M) : b_X10_weigh_76 k22 k76 a1 x2 M x3 = some M2 → Z p l e { frames := 4, cells := 0, slots := 0, locals := 89 } s m args below meth c 0 G 4 (MQ below (QC 0 G none M2) args s 0 0 (AU 0 G)) 76 [(0, .ref (gB G + 100)), (1, .ref (gB G + a1)), (2, .int x2), (3, .int x3)] [] M := by
  intro h
  unfold b_X10_weigh_76 at h
  refine z_iload_n 3 C d_X10_weigh_76 rfl rfl ?_
  refine z_aload_n 0 C d_X10_weigh_77 rfl rfl ?_
  refine z_get (k := 0) (v := .int (M.1 100 0)) C ((E_10 kx_100 G) _ _) (kU_in kx_100 (by decide)) rfl inX10 (by decide) wf_X10_25 rfl d_X10_weigh_78 ?_
  refine z_icmp_ge C d_X10_weigh_81 (fun q1 => ?_) (fun q1 => ?_)
  · have h := o_t q1 h
    exact z_sub [0, 1, 2] rfl (k_X10_weigh_104 C hlk hr ha1 hk22 h)
  · have h := o_f q1 h
    refine z_aload_n 0 C d_X10_weigh_84 rfl rfl ?_
    refine z_get (k := 3) (v := .ref (gB G + 114)) C ((E_10 kx_100 G) _ _) (kU_in kx_100 (by decide)) rfl inX10 (by decide) wf_X10_16 rfl d_X10_weigh_85 ?_
    refine z_iload_n 2 C d_X10_weigh_88 rfl rfl ?_
    obtain ⟨q2, h⟩ := o_ck h
    refine z_rld (t := 7) (b := (114 + 1 + x2.toNatClampNeg)) ((E_32 kx_114 G) _ _) C (kU_in kx_114 (by decide)) rfl rfl q2 (if_pos (inn_lt q2)) d_X10_weigh_89 ?_
    refine z_iload_n 3 C d_X10_weigh_90 rfl rfl ?_
    refine z_aload_n 0 C d_X10_weigh_91 rfl rfl ?_
    refine z_iload_n 3 C d_X10_weigh_92 rfl rfl ?_
    refine z_iload_n 2 C d_X10_weigh_93 rfl rfl ?_
    obtain ⟨p4, e3, h⟩ := o_bd h
    refine z_V (S := [.int x3, .ref (gB G + (114 + 1 + x2.toNatClampNeg))]) (As := [.int x3, .int x2]) C (c_X10_leastNext l G e3) ((E_10 kx_100 G) _ _) (kU_in kx_100 (by decide)) rfl wc_X10_leastNext wm_X10_42 ws_X10_leastNext wl_X10_leastNext wi_X10 hy_X10_leastNext ⟨Nat.le_of_ble_eq_true rfl, Nat.le_of_ble_eq_true rfl⟩ rfl rfl (Nat.le_of_ble_eq_true rfl) d_X10_weigh_94 ?_
    obtain ⟨q7, h⟩ := o_ck h
    obtain ⟨M5, e6, h⟩ := o_wr h
    refine z_ast (fun r q => (E_21 (k_32 kx_114 (inn_lt q2)) G) r q) C (kU_in (k_32 kx_114 (inn_lt q2)) (by decide)) q7 d_X10_weigh_97 ?_
    refine z_nM e6 ?_
    refine z_iinc (v := (1 : Int32)) (L' := [(3, .int (x3 + (1 : Int32))), (0, .ref (gB G + 100)), (1, .ref (gB G + a1)), (2, .int x2)]) 3 C d_X10_weigh_98 rfl (by decide) (by decide) rfl ?_
    refine z_goto C d_X10_weigh_101 ?_
    exact z_sub [1, 2, 3, 0] rfl (hk76 _ _  h)
theorem k_X10_weigh_76 {p : Program} {l : Launch} {e : Env} {s : State} {m : MethodId} {args : Array Value} {below : List Frame} {meth : Method} {c : Code} {G : GG} {k22 : Mm → Int32 → Option Mm} {a1 : Nat} {x2 : Int32} {M2 : Mm} (C : CX p s m args c prog_12_method_2_code 4 "SnowSentries$Ways" 0 G) (hlk : meth.locks = false) (hr : meth.sig.returnType = none) (ha1 : kU 0 a1 = 4) (hk22 : ∀ (M : Mm) (x2 : Int32), k22 M x2 = some M2 → Z p l e { frames := 4, cells := 0, slots := 0, locals := 89 } s m args below meth c 0 G 4 (MQ below (QC 0 G none M2) args s 0 0 (AU 0 G)) 22 [(0, .ref (gB G + 100)), (1, .ref (gB G + a1)), (2, .int x2)] [] M) : ∀ (n : Nat) (M : Mm) (x3 : Int32), f_X10_weigh_76 k22 a1 x2 n M x3 = some M2 → Z p l e { frames := 4, cells := 0, slots := 0, locals := 89 } s m args below meth c 0 G 4 (MQ below (QC 0 G none M2) args s 0 0 (AU 0 G)) 76 [(0, .ref (gB G + 100)), (1, .ref (gB G + a1)), (2, .int x2), (3, .int x3)] [] M := by
  intro n
  induction n with
  | zero =>
    intro M x3  h
    exact absurd h (fun z => by cases z)
  | succ n ih =>
    intro M x3  h
    exact kb_X10_weigh_76 C hlk hr ha1 hk22 (fun M x3 h => ih M x3 h) h
set_option maxRecDepth 4000 in
theorem k_X10_weigh_74 {p : Program} {l : Launch} {e : Env} {s : State} {m : MethodId} {args : Array Value} {below : List Frame} {meth : Method} {c : Code} {G : GG} {k22 : Mm → Int32 → Option Mm} {M : Mm} {a1 : Nat} {x2 : Int32} {M2 : Mm} (C : CX p s m args c prog_12_method_2_code 4 "SnowSentries$Ways" 0 G) (hlk : meth.locks = false) (hr : meth.sig.returnType = none) (ha1 : kU 0 a1 = 4) (hk22 : ∀ (M : Mm) (x2 : Int32), k22 M x2 = some M2 → Z p l e { frames := 4, cells := 0, slots := 0, locals := 89 } s m args below meth c 0 G 4 (MQ below (QC 0 G none M2) args s 0 0 (AU 0 G)) 22 [(0, .ref (gB G + 100)), (1, .ref (gB G + a1)), (2, .int x2)] [] M) : f_X10_weigh_74 k22 M a1 x2 = some M2 → Z p l e { frames := 4, cells := 0, slots := 0, locals := 89 } s m args below meth c 0 G 4 (MQ below (QC 0 G none M2) args s 0 0 (AU 0 G)) 74 [(0, .ref (gB G + 100)), (1, .ref (gB G + a1)), (2, .int x2)] [] M := by
  intro h
  unfold f_X10_weigh_74 at h
  refine z_iconst (v := (0 : Int32)) C d_X10_weigh_74 (by decide) ?_
  refine z_istore_n (L' := [(3, .int (0 : Int32)), (0, .ref (gB G + 100)), (1, .ref (gB G + a1)), (2, .int x2)]) C d_X10_weigh_75 rfl (by decide) rfl ?_
  exact z_sub [1, 2, 3, 0] rfl (k_X10_weigh_76 C hlk hr ha1 hk22 _ _ _ h)
set_option maxRecDepth 4000 in
theorem kb_X10_weigh_32 {p : Program} {l : Launch} {e : Env} {s : State} {m : MethodId} {args : Array Value} {below : List Frame} {meth : Method} {c : Code} {G : GG} {k22 : Mm → Int32 → Option Mm} {k32 : Mm → Int32 → Option Mm} {a1 : Nat} {x2 : Int32} {M : Mm} {x3 : Int32} {M2 : Mm} (C : CX p s m args c prog_12_method_2_code 4 "SnowSentries$Ways" 0 G) (hlk : meth.locks = false) (hr : meth.sig.returnType = none) (ha1 : kU 0 a1 = 4) (hk22 : ∀ (M : Mm) (x2 : Int32), k22 M x2 = some M2 → Z p l e { frames := 4, cells := 0, slots := 0, locals := 89 } s m args below meth c 0 G 4 (MQ below (QC 0 G none M2) args s 0 0 (AU 0 G)) 22 [(0, .ref (gB G + 100)), (1, .ref (gB G + a1)), (2, .int x2)] [] M) (hk32 : ∀ (M : Mm) (x3 : Int32), k32 M x3 = some M2 → Z p l e { frames := 4, cells := 0, slots := 0, locals := 89 } s m args below meth c 0 G 4 (MQ below (QC 0 G none M2) args s 0 0 (AU 0 G)) 32 [(0, .ref (gB G + 100)), (1, .ref (gB G + a1)), (2, .int x2), (3, .int x3)] [] M) : b_X10_weigh_32 k22 k32 a1 x2 M x3 = some M2 → Z p l e { frames := 4, cells := 0, slots := 0, locals := 89 } s m args below meth c 0 G 4 (MQ below (QC 0 G none M2) args s 0 0 (AU 0 G)) 32 [(0, .ref (gB G + 100)), (1, .ref (gB G + a1)), (2, .int x2), (3, .int x3)] [] M := by
  intro h
  unfold b_X10_weigh_32 at h
  refine z_iload_n 3 C d_X10_weigh_32 rfl rfl ?_
  refine z_aload_n 0 C d_X10_weigh_33 rfl rfl ?_
  refine z_get (k := 0) (v := .int (M.1 100 0)) C ((E_10 kx_100 G) _ _) (kU_in kx_100 (by decide)) rfl inX10 (by decide) wf_X10_25 rfl d_X10_weigh_34 ?_
  refine z_icmp_ge C d_X10_weigh_37 (fun q1 => ?_) (fun q1 => ?_)
  · have h := o_t q1 h
    exact z_sub [0, 1, 2] rfl (k_X10_weigh_74 C hlk hr ha1 hk22 h)
  · have h := o_f q1 h
    refine z_aload_n 0 C d_X10_weigh_40 rfl rfl ?_
    refine z_get (k := 2) (v := .ref (gB G + 101)) C ((E_10 kx_100 G) _ _) (kU_in kx_100 (by decide)) rfl inX10 (by decide) wf_X10_11 rfl d_X10_weigh_41 ?_
    refine z_iload_n 2 C d_X10_weigh_44 rfl rfl ?_
    obtain ⟨q2, h⟩ := o_ck h
    refine z_rld (t := 7) (b := (101 + 1 + x2.toNatClampNeg)) ((E_31 kx_101 G) _ _) C (kU_in kx_101 (by decide)) rfl rfl q2 (if_pos (inn_lt q2)) d_X10_weigh_45 ?_
    refine z_iload_n 3 C d_X10_weigh_46 rfl rfl ?_
    refine z_aload_n 1 C d_X10_weigh_47 rfl rfl ?_
    refine z_get (k := 7) (v := .ref (gB G + (a1 + 5))) C ((E_4 ha1 G) _ _) (kU_in ha1 (by decide)) rfl inX4 (by decide) wf_X10_26 rfl d_X10_weigh_48 ?_
    refine z_iload_n 3 C d_X10_weigh_51 rfl rfl ?_
    refine z_iload_n 2 C d_X10_weigh_52 rfl rfl ?_
    obtain ⟨p4, e3, h⟩ := o_bd h
    refine z_V (S := [.int x3, .ref (gB G + (101 + 1 + x2.toNatClampNeg))]) (As := [.int x3, .int x2]) C (c_X7_heatOn l G (k_4_7 ha1) e3) ((E_7 (k_4_7 ha1) G) _ _) (kU_in (k_4_7 ha1) (by decide)) rfl wc_X7_heatOn wm_X10_38 ws_X7_heatOn wl_X7_heatOn wi_X7 hy_X7_heatOn ⟨Nat.le_of_ble_eq_true rfl, Nat.le_of_ble_eq_true rfl⟩ rfl rfl (Nat.le_of_ble_eq_true rfl) d_X10_weigh_53 ?_
    refine z_aload_n 0 C d_X10_weigh_56 rfl rfl ?_
    refine z_get (k := 3) (v := .ref (gB G + 114)) C ((E_10 kx_100 G) _ _) (kU_in kx_100 (by decide)) rfl inX10 (by decide) wf_X10_16 rfl d_X10_weigh_57 ?_
    refine z_iload_n 2 C d_X10_weigh_60 rfl rfl ?_
    refine z_iconst (v := (1 : Int32)) C d_X10_weigh_61 (by decide) ?_
    refine z_iadd C d_X10_weigh_62 ?_
    obtain ⟨q5, h⟩ := o_ck h
    refine z_rld (t := 7) (b := (114 + 1 + (x2 + (1 : Int32)).toNatClampNeg)) ((E_32 kx_114 G) _ _) C (kU_in kx_114 (by decide)) rfl rfl q5 (if_pos (inn_lt q5)) d_X10_weigh_63 ?_
    refine z_iload_n 3 C d_X10_weigh_64 rfl rfl ?_
    obtain ⟨q6, h⟩ := o_ck h
    refine z_ald ((E_21 (k_32 kx_114 (inn_lt q5)) G) _ _) C (kU_in (k_32 kx_114 (inn_lt q5)) (by decide)) q6 d_X10_weigh_65 ?_
    refine z_iadd C d_X10_weigh_66 ?_
    obtain ⟨M7, e8, h⟩ := o_wr h
    refine z_ast (fun r q => (E_21 (k_31 kx_101 (inn_lt q2)) G) r q) C (kU_in (k_31 kx_101 (inn_lt q2)) (by decide)) q6 d_X10_weigh_67 ?_
    refine z_nM e8 ?_
    refine z_iinc (v := (1 : Int32)) (L' := [(3, .int (x3 + (1 : Int32))), (0, .ref (gB G + 100)), (1, .ref (gB G + a1)), (2, .int x2)]) 3 C d_X10_weigh_68 rfl (by decide) (by decide) rfl ?_
    refine z_goto C d_X10_weigh_71 ?_
    exact z_sub [1, 2, 3, 0] rfl (hk32 _ _  h)
theorem k_X10_weigh_32 {p : Program} {l : Launch} {e : Env} {s : State} {m : MethodId} {args : Array Value} {below : List Frame} {meth : Method} {c : Code} {G : GG} {k22 : Mm → Int32 → Option Mm} {a1 : Nat} {x2 : Int32} {M2 : Mm} (C : CX p s m args c prog_12_method_2_code 4 "SnowSentries$Ways" 0 G) (hlk : meth.locks = false) (hr : meth.sig.returnType = none) (ha1 : kU 0 a1 = 4) (hk22 : ∀ (M : Mm) (x2 : Int32), k22 M x2 = some M2 → Z p l e { frames := 4, cells := 0, slots := 0, locals := 89 } s m args below meth c 0 G 4 (MQ below (QC 0 G none M2) args s 0 0 (AU 0 G)) 22 [(0, .ref (gB G + 100)), (1, .ref (gB G + a1)), (2, .int x2)] [] M) : ∀ (n : Nat) (M : Mm) (x3 : Int32), f_X10_weigh_32 k22 a1 x2 n M x3 = some M2 → Z p l e { frames := 4, cells := 0, slots := 0, locals := 89 } s m args below meth c 0 G 4 (MQ below (QC 0 G none M2) args s 0 0 (AU 0 G)) 32 [(0, .ref (gB G + 100)), (1, .ref (gB G + a1)), (2, .int x2), (3, .int x3)] [] M := by
  intro n
  induction n with
  | zero =>
    intro M x3  h
    exact absurd h (fun z => by cases z)
  | succ n ih =>
    intro M x3  h
    exact kb_X10_weigh_32 C hlk hr ha1 hk22 (fun M x3 h => ih M x3 h) h
set_option maxRecDepth 4000 in
theorem kb_X10_weigh_22 {p : Program} {l : Launch} {e : Env} {s : State} {m : MethodId} {args : Array Value} {below : List Frame} {meth : Method} {c : Code} {G : GG} {k22 : Mm → Int32 → Option Mm} {a1 : Nat} {M : Mm} {x2 : Int32} {M2 : Mm} (C : CX p s m args c prog_12_method_2_code 4 "SnowSentries$Ways" 0 G) (hlk : meth.locks = false) (hr : meth.sig.returnType = none) (ha1 : kU 0 a1 = 4) (hk22 : ∀ (M : Mm) (x2 : Int32), k22 M x2 = some M2 → Z p l e { frames := 4, cells := 0, slots := 0, locals := 89 } s m args below meth c 0 G 4 (MQ below (QC 0 G none M2) args s 0 0 (AU 0 G)) 22 [(0, .ref (gB G + 100)), (1, .ref (gB G + a1)), (2, .int x2)] [] M) : b_X10_weigh_22 k22 a1 M x2 = some M2 → Z p l e { frames := 4, cells := 0, slots := 0, locals := 89 } s m args below meth c 0 G 4 (MQ below (QC 0 G none M2) args s 0 0 (AU 0 G)) 22 [(0, .ref (gB G + 100)), (1, .ref (gB G + a1)), (2, .int x2)] [] M := by
  intro h
  unfold b_X10_weigh_22 at h
  refine z_iload_n 2 C d_X10_weigh_22 rfl rfl ?_
  refine z_aload_n 0 C d_X10_weigh_23 rfl rfl ?_
  refine z_get (k := 1) (v := .int (M.1 100 1)) C ((E_10 kx_100 G) _ _) (kU_in kx_100 (by decide)) rfl inX10 (by decide) wf_X10_35 rfl d_X10_weigh_24 ?_
  refine z_icmp_lt C d_X10_weigh_27 (fun q1 => ?_) (fun q1 => ?_)
  · have h := o_t q1 h
    obtain rfl := o_some h
    exact z_vret C hlk hr d_X10_weigh_110
  · have h := o_f q1 h
    refine z_iconst (v := (0 : Int32)) C d_X10_weigh_30 (by decide) ?_
    refine z_istore_n (L' := [(3, .int (0 : Int32)), (0, .ref (gB G + 100)), (1, .ref (gB G + a1)), (2, .int x2)]) C d_X10_weigh_31 rfl (by decide) rfl ?_
    exact z_sub [1, 2, 3, 0] rfl (k_X10_weigh_32 C hlk hr ha1 hk22 _ _ _ h)
theorem k_X10_weigh_22 {p : Program} {l : Launch} {e : Env} {s : State} {m : MethodId} {args : Array Value} {below : List Frame} {meth : Method} {c : Code} {G : GG} {a1 : Nat} {M2 : Mm} (C : CX p s m args c prog_12_method_2_code 4 "SnowSentries$Ways" 0 G) (hlk : meth.locks = false) (hr : meth.sig.returnType = none) (ha1 : kU 0 a1 = 4) : ∀ (n : Nat) (M : Mm) (x2 : Int32), f_X10_weigh_22 a1 n M x2 = some M2 → Z p l e { frames := 4, cells := 0, slots := 0, locals := 89 } s m args below meth c 0 G 4 (MQ below (QC 0 G none M2) args s 0 0 (AU 0 G)) 22 [(0, .ref (gB G + 100)), (1, .ref (gB G + a1)), (2, .int x2)] [] M := by
  intro n
  induction n with
  | zero =>
    intro M x2  h
    exact absurd h (fun z => by cases z)
  | succ n ih =>
    intro M x2  h
    exact kb_X10_weigh_22 C hlk hr ha1 (fun M x2 h => ih M x2 h) h
set_option maxRecDepth 4000 in
theorem k_X10_weigh_0 {p : Program} {l : Launch} {e : Env} {s : State} {m : MethodId} {args : Array Value} {below : List Frame} {meth : Method} {c : Code} {G : GG} {M : Mm} {a1 : Nat} {M2 : Mm} (C : CX p s m args c prog_12_method_2_code 4 "SnowSentries$Ways" 0 G) (hlk : meth.locks = false) (hr : meth.sig.returnType = none) (ha1 : kU 0 a1 = 4) : f_X10_weigh M a1 = some M2 → Z p l e { frames := 4, cells := 0, slots := 0, locals := 89 } s m args below meth c 0 G 4 (MQ below (QC 0 G none M2) args s 0 0 (AU 0 G)) 0 [(0, .ref (gB G + 100)), (1, .ref (gB G + a1))] [] M := by
  intro h
  unfold f_X10_weigh at h
  refine z_aload_n 0 C d_X10_weigh_0 rfl rfl ?_
  refine z_aload_n 1 C d_X10_weigh_1 rfl rfl ?_
  refine z_get (k := 0) (v := .int (M.1 a1 0)) C ((E_4 ha1 G) _ _) (kU_in ha1 (by decide)) rfl inX4 (by decide) wf_X10_19 rfl d_X10_weigh_2 ?_
  obtain ⟨M1, e2, h⟩ := o_wr h
  refine z_pI (k := 0) (ty := .int) C (fun r q => (E_10 kx_100 G) r q) (fun _ _ => rfl) (kU_in kx_100 (by decide)) rfl inX10 tyX10 tyX10_ok nmX10 (by decide) wf_X10_25 rfl (by decide +kernel) rfl rfl (Nat.le_of_ble_eq_true rfl) d_X10_weigh_5 ?_
  refine z_nM e2 ?_
  refine z_aload_n 0 C d_X10_weigh_8 rfl rfl ?_
  refine z_aload_n 1 C d_X10_weigh_9 rfl rfl ?_
  refine z_get (k := 7) (v := .ref (gB G + (a1 + 5))) C ((E_4 ha1 G) _ _) (kU_in ha1 (by decide)) rfl inX4 (by decide) wf_X10_26 rfl d_X10_weigh_10 ?_
  refine z_get (k := 0) (v := .int (M1.1 (a1 + 5) 0)) C ((E_7 (k_4_7 ha1) G) _ _) (kU_in (k_4_7 ha1) (by decide)) rfl inX7 (by decide) wf_X10_30 rfl d_X10_weigh_13 ?_
  obtain ⟨M3, e4, h⟩ := o_wr h
  refine z_pI (k := 1) (ty := .int) C (fun r q => (E_10 kx_100 G) r q) (fun _ _ => rfl) (kU_in kx_100 (by decide)) rfl inX10 tyX10 tyX10_ok nmX10 (by decide) wf_X10_35 rfl (by decide +kernel) rfl rfl (Nat.le_of_ble_eq_true rfl) d_X10_weigh_16 ?_
  refine z_nM e4 ?_
  refine z_bipush (v := (11 : Int32)) C d_X10_weigh_19 (by decide) ?_
  refine z_istore_n (L' := [(2, .int (11 : Int32)), (0, .ref (gB G + 100)), (1, .ref (gB G + a1))]) C d_X10_weigh_21 rfl (by decide) rfl ?_
  exact z_sub [1, 2, 0] rfl (k_X10_weigh_22 C hlk hr ha1 _ _ _ h)
theorem c_X10_weigh (l : Launch) (G : GG) {M : Mm} {a1 : Nat} {M2 : Mm} (ha1 : kU 0 a1 = 4) (h : f_X10_weigh M a1 = some M2) : CT l 0 G y_X10_weigh prog_12_method_2_code 4 none 4 89 [.ref (gB G + 100), .ref (gB G + a1)] M none M2 :=
  CT.of (by decide +kernel) (Nat.le_of_ble_eq_true rfl) rfl (fun p e s m args below meth c C hlk hr => k_X10_weigh_0 C hlk hr ha1 h)
-- SnowSentries$Ways.lastOf(II)I
set_option maxRecDepth 4000 in
theorem k_X10_lastOf_0 {p : Program} {l : Launch} {e : Env} {s : State} {m : MethodId} {args : Array Value} {below : List Frame} {meth : Method} {c : Code} {G : GG} {M : Mm} {x1 : Int32} {x2 : Int32} {r : Int32} (C : CX p s m args c prog_12_method_4_code 3 "SnowSentries$Ways" 0 G) (hlk : meth.locks = false) (hr : meth.sig.returnType = (some .int)) : f_X10_lastOf M x1 x2 = some r → Z p l e { frames := 1, cells := 0, slots := 0, locals := 21 } s m args below meth c 0 G 3 (MQ below (QC 0 G (some (.int r)) M) args s 0 0 (AU 0 G)) 0 [(0, .ref (gB G + 100)), (1, .int x1), (2, .int x2)] [] M := by
  intro h
  unfold f_X10_lastOf at h
  refine z_iconst (v := (0 : Int32)) C d_X10_lastOf_0 (by decide) ?_
  refine z_iload_n 2 C d_X10_lastOf_1 rfl rfl ?_
  refine z_aload_n 0 C d_X10_lastOf_2 rfl rfl ?_
  refine z_get (k := 3) (v := .ref (gB G + 114)) C ((E_10 kx_100 G) _ _) (kU_in kx_100 (by decide)) rfl inX10 (by decide) wf_X10_16 rfl d_X10_lastOf_3 ?_
  refine z_aload_n 0 C d_X10_lastOf_6 rfl rfl ?_
  refine z_get (k := 1) (v := .int (M.1 100 1)) C ((E_10 kx_100 G) _ _) (kU_in kx_100 (by decide)) rfl inX10 (by decide) wf_X10_35 rfl d_X10_lastOf_7 ?_
  obtain ⟨q1, h⟩ := o_ck h
  refine z_rld (t := 7) (b := (114 + 1 + (M.1 100 1).toNatClampNeg)) ((E_32 kx_114 G) _ _) C (kU_in kx_114 (by decide)) rfl rfl q1 (if_pos (inn_lt q1)) d_X10_lastOf_10 ?_
  refine z_iload_n 1 C d_X10_lastOf_11 rfl rfl ?_
  obtain ⟨q2, h⟩ := o_ck h
  refine z_ald ((E_21 (k_32 kx_114 (inn_lt q1)) G) _ _) C (kU_in (k_32 kx_114 (inn_lt q1)) (by decide)) q2 d_X10_lastOf_12 ?_
  refine z_isub C d_X10_lastOf_13 ?_
  refine z_mmax C wm_X10_50 wMs_max wMi wMc_max (Nat.le_of_ble_eq_true rfl) (Nat.le_of_ble_eq_true rfl) d_X10_lastOf_14 ?_
  obtain rfl := o_some h
  exact z_iret C hlk hr d_X10_lastOf_17
theorem c_X10_lastOf (l : Launch) (G : GG) {M : Mm} {x1 : Int32} {x2 : Int32} {r : Int32} (h : f_X10_lastOf M x1 x2 = some r) : CT l 0 G y_X10_lastOf prog_12_method_4_code 3 (some .int) 1 21 [.ref (gB G + 100), .int x1, .int x2] M (some (.int r)) M :=
  CT.of (by decide +kernel) (Nat.le_of_ble_eq_true rfl) rfl (fun p e s m args below meth c C hlk hr => k_X10_lastOf_0 C hlk hr h)
-- SnowSentries$Ways.stepFrom(IIZ)I
set_option maxRecDepth 4000 in
theorem k_X10_stepFrom_29 {p : Program} {l : Launch} {e : Env} {s : State} {m : MethodId} {args : Array Value} {below : List Frame} {meth : Method} {c : Code} {G : GG} {M : Mm} {x1 : Int32} {r : Int32} (C : CX p s m args c prog_12_method_6_code 4 "SnowSentries$Ways" 0 G) (hlk : meth.locks = false) (hr : meth.sig.returnType = (some .int)) : f_X10_stepFrom_29 M x1 = some r → Z p l e { frames := 1, cells := 0, slots := 0, locals := 21 } s m args below meth c 0 G 4 (MQ below (QC 0 G (some (.int r)) M) args s 0 0 (AU 0 G)) 29 [(1, .int x1)] [] M := by
  intro h
  unfold f_X10_stepFrom_29 at h
  refine z_iload_n 0 C d_X10_stepFrom_29 rfl rfl ?_
  refine z_iconst (v := (1 : Int32)) C d_X10_stepFrom_30 (by decide) ?_
  refine z_isub C d_X10_stepFrom_31 ?_
  obtain rfl := o_some h
  exact z_iret C hlk hr d_X10_stepFrom_32
set_option maxRecDepth 4000 in
theorem k_X10_stepFrom_56 {p : Program} {l : Launch} {e : Env} {s : State} {m : MethodId} {args : Array Value} {below : List Frame} {meth : Method} {c : Code} {G : GG} {M : Mm} {x1 : Int32} {r : Int32} (C : CX p s m args c prog_12_method_6_code 4 "SnowSentries$Ways" 0 G) (hlk : meth.locks = false) (hr : meth.sig.returnType = (some .int)) : f_X10_stepFrom_56 M x1 = some r → Z p l e { frames := 1, cells := 0, slots := 0, locals := 21 } s m args below meth c 0 G 4 (MQ below (QC 0 G (some (.int r)) M) args s 0 0 (AU 0 G)) 56 [(1, .int x1)] [] M := by
  intro h
  unfold f_X10_stepFrom_56 at h
  refine z_iload_n 0 C d_X10_stepFrom_56 rfl rfl ?_
  obtain rfl := o_some h
  exact z_iret C hlk hr d_X10_stepFrom_57
set_option maxRecDepth 4000 in
theorem k_X10_stepFrom_33 {p : Program} {l : Launch} {e : Env} {s : State} {m : MethodId} {args : Array Value} {below : List Frame} {meth : Method} {c : Code} {G : GG} {M : Mm} {x1 : Int32} {x2 : Int32} {x3 : Int32} {r : Int32} (C : CX p s m args c prog_12_method_6_code 4 "SnowSentries$Ways" 0 G) (hlk : meth.locks = false) (hr : meth.sig.returnType = (some .int)) : f_X10_stepFrom_33 M x1 x2 x3 = some r → Z p l e { frames := 1, cells := 0, slots := 0, locals := 21 } s m args below meth c 0 G 4 (MQ below (QC 0 G (some (.int r)) M) args s 0 0 (AU 0 G)) 33 [(0, .ref (gB G + 100)), (1, .int x1), (2, .int x2), (3, .int x3)] [] M := by
  intro h
  unfold f_X10_stepFrom_33 at h
  refine z_iload_n 3 C d_X10_stepFrom_33 rfl rfl ?_
  refine z_if_ne C d_X10_stepFrom_34 (fun q1 => ?_) (fun q1 => ?_)
  · have h := o_f q1 h
    exact z_sub [1] rfl (k_X10_stepFrom_56 C hlk hr h)
  · have h := o_t q1 h
    refine z_aload_n 0 C d_X10_stepFrom_37 rfl rfl ?_
    refine z_get (k := 2) (v := .ref (gB G + 101)) C ((E_10 kx_100 G) _ _) (kU_in kx_100 (by decide)) rfl inX10 (by decide) wf_X10_11 rfl d_X10_stepFrom_38 ?_
    refine z_iload_n 2 C d_X10_stepFrom_41 rfl rfl ?_
    obtain ⟨q2, h⟩ := o_ck h
    refine z_rld (t := 7) (b := (101 + 1 + x2.toNatClampNeg)) ((E_31 kx_101 G) _ _) C (kU_in kx_101 (by decide)) rfl rfl q2 (if_pos (inn_lt q2)) d_X10_stepFrom_42 ?_
    refine z_iload_n 1 C d_X10_stepFrom_43 rfl rfl ?_
    obtain ⟨q3, h⟩ := o_ck h
    refine z_ald ((E_21 (k_31 kx_101 (inn_lt q2)) G) _ _) C (kU_in (k_31 kx_101 (inn_lt q2)) (by decide)) q3 d_X10_stepFrom_44 ?_
    refine z_aload_n 0 C d_X10_stepFrom_45 rfl rfl ?_
    refine z_get (k := 3) (v := .ref (gB G + 114)) C ((E_10 kx_100 G) _ _) (kU_in kx_100 (by decide)) rfl inX10 (by decide) wf_X10_16 rfl d_X10_stepFrom_46 ?_
    refine z_iload_n 2 C d_X10_stepFrom_49 rfl rfl ?_
    obtain ⟨q4, h⟩ := o_ck h
    refine z_rld (t := 7) (b := (114 + 1 + x2.toNatClampNeg)) ((E_32 kx_114 G) _ _) C (kU_in kx_114 (by decide)) rfl rfl q4 (if_pos (inn_lt q4)) d_X10_stepFrom_50 ?_
    refine z_iload_n 1 C d_X10_stepFrom_51 rfl rfl ?_
    refine z_ald ((E_21 (k_32 kx_114 (inn_lt q4)) G) _ _) C (kU_in (k_32 kx_114 (inn_lt q4)) (by decide)) q3 d_X10_stepFrom_52 ?_
    refine z_icmp_ne C d_X10_stepFrom_53 (fun q5 => ?_) (fun q5 => ?_)
    · have h := o_f q5 h
      refine z_iload_n 1 C d_X10_stepFrom_58 rfl rfl ?_
      refine z_iconst (v := (1 : Int32)) C d_X10_stepFrom_59 (by decide) ?_
      refine z_iadd C d_X10_stepFrom_60 ?_
      refine z_aload_n 0 C d_X10_stepFrom_61 rfl rfl ?_
      refine z_get (k := 0) (v := .int (M.1 100 0)) C ((E_10 kx_100 G) _ _) (kU_in kx_100 (by decide)) rfl inX10 (by decide) wf_X10_25 rfl d_X10_stepFrom_62 ?_
      refine z_iconst (v := (1 : Int32)) C d_X10_stepFrom_65 (by decide) ?_
      refine z_isub C d_X10_stepFrom_66 ?_
      refine z_mmin C wm_X10_45 wMs_min wMi wMc_min (Nat.le_of_ble_eq_true rfl) (Nat.le_of_ble_eq_true rfl) d_X10_stepFrom_67 ?_
      obtain rfl := o_some h
      exact z_iret C hlk hr d_X10_stepFrom_70
    · have h := o_t q5 h
      exact z_sub [1] rfl (k_X10_stepFrom_56 C hlk hr h)
set_option maxRecDepth 4000 in
theorem k_X10_stepFrom_0 {p : Program} {l : Launch} {e : Env} {s : State} {m : MethodId} {args : Array Value} {below : List Frame} {meth : Method} {c : Code} {G : GG} {M : Mm} {x1 : Int32} {x2 : Int32} {x3 : Int32} {r : Int32} (C : CX p s m args c prog_12_method_6_code 4 "SnowSentries$Ways" 0 G) (hlk : meth.locks = false) (hr : meth.sig.returnType = (some .int)) : f_X10_stepFrom M x1 x2 x3 = some r → Z p l e { frames := 1, cells := 0, slots := 0, locals := 21 } s m args below meth c 0 G 4 (MQ below (QC 0 G (some (.int r)) M) args s 0 0 (AU 0 G)) 0 [(0, .ref (gB G + 100)), (1, .int x1), (2, .int x2), (3, .int x3)] [] M := by
  intro h
  unfold f_X10_stepFrom at h
  refine z_iload_n 1 C d_X10_stepFrom_0 rfl rfl ?_
  refine z_if_le C d_X10_stepFrom_1 (fun q1 => ?_) (fun q1 => ?_)
  · have h := o_t q1 h
    exact z_sub [0, 1, 2, 3] rfl (k_X10_stepFrom_33 C hlk hr h)
  · have h := o_f q1 h
    refine z_iload_n 3 C d_X10_stepFrom_4 rfl rfl ?_
    refine z_if_ne C d_X10_stepFrom_5 (fun q2 => ?_) (fun q2 => ?_)
    · have h := o_f q2 h
      exact z_sub [1] rfl (k_X10_stepFrom_29 C hlk hr h)
    · have h := o_t q2 h
      refine z_aload_n 0 C d_X10_stepFrom_8 rfl rfl ?_
      refine z_get (k := 2) (v := .ref (gB G + 101)) C ((E_10 kx_100 G) _ _) (kU_in kx_100 (by decide)) rfl inX10 (by decide) wf_X10_11 rfl d_X10_stepFrom_9 ?_
      refine z_iload_n 2 C d_X10_stepFrom_12 rfl rfl ?_
      obtain ⟨q3, h⟩ := o_ck h
      refine z_rld (t := 7) (b := (101 + 1 + x2.toNatClampNeg)) ((E_31 kx_101 G) _ _) C (kU_in kx_101 (by decide)) rfl rfl q3 (if_pos (inn_lt q3)) d_X10_stepFrom_13 ?_
      refine z_iload_n 1 C d_X10_stepFrom_14 rfl rfl ?_
      refine z_iconst (v := (1 : Int32)) C d_X10_stepFrom_15 (by decide) ?_
      refine z_isub C d_X10_stepFrom_16 ?_
      obtain ⟨q4, h⟩ := o_ck h
      refine z_ald ((E_21 (k_31 kx_101 (inn_lt q3)) G) _ _) C (kU_in (k_31 kx_101 (inn_lt q3)) (by decide)) q4 d_X10_stepFrom_17 ?_
      refine z_aload_n 0 C d_X10_stepFrom_18 rfl rfl ?_
      refine z_get (k := 3) (v := .ref (gB G + 114)) C ((E_10 kx_100 G) _ _) (kU_in kx_100 (by decide)) rfl inX10 (by decide) wf_X10_16 rfl d_X10_stepFrom_19 ?_
      refine z_iload_n 2 C d_X10_stepFrom_22 rfl rfl ?_
      obtain ⟨q5, h⟩ := o_ck h
      refine z_rld (t := 7) (b := (114 + 1 + x2.toNatClampNeg)) ((E_32 kx_114 G) _ _) C (kU_in kx_114 (by decide)) rfl rfl q5 (if_pos (inn_lt q5)) d_X10_stepFrom_23 ?_
      refine z_iload_n 1 C d_X10_stepFrom_24 rfl rfl ?_
      obtain ⟨q6, h⟩ := o_ck h
      refine z_ald ((E_21 (k_32 kx_114 (inn_lt q5)) G) _ _) C (kU_in (k_32 kx_114 (inn_lt q5)) (by decide)) q6 d_X10_stepFrom_25 ?_
      refine z_icmp_ne C d_X10_stepFrom_26 (fun q7 => ?_) (fun q7 => ?_)
      · have h := o_f q7 h
        exact z_sub [0, 1, 2, 3] rfl (k_X10_stepFrom_33 C hlk hr h)
      · have h := o_t q7 h
        exact z_sub [1] rfl (k_X10_stepFrom_29 C hlk hr h)
theorem c_X10_stepFrom (l : Launch) (G : GG) {M : Mm} {x1 : Int32} {x2 : Int32} {x3 : Int32} {r : Int32} (h : f_X10_stepFrom M x1 x2 x3 = some r) : CT l 0 G y_X10_stepFrom prog_12_method_6_code 4 (some .int) 1 21 [.ref (gB G + 100), .int x1, .int x2, .int x3] M (some (.int r)) M :=
  CT.of (by decide +kernel) (Nat.le_of_ble_eq_true rfl) rfl (fun p e s m args below meth c C hlk hr => k_X10_stepFrom_0 C hlk hr h)
-- SnowSentries$Ways.placeOn(III)I
set_option maxRecDepth 4000 in
theorem k_X10_placeOn_61 {p : Program} {l : Launch} {e : Env} {s : State} {m : MethodId} {args : Array Value} {below : List Frame} {meth : Method} {c : Code} {G : GG} {M : Mm} {x5 : Int32} {r : Int32} (C : CX p s m args c prog_12_method_5_code 7 "SnowSentries$Ways" 0 G) (hlk : meth.locks = false) (hr : meth.sig.returnType = (some .int)) : f_X10_placeOn_61 M x5 = some r → Z p l e { frames := 2, cells := 0, slots := 0, locals := 44 } s m args below meth c 0 G 7 (MQ below (QC 0 G (some (.int r)) M) args s 0 0 (AU 0 G)) 61 [(5, .int x5)] [] M := by
  intro h
  unfold f_X10_placeOn_61 at h
  refine z_iload 0 C d_X10_placeOn_61 rfl ?_
  obtain rfl := o_some h
  exact z_iret C hlk hr d_X10_placeOn_63
set_option maxRecDepth 4000 in
theorem kb_X10_placeOn_25 {p : Program} {l : Launch} {e : Env} {s : State} {m : MethodId} {args : Array Value} {below : List Frame} {meth : Method} {c : Code} {G : GG} {k25 : Int32 → Int32 → Option Int32} {M : Mm} {x3 : Int32} {x4 : Int32} {x5 : Int32} {x6 : Int32} {r : Int32} (C : CX p s m args c prog_12_method_5_code 7 "SnowSentries$Ways" 0 G) (hlk : meth.locks = false) (hr : meth.sig.returnType = (some .int)) (hk25 : ∀ (x5 : Int32) (x6 : Int32), k25 x5 x6 = some r → Z p l e { frames := 2, cells := 0, slots := 0, locals := 44 } s m args below meth c 0 G 7 (MQ below (QC 0 G (some (.int r)) M) args s 0 0 (AU 0 G)) 25 [(0, .ref (gB G + 100)), (3, .int x3), (4, .int x4), (5, .int x5), (6, .int x6)] [] M) : b_X10_placeOn_25 k25 M x3 x4 x5 x6 = some r → Z p l e { frames := 2, cells := 0, slots := 0, locals := 44 } s m args below meth c 0 G 7 (MQ below (QC 0 G (some (.int r)) M) args s 0 0 (AU 0 G)) 25 [(0, .ref (gB G + 100)), (3, .int x3), (4, .int x4), (5, .int x5), (6, .int x6)] [] M := by
  intro h
  unfold b_X10_placeOn_25 at h
  refine z_iload 4 C d_X10_placeOn_25 rfl ?_
  refine z_aload_n 0 C d_X10_placeOn_27 rfl rfl ?_
  refine z_get (k := 1) (v := .int (M.1 100 1)) C ((E_10 kx_100 G) _ _) (kU_in kx_100 (by decide)) rfl inX10 (by decide) wf_X10_35 rfl d_X10_placeOn_28 ?_
  refine z_iload_n 1 C d_X10_placeOn_31 rfl rfl ?_
  refine z_iadd C d_X10_placeOn_32 ?_
  refine z_icmp_gt C d_X10_placeOn_33 (fun q1 => ?_) (fun q1 => ?_)
  · have h := o_t q1 h
    exact z_sub [3] rfl (k_X10_placeOn_61 C hlk hr h)
  · have h := o_f q1 h
    refine z_iload 4 C d_X10_placeOn_36 rfl ?_
    refine z_bipush (v := (12 : Int32)) C d_X10_placeOn_38 (by decide) ?_
    refine z_icmp_ge C d_X10_placeOn_40 (fun q2 => ?_) (fun q2 => ?_)
    · have h := o_t q2 h
      exact z_sub [3] rfl (k_X10_placeOn_61 C hlk hr h)
    · have h := o_f q2 h
      refine z_aload_n 0 C d_X10_placeOn_43 rfl rfl ?_
      refine z_iload 3 C d_X10_placeOn_44 rfl ?_
      refine z_iload 4 C d_X10_placeOn_46 rfl ?_
      refine z_iload 2 C d_X10_placeOn_48 rfl ?_
      obtain ⟨p4, e3, h⟩ := o_bd h
      refine z_V (S := []) (As := [.int x5, .int x6, .int x4]) C (c_X10_stepFrom l G e3) ((E_10 kx_100 G) _ _) (kU_in kx_100 (by decide)) rfl wc_X10_stepFrom wm_X10_56 ws_X10_stepFrom wl_X10_stepFrom wi_X10 hy_X10_stepFrom ⟨Nat.le_of_ble_eq_true rfl, Nat.le_of_ble_eq_true rfl⟩ rfl rfl (Nat.le_of_ble_eq_true rfl) d_X10_placeOn_50 ?_
      refine z_istore (L' := [(5, .int p4), (0, .ref (gB G + 100)), (3, .int x3), (4, .int x4), (6, .int x6)]) C d_X10_placeOn_53 (by decide) rfl ?_
      refine z_iinc (v := (1 : Int32)) (L' := [(6, .int (x6 + (1 : Int32))), (5, .int p4), (0, .ref (gB G + 100)), (3, .int x3), (4, .int x4)]) 4 C d_X10_placeOn_55 rfl (by decide) (by decide) rfl ?_
      refine z_goto C d_X10_placeOn_58 ?_
      exact z_sub [2, 3, 4, 1, 0] rfl (hk25 _ _  h)
theorem k_X10_placeOn_25 {p : Program} {l : Launch} {e : Env} {s : State} {m : MethodId} {args : Array Value} {below : List Frame} {meth : Method} {c : Code} {G : GG} {M : Mm} {x3 : Int32} {x4 : Int32} {r : Int32} (C : CX p s m args c prog_12_method_5_code 7 "SnowSentries$Ways" 0 G) (hlk : meth.locks = false) (hr : meth.sig.returnType = (some .int)) : ∀ (n : Nat) (x5 : Int32) (x6 : Int32), f_X10_placeOn_25 M x3 x4 n x5 x6 = some r → Z p l e { frames := 2, cells := 0, slots := 0, locals := 44 } s m args below meth c 0 G 7 (MQ below (QC 0 G (some (.int r)) M) args s 0 0 (AU 0 G)) 25 [(0, .ref (gB G + 100)), (3, .int x3), (4, .int x4), (5, .int x5), (6, .int x6)] [] M := by
  intro n
  induction n with
  | zero =>
    intro x5 x6  h
    exact absurd h (fun z => by cases z)
  | succ n ih =>
    intro x5 x6  h
    exact kb_X10_placeOn_25 C hlk hr  (fun x5 x6 h => ih x5 x6 h) h
set_option maxRecDepth 4000 in
theorem k_X10_placeOn_14 {p : Program} {l : Launch} {e : Env} {s : State} {m : MethodId} {args : Array Value} {below : List Frame} {meth : Method} {c : Code} {G : GG} {M : Mm} {x1 : Int32} {x3 : Int32} {s_0 : Int32} {r : Int32} (C : CX p s m args c prog_12_method_5_code 7 "SnowSentries$Ways" 0 G) (hlk : meth.locks = false) (hr : meth.sig.returnType = (some .int)) : f_X10_placeOn_14 M x1 x3 s_0 = some r → Z p l e { frames := 2, cells := 0, slots := 0, locals := 44 } s m args below meth c 0 G 7 (MQ below (QC 0 G (some (.int r)) M) args s 0 0 (AU 0 G)) 14 [(0, .ref (gB G + 100)), (1, .int x1), (3, .int x3)] [.int s_0] M := by
  intro h
  unfold f_X10_placeOn_14 at h
  refine z_istore (L' := [(4, .int s_0), (0, .ref (gB G + 100)), (1, .int x1), (3, .int x3)]) C d_X10_placeOn_14 (by decide) rfl ?_
  refine z_iload_n 2 C d_X10_placeOn_16 rfl rfl ?_
  refine z_istore (L' := [(5, .int x1), (4, .int s_0), (0, .ref (gB G + 100)), (1, .int x1), (3, .int x3)]) C d_X10_placeOn_17 (by decide) rfl ?_
  refine z_aload_n 2 C d_X10_placeOn_19 rfl rfl ?_
  refine z_get (k := 1) (v := .int (M.1 100 1)) C ((E_10 kx_100 G) _ _) (kU_in kx_100 (by decide)) rfl inX10 (by decide) wf_X10_35 rfl d_X10_placeOn_20 ?_
  obtain ⟨v1, e2, h⟩ := o_nm h
  refine z_nI e2 ?_
  refine z_istore (L' := [(6, .int v1), (5, .int x1), (4, .int s_0), (0, .ref (gB G + 100)), (1, .int x1), (3, .int x3)]) C d_X10_placeOn_23 (by decide) rfl ?_
  exact z_sub [3, 5, 2, 1, 0] rfl (k_X10_placeOn_25 C hlk hr _ _ _ h)
set_option maxRecDepth 4000 in
theorem k_X10_placeOn_0 {p : Program} {l : Launch} {e : Env} {s : State} {m : MethodId} {args : Array Value} {below : List Frame} {meth : Method} {c : Code} {G : GG} {M : Mm} {x1 : Int32} {x2 : Int32} {x3 : Int32} {r : Int32} (C : CX p s m args c prog_12_method_5_code 7 "SnowSentries$Ways" 0 G) (hlk : meth.locks = false) (hr : meth.sig.returnType = (some .int)) : f_X10_placeOn M x1 x2 x3 = some r → Z p l e { frames := 2, cells := 0, slots := 0, locals := 44 } s m args below meth c 0 G 7 (MQ below (QC 0 G (some (.int r)) M) args s 0 0 (AU 0 G)) 0 [(0, .ref (gB G + 100)), (1, .int x1), (2, .int x2), (3, .int x3)] [] M := by
  intro h
  unfold f_X10_placeOn at h
  refine z_aload_n 0 C d_X10_placeOn_0 rfl rfl ?_
  refine z_iload_n 1 C d_X10_placeOn_1 rfl rfl ?_
  refine z_iload_n 2 C d_X10_placeOn_2 rfl rfl ?_
  obtain ⟨p2, e1, h⟩ := o_bd h
  refine z_V (S := []) (As := [.int x1, .int x2]) C (c_X10_lastOf l G e1) ((E_10 kx_100 G) _ _) (kU_in kx_100 (by decide)) rfl wc_X10_lastOf wm_X10_53 ws_X10_lastOf wl_X10_lastOf wi_X10 hy_X10_lastOf ⟨Nat.le_of_ble_eq_true rfl, Nat.le_of_ble_eq_true rfl⟩ rfl rfl (Nat.le_of_ble_eq_true rfl) d_X10_placeOn_3 ?_
  refine z_if_ne C d_X10_placeOn_6 (fun q3 => ?_) (fun q3 => ?_)
  · have h := o_f q3 h
    refine z_iconst (v := (0 : Int32)) C d_X10_placeOn_13 (by decide) ?_
    exact z_sub [0, 1, 3] rfl (k_X10_placeOn_14 C hlk hr h)
  · have h := o_t q3 h
    refine z_iconst (v := (1 : Int32)) C d_X10_placeOn_9 (by decide) ?_
    refine z_goto C d_X10_placeOn_10 ?_
    exact z_sub [0, 1, 3] rfl (k_X10_placeOn_14 C hlk hr h)
theorem c_X10_placeOn (l : Launch) (G : GG) {M : Mm} {x1 : Int32} {x2 : Int32} {x3 : Int32} {r : Int32} (h : f_X10_placeOn M x1 x2 x3 = some r) : CT l 0 G y_X10_placeOn prog_12_method_5_code 7 (some .int) 2 44 [.ref (gB G + 100), .int x1, .int x2, .int x3] M (some (.int r)) M :=
  CT.of (by decide +kernel) (Nat.le_of_ble_eq_true rfl) rfl (fun p e s m args below meth c C hlk hr => k_X10_placeOn_0 C hlk hr h)
