theorem wk_L_13 : Cond.constantLong "SnowSentriesLaw" 13 (4294967295 : Int64) ∈ TB := it_7 (List.mem_of_getElem? (i := 82) rfl) rfl
theorem wm_L_15 : Cond.methodLink "SnowSentriesLaw" 15 y_X11_feed ∈ TB := it_2 (List.mem_of_getElem? (i := 214) rfl) rfl
theorem wc_X11_feed : Cond.code y_X11_feed prog_1_method_2_code 3 (some .int) ∈ TB := it_2 (List.mem_of_getElem? (i := 217) rfl) rfl
theorem ws_X11_feed : Cond.instanceMethod y_X11_feed ∈ TB := it_2 (List.mem_of_getElem? (i := 215) rfl) rfl
theorem wl_X11_feed : Cond.selects "SnowSentries" y_X11_feed y_X11_feed ∈ TB := it_2 (List.mem_of_getElem? (i := 216) rfl) rfl
theorem hy_X11_feed : (y_X11_feed).cls ≠ "java/lang/invoke/MethodHandle" ∧ (y_X11_feed).cls ≠ "java/lang/invoke/VarHandle" ∧ (parseMethodDescriptor (y_X11_feed).desc).map (fun d => d.parameters.length) = some 1 := by decide +kernel
theorem wm_L_19 : Cond.methodLink "SnowSentriesLaw" 19 y_X12_feed ∈ TB := it_5 (List.mem_of_getElem? (i := 219) rfl) rfl
theorem wc_X12_feed : Cond.code y_X12_feed prog_14_method_4_code 4 (some .int) ∈ TB := it_5 (List.mem_of_getElem? (i := 222) rfl) rfl
theorem ws_X12_feed : Cond.instanceMethod y_X12_feed ∈ TB := it_5 (List.mem_of_getElem? (i := 220) rfl) rfl
theorem wl_X12_feed : Cond.selects "SnowSentriesModel" y_X12_feed y_X12_feed ∈ TB := it_5 (List.mem_of_getElem? (i := 221) rfl) rfl
theorem hy_X12_feed : (y_X12_feed).cls ≠ "java/lang/invoke/MethodHandle" ∧ (y_X12_feed).cls ≠ "java/lang/invoke/VarHandle" ∧ (parseMethodDescriptor (y_X12_feed).desc).map (fun d => d.parameters.length) = some 1 := by decide +kernel
theorem wm_L_20 : Cond.methodLink "SnowSentriesLaw" 20 y_X11_end ∈ TB := it_2 (List.mem_of_getElem? (i := 222) rfl) rfl
theorem wc_X11_end : Cond.code y_X11_end prog_1_method_3_code 2 (some .int) ∈ TB := it_2 (List.mem_of_getElem? (i := 225) rfl) rfl
theorem ws_X11_end : Cond.instanceMethod y_X11_end ∈ TB := it_2 (List.mem_of_getElem? (i := 223) rfl) rfl
theorem wl_X11_end : Cond.selects "SnowSentries" y_X11_end y_X11_end ∈ TB := it_2 (List.mem_of_getElem? (i := 224) rfl) rfl
theorem hy_X11_end : (y_X11_end).cls ≠ "java/lang/invoke/MethodHandle" ∧ (y_X11_end).cls ≠ "java/lang/invoke/VarHandle" ∧ (parseMethodDescriptor (y_X11_end).desc).map (fun d => d.parameters.length) = some 1 := by decide +kernel
theorem wm_L_24 : Cond.methodLink "SnowSentriesLaw" 24 y_X12_end ∈ TB := it_5 (List.mem_of_getElem? (i := 223) rfl) rfl
theorem wc_X12_end : Cond.code y_X12_end prog_14_method_5_code 3 (some .int) ∈ TB := it_5 (List.mem_of_getElem? (i := 226) rfl) rfl
theorem ws_X12_end : Cond.instanceMethod y_X12_end ∈ TB := it_5 (List.mem_of_getElem? (i := 224) rfl) rfl
theorem wl_X12_end : Cond.selects "SnowSentriesModel" y_X12_end y_X12_end ∈ TB := it_5 (List.mem_of_getElem? (i := 225) rfl) rfl
theorem hy_X12_end : (y_X12_end).cls ≠ "java/lang/invoke/MethodHandle" ∧ (y_X12_end).cls ≠ "java/lang/invoke/VarHandle" ∧ (parseMethodDescriptor (y_X12_end).desc).map (fun d => d.parameters.length) = some 1 := by decide +kernel
theorem wm_L_25 : Cond.methodLink "SnowSentriesLaw" 25 y_X11_land ∈ TB := it_2 (List.mem_of_getElem? (i := 233) rfl) rfl
theorem wc_X11_land : Cond.code y_X11_land prog_1_method_4_code 2 (some .int) ∈ TB := it_2 (List.mem_of_getElem? (i := 236) rfl) rfl
theorem ws_X11_land : Cond.instanceMethod y_X11_land ∈ TB := it_2 (List.mem_of_getElem? (i := 234) rfl) rfl
theorem wl_X11_land : Cond.selects "SnowSentries" y_X11_land y_X11_land ∈ TB := it_2 (List.mem_of_getElem? (i := 235) rfl) rfl
theorem hy_X11_land : (y_X11_land).cls ≠ "java/lang/invoke/MethodHandle" ∧ (y_X11_land).cls ≠ "java/lang/invoke/VarHandle" ∧ (parseMethodDescriptor (y_X11_land).desc).map (fun d => d.parameters.length) = some 0 := by decide +kernel
theorem wm_L_29 : Cond.methodLink "SnowSentriesLaw" 29 y_X12_land ∈ TB := it_5 (List.mem_of_getElem? (i := 230) rfl) rfl
theorem wc_X12_land : Cond.code y_X12_land prog_14_method_22_code 3 (some .int) ∈ TB := it_5 (List.mem_of_getElem? (i := 233) rfl) rfl
theorem ws_X12_land : Cond.instanceMethod y_X12_land ∈ TB := it_5 (List.mem_of_getElem? (i := 231) rfl) rfl
theorem wl_X12_land : Cond.selects "SnowSentriesModel" y_X12_land y_X12_land ∈ TB := it_5 (List.mem_of_getElem? (i := 232) rfl) rfl
theorem hy_X12_land : (y_X12_land).cls ≠ "java/lang/invoke/MethodHandle" ∧ (y_X12_land).cls ≠ "java/lang/invoke/VarHandle" ∧ (parseMethodDescriptor (y_X12_land).desc).map (fun d => d.parameters.length) = some 0 := by decide +kernel
theorem wm_L_30 : Cond.methodLink "SnowSentriesLaw" 30 y_X11_fault ∈ TB := it_3 (List.mem_of_getElem? (i := 170) rfl) rfl
theorem wc_X11_fault : Cond.code y_X11_fault prog_1_method_5_code 1 (some .int) ∈ TB := it_3 (List.mem_of_getElem? (i := 173) rfl) rfl
theorem ws_X11_fault : Cond.instanceMethod y_X11_fault ∈ TB := it_3 (List.mem_of_getElem? (i := 171) rfl) rfl
theorem wl_X11_fault : Cond.selects "SnowSentries" y_X11_fault y_X11_fault ∈ TB := it_3 (List.mem_of_getElem? (i := 172) rfl) rfl
theorem hy_X11_fault : (y_X11_fault).cls ≠ "java/lang/invoke/MethodHandle" ∧ (y_X11_fault).cls ≠ "java/lang/invoke/VarHandle" ∧ (parseMethodDescriptor (y_X11_fault).desc).map (fun d => d.parameters.length) = some 0 := by decide +kernel
theorem wm_L_33 : Cond.methodLink "SnowSentriesLaw" 33 y_X12_fault ∈ TB := it_6 (List.mem_of_getElem? (i := 63) rfl) rfl
theorem wc_X12_fault : Cond.code y_X12_fault prog_14_method_23_code 1 (some .int) ∈ TB := it_6 (List.mem_of_getElem? (i := 66) rfl) rfl
theorem ws_X12_fault : Cond.instanceMethod y_X12_fault ∈ TB := it_6 (List.mem_of_getElem? (i := 64) rfl) rfl
theorem wl_X12_fault : Cond.selects "SnowSentriesModel" y_X12_fault y_X12_fault ∈ TB := it_6 (List.mem_of_getElem? (i := 65) rfl) rfl
theorem hy_X12_fault : (y_X12_fault).cls ≠ "java/lang/invoke/MethodHandle" ∧ (y_X12_fault).cls ≠ "java/lang/invoke/VarHandle" ∧ (parseMethodDescriptor (y_X12_fault).desc).map (fun d => d.parameters.length) = some 0 := by decide +kernel
theorem wm_L_34 : Cond.methodLink "SnowSentriesLaw" 34 y_X11_rule ∈ TB := it_3 (List.mem_of_getElem? (i := 174) rfl) rfl
theorem wc_X11_rule : Cond.code y_X11_rule prog_1_method_6_code 2 (some .int) ∈ TB := it_3 (List.mem_of_getElem? (i := 177) rfl) rfl
theorem ws_X11_rule : Cond.instanceMethod y_X11_rule ∈ TB := it_3 (List.mem_of_getElem? (i := 175) rfl) rfl
theorem wl_X11_rule : Cond.selects "SnowSentries" y_X11_rule y_X11_rule ∈ TB := it_3 (List.mem_of_getElem? (i := 176) rfl) rfl
theorem hy_X11_rule : (y_X11_rule).cls ≠ "java/lang/invoke/MethodHandle" ∧ (y_X11_rule).cls ≠ "java/lang/invoke/VarHandle" ∧ (parseMethodDescriptor (y_X11_rule).desc).map (fun d => d.parameters.length) = some 1 := by decide +kernel
theorem wm_L_37 : Cond.methodLink "SnowSentriesLaw" 37 y_X12_rule ∈ TB := it_6 (List.mem_of_getElem? (i := 67) rfl) rfl
theorem wc_X12_rule : Cond.code y_X12_rule prog_14_method_25_code 2 (some .int) ∈ TB := it_6 (List.mem_of_getElem? (i := 70) rfl) rfl
theorem ws_X12_rule : Cond.instanceMethod y_X12_rule ∈ TB := it_6 (List.mem_of_getElem? (i := 68) rfl) rfl
theorem wl_X12_rule : Cond.selects "SnowSentriesModel" y_X12_rule y_X12_rule ∈ TB := it_6 (List.mem_of_getElem? (i := 69) rfl) rfl
theorem hy_X12_rule : (y_X12_rule).cls ≠ "java/lang/invoke/MethodHandle" ∧ (y_X12_rule).cls ≠ "java/lang/invoke/VarHandle" ∧ (parseMethodDescriptor (y_X12_rule).desc).map (fun d => d.parameters.length) = some 1 := by decide +kernel
theorem wm_L_38 : Cond.methodLink "SnowSentriesLaw" 38 y_X11_hour ∈ TB := it_3 (List.mem_of_getElem? (i := 178) rfl) rfl
theorem wc_X11_hour : Cond.code y_X11_hour prog_1_method_7_code 3 (some .int) ∈ TB := it_3 (List.mem_of_getElem? (i := 181) rfl) rfl
theorem ws_X11_hour : Cond.instanceMethod y_X11_hour ∈ TB := it_3 (List.mem_of_getElem? (i := 179) rfl) rfl
theorem wl_X11_hour : Cond.selects "SnowSentries" y_X11_hour y_X11_hour ∈ TB := it_3 (List.mem_of_getElem? (i := 180) rfl) rfl
theorem hy_X11_hour : (y_X11_hour).cls ≠ "java/lang/invoke/MethodHandle" ∧ (y_X11_hour).cls ≠ "java/lang/invoke/VarHandle" ∧ (parseMethodDescriptor (y_X11_hour).desc).map (fun d => d.parameters.length) = some 2 := by decide +kernel
theorem wm_L_42 : Cond.methodLink "SnowSentriesLaw" 42 y_X12_hour ∈ TB := it_6 (List.mem_of_getElem? (i := 77) rfl) rfl
theorem wc_X12_hour : Cond.code y_X12_hour prog_14_method_29_code 3 (some .int) ∈ TB := it_6 (List.mem_of_getElem? (i := 80) rfl) rfl
theorem ws_X12_hour : Cond.instanceMethod y_X12_hour ∈ TB := it_6 (List.mem_of_getElem? (i := 78) rfl) rfl
theorem wl_X12_hour : Cond.selects "SnowSentriesModel" y_X12_hour y_X12_hour ∈ TB := it_6 (List.mem_of_getElem? (i := 79) rfl) rfl
theorem hy_X12_hour : (y_X12_hour).cls ≠ "java/lang/invoke/MethodHandle" ∧ (y_X12_hour).cls ≠ "java/lang/invoke/VarHandle" ∧ (parseMethodDescriptor (y_X12_hour).desc).map (fun d => d.parameters.length) = some 2 := by decide +kernel
theorem wm_L_43 : Cond.methodLink "SnowSentriesLaw" 43 y_X11_furlong ∈ TB := it_3 (List.mem_of_getElem? (i := 186) rfl) rfl
theorem wc_X11_furlong : Cond.code y_X11_furlong prog_1_method_8_code 4 (some .int) ∈ TB := it_3 (List.mem_of_getElem? (i := 189) rfl) rfl
theorem ws_X11_furlong : Cond.instanceMethod y_X11_furlong ∈ TB := it_3 (List.mem_of_getElem? (i := 187) rfl) rfl
theorem wl_X11_furlong : Cond.selects "SnowSentries" y_X11_furlong y_X11_furlong ∈ TB := it_3 (List.mem_of_getElem? (i := 188) rfl) rfl
theorem hy_X11_furlong : (y_X11_furlong).cls ≠ "java/lang/invoke/MethodHandle" ∧ (y_X11_furlong).cls ≠ "java/lang/invoke/VarHandle" ∧ (parseMethodDescriptor (y_X11_furlong).desc).map (fun d => d.parameters.length) = some 2 := by decide +kernel
theorem wm_L_46 : Cond.methodLink "SnowSentriesLaw" 46 y_X12_furlong ∈ TB := it_6 (List.mem_of_getElem? (i := 85) rfl) rfl
theorem wc_X12_furlong : Cond.code y_X12_furlong prog_14_method_33_code 4 (some .int) ∈ TB := it_6 (List.mem_of_getElem? (i := 88) rfl) rfl
theorem ws_X12_furlong : Cond.instanceMethod y_X12_furlong ∈ TB := it_6 (List.mem_of_getElem? (i := 86) rfl) rfl
theorem wl_X12_furlong : Cond.selects "SnowSentriesModel" y_X12_furlong y_X12_furlong ∈ TB := it_6 (List.mem_of_getElem? (i := 87) rfl) rfl
theorem hy_X12_furlong : (y_X12_furlong).cls ≠ "java/lang/invoke/MethodHandle" ∧ (y_X12_furlong).cls ≠ "java/lang/invoke/VarHandle" ∧ (parseMethodDescriptor (y_X12_furlong).desc).map (fun d => d.parameters.length) = some 2 := by decide +kernel
theorem wm_L_47 : Cond.methodLink "SnowSentriesLaw" 47 y_X11_man ∈ TB := it_3 (List.mem_of_getElem? (i := 203) rfl) rfl
theorem wc_X11_man : Cond.code y_X11_man prog_1_method_9_code 5 (some .int) ∈ TB := it_3 (List.mem_of_getElem? (i := 206) rfl) rfl
theorem ws_X11_man : Cond.instanceMethod y_X11_man ∈ TB := it_3 (List.mem_of_getElem? (i := 204) rfl) rfl
theorem wl_X11_man : Cond.selects "SnowSentries" y_X11_man y_X11_man ∈ TB := it_3 (List.mem_of_getElem? (i := 205) rfl) rfl
theorem hy_X11_man : (y_X11_man).cls ≠ "java/lang/invoke/MethodHandle" ∧ (y_X11_man).cls ≠ "java/lang/invoke/VarHandle" ∧ (parseMethodDescriptor (y_X11_man).desc).map (fun d => d.parameters.length) = some 3 := by decide +kernel
theorem wm_L_51 : Cond.methodLink "SnowSentriesLaw" 51 y_X12_man ∈ TB := it_6 (List.mem_of_getElem? (i := 101) rfl) rfl
theorem wc_X12_man : Cond.code y_X12_man prog_14_method_34_code 5 (some .int) ∈ TB := it_6 (List.mem_of_getElem? (i := 104) rfl) rfl
theorem ws_X12_man : Cond.instanceMethod y_X12_man ∈ TB := it_6 (List.mem_of_getElem? (i := 102) rfl) rfl
theorem wl_X12_man : Cond.selects "SnowSentriesModel" y_X12_man y_X12_man ∈ TB := it_6 (List.mem_of_getElem? (i := 103) rfl) rfl
theorem hy_X12_man : (y_X12_man).cls ≠ "java/lang/invoke/MethodHandle" ∧ (y_X12_man).cls ≠ "java/lang/invoke/VarHandle" ∧ (parseMethodDescriptor (y_X12_man).desc).map (fun d => d.parameters.length) = some 3 := by decide +kernel
theorem wm_L_52 : Cond.methodLink "SnowSentriesLaw" 52 y_X11_brazier ∈ TB := it_3 (List.mem_of_getElem? (i := 211) rfl) rfl
theorem wc_X11_brazier : Cond.code y_X11_brazier prog_1_method_10_code 4 (some .int) ∈ TB := it_3 (List.mem_of_getElem? (i := 214) rfl) rfl
theorem ws_X11_brazier : Cond.instanceMethod y_X11_brazier ∈ TB := it_3 (List.mem_of_getElem? (i := 212) rfl) rfl
theorem wl_X11_brazier : Cond.selects "SnowSentries" y_X11_brazier y_X11_brazier ∈ TB := it_3 (List.mem_of_getElem? (i := 213) rfl) rfl
theorem hy_X11_brazier : (y_X11_brazier).cls ≠ "java/lang/invoke/MethodHandle" ∧ (y_X11_brazier).cls ≠ "java/lang/invoke/VarHandle" ∧ (parseMethodDescriptor (y_X11_brazier).desc).map (fun d => d.parameters.length) = some 2 := by decide +kernel
theorem wm_L_55 : Cond.methodLink "SnowSentriesLaw" 55 y_X12_brazier ∈ TB := it_6 (List.mem_of_getElem? (i := 113) rfl) rfl
theorem wc_X12_brazier : Cond.code y_X12_brazier prog_14_method_35_code 3 (some .int) ∈ TB := it_6 (List.mem_of_getElem? (i := 116) rfl) rfl
theorem ws_X12_brazier : Cond.instanceMethod y_X12_brazier ∈ TB := it_6 (List.mem_of_getElem? (i := 114) rfl) rfl
theorem wl_X12_brazier : Cond.selects "SnowSentriesModel" y_X12_brazier y_X12_brazier ∈ TB := it_6 (List.mem_of_getElem? (i := 115) rfl) rfl
theorem hy_X12_brazier : (y_X12_brazier).cls ≠ "java/lang/invoke/MethodHandle" ∧ (y_X12_brazier).cls ≠ "java/lang/invoke/VarHandle" ∧ (parseMethodDescriptor (y_X12_brazier).desc).map (fun d => d.parameters.length) = some 2 := by decide +kernel
theorem wm_L_56 : Cond.methodLink "SnowSentriesLaw" 56 y_X11_house ∈ TB := it_3 (List.mem_of_getElem? (i := 219) rfl) rfl
theorem wc_X11_house : Cond.code y_X11_house prog_1_method_11_code 3 (some .int) ∈ TB := it_3 (List.mem_of_getElem? (i := 222) rfl) rfl
theorem ws_X11_house : Cond.instanceMethod y_X11_house ∈ TB := it_3 (List.mem_of_getElem? (i := 220) rfl) rfl
theorem wl_X11_house : Cond.selects "SnowSentries" y_X11_house y_X11_house ∈ TB := it_3 (List.mem_of_getElem? (i := 221) rfl) rfl
theorem hy_X11_house : (y_X11_house).cls ≠ "java/lang/invoke/MethodHandle" ∧ (y_X11_house).cls ≠ "java/lang/invoke/VarHandle" ∧ (parseMethodDescriptor (y_X11_house).desc).map (fun d => d.parameters.length) = some 2 := by decide +kernel
theorem wm_L_59 : Cond.methodLink "SnowSentriesLaw" 59 y_X12_house ∈ TB := it_6 (List.mem_of_getElem? (i := 117) rfl) rfl
theorem wc_X12_house : Cond.code y_X12_house prog_14_method_37_code 3 (some .int) ∈ TB := it_6 (List.mem_of_getElem? (i := 120) rfl) rfl
theorem ws_X12_house : Cond.instanceMethod y_X12_house ∈ TB := it_6 (List.mem_of_getElem? (i := 118) rfl) rfl
theorem wl_X12_house : Cond.selects "SnowSentriesModel" y_X12_house y_X12_house ∈ TB := it_6 (List.mem_of_getElem? (i := 119) rfl) rfl
theorem hy_X12_house : (y_X12_house).cls ≠ "java/lang/invoke/MethodHandle" ∧ (y_X12_house).cls ≠ "java/lang/invoke/VarHandle" ∧ (parseMethodDescriptor (y_X12_house).desc).map (fun d => d.parameters.length) = some 2 := by decide +kernel
theorem wm_L_60 : Cond.methodLink "SnowSentriesLaw" 60 y_X11_shine ∈ TB := it_3 (List.mem_of_getElem? (i := 227) rfl) rfl
theorem wc_X11_shine : Cond.code y_X11_shine prog_1_method_12_code 4 (some .int) ∈ TB := it_3 (List.mem_of_getElem? (i := 230) rfl) rfl
theorem ws_X11_shine : Cond.instanceMethod y_X11_shine ∈ TB := it_3 (List.mem_of_getElem? (i := 228) rfl) rfl
theorem wl_X11_shine : Cond.selects "SnowSentries" y_X11_shine y_X11_shine ∈ TB := it_3 (List.mem_of_getElem? (i := 229) rfl) rfl
theorem hy_X11_shine : (y_X11_shine).cls ≠ "java/lang/invoke/MethodHandle" ∧ (y_X11_shine).cls ≠ "java/lang/invoke/VarHandle" ∧ (parseMethodDescriptor (y_X11_shine).desc).map (fun d => d.parameters.length) = some 2 := by decide +kernel
theorem wm_L_63 : Cond.methodLink "SnowSentriesLaw" 63 y_X12_shine ∈ TB := it_6 (List.mem_of_getElem? (i := 125) rfl) rfl
theorem wc_X12_shine : Cond.code y_X12_shine prog_14_method_38_code 4 (some .int) ∈ TB := it_6 (List.mem_of_getElem? (i := 128) rfl) rfl
theorem ws_X12_shine : Cond.instanceMethod y_X12_shine ∈ TB := it_6 (List.mem_of_getElem? (i := 126) rfl) rfl
theorem wl_X12_shine : Cond.selects "SnowSentriesModel" y_X12_shine y_X12_shine ∈ TB := it_6 (List.mem_of_getElem? (i := 127) rfl) rfl
theorem hy_X12_shine : (y_X12_shine).cls ≠ "java/lang/invoke/MethodHandle" ∧ (y_X12_shine).cls ≠ "java/lang/invoke/VarHandle" ∧ (parseMethodDescriptor (y_X12_shine).desc).map (fun d => d.parameters.length) = some 2 := by decide +kernel
theorem wm_L_64 : Cond.methodLink "SnowSentriesLaw" 64 y_X11_treaty ∈ TB := it_3 (List.mem_of_getElem? (i := 231) rfl) rfl
theorem wc_X11_treaty : Cond.code y_X11_treaty prog_1_method_13_code 3 (some .int) ∈ TB := it_3 (List.mem_of_getElem? (i := 234) rfl) rfl
theorem ws_X11_treaty : Cond.instanceMethod y_X11_treaty ∈ TB := it_3 (List.mem_of_getElem? (i := 232) rfl) rfl
theorem wl_X11_treaty : Cond.selects "SnowSentries" y_X11_treaty y_X11_treaty ∈ TB := it_3 (List.mem_of_getElem? (i := 233) rfl) rfl
theorem hy_X11_treaty : (y_X11_treaty).cls ≠ "java/lang/invoke/MethodHandle" ∧ (y_X11_treaty).cls ≠ "java/lang/invoke/VarHandle" ∧ (parseMethodDescriptor (y_X11_treaty).desc).map (fun d => d.parameters.length) = some 2 := by decide +kernel
theorem wm_L_67 : Cond.methodLink "SnowSentriesLaw" 67 y_X12_treaty ∈ TB := it_6 (List.mem_of_getElem? (i := 130) rfl) rfl
theorem wc_X12_treaty : Cond.code y_X12_treaty prog_14_method_39_code 4 (some .int) ∈ TB := it_6 (List.mem_of_getElem? (i := 133) rfl) rfl
theorem ws_X12_treaty : Cond.instanceMethod y_X12_treaty ∈ TB := it_6 (List.mem_of_getElem? (i := 131) rfl) rfl
theorem wl_X12_treaty : Cond.selects "SnowSentriesModel" y_X12_treaty y_X12_treaty ∈ TB := it_6 (List.mem_of_getElem? (i := 132) rfl) rfl
theorem hy_X12_treaty : (y_X12_treaty).cls ≠ "java/lang/invoke/MethodHandle" ∧ (y_X12_treaty).cls ≠ "java/lang/invoke/VarHandle" ∧ (parseMethodDescriptor (y_X12_treaty).desc).map (fun d => d.parameters.length) = some 2 := by decide +kernel
theorem wm_L_68 : Cond.methodLink "SnowSentriesLaw" 68 y_X11_chance ∈ TB := it_4 (List.mem_of_getElem? (i := 0) rfl) rfl
theorem wc_X11_chance : Cond.code y_X11_chance prog_1_method_14_code 3 (some .int) ∈ TB := it_4 (List.mem_of_getElem? (i := 3) rfl) rfl
theorem ws_X11_chance : Cond.instanceMethod y_X11_chance ∈ TB := it_4 (List.mem_of_getElem? (i := 1) rfl) rfl
theorem wl_X11_chance : Cond.selects "SnowSentries" y_X11_chance y_X11_chance ∈ TB := it_4 (List.mem_of_getElem? (i := 2) rfl) rfl
theorem hy_X11_chance : (y_X11_chance).cls ≠ "java/lang/invoke/MethodHandle" ∧ (y_X11_chance).cls ≠ "java/lang/invoke/VarHandle" ∧ (parseMethodDescriptor (y_X11_chance).desc).map (fun d => d.parameters.length) = some 1 := by decide +kernel
theorem wm_L_71 : Cond.methodLink "SnowSentriesLaw" 71 y_X12_chance ∈ TB := it_6 (List.mem_of_getElem? (i := 135) rfl) rfl
theorem wc_X12_chance : Cond.code y_X12_chance prog_14_method_40_code 3 (some .int) ∈ TB := it_6 (List.mem_of_getElem? (i := 138) rfl) rfl
theorem ws_X12_chance : Cond.instanceMethod y_X12_chance ∈ TB := it_6 (List.mem_of_getElem? (i := 136) rfl) rfl
theorem wl_X12_chance : Cond.selects "SnowSentriesModel" y_X12_chance y_X12_chance ∈ TB := it_6 (List.mem_of_getElem? (i := 137) rfl) rfl
theorem hy_X12_chance : (y_X12_chance).cls ≠ "java/lang/invoke/MethodHandle" ∧ (y_X12_chance).cls ≠ "java/lang/invoke/VarHandle" ∧ (parseMethodDescriptor (y_X12_chance).desc).map (fun d => d.parameters.length) = some 1 := by decide +kernel
theorem wm_L_72 : Cond.methodLink "SnowSentriesLaw" 72 y_X11_light ∈ TB := it_4 (List.mem_of_getElem? (i := 4) rfl) rfl
theorem wc_X11_light : Cond.code y_X11_light prog_1_method_15_code 6 (some .int) ∈ TB := it_4 (List.mem_of_getElem? (i := 7) rfl) rfl
theorem ws_X11_light : Cond.instanceMethod y_X11_light ∈ TB := it_4 (List.mem_of_getElem? (i := 5) rfl) rfl
theorem wl_X11_light : Cond.selects "SnowSentries" y_X11_light y_X11_light ∈ TB := it_4 (List.mem_of_getElem? (i := 6) rfl) rfl
theorem hy_X11_light : (y_X11_light).cls ≠ "java/lang/invoke/MethodHandle" ∧ (y_X11_light).cls ≠ "java/lang/invoke/VarHandle" ∧ (parseMethodDescriptor (y_X11_light).desc).map (fun d => d.parameters.length) = some 4 := by decide +kernel
theorem wm_L_76 : Cond.methodLink "SnowSentriesLaw" 76 y_X12_light ∈ TB := it_6 (List.mem_of_getElem? (i := 140) rfl) rfl
theorem wc_X12_light : Cond.code y_X12_light prog_14_method_41_code 6 (some .int) ∈ TB := it_6 (List.mem_of_getElem? (i := 143) rfl) rfl
theorem ws_X12_light : Cond.instanceMethod y_X12_light ∈ TB := it_6 (List.mem_of_getElem? (i := 141) rfl) rfl
theorem wl_X12_light : Cond.selects "SnowSentriesModel" y_X12_light y_X12_light ∈ TB := it_6 (List.mem_of_getElem? (i := 142) rfl) rfl
theorem hy_X12_light : (y_X12_light).cls ≠ "java/lang/invoke/MethodHandle" ∧ (y_X12_light).cls ≠ "java/lang/invoke/VarHandle" ∧ (parseMethodDescriptor (y_X12_light).desc).map (fun d => d.parameters.length) = some 4 := by decide +kernel
theorem wm_L_77 : Cond.methodLink "SnowSentriesLaw" 77 y_X11_quench ∈ TB := it_4 (List.mem_of_getElem? (i := 10) rfl) rfl
theorem wc_X11_quench : Cond.code y_X11_quench prog_1_method_16_code 2 (some .int) ∈ TB := it_4 (List.mem_of_getElem? (i := 13) rfl) rfl
theorem ws_X11_quench : Cond.instanceMethod y_X11_quench ∈ TB := it_4 (List.mem_of_getElem? (i := 11) rfl) rfl
theorem wl_X11_quench : Cond.selects "SnowSentries" y_X11_quench y_X11_quench ∈ TB := it_4 (List.mem_of_getElem? (i := 12) rfl) rfl
theorem hy_X11_quench : (y_X11_quench).cls ≠ "java/lang/invoke/MethodHandle" ∧ (y_X11_quench).cls ≠ "java/lang/invoke/VarHandle" ∧ (parseMethodDescriptor (y_X11_quench).desc).map (fun d => d.parameters.length) = some 1 := by decide +kernel
theorem wm_L_80 : Cond.methodLink "SnowSentriesLaw" 80 y_X12_quench ∈ TB := it_6 (List.mem_of_getElem? (i := 145) rfl) rfl
theorem wc_X12_quench : Cond.code y_X12_quench prog_14_method_42_code 3 (some .int) ∈ TB := it_6 (List.mem_of_getElem? (i := 148) rfl) rfl
theorem ws_X12_quench : Cond.instanceMethod y_X12_quench ∈ TB := it_6 (List.mem_of_getElem? (i := 146) rfl) rfl
theorem wl_X12_quench : Cond.selects "SnowSentriesModel" y_X12_quench y_X12_quench ∈ TB := it_6 (List.mem_of_getElem? (i := 147) rfl) rfl
theorem hy_X12_quench : (y_X12_quench).cls ≠ "java/lang/invoke/MethodHandle" ∧ (y_X12_quench).cls ≠ "java/lang/invoke/VarHandle" ∧ (parseMethodDescriptor (y_X12_quench).desc).map (fun d => d.parameters.length) = some 1 := by decide +kernel
theorem wm_L_81 : Cond.methodLink "SnowSentriesLaw" 81 y_X11_mend ∈ TB := it_4 (List.mem_of_getElem? (i := 18) rfl) rfl
theorem wc_X11_mend : Cond.code y_X11_mend prog_1_method_17_code 6 (some .int) ∈ TB := it_4 (List.mem_of_getElem? (i := 21) rfl) rfl
theorem ws_X11_mend : Cond.instanceMethod y_X11_mend ∈ TB := it_4 (List.mem_of_getElem? (i := 19) rfl) rfl
theorem wl_X11_mend : Cond.selects "SnowSentries" y_X11_mend y_X11_mend ∈ TB := it_4 (List.mem_of_getElem? (i := 20) rfl) rfl
theorem hy_X11_mend : (y_X11_mend).cls ≠ "java/lang/invoke/MethodHandle" ∧ (y_X11_mend).cls ≠ "java/lang/invoke/VarHandle" ∧ (parseMethodDescriptor (y_X11_mend).desc).map (fun d => d.parameters.length) = some 3 := by decide +kernel
theorem wm_L_84 : Cond.methodLink "SnowSentriesLaw" 84 y_X12_mend ∈ TB := it_6 (List.mem_of_getElem? (i := 149) rfl) rfl
theorem wc_X12_mend : Cond.code y_X12_mend prog_14_method_43_code 5 (some .int) ∈ TB := it_6 (List.mem_of_getElem? (i := 152) rfl) rfl
theorem ws_X12_mend : Cond.instanceMethod y_X12_mend ∈ TB := it_6 (List.mem_of_getElem? (i := 150) rfl) rfl
theorem wl_X12_mend : Cond.selects "SnowSentriesModel" y_X12_mend y_X12_mend ∈ TB := it_6 (List.mem_of_getElem? (i := 151) rfl) rfl
theorem hy_X12_mend : (y_X12_mend).cls ≠ "java/lang/invoke/MethodHandle" ∧ (y_X12_mend).cls ≠ "java/lang/invoke/VarHandle" ∧ (parseMethodDescriptor (y_X12_mend).desc).map (fun d => d.parameters.length) = some 3 := by decide +kernel
theorem wm_L_85 : Cond.methodLink "SnowSentriesLaw" 85 y_X11_carry ∈ TB := it_4 (List.mem_of_getElem? (i := 22) rfl) rfl
theorem wc_X11_carry : Cond.code y_X11_carry prog_1_method_18_code 5 (some .int) ∈ TB := it_4 (List.mem_of_getElem? (i := 25) rfl) rfl
theorem ws_X11_carry : Cond.instanceMethod y_X11_carry ∈ TB := it_4 (List.mem_of_getElem? (i := 23) rfl) rfl
theorem wl_X11_carry : Cond.selects "SnowSentries" y_X11_carry y_X11_carry ∈ TB := it_4 (List.mem_of_getElem? (i := 24) rfl) rfl
theorem hy_X11_carry : (y_X11_carry).cls ≠ "java/lang/invoke/MethodHandle" ∧ (y_X11_carry).cls ≠ "java/lang/invoke/VarHandle" ∧ (parseMethodDescriptor (y_X11_carry).desc).map (fun d => d.parameters.length) = some 3 := by decide +kernel
theorem wm_L_88 : Cond.methodLink "SnowSentriesLaw" 88 y_X12_carry ∈ TB := it_6 (List.mem_of_getElem? (i := 153) rfl) rfl
theorem wc_X12_carry : Cond.code y_X12_carry prog_14_method_44_code 4 (some .int) ∈ TB := it_6 (List.mem_of_getElem? (i := 156) rfl) rfl
theorem ws_X12_carry : Cond.instanceMethod y_X12_carry ∈ TB := it_6 (List.mem_of_getElem? (i := 154) rfl) rfl
theorem wl_X12_carry : Cond.selects "SnowSentriesModel" y_X12_carry y_X12_carry ∈ TB := it_6 (List.mem_of_getElem? (i := 155) rfl) rfl
theorem hy_X12_carry : (y_X12_carry).cls ≠ "java/lang/invoke/MethodHandle" ∧ (y_X12_carry).cls ≠ "java/lang/invoke/VarHandle" ∧ (parseMethodDescriptor (y_X12_carry).desc).map (fun d => d.parameters.length) = some 3 := by decide +kernel
theorem wm_L_89 : Cond.methodLink "SnowSentriesLaw" 89 y_X11_heat ∈ TB := it_4 (List.mem_of_getElem? (i := 29) rfl) rfl
theorem wc_X11_heat : Cond.code y_X11_heat prog_1_method_19_code 4 (some .int) ∈ TB := it_4 (List.mem_of_getElem? (i := 32) rfl) rfl
theorem ws_X11_heat : Cond.instanceMethod y_X11_heat ∈ TB := it_4 (List.mem_of_getElem? (i := 30) rfl) rfl
theorem wl_X11_heat : Cond.selects "SnowSentries" y_X11_heat y_X11_heat ∈ TB := it_4 (List.mem_of_getElem? (i := 31) rfl) rfl
theorem hy_X11_heat : (y_X11_heat).cls ≠ "java/lang/invoke/MethodHandle" ∧ (y_X11_heat).cls ≠ "java/lang/invoke/VarHandle" ∧ (parseMethodDescriptor (y_X11_heat).desc).map (fun d => d.parameters.length) = some 3 := by decide +kernel
theorem wm_L_93 : Cond.methodLink "SnowSentriesLaw" 93 y_X12_heat ∈ TB := it_6 (List.mem_of_getElem? (i := 157) rfl) rfl
theorem wm_L_94 : Cond.methodLink "SnowSentriesLaw" 94 y_X11_go ∈ TB := it_4 (List.mem_of_getElem? (i := 47) rfl) rfl
theorem wc_X11_go : Cond.code y_X11_go prog_1_method_20_code 3 (some .int) ∈ TB := it_4 (List.mem_of_getElem? (i := 50) rfl) rfl
theorem ws_X11_go : Cond.instanceMethod y_X11_go ∈ TB := it_4 (List.mem_of_getElem? (i := 48) rfl) rfl
theorem wl_X11_go : Cond.selects "SnowSentries" y_X11_go y_X11_go ∈ TB := it_4 (List.mem_of_getElem? (i := 49) rfl) rfl
theorem hy_X11_go : (y_X11_go).cls ≠ "java/lang/invoke/MethodHandle" ∧ (y_X11_go).cls ≠ "java/lang/invoke/VarHandle" ∧ (parseMethodDescriptor (y_X11_go).desc).map (fun d => d.parameters.length) = some 1 := by decide +kernel
theorem wm_L_97 : Cond.methodLink "SnowSentriesLaw" 97 y_X12_go ∈ TB := it_6 (List.mem_of_getElem? (i := 168) rfl) rfl
theorem wc_X12_go : Cond.code y_X12_go prog_14_method_51_code 3 (some .int) ∈ TB := it_6 (List.mem_of_getElem? (i := 171) rfl) rfl
theorem ws_X12_go : Cond.instanceMethod y_X12_go ∈ TB := it_6 (List.mem_of_getElem? (i := 169) rfl) rfl
theorem wl_X12_go : Cond.selects "SnowSentriesModel" y_X12_go y_X12_go ∈ TB := it_6 (List.mem_of_getElem? (i := 170) rfl) rfl
theorem hy_X12_go : (y_X12_go).cls ≠ "java/lang/invoke/MethodHandle" ∧ (y_X12_go).cls ≠ "java/lang/invoke/VarHandle" ∧ (parseMethodDescriptor (y_X12_go).desc).map (fun d => d.parameters.length) = some 1 := by decide +kernel
theorem wm_L_98 : Cond.methodLink "SnowSentriesLaw" 98 y_X11_dawn ∈ TB := it_4 (List.mem_of_getElem? (i := 87) rfl) rfl
theorem wc_X11_dawn : Cond.code y_X11_dawn prog_1_method_21_code 2 (some .int) ∈ TB := it_4 (List.mem_of_getElem? (i := 90) rfl) rfl
theorem ws_X11_dawn : Cond.instanceMethod y_X11_dawn ∈ TB := it_4 (List.mem_of_getElem? (i := 88) rfl) rfl
theorem wl_X11_dawn : Cond.selects "SnowSentries" y_X11_dawn y_X11_dawn ∈ TB := it_4 (List.mem_of_getElem? (i := 89) rfl) rfl
theorem hy_X11_dawn : (y_X11_dawn).cls ≠ "java/lang/invoke/MethodHandle" ∧ (y_X11_dawn).cls ≠ "java/lang/invoke/VarHandle" ∧ (parseMethodDescriptor (y_X11_dawn).desc).map (fun d => d.parameters.length) = some 0 := by decide +kernel
theorem wm_L_101 : Cond.methodLink "SnowSentriesLaw" 101 y_X12_dawn ∈ TB := it_6 (List.mem_of_getElem? (i := 185) rfl) rfl
theorem wc_X12_dawn : Cond.code y_X12_dawn prog_14_method_52_code 2 (some .int) ∈ TB := it_6 (List.mem_of_getElem? (i := 188) rfl) rfl
theorem ws_X12_dawn : Cond.instanceMethod y_X12_dawn ∈ TB := it_6 (List.mem_of_getElem? (i := 186) rfl) rfl
theorem wl_X12_dawn : Cond.selects "SnowSentriesModel" y_X12_dawn y_X12_dawn ∈ TB := it_6 (List.mem_of_getElem? (i := 187) rfl) rfl
theorem hy_X12_dawn : (y_X12_dawn).cls ≠ "java/lang/invoke/MethodHandle" ∧ (y_X12_dawn).cls ≠ "java/lang/invoke/VarHandle" ∧ (parseMethodDescriptor (y_X12_dawn).desc).map (fun d => d.parameters.length) = some 0 := by decide +kernel
theorem wm_L_102 : Cond.methodLink "SnowSentriesLaw" 102 y_X11_all ∈ TB := it_4 (List.mem_of_getElem? (i := 91) rfl) rfl
theorem wc_X11_all : Cond.code y_X11_all prog_1_method_22_code 1 (some .int) ∈ TB := it_4 (List.mem_of_getElem? (i := 94) rfl) rfl
theorem ws_X11_all : Cond.instanceMethod y_X11_all ∈ TB := it_4 (List.mem_of_getElem? (i := 92) rfl) rfl
theorem wl_X11_all : Cond.selects "SnowSentries" y_X11_all y_X11_all ∈ TB := it_4 (List.mem_of_getElem? (i := 93) rfl) rfl
theorem hy_X11_all : (y_X11_all).cls ≠ "java/lang/invoke/MethodHandle" ∧ (y_X11_all).cls ≠ "java/lang/invoke/VarHandle" ∧ (parseMethodDescriptor (y_X11_all).desc).map (fun d => d.parameters.length) = some 0 := by decide +kernel
theorem wm_L_105 : Cond.methodLink "SnowSentriesLaw" 105 y_X12_all ∈ TB := it_6 (List.mem_of_getElem? (i := 189) rfl) rfl
theorem wc_X12_all : Cond.code y_X12_all prog_14_method_53_code 5 (some .int) ∈ TB := it_6 (List.mem_of_getElem? (i := 192) rfl) rfl
theorem ws_X12_all : Cond.instanceMethod y_X12_all ∈ TB := it_6 (List.mem_of_getElem? (i := 190) rfl) rfl
theorem wl_X12_all : Cond.selects "SnowSentriesModel" y_X12_all y_X12_all ∈ TB := it_6 (List.mem_of_getElem? (i := 191) rfl) rfl
theorem hy_X12_all : (y_X12_all).cls ≠ "java/lang/invoke/MethodHandle" ∧ (y_X12_all).cls ≠ "java/lang/invoke/VarHandle" ∧ (parseMethodDescriptor (y_X12_all).desc).map (fun d => d.parameters.length) = some 0 := by decide +kernel
theorem wm_L_106 : Cond.methodLink "SnowSentriesLaw" 106 y_X11_later ∈ TB := it_4 (List.mem_of_getElem? (i := 99) rfl) rfl
theorem wc_X11_later : Cond.code y_X11_later prog_1_method_23_code 5 (some .int) ∈ TB := it_4 (List.mem_of_getElem? (i := 102) rfl) rfl
theorem ws_X11_later : Cond.instanceMethod y_X11_later ∈ TB := it_4 (List.mem_of_getElem? (i := 100) rfl) rfl
theorem wl_X11_later : Cond.selects "SnowSentries" y_X11_later y_X11_later ∈ TB := it_4 (List.mem_of_getElem? (i := 101) rfl) rfl
theorem hy_X11_later : (y_X11_later).cls ≠ "java/lang/invoke/MethodHandle" ∧ (y_X11_later).cls ≠ "java/lang/invoke/VarHandle" ∧ (parseMethodDescriptor (y_X11_later).desc).map (fun d => d.parameters.length) = some 3 := by decide +kernel
theorem wm_L_109 : Cond.methodLink "SnowSentriesLaw" 109 y_X12_later ∈ TB := it_6 (List.mem_of_getElem? (i := 193) rfl) rfl
theorem wc_X12_later : Cond.code y_X12_later prog_14_method_57_code 4 (some .int) ∈ TB := it_6 (List.mem_of_getElem? (i := 196) rfl) rfl
theorem ws_X12_later : Cond.instanceMethod y_X12_later ∈ TB := it_6 (List.mem_of_getElem? (i := 194) rfl) rfl
theorem wl_X12_later : Cond.selects "SnowSentriesModel" y_X12_later y_X12_later ∈ TB := it_6 (List.mem_of_getElem? (i := 195) rfl) rfl
theorem hy_X12_later : (y_X12_later).cls ≠ "java/lang/invoke/MethodHandle" ∧ (y_X12_later).cls ≠ "java/lang/invoke/VarHandle" ∧ (parseMethodDescriptor (y_X12_later).desc).map (fun d => d.parameters.length) = some 3 := by decide +kernel
theorem wm_L_110 : Cond.methodLink "SnowSentriesLaw" 110 y_X11_line ∈ TB := it_4 (List.mem_of_getElem? (i := 127) rfl) rfl
theorem wc_X11_line : Cond.code y_X11_line prog_1_method_24_code 3 (some .int) ∈ TB := it_4 (List.mem_of_getElem? (i := 130) rfl) rfl
theorem ws_X11_line : Cond.instanceMethod y_X11_line ∈ TB := it_4 (List.mem_of_getElem? (i := 128) rfl) rfl
theorem wl_X11_line : Cond.selects "SnowSentries" y_X11_line y_X11_line ∈ TB := it_4 (List.mem_of_getElem? (i := 129) rfl) rfl
theorem hy_X11_line : (y_X11_line).cls ≠ "java/lang/invoke/MethodHandle" ∧ (y_X11_line).cls ≠ "java/lang/invoke/VarHandle" ∧ (parseMethodDescriptor (y_X11_line).desc).map (fun d => d.parameters.length) = some 2 := by decide +kernel
theorem wm_L_113 : Cond.methodLink "SnowSentriesLaw" 113 y_X12_line ∈ TB := it_6 (List.mem_of_getElem? (i := 209) rfl) rfl
theorem wc_X12_line : Cond.code y_X12_line prog_14_method_58_code 3 (some .int) ∈ TB := it_6 (List.mem_of_getElem? (i := 212) rfl) rfl
theorem ws_X12_line : Cond.instanceMethod y_X12_line ∈ TB := it_6 (List.mem_of_getElem? (i := 210) rfl) rfl
theorem wl_X12_line : Cond.selects "SnowSentriesModel" y_X12_line y_X12_line ∈ TB := it_6 (List.mem_of_getElem? (i := 211) rfl) rfl
theorem hy_X12_line : (y_X12_line).cls ≠ "java/lang/invoke/MethodHandle" ∧ (y_X12_line).cls ≠ "java/lang/invoke/VarHandle" ∧ (parseMethodDescriptor (y_X12_line).desc).map (fun d => d.parameters.length) = some 2 := by decide +kernel
theorem wm_L_114 : Cond.methodLink "SnowSentriesLaw" 114 y_X11_houses ∈ TB := it_4 (List.mem_of_getElem? (i := 131) rfl) rfl
theorem wc_X11_houses : Cond.code y_X11_houses prog_1_method_25_code 5 (some .int) ∈ TB := it_4 (List.mem_of_getElem? (i := 134) rfl) rfl
theorem ws_X11_houses : Cond.instanceMethod y_X11_houses ∈ TB := it_4 (List.mem_of_getElem? (i := 132) rfl) rfl
theorem wl_X11_houses : Cond.selects "SnowSentries" y_X11_houses y_X11_houses ∈ TB := it_4 (List.mem_of_getElem? (i := 133) rfl) rfl
theorem hy_X11_houses : (y_X11_houses).cls ≠ "java/lang/invoke/MethodHandle" ∧ (y_X11_houses).cls ≠ "java/lang/invoke/VarHandle" ∧ (parseMethodDescriptor (y_X11_houses).desc).map (fun d => d.parameters.length) = some 2 := by decide +kernel
theorem wm_L_117 : Cond.methodLink "SnowSentriesLaw" 117 y_X12_houses ∈ TB := it_6 (List.mem_of_getElem? (i := 213) rfl) rfl
theorem wc_X12_houses : Cond.code y_X12_houses prog_14_method_59_code 5 (some .int) ∈ TB := it_6 (List.mem_of_getElem? (i := 216) rfl) rfl
theorem ws_X12_houses : Cond.instanceMethod y_X12_houses ∈ TB := it_6 (List.mem_of_getElem? (i := 214) rfl) rfl
theorem wl_X12_houses : Cond.selects "SnowSentriesModel" y_X12_houses y_X12_houses ∈ TB := it_6 (List.mem_of_getElem? (i := 215) rfl) rfl
theorem hy_X12_houses : (y_X12_houses).cls ≠ "java/lang/invoke/MethodHandle" ∧ (y_X12_houses).cls ≠ "java/lang/invoke/VarHandle" ∧ (parseMethodDescriptor (y_X12_houses).desc).map (fun d => d.parameters.length) = some 2 := by decide +kernel
theorem wm_L_118 : Cond.methodLink "SnowSentriesLaw" 118 y_X11_holds ∈ TB := it_4 (List.mem_of_getElem? (i := 135) rfl) rfl
theorem wc_X11_holds : Cond.code y_X11_holds prog_1_method_26_code 3 (some .int) ∈ TB := it_4 (List.mem_of_getElem? (i := 138) rfl) rfl
theorem ws_X11_holds : Cond.instanceMethod y_X11_holds ∈ TB := it_4 (List.mem_of_getElem? (i := 136) rfl) rfl
theorem wl_X11_holds : Cond.selects "SnowSentries" y_X11_holds y_X11_holds ∈ TB := it_4 (List.mem_of_getElem? (i := 137) rfl) rfl
theorem hy_X11_holds : (y_X11_holds).cls ≠ "java/lang/invoke/MethodHandle" ∧ (y_X11_holds).cls ≠ "java/lang/invoke/VarHandle" ∧ (parseMethodDescriptor (y_X11_holds).desc).map (fun d => d.parameters.length) = some 2 := by decide +kernel
theorem wm_L_121 : Cond.methodLink "SnowSentriesLaw" 121 y_X12_holds ∈ TB := it_6 (List.mem_of_getElem? (i := 217) rfl) rfl
theorem wc_X12_holds : Cond.code y_X12_holds prog_14_method_61_code 5 (some .int) ∈ TB := it_6 (List.mem_of_getElem? (i := 220) rfl) rfl
theorem ws_X12_holds : Cond.instanceMethod y_X12_holds ∈ TB := it_6 (List.mem_of_getElem? (i := 218) rfl) rfl
theorem wl_X12_holds : Cond.selects "SnowSentriesModel" y_X12_holds y_X12_holds ∈ TB := it_6 (List.mem_of_getElem? (i := 219) rfl) rfl
theorem hy_X12_holds : (y_X12_holds).cls ≠ "java/lang/invoke/MethodHandle" ∧ (y_X12_holds).cls ≠ "java/lang/invoke/VarHandle" ∧ (parseMethodDescriptor (y_X12_holds).desc).map (fun d => d.parameters.length) = some 2 := by decide +kernel
theorem wm_L_122 : Cond.methodLink "SnowSentriesLaw" 122 y_X11_need ∈ TB := it_4 (List.mem_of_getElem? (i := 153) rfl) rfl
theorem wc_X11_need : Cond.code y_X11_need prog_1_method_27_code 4 (some .int) ∈ TB := it_4 (List.mem_of_getElem? (i := 156) rfl) rfl
theorem ws_X11_need : Cond.instanceMethod y_X11_need ∈ TB := it_4 (List.mem_of_getElem? (i := 154) rfl) rfl
theorem wl_X11_need : Cond.selects "SnowSentries" y_X11_need y_X11_need ∈ TB := it_4 (List.mem_of_getElem? (i := 155) rfl) rfl
theorem hy_X11_need : (y_X11_need).cls ≠ "java/lang/invoke/MethodHandle" ∧ (y_X11_need).cls ≠ "java/lang/invoke/VarHandle" ∧ (parseMethodDescriptor (y_X11_need).desc).map (fun d => d.parameters.length) = some 3 := by decide +kernel
theorem wm_L_125 : Cond.methodLink "SnowSentriesLaw" 125 y_X12_need ∈ TB := it_6 (List.mem_of_getElem? (i := 225) rfl) rfl
theorem wc_X12_need : Cond.code y_X12_need prog_14_method_63_code 4 (some .int) ∈ TB := it_6 (List.mem_of_getElem? (i := 228) rfl) rfl
theorem ws_X12_need : Cond.instanceMethod y_X12_need ∈ TB := it_6 (List.mem_of_getElem? (i := 226) rfl) rfl
theorem wl_X12_need : Cond.selects "SnowSentriesModel" y_X12_need y_X12_need ∈ TB := it_6 (List.mem_of_getElem? (i := 227) rfl) rfl
theorem hy_X12_need : (y_X12_need).cls ≠ "java/lang/invoke/MethodHandle" ∧ (y_X12_need).cls ≠ "java/lang/invoke/VarHandle" ∧ (parseMethodDescriptor (y_X12_need).desc).map (fun d => d.parameters.length) = some 3 := by decide +kernel
theorem wm_L_126 : Cond.methodLink "SnowSentriesLaw" 126 y_X11_crews ∈ TB := it_4 (List.mem_of_getElem? (i := 158) rfl) rfl
theorem wc_X11_crews : Cond.code y_X11_crews prog_1_method_28_code 5 (some .int) ∈ TB := it_4 (List.mem_of_getElem? (i := 161) rfl) rfl
theorem ws_X11_crews : Cond.instanceMethod y_X11_crews ∈ TB := it_4 (List.mem_of_getElem? (i := 159) rfl) rfl
theorem wl_X11_crews : Cond.selects "SnowSentries" y_X11_crews y_X11_crews ∈ TB := it_4 (List.mem_of_getElem? (i := 160) rfl) rfl
theorem hy_X11_crews : (y_X11_crews).cls ≠ "java/lang/invoke/MethodHandle" ∧ (y_X11_crews).cls ≠ "java/lang/invoke/VarHandle" ∧ (parseMethodDescriptor (y_X11_crews).desc).map (fun d => d.parameters.length) = some 4 := by decide +kernel
theorem wm_L_129 : Cond.methodLink "SnowSentriesLaw" 129 y_X12_crews ∈ TB := it_6 (List.mem_of_getElem? (i := 233) rfl) rfl
theorem wc_X12_crews : Cond.code y_X12_crews prog_14_method_65_code 13 (some .int) ∈ TB := it_6 (List.mem_of_getElem? (i := 236) rfl) rfl
theorem ws_X12_crews : Cond.instanceMethod y_X12_crews ∈ TB := it_6 (List.mem_of_getElem? (i := 234) rfl) rfl
theorem wl_X12_crews : Cond.selects "SnowSentriesModel" y_X12_crews y_X12_crews ∈ TB := it_6 (List.mem_of_getElem? (i := 235) rfl) rfl
theorem hy_X12_crews : (y_X12_crews).cls ≠ "java/lang/invoke/MethodHandle" ∧ (y_X12_crews).cls ≠ "java/lang/invoke/VarHandle" ∧ (parseMethodDescriptor (y_X12_crews).desc).map (fun d => d.parameters.length) = some 4 := by decide +kernel
theorem wm_L_130 : Cond.methodLink "SnowSentriesLaw" 130 y_X11_gap ∈ TB := it_4 (List.mem_of_getElem? (i := 171) rfl) rfl
theorem wc_X11_gap : Cond.code y_X11_gap prog_1_method_29_code 7 (some .int) ∈ TB := it_4 (List.mem_of_getElem? (i := 174) rfl) rfl
theorem ws_X11_gap : Cond.instanceMethod y_X11_gap ∈ TB := it_4 (List.mem_of_getElem? (i := 172) rfl) rfl
theorem wl_X11_gap : Cond.selects "SnowSentries" y_X11_gap y_X11_gap ∈ TB := it_4 (List.mem_of_getElem? (i := 173) rfl) rfl
theorem hy_X11_gap : (y_X11_gap).cls ≠ "java/lang/invoke/MethodHandle" ∧ (y_X11_gap).cls ≠ "java/lang/invoke/VarHandle" ∧ (parseMethodDescriptor (y_X11_gap).desc).map (fun d => d.parameters.length) = some 2 := by decide +kernel
theorem wm_L_133 : Cond.methodLink "SnowSentriesLaw" 133 y_X12_gap ∈ TB := it_7 (List.mem_of_getElem? (i := 0) rfl) rfl
theorem wc_X12_gap : Cond.code y_X12_gap prog_14_method_66_code 7 (some .int) ∈ TB := it_7 (List.mem_of_getElem? (i := 3) rfl) rfl
theorem ws_X12_gap : Cond.instanceMethod y_X12_gap ∈ TB := it_7 (List.mem_of_getElem? (i := 1) rfl) rfl
theorem wl_X12_gap : Cond.selects "SnowSentriesModel" y_X12_gap y_X12_gap ∈ TB := it_7 (List.mem_of_getElem? (i := 2) rfl) rfl
theorem hy_X12_gap : (y_X12_gap).cls ≠ "java/lang/invoke/MethodHandle" ∧ (y_X12_gap).cls ≠ "java/lang/invoke/VarHandle" ∧ (parseMethodDescriptor (y_X12_gap).desc).map (fun d => d.parameters.length) = some 2 := by decide +kernel
theorem wm_L_134 : Cond.methodLink "SnowSentriesLaw" 134 y_X11_lead ∈ TB := it_4 (List.mem_of_getElem? (i := 178) rfl) rfl
theorem wc_X11_lead : Cond.code y_X11_lead prog_1_method_30_code 5 (some .int) ∈ TB := it_4 (List.mem_of_getElem? (i := 181) rfl) rfl
theorem ws_X11_lead : Cond.instanceMethod y_X11_lead ∈ TB := it_4 (List.mem_of_getElem? (i := 179) rfl) rfl
theorem wl_X11_lead : Cond.selects "SnowSentries" y_X11_lead y_X11_lead ∈ TB := it_4 (List.mem_of_getElem? (i := 180) rfl) rfl
theorem hy_X11_lead : (y_X11_lead).cls ≠ "java/lang/invoke/MethodHandle" ∧ (y_X11_lead).cls ≠ "java/lang/invoke/VarHandle" ∧ (parseMethodDescriptor (y_X11_lead).desc).map (fun d => d.parameters.length) = some 3 := by decide +kernel
theorem wm_L_137 : Cond.methodLink "SnowSentriesLaw" 137 y_X12_lead ∈ TB := it_7 (List.mem_of_getElem? (i := 4) rfl) rfl
theorem wc_X12_lead : Cond.code y_X12_lead prog_14_method_68_code 9 (some .int) ∈ TB := it_7 (List.mem_of_getElem? (i := 7) rfl) rfl
theorem ws_X12_lead : Cond.instanceMethod y_X12_lead ∈ TB := it_7 (List.mem_of_getElem? (i := 5) rfl) rfl
theorem wl_X12_lead : Cond.selects "SnowSentriesModel" y_X12_lead y_X12_lead ∈ TB := it_7 (List.mem_of_getElem? (i := 6) rfl) rfl
theorem hy_X12_lead : (y_X12_lead).cls ≠ "java/lang/invoke/MethodHandle" ∧ (y_X12_lead).cls ≠ "java/lang/invoke/VarHandle" ∧ (parseMethodDescriptor (y_X12_lead).desc).map (fun d => d.parameters.length) = some 3 := by decide +kernel
theorem wm_L_138 : Cond.methodLink "SnowSentriesLaw" 138 y_X11_felt ∈ TB := it_4 (List.mem_of_getElem? (i := 206) rfl) rfl
theorem wc_X11_felt : Cond.code y_X11_felt prog_1_method_31_code 2 (some .int) ∈ TB := it_4 (List.mem_of_getElem? (i := 209) rfl) rfl
theorem ws_X11_felt : Cond.instanceMethod y_X11_felt ∈ TB := it_4 (List.mem_of_getElem? (i := 207) rfl) rfl
theorem wl_X11_felt : Cond.selects "SnowSentries" y_X11_felt y_X11_felt ∈ TB := it_4 (List.mem_of_getElem? (i := 208) rfl) rfl
theorem hy_X11_felt : (y_X11_felt).cls ≠ "java/lang/invoke/MethodHandle" ∧ (y_X11_felt).cls ≠ "java/lang/invoke/VarHandle" ∧ (parseMethodDescriptor (y_X11_felt).desc).map (fun d => d.parameters.length) = some 1 := by decide +kernel
theorem wm_L_141 : Cond.methodLink "SnowSentriesLaw" 141 y_X12_felt ∈ TB := it_7 (List.mem_of_getElem? (i := 13) rfl) rfl
theorem wc_X12_felt : Cond.code y_X12_felt prog_14_method_69_code 2 (some .int) ∈ TB := it_7 (List.mem_of_getElem? (i := 16) rfl) rfl
theorem ws_X12_felt : Cond.instanceMethod y_X12_felt ∈ TB := it_7 (List.mem_of_getElem? (i := 14) rfl) rfl
theorem wl_X12_felt : Cond.selects "SnowSentriesModel" y_X12_felt y_X12_felt ∈ TB := it_7 (List.mem_of_getElem? (i := 15) rfl) rfl
theorem hy_X12_felt : (y_X12_felt).cls ≠ "java/lang/invoke/MethodHandle" ∧ (y_X12_felt).cls ≠ "java/lang/invoke/VarHandle" ∧ (parseMethodDescriptor (y_X12_felt).desc).map (fun d => d.parameters.length) = some 1 := by decide +kernel
theorem wm_L_142 : Cond.methodLink "SnowSentriesLaw" 142 y_X11_forget ∈ TB := it_4 (List.mem_of_getElem? (i := 214) rfl) rfl
theorem wc_X11_forget : Cond.code y_X11_forget prog_1_method_32_code 2 (some .int) ∈ TB := it_4 (List.mem_of_getElem? (i := 217) rfl) rfl
theorem ws_X11_forget : Cond.instanceMethod y_X11_forget ∈ TB := it_4 (List.mem_of_getElem? (i := 215) rfl) rfl
theorem wl_X11_forget : Cond.selects "SnowSentries" y_X11_forget y_X11_forget ∈ TB := it_4 (List.mem_of_getElem? (i := 216) rfl) rfl
theorem hy_X11_forget : (y_X11_forget).cls ≠ "java/lang/invoke/MethodHandle" ∧ (y_X11_forget).cls ≠ "java/lang/invoke/VarHandle" ∧ (parseMethodDescriptor (y_X11_forget).desc).map (fun d => d.parameters.length) = some 0 := by decide +kernel
theorem wm_L_145 : Cond.methodLink "SnowSentriesLaw" 145 y_X12_forget ∈ TB := it_7 (List.mem_of_getElem? (i := 17) rfl) rfl
theorem wc_X12_forget : Cond.code y_X12_forget prog_14_method_70_code 2 (some .int) ∈ TB := it_7 (List.mem_of_getElem? (i := 20) rfl) rfl
theorem ws_X12_forget : Cond.instanceMethod y_X12_forget ∈ TB := it_7 (List.mem_of_getElem? (i := 18) rfl) rfl
theorem wl_X12_forget : Cond.selects "SnowSentriesModel" y_X12_forget y_X12_forget ∈ TB := it_7 (List.mem_of_getElem? (i := 19) rfl) rfl
theorem hy_X12_forget : (y_X12_forget).cls ≠ "java/lang/invoke/MethodHandle" ∧ (y_X12_forget).cls ≠ "java/lang/invoke/VarHandle" ∧ (parseMethodDescriptor (y_X12_forget).desc).map (fun d => d.parameters.length) = some 0 := by decide +kernel
theorem wm_L_146 : Cond.methodLink "SnowSentriesLaw" 146 y_X11_spy ∈ TB := it_4 (List.mem_of_getElem? (i := 218) rfl) rfl
theorem wc_X11_spy : Cond.code y_X11_spy prog_1_method_33_code 2 (some .int) ∈ TB := it_4 (List.mem_of_getElem? (i := 221) rfl) rfl
theorem ws_X11_spy : Cond.instanceMethod y_X11_spy ∈ TB := it_4 (List.mem_of_getElem? (i := 219) rfl) rfl
theorem wl_X11_spy : Cond.selects "SnowSentries" y_X11_spy y_X11_spy ∈ TB := it_4 (List.mem_of_getElem? (i := 220) rfl) rfl
theorem hy_X11_spy : (y_X11_spy).cls ≠ "java/lang/invoke/MethodHandle" ∧ (y_X11_spy).cls ≠ "java/lang/invoke/VarHandle" ∧ (parseMethodDescriptor (y_X11_spy).desc).map (fun d => d.parameters.length) = some 1 := by decide +kernel
theorem wm_L_149 : Cond.methodLink "SnowSentriesLaw" 149 y_X12_spy ∈ TB := it_7 (List.mem_of_getElem? (i := 21) rfl) rfl
theorem wc_X12_spy : Cond.code y_X12_spy prog_14_method_72_code 7 (some .int) ∈ TB := it_7 (List.mem_of_getElem? (i := 24) rfl) rfl
theorem ws_X12_spy : Cond.instanceMethod y_X12_spy ∈ TB := it_7 (List.mem_of_getElem? (i := 22) rfl) rfl
theorem wl_X12_spy : Cond.selects "SnowSentriesModel" y_X12_spy y_X12_spy ∈ TB := it_7 (List.mem_of_getElem? (i := 23) rfl) rfl
theorem hy_X12_spy : (y_X12_spy).cls ≠ "java/lang/invoke/MethodHandle" ∧ (y_X12_spy).cls ≠ "java/lang/invoke/VarHandle" ∧ (parseMethodDescriptor (y_X12_spy).desc).map (fun d => d.parameters.length) = some 1 := by decide +kernel
theorem wm_L_150 : Cond.methodLink "SnowSentriesLaw" 150 y_X11_spies ∈ TB := it_4 (List.mem_of_getElem? (i := 235) rfl) rfl
theorem wc_X11_spies : Cond.code y_X11_spies prog_1_method_34_code 2 (some .int) ∈ TB := it_4 (List.mem_of_getElem? (i := 238) rfl) rfl
theorem ws_X11_spies : Cond.instanceMethod y_X11_spies ∈ TB := it_4 (List.mem_of_getElem? (i := 236) rfl) rfl
theorem wl_X11_spies : Cond.selects "SnowSentries" y_X11_spies y_X11_spies ∈ TB := it_4 (List.mem_of_getElem? (i := 237) rfl) rfl
theorem hy_X11_spies : (y_X11_spies).cls ≠ "java/lang/invoke/MethodHandle" ∧ (y_X11_spies).cls ≠ "java/lang/invoke/VarHandle" ∧ (parseMethodDescriptor (y_X11_spies).desc).map (fun d => d.parameters.length) = some 1 := by decide +kernel
theorem wm_L_153 : Cond.methodLink "SnowSentriesLaw" 153 y_X12_spies ∈ TB := it_7 (List.mem_of_getElem? (i := 29) rfl) rfl
theorem wc_X12_spies : Cond.code y_X12_spies prog_14_method_73_code 8 (some .int) ∈ TB := it_7 (List.mem_of_getElem? (i := 32) rfl) rfl
theorem ws_X12_spies : Cond.instanceMethod y_X12_spies ∈ TB := it_7 (List.mem_of_getElem? (i := 30) rfl) rfl
theorem wl_X12_spies : Cond.selects "SnowSentriesModel" y_X12_spies y_X12_spies ∈ TB := it_7 (List.mem_of_getElem? (i := 31) rfl) rfl
theorem hy_X12_spies : (y_X12_spies).cls ≠ "java/lang/invoke/MethodHandle" ∧ (y_X12_spies).cls ≠ "java/lang/invoke/VarHandle" ∧ (parseMethodDescriptor (y_X12_spies).desc).map (fun d => d.parameters.length) = some 1 := by decide +kernel
theorem wm_L_154 : Cond.methodLink "SnowSentriesLaw" 154 y_X11_odds ∈ TB := it_5 (List.mem_of_getElem? (i := 7) rfl) rfl
theorem wc_X11_odds : Cond.code y_X11_odds prog_1_method_35_code 5 (some .long) ∈ TB := it_5 (List.mem_of_getElem? (i := 10) rfl) rfl
theorem ws_X11_odds : Cond.instanceMethod y_X11_odds ∈ TB := it_5 (List.mem_of_getElem? (i := 8) rfl) rfl
theorem wl_X11_odds : Cond.selects "SnowSentries" y_X11_odds y_X11_odds ∈ TB := it_5 (List.mem_of_getElem? (i := 9) rfl) rfl
theorem hy_X11_odds : (y_X11_odds).cls ≠ "java/lang/invoke/MethodHandle" ∧ (y_X11_odds).cls ≠ "java/lang/invoke/VarHandle" ∧ (parseMethodDescriptor (y_X11_odds).desc).map (fun d => d.parameters.length) = some 4 := by decide +kernel
theorem wm_L_158 : Cond.methodLink "SnowSentriesLaw" 158 y_X12_odds ∈ TB := it_7 (List.mem_of_getElem? (i := 33) rfl) rfl
theorem wc_X12_odds : Cond.code y_X12_odds prog_14_method_75_code 14 (some .long) ∈ TB := it_7 (List.mem_of_getElem? (i := 36) rfl) rfl
theorem ws_X12_odds : Cond.instanceMethod y_X12_odds ∈ TB := it_7 (List.mem_of_getElem? (i := 34) rfl) rfl
theorem wl_X12_odds : Cond.selects "SnowSentriesModel" y_X12_odds y_X12_odds ∈ TB := it_7 (List.mem_of_getElem? (i := 35) rfl) rfl
theorem hy_X12_odds : (y_X12_odds).cls ≠ "java/lang/invoke/MethodHandle" ∧ (y_X12_odds).cls ≠ "java/lang/invoke/VarHandle" ∧ (parseMethodDescriptor (y_X12_odds).desc).map (fun d => d.parameters.length) = some 4 := by decide +kernel
theorem wm_L_159 : Cond.methodLink "SnowSentriesLaw" 159 y_X11_talks ∈ TB := it_5 (List.mem_of_getElem? (i := 38) rfl) rfl
theorem wc_X11_talks : Cond.code y_X11_talks prog_1_method_36_code 4 (some .int) ∈ TB := it_5 (List.mem_of_getElem? (i := 41) rfl) rfl
theorem ws_X11_talks : Cond.instanceMethod y_X11_talks ∈ TB := it_5 (List.mem_of_getElem? (i := 39) rfl) rfl
theorem wl_X11_talks : Cond.selects "SnowSentries" y_X11_talks y_X11_talks ∈ TB := it_5 (List.mem_of_getElem? (i := 40) rfl) rfl
theorem hy_X11_talks : (y_X11_talks).cls ≠ "java/lang/invoke/MethodHandle" ∧ (y_X11_talks).cls ≠ "java/lang/invoke/VarHandle" ∧ (parseMethodDescriptor (y_X11_talks).desc).map (fun d => d.parameters.length) = some 1 := by decide +kernel
theorem wm_L_162 : Cond.methodLink "SnowSentriesLaw" 162 y_X12_talks ∈ TB := it_7 (List.mem_of_getElem? (i := 42) rfl) rfl
theorem wc_X12_talks : Cond.code y_X12_talks prog_14_method_77_code 6 (some .int) ∈ TB := it_7 (List.mem_of_getElem? (i := 45) rfl) rfl
theorem ws_X12_talks : Cond.instanceMethod y_X12_talks ∈ TB := it_7 (List.mem_of_getElem? (i := 43) rfl) rfl
theorem wl_X12_talks : Cond.selects "SnowSentriesModel" y_X12_talks y_X12_talks ∈ TB := it_7 (List.mem_of_getElem? (i := 44) rfl) rfl
theorem hy_X12_talks : (y_X12_talks).cls ≠ "java/lang/invoke/MethodHandle" ∧ (y_X12_talks).cls ≠ "java/lang/invoke/VarHandle" ∧ (parseMethodDescriptor (y_X12_talks).desc).map (fun d => d.parameters.length) = some 1 := by decide +kernel
theorem wm_L_163 : Cond.methodLink "SnowSentriesLaw" 163 y_X11_strength ∈ TB := it_5 (List.mem_of_getElem? (i := 46) rfl) rfl
theorem wc_X11_strength : Cond.code y_X11_strength prog_1_method_37_code 2 (some .int) ∈ TB := it_5 (List.mem_of_getElem? (i := 49) rfl) rfl
theorem ws_X11_strength : Cond.instanceMethod y_X11_strength ∈ TB := it_5 (List.mem_of_getElem? (i := 47) rfl) rfl
theorem wl_X11_strength : Cond.selects "SnowSentries" y_X11_strength y_X11_strength ∈ TB := it_5 (List.mem_of_getElem? (i := 48) rfl) rfl
theorem hy_X11_strength : (y_X11_strength).cls ≠ "java/lang/invoke/MethodHandle" ∧ (y_X11_strength).cls ≠ "java/lang/invoke/VarHandle" ∧ (parseMethodDescriptor (y_X11_strength).desc).map (fun d => d.parameters.length) = some 1 := by decide +kernel
theorem wm_L_166 : Cond.methodLink "SnowSentriesLaw" 166 y_X12_strength ∈ TB := it_7 (List.mem_of_getElem? (i := 50) rfl) rfl
theorem wc_X12_strength : Cond.code y_X12_strength prog_14_method_78_code 2 (some .int) ∈ TB := it_7 (List.mem_of_getElem? (i := 53) rfl) rfl
theorem ws_X12_strength : Cond.instanceMethod y_X12_strength ∈ TB := it_7 (List.mem_of_getElem? (i := 51) rfl) rfl
theorem wl_X12_strength : Cond.selects "SnowSentriesModel" y_X12_strength y_X12_strength ∈ TB := it_7 (List.mem_of_getElem? (i := 52) rfl) rfl
theorem hy_X12_strength : (y_X12_strength).cls ≠ "java/lang/invoke/MethodHandle" ∧ (y_X12_strength).cls ≠ "java/lang/invoke/VarHandle" ∧ (parseMethodDescriptor (y_X12_strength).desc).map (fun d => d.parameters.length) = some 1 := by decide +kernel
theorem wm_L_167 : Cond.methodLink "SnowSentriesLaw" 167 y_X11_keep ∈ TB := it_5 (List.mem_of_getElem? (i := 50) rfl) rfl
theorem wc_X11_keep : Cond.code y_X11_keep prog_1_method_38_code 3 (some .int) ∈ TB := it_5 (List.mem_of_getElem? (i := 53) rfl) rfl
theorem ws_X11_keep : Cond.instanceMethod y_X11_keep ∈ TB := it_5 (List.mem_of_getElem? (i := 51) rfl) rfl
theorem wl_X11_keep : Cond.selects "SnowSentries" y_X11_keep y_X11_keep ∈ TB := it_5 (List.mem_of_getElem? (i := 52) rfl) rfl
theorem hy_X11_keep : (y_X11_keep).cls ≠ "java/lang/invoke/MethodHandle" ∧ (y_X11_keep).cls ≠ "java/lang/invoke/VarHandle" ∧ (parseMethodDescriptor (y_X11_keep).desc).map (fun d => d.parameters.length) = some 1 := by decide +kernel
theorem wm_L_170 : Cond.methodLink "SnowSentriesLaw" 170 y_X12_keep ∈ TB := it_7 (List.mem_of_getElem? (i := 54) rfl) rfl
theorem wc_X12_keep : Cond.code y_X12_keep prog_14_method_79_code 3 (some .int) ∈ TB := it_7 (List.mem_of_getElem? (i := 57) rfl) rfl
theorem ws_X12_keep : Cond.instanceMethod y_X12_keep ∈ TB := it_7 (List.mem_of_getElem? (i := 55) rfl) rfl
theorem wl_X12_keep : Cond.selects "SnowSentriesModel" y_X12_keep y_X12_keep ∈ TB := it_7 (List.mem_of_getElem? (i := 56) rfl) rfl
theorem hy_X12_keep : (y_X12_keep).cls ≠ "java/lang/invoke/MethodHandle" ∧ (y_X12_keep).cls ≠ "java/lang/invoke/VarHandle" ∧ (parseMethodDescriptor (y_X12_keep).desc).map (fun d => d.parameters.length) = some 1 := by decide +kernel
theorem wm_L_171 : Cond.methodLink "SnowSentriesLaw" 171 y_X11_back ∈ TB := it_5 (List.mem_of_getElem? (i := 54) rfl) rfl
theorem wc_X11_back : Cond.code y_X11_back prog_1_method_39_code 2 (some .int) ∈ TB := it_5 (List.mem_of_getElem? (i := 57) rfl) rfl
theorem ws_X11_back : Cond.instanceMethod y_X11_back ∈ TB := it_5 (List.mem_of_getElem? (i := 55) rfl) rfl
theorem wl_X11_back : Cond.selects "SnowSentries" y_X11_back y_X11_back ∈ TB := it_5 (List.mem_of_getElem? (i := 56) rfl) rfl
theorem hy_X11_back : (y_X11_back).cls ≠ "java/lang/invoke/MethodHandle" ∧ (y_X11_back).cls ≠ "java/lang/invoke/VarHandle" ∧ (parseMethodDescriptor (y_X11_back).desc).map (fun d => d.parameters.length) = some 1 := by decide +kernel
theorem wm_L_174 : Cond.methodLink "SnowSentriesLaw" 174 y_X12_back ∈ TB := it_7 (List.mem_of_getElem? (i := 58) rfl) rfl
theorem wc_X12_back : Cond.code y_X12_back prog_14_method_80_code 2 (some .int) ∈ TB := it_7 (List.mem_of_getElem? (i := 61) rfl) rfl
theorem ws_X12_back : Cond.instanceMethod y_X12_back ∈ TB := it_7 (List.mem_of_getElem? (i := 59) rfl) rfl
theorem wl_X12_back : Cond.selects "SnowSentriesModel" y_X12_back y_X12_back ∈ TB := it_7 (List.mem_of_getElem? (i := 60) rfl) rfl
theorem hy_X12_back : (y_X12_back).cls ≠ "java/lang/invoke/MethodHandle" ∧ (y_X12_back).cls ≠ "java/lang/invoke/VarHandle" ∧ (parseMethodDescriptor (y_X12_back).desc).map (fun d => d.parameters.length) = some 1 := by decide +kernel
theorem wm_L_175 : Cond.methodLink "SnowSentriesLaw" 175 y_X11_sheet ∈ TB := it_5 (List.mem_of_getElem? (i := 58) rfl) rfl
theorem wc_X11_sheet : Cond.code y_X11_sheet prog_1_method_40_code 4 (some .int) ∈ TB := it_5 (List.mem_of_getElem? (i := 61) rfl) rfl
theorem ws_X11_sheet : Cond.instanceMethod y_X11_sheet ∈ TB := it_5 (List.mem_of_getElem? (i := 59) rfl) rfl
theorem wl_X11_sheet : Cond.selects "SnowSentries" y_X11_sheet y_X11_sheet ∈ TB := it_5 (List.mem_of_getElem? (i := 60) rfl) rfl
theorem hy_X11_sheet : (y_X11_sheet).cls ≠ "java/lang/invoke/MethodHandle" ∧ (y_X11_sheet).cls ≠ "java/lang/invoke/VarHandle" ∧ (parseMethodDescriptor (y_X11_sheet).desc).map (fun d => d.parameters.length) = some 3 := by decide +kernel
theorem wm_L_178 : Cond.methodLink "SnowSentriesLaw" 178 y_X12_sheet ∈ TB := it_7 (List.mem_of_getElem? (i := 62) rfl) rfl
theorem wc_X12_sheet : Cond.code y_X12_sheet prog_14_method_81_code 5 (some .int) ∈ TB := it_7 (List.mem_of_getElem? (i := 65) rfl) rfl
theorem ws_X12_sheet : Cond.instanceMethod y_X12_sheet ∈ TB := it_7 (List.mem_of_getElem? (i := 63) rfl) rfl
theorem wl_X12_sheet : Cond.selects "SnowSentriesModel" y_X12_sheet y_X12_sheet ∈ TB := it_7 (List.mem_of_getElem? (i := 64) rfl) rfl
theorem hy_X12_sheet : (y_X12_sheet).cls ≠ "java/lang/invoke/MethodHandle" ∧ (y_X12_sheet).cls ≠ "java/lang/invoke/VarHandle" ∧ (parseMethodDescriptor (y_X12_sheet).desc).map (fun d => d.parameters.length) = some 3 := by decide +kernel
theorem wm_L_179 : Cond.methodLink "SnowSentriesLaw" 179 y_X11_lay ∈ TB := it_5 (List.mem_of_getElem? (i := 70) rfl) rfl
theorem wc_X11_lay : Cond.code y_X11_lay prog_1_method_41_code 5 (some .int) ∈ TB := it_5 (List.mem_of_getElem? (i := 73) rfl) rfl
theorem ws_X11_lay : Cond.instanceMethod y_X11_lay ∈ TB := it_5 (List.mem_of_getElem? (i := 71) rfl) rfl
theorem wl_X11_lay : Cond.selects "SnowSentries" y_X11_lay y_X11_lay ∈ TB := it_5 (List.mem_of_getElem? (i := 72) rfl) rfl
theorem hy_X11_lay : (y_X11_lay).cls ≠ "java/lang/invoke/MethodHandle" ∧ (y_X11_lay).cls ≠ "java/lang/invoke/VarHandle" ∧ (parseMethodDescriptor (y_X11_lay).desc).map (fun d => d.parameters.length) = some 3 := by decide +kernel
theorem wm_L_182 : Cond.methodLink "SnowSentriesLaw" 182 y_X12_lay ∈ TB := it_7 (List.mem_of_getElem? (i := 66) rfl) rfl
theorem wc_X12_lay : Cond.code y_X12_lay prog_14_method_82_code 4 (some .int) ∈ TB := it_7 (List.mem_of_getElem? (i := 69) rfl) rfl
theorem ws_X12_lay : Cond.instanceMethod y_X12_lay ∈ TB := it_7 (List.mem_of_getElem? (i := 67) rfl) rfl
theorem wl_X12_lay : Cond.selects "SnowSentriesModel" y_X12_lay y_X12_lay ∈ TB := it_7 (List.mem_of_getElem? (i := 68) rfl) rfl
theorem hy_X12_lay : (y_X12_lay).cls ≠ "java/lang/invoke/MethodHandle" ∧ (y_X12_lay).cls ≠ "java/lang/invoke/VarHandle" ∧ (parseMethodDescriptor (y_X12_lay).desc).map (fun d => d.parameters.length) = some 3 := by decide +kernel
theorem wm_L_183 : Cond.methodLink "SnowSentriesLaw" 183 y_X11_read ∈ TB := it_5 (List.mem_of_getElem? (i := 78) rfl) rfl
theorem wc_X11_read : Cond.code y_X11_read prog_1_method_42_code 8 (some .int) ∈ TB := it_5 (List.mem_of_getElem? (i := 81) rfl) rfl
theorem ws_X11_read : Cond.instanceMethod y_X11_read ∈ TB := it_5 (List.mem_of_getElem? (i := 79) rfl) rfl
theorem wl_X11_read : Cond.selects "SnowSentries" y_X11_read y_X11_read ∈ TB := it_5 (List.mem_of_getElem? (i := 80) rfl) rfl
theorem hy_X11_read : (y_X11_read).cls ≠ "java/lang/invoke/MethodHandle" ∧ (y_X11_read).cls ≠ "java/lang/invoke/VarHandle" ∧ (parseMethodDescriptor (y_X11_read).desc).map (fun d => d.parameters.length) = some 4 := by decide +kernel
theorem wm_L_186 : Cond.methodLink "SnowSentriesLaw" 186 y_X12_read ∈ TB := it_7 (List.mem_of_getElem? (i := 70) rfl) rfl
theorem wc_X12_read : Cond.code y_X12_read prog_14_method_83_code 8 (some .int) ∈ TB := it_7 (List.mem_of_getElem? (i := 73) rfl) rfl
theorem ws_X12_read : Cond.instanceMethod y_X12_read ∈ TB := it_7 (List.mem_of_getElem? (i := 71) rfl) rfl
theorem wl_X12_read : Cond.selects "SnowSentriesModel" y_X12_read y_X12_read ∈ TB := it_7 (List.mem_of_getElem? (i := 72) rfl) rfl
theorem hy_X12_read : (y_X12_read).cls ≠ "java/lang/invoke/MethodHandle" ∧ (y_X12_read).cls ≠ "java/lang/invoke/VarHandle" ∧ (parseMethodDescriptor (y_X12_read).desc).map (fun d => d.parameters.length) = some 4 := by decide +kernel
theorem wm_L_187 : Cond.methodLink "SnowSentriesLaw" 187 y_X11_torn ∈ TB := it_5 (List.mem_of_getElem? (i := 92) rfl) rfl
theorem wc_X11_torn : Cond.code y_X11_torn prog_1_method_43_code 1 (some .int) ∈ TB := it_5 (List.mem_of_getElem? (i := 95) rfl) rfl
theorem ws_X11_torn : Cond.instanceMethod y_X11_torn ∈ TB := it_5 (List.mem_of_getElem? (i := 93) rfl) rfl
theorem wl_X11_torn : Cond.selects "SnowSentries" y_X11_torn y_X11_torn ∈ TB := it_5 (List.mem_of_getElem? (i := 94) rfl) rfl
theorem hy_X11_torn : (y_X11_torn).cls ≠ "java/lang/invoke/MethodHandle" ∧ (y_X11_torn).cls ≠ "java/lang/invoke/VarHandle" ∧ (parseMethodDescriptor (y_X11_torn).desc).map (fun d => d.parameters.length) = some 0 := by decide +kernel
theorem wm_L_190 : Cond.methodLink "SnowSentriesLaw" 190 y_X12_torn ∈ TB := it_7 (List.mem_of_getElem? (i := 74) rfl) rfl
theorem wc_X12_torn : Cond.code y_X12_torn prog_14_method_84_code 1 (some .int) ∈ TB := it_7 (List.mem_of_getElem? (i := 77) rfl) rfl
theorem ws_X12_torn : Cond.instanceMethod y_X12_torn ∈ TB := it_7 (List.mem_of_getElem? (i := 75) rfl) rfl
theorem wl_X12_torn : Cond.selects "SnowSentriesModel" y_X12_torn y_X12_torn ∈ TB := it_7 (List.mem_of_getElem? (i := 76) rfl) rfl
theorem hy_X12_torn : (y_X12_torn).cls ≠ "java/lang/invoke/MethodHandle" ∧ (y_X12_torn).cls ≠ "java/lang/invoke/VarHandle" ∧ (parseMethodDescriptor (y_X12_torn).desc).map (fun d => d.parameters.length) = some 0 := by decide +kernel
theorem wm_L_191 : Cond.methodLink "SnowSentriesLaw" 191 y_X11_count ∈ TB := it_5 (List.mem_of_getElem? (i := 96) rfl) rfl
theorem wc_X11_count : Cond.code y_X11_count prog_1_method_44_code 2 (some .int) ∈ TB := it_5 (List.mem_of_getElem? (i := 99) rfl) rfl
theorem ws_X11_count : Cond.instanceMethod y_X11_count ∈ TB := it_5 (List.mem_of_getElem? (i := 97) rfl) rfl
theorem wl_X11_count : Cond.selects "SnowSentries" y_X11_count y_X11_count ∈ TB := it_5 (List.mem_of_getElem? (i := 98) rfl) rfl
theorem hy_X11_count : (y_X11_count).cls ≠ "java/lang/invoke/MethodHandle" ∧ (y_X11_count).cls ≠ "java/lang/invoke/VarHandle" ∧ (parseMethodDescriptor (y_X11_count).desc).map (fun d => d.parameters.length) = some 1 := by decide +kernel
theorem wm_L_194 : Cond.methodLink "SnowSentriesLaw" 194 y_X12_count ∈ TB := it_7 (List.mem_of_getElem? (i := 78) rfl) rfl
theorem wc_X12_count : Cond.code y_X12_count prog_14_method_85_code 4 (some .int) ∈ TB := it_7 (List.mem_of_getElem? (i := 81) rfl) rfl
theorem ws_X12_count : Cond.instanceMethod y_X12_count ∈ TB := it_7 (List.mem_of_getElem? (i := 79) rfl) rfl
theorem wl_X12_count : Cond.selects "SnowSentriesModel" y_X12_count y_X12_count ∈ TB := it_7 (List.mem_of_getElem? (i := 80) rfl) rfl
theorem hy_X12_count : (y_X12_count).cls ≠ "java/lang/invoke/MethodHandle" ∧ (y_X12_count).cls ≠ "java/lang/invoke/VarHandle" ∧ (parseMethodDescriptor (y_X12_count).desc).map (fun d => d.parameters.length) = some 1 := by decide +kernel
theorem lg_self (r : Int64) : lg_cmp r r = 0 := by
  unfold lg_cmp
  rw [if_neg (Int64.lt_irrefl), if_pos rfl]
theorem g_arg {p : Program} {l : Launch} {e : Env} {R : Room} {s : State} {m : MethodId} {args : Array Value} {below : List Frame} {meth : Method} {c : Code} {nL cells slots b Ln i kn : Nat} {k : Int} {xs : Nat → Int32} {Q : State → Prop} {G G1 : GG} {M N : Mm} {pc p1 p2 p3 p4 p5 : Nat} {x1 x2 : Nat} {S : List Value} {cc : ByteArray} {own : String} (C : GX p s m args c cc nL own) (hX : va_X b Ln xs s s.heap) (hb : b < s.heap.size) (hi : i + kn < Ln) (hL : Ln ≤ 320) (hk : Int32.ofInt k = nI kn) (d1 : DD cc pc (.aload_n 0) 1 p1) (d2 : DD cc p1 (.iload_n 3) 1 p2) (d3 : DD cc p2 (.iconst k) 1 p3) (d4 : DD cc p3 .iadd 1 p4) (d5 : DD cc p4 .iaload 1 p5)
    (h : Zg p l e R s m args below meth c nL Q cells slots (FL s G G1 M N) p5 [(3, .int (nI i)), (2, .ref x2), (1, .ref x1), (0, .ref b)] (.int (xs (i + kn)) :: S)) : Zg p l e R s m args below meth c nL Q cells slots (FL s G G1 M N) pc [(3, .int (nI i)), (2, .ref x2), (1, .ref x1), (0, .ref b)] S := by
  refine g_aload_n (x := b) 3 C d1 rfl rfl ?_
  refine g_iload_n (x := nI i) 0 C d2 rfl rfl ?_
  refine g_iconst (v := nI kn) C d3 hk ?_
  refine g_iadd C d4 ?_
  rw [nI_add]
  refine g_sld C hX hb (nI_in hi (by omega)) d5 ?_
  rw [nI_clamp (by omega)]
  exact h
