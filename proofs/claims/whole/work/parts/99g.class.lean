theorem wO_X11 : Cond.methodLink "SnowSentries" 1 Lib.objectInit ∈ TB := it_1 (List.mem_of_getElem? (i := 26) rfl) rfl
theorem wk_X11_7 : Cond.classLink "SnowSentries" 7 "SnowSentries$Text" ∈ TB := it_1 (List.mem_of_getElem? (i := 29) rfl) rfl
theorem wn_X9 : Cond.instantiable "SnowSentries$Text" 12 ∈ TB := it_1 (List.mem_of_getElem? (i := 30) rfl) rfl
theorem wc_X9_init : Cond.code y_X9_init prog_11_method_1_code 1 none ∈ TB := it_1 (List.mem_of_getElem? (i := 33) rfl) rfl
theorem wm_X11_9 : (("SnowSentries", 9, y_X9_init, "SnowSentries") : String × Nat × MethodName × String) ∈ nestL := List.mem_of_getElem? (i := 0) rfl
theorem ws_X9_init : Cond.instanceMethod y_X9_init ∈ TB := it_1 (List.mem_of_getElem? (i := 32) rfl) rfl
theorem hy_X9_init : (y_X9_init).cls ≠ "java/lang/invoke/MethodHandle" ∧ (y_X9_init).cls ≠ "java/lang/invoke/VarHandle" ∧ (parseMethodDescriptor (y_X9_init).desc).map (fun d => d.parameters.length) = some 0 := by decide +kernel
theorem wk_X11_16 : Cond.classLink "SnowSentries" 16 "SnowSentries$Scene" ∈ TB := it_1 (List.mem_of_getElem? (i := 77) rfl) rfl
theorem wm_X11_18 : Cond.methodLink "SnowSentries" 18 y_X7_init ∈ TB := it_1 (List.mem_of_getElem? (i := 79) rfl) rfl
theorem wk_X11_31 : Cond.classLink "SnowSentries" 31 "SnowSentries$Felt" ∈ TB := it_1 (List.mem_of_getElem? (i := 204) rfl) rfl
theorem wn_X2 : Cond.instantiable "SnowSentries$Felt" 7 ∈ TB := it_1 (List.mem_of_getElem? (i := 205) rfl) rfl
theorem wc_X2_init : Cond.code y_X2_init prog_4_method_1_code 1 none ∈ TB := it_1 (List.mem_of_getElem? (i := 208) rfl) rfl
theorem wm_X11_33 : (("SnowSentries", 33, y_X2_init, "SnowSentries") : String × Nat × MethodName × String) ∈ nestL := List.mem_of_getElem? (i := 3) rfl
theorem ws_X2_init : Cond.instanceMethod y_X2_init ∈ TB := it_1 (List.mem_of_getElem? (i := 207) rfl) rfl
theorem hy_X2_init : (y_X2_init).cls ≠ "java/lang/invoke/MethodHandle" ∧ (y_X2_init).cls ≠ "java/lang/invoke/VarHandle" ∧ (parseMethodDescriptor (y_X2_init).desc).map (fun d => d.parameters.length) = some 0 := by decide +kernel
theorem wk_X11_38 : Cond.classLink "SnowSentries" 38 "SnowSentries$Ways" ∈ TB := it_1 (List.mem_of_getElem? (i := 239) rfl) rfl
theorem wn_X10 : Cond.instantiable "SnowSentries$Ways" 4 ∈ TB := it_2 (List.mem_of_getElem? (i := 0) rfl) rfl
theorem wc_X10_init : Cond.code y_X10_init prog_12_method_1_code 1 none ∈ TB := it_2 (List.mem_of_getElem? (i := 3) rfl) rfl
theorem wm_X11_40 : (("SnowSentries", 40, y_X10_init, "SnowSentries") : String × Nat × MethodName × String) ∈ nestL := List.mem_of_getElem? (i := 4) rfl
theorem ws_X10_init : Cond.instanceMethod y_X10_init ∈ TB := it_2 (List.mem_of_getElem? (i := 2) rfl) rfl
theorem hy_X10_init : (y_X10_init).cls ≠ "java/lang/invoke/MethodHandle" ∧ (y_X10_init).cls ≠ "java/lang/invoke/VarHandle" ∧ (parseMethodDescriptor (y_X10_init).desc).map (fun d => d.parameters.length) = some 0 := by decide +kernel
theorem wk_X11_45 : Cond.classLink "SnowSentries" 45 "SnowSentries$Forecast" ∈ TB := it_2 (List.mem_of_getElem? (i := 20) rfl) rfl
theorem wn_X3 : Cond.instantiable "SnowSentries$Forecast" 3 ∈ TB := it_2 (List.mem_of_getElem? (i := 21) rfl) rfl
theorem wc_X3_init : Cond.code y_X3_init prog_5_method_1_code 1 none ∈ TB := it_2 (List.mem_of_getElem? (i := 24) rfl) rfl
theorem wm_X11_47 : (("SnowSentries", 47, y_X3_init, "SnowSentries") : String × Nat × MethodName × String) ∈ nestL := List.mem_of_getElem? (i := 5) rfl
theorem ws_X3_init : Cond.instanceMethod y_X3_init ∈ TB := it_2 (List.mem_of_getElem? (i := 23) rfl) rfl
theorem hy_X3_init : (y_X3_init).cls ≠ "java/lang/invoke/MethodHandle" ∧ (y_X3_init).cls ≠ "java/lang/invoke/VarHandle" ∧ (parseMethodDescriptor (y_X3_init).desc).map (fun d => d.parameters.length) = some 0 := by decide +kernel
theorem wk_X11_52 : Cond.classLink "SnowSentries" 52 "SnowSentries$Crews" ∈ TB := it_2 (List.mem_of_getElem? (i := 39) rfl) rfl
theorem wn_X1 : Cond.instantiable "SnowSentries$Crews" 4 ∈ TB := it_2 (List.mem_of_getElem? (i := 40) rfl) rfl
theorem wc_X1_init : Cond.code y_X1_init prog_3_method_1_code 1 none ∈ TB := it_2 (List.mem_of_getElem? (i := 43) rfl) rfl
theorem wm_X11_54 : (("SnowSentries", 54, y_X1_init, "SnowSentries") : String × Nat × MethodName × String) ∈ nestL := List.mem_of_getElem? (i := 6) rfl
theorem ws_X1_init : Cond.instanceMethod y_X1_init ∈ TB := it_2 (List.mem_of_getElem? (i := 42) rfl) rfl
theorem hy_X1_init : (y_X1_init).cls ≠ "java/lang/invoke/MethodHandle" ∧ (y_X1_init).cls ≠ "java/lang/invoke/VarHandle" ∧ (parseMethodDescriptor (y_X1_init).desc).map (fun d => d.parameters.length) = some 0 := by decide +kernel
theorem wk_X11_59 : Cond.classLink "SnowSentries" 59 "SnowSentries$Sheet" ∈ TB := it_2 (List.mem_of_getElem? (i := 61) rfl) rfl
theorem wn_X8 : Cond.instantiable "SnowSentries$Sheet" 4 ∈ TB := it_2 (List.mem_of_getElem? (i := 63) rfl) rfl
theorem wc_X8_init : Cond.code y_X8_init prog_10_method_1_code 1 none ∈ TB := it_2 (List.mem_of_getElem? (i := 66) rfl) rfl
theorem wm_X11_65 : (("SnowSentries", 65, y_X8_init, "SnowSentries") : String × Nat × MethodName × String) ∈ nestL := List.mem_of_getElem? (i := 7) rfl
theorem ws_X8_init : Cond.instanceMethod y_X8_init ∈ TB := it_2 (List.mem_of_getElem? (i := 65) rfl) rfl
theorem hy_X8_init : (y_X8_init).cls ≠ "java/lang/invoke/MethodHandle" ∧ (y_X8_init).cls ≠ "java/lang/invoke/VarHandle" ∧ (parseMethodDescriptor (y_X8_init).desc).map (fun d => d.parameters.length) = some 0 := by decide +kernel
theorem wk_X11_66 : Cond.classLink "SnowSentries" 66 "SnowSentries$Land" ∈ TB := it_2 (List.mem_of_getElem? (i := 84) rfl) rfl
theorem wn_X4 : Cond.instantiable "SnowSentries$Land" 8 ∈ TB := it_2 (List.mem_of_getElem? (i := 85) rfl) rfl
theorem wc_X4_init : Cond.code y_X4_init prog_6_method_1_code 1 none ∈ TB := it_2 (List.mem_of_getElem? (i := 88) rfl) rfl
theorem wm_X11_68 : Cond.methodLink "SnowSentries" 68 y_X4_init ∈ TB := it_2 (List.mem_of_getElem? (i := 86) rfl) rfl
theorem ws_X4_init : Cond.instanceMethod y_X4_init ∈ TB := it_2 (List.mem_of_getElem? (i := 87) rfl) rfl
theorem hy_X4_init : (y_X4_init).cls ≠ "java/lang/invoke/MethodHandle" ∧ (y_X4_init).cls ≠ "java/lang/invoke/VarHandle" ∧ (parseMethodDescriptor (y_X4_init).desc).map (fun d => d.parameters.length) = some 0 := by decide +kernel
theorem d_X11_init_0 : DD prog_1_method_1_code 0 (.aload_n 0) 1 1 := ⟨by decide +kernel, rfl⟩
theorem d_X11_init_1 : DD prog_1_method_1_code 1 (.invokespecial 1) 3 4 := ⟨by decide +kernel, rfl⟩
theorem d_X11_init_4 : DD prog_1_method_1_code 4 (.aload_n 0) 1 5 := ⟨by decide +kernel, rfl⟩
theorem d_X11_init_5 : DD prog_1_method_1_code 5 (.new 7) 3 8 := ⟨by decide +kernel, rfl⟩
theorem d_X11_init_8 : DD prog_1_method_1_code 8 (.dup) 1 9 := ⟨by decide +kernel, rfl⟩
theorem d_X11_init_9 : DD prog_1_method_1_code 9 (.invokespecial 9) 3 12 := ⟨by decide +kernel, rfl⟩
theorem d_X11_init_12 : DD prog_1_method_1_code 12 (.putfield 10) 3 15 := ⟨by decide +kernel, rfl⟩
theorem d_X11_init_15 : DD prog_1_method_1_code 15 (.aload_n 0) 1 16 := ⟨by decide +kernel, rfl⟩
theorem d_X11_init_16 : DD prog_1_method_1_code 16 (.new 16) 3 19 := ⟨by decide +kernel, rfl⟩
theorem d_X11_init_19 : DD prog_1_method_1_code 19 (.dup) 1 20 := ⟨by decide +kernel, rfl⟩
theorem d_X11_init_20 : DD prog_1_method_1_code 20 (.invokespecial 18) 3 23 := ⟨by decide +kernel, rfl⟩
theorem d_X11_init_23 : DD prog_1_method_1_code 23 (.putfield 19) 3 26 := ⟨by decide +kernel, rfl⟩
theorem d_X11_init_26 : DD prog_1_method_1_code 26 (.aload_n 0) 1 27 := ⟨by decide +kernel, rfl⟩
theorem d_X11_init_27 : DD prog_1_method_1_code 27 (.iconst 2) 1 28 := ⟨by decide +kernel, rfl⟩
theorem d_X11_init_28 : DD prog_1_method_1_code 28 (.anewarray 16) 3 31 := ⟨by decide +kernel, rfl⟩
theorem d_X11_init_31 : DD prog_1_method_1_code 31 (.putfield 23) 3 34 := ⟨by decide +kernel, rfl⟩
theorem d_X11_init_34 : DD prog_1_method_1_code 34 (.aload_n 0) 1 35 := ⟨by decide +kernel, rfl⟩
theorem d_X11_init_35 : DD prog_1_method_1_code 35 (.iconst 2) 1 36 := ⟨by decide +kernel, rfl⟩
theorem d_X11_init_36 : DD prog_1_method_1_code 36 (.newarray .boolean) 2 38 := ⟨by decide +kernel, rfl⟩
theorem d_X11_init_38 : DD prog_1_method_1_code 38 (.putfield 27) 3 41 := ⟨by decide +kernel, rfl⟩
theorem d_X11_init_41 : DD prog_1_method_1_code 41 (.iconst 0) 1 42 := ⟨by decide +kernel, rfl⟩
theorem d_X11_init_42 : DD prog_1_method_1_code 42 (.istore_n 1) 1 43 := ⟨by decide +kernel, rfl⟩
theorem d_X11_init_43 : DD prog_1_method_1_code 43 (.iload_n 1) 1 44 := ⟨by decide +kernel, rfl⟩
theorem d_X11_init_44 : DD prog_1_method_1_code 44 (.iconst 2) 1 45 := ⟨by decide +kernel, rfl⟩
theorem d_X11_init_45 : DJ prog_1_method_1_code 45 (fun o => .if_icmp .ge o) 67 3 48 := ⟨by decide +kernel, rfl⟩
theorem d_X11_init_48 : DD prog_1_method_1_code 48 (.aload_n 0) 1 49 := ⟨by decide +kernel, rfl⟩
theorem d_X11_init_49 : DD prog_1_method_1_code 49 (.getfield 23) 3 52 := ⟨by decide +kernel, rfl⟩
theorem d_X11_init_52 : DD prog_1_method_1_code 52 (.iload_n 1) 1 53 := ⟨by decide +kernel, rfl⟩
theorem d_X11_init_53 : DD prog_1_method_1_code 53 (.new 16) 3 56 := ⟨by decide +kernel, rfl⟩
theorem d_X11_init_56 : DD prog_1_method_1_code 56 (.dup) 1 57 := ⟨by decide +kernel, rfl⟩
theorem d_X11_init_57 : DD prog_1_method_1_code 57 (.invokespecial 18) 3 60 := ⟨by decide +kernel, rfl⟩
theorem d_X11_init_60 : DD prog_1_method_1_code 60 (.aastore) 1 61 := ⟨by decide +kernel, rfl⟩
theorem d_X11_init_61 : DD prog_1_method_1_code 61 (.iinc 1 1) 3 64 := ⟨by decide +kernel, rfl⟩
theorem d_X11_init_64 : DJ prog_1_method_1_code 64 (fun o => .goto o) 43 3 67 := ⟨by decide +kernel, rfl⟩
theorem d_X11_init_67 : DD prog_1_method_1_code 67 (.aload_n 0) 1 68 := ⟨by decide +kernel, rfl⟩
theorem d_X11_init_68 : DD prog_1_method_1_code 68 (.new 31) 3 71 := ⟨by decide +kernel, rfl⟩
theorem d_X11_init_71 : DD prog_1_method_1_code 71 (.dup) 1 72 := ⟨by decide +kernel, rfl⟩
theorem d_X11_init_72 : DD prog_1_method_1_code 72 (.invokespecial 33) 3 75 := ⟨by decide +kernel, rfl⟩
theorem d_X11_init_75 : DD prog_1_method_1_code 75 (.putfield 34) 3 78 := ⟨by decide +kernel, rfl⟩
theorem d_X11_init_78 : DD prog_1_method_1_code 78 (.aload_n 0) 1 79 := ⟨by decide +kernel, rfl⟩
theorem d_X11_init_79 : DD prog_1_method_1_code 79 (.new 38) 3 82 := ⟨by decide +kernel, rfl⟩
theorem d_X11_init_82 : DD prog_1_method_1_code 82 (.dup) 1 83 := ⟨by decide +kernel, rfl⟩
theorem d_X11_init_83 : DD prog_1_method_1_code 83 (.invokespecial 40) 3 86 := ⟨by decide +kernel, rfl⟩
theorem d_X11_init_86 : DD prog_1_method_1_code 86 (.putfield 41) 3 89 := ⟨by decide +kernel, rfl⟩
theorem d_X11_init_89 : DD prog_1_method_1_code 89 (.aload_n 0) 1 90 := ⟨by decide +kernel, rfl⟩
theorem d_X11_init_90 : DD prog_1_method_1_code 90 (.new 45) 3 93 := ⟨by decide +kernel, rfl⟩
theorem d_X11_init_93 : DD prog_1_method_1_code 93 (.dup) 1 94 := ⟨by decide +kernel, rfl⟩
theorem d_X11_init_94 : DD prog_1_method_1_code 94 (.invokespecial 47) 3 97 := ⟨by decide +kernel, rfl⟩
theorem d_X11_init_97 : DD prog_1_method_1_code 97 (.putfield 48) 3 100 := ⟨by decide +kernel, rfl⟩
theorem d_X11_init_100 : DD prog_1_method_1_code 100 (.aload_n 0) 1 101 := ⟨by decide +kernel, rfl⟩
theorem d_X11_init_101 : DD prog_1_method_1_code 101 (.new 52) 3 104 := ⟨by decide +kernel, rfl⟩
theorem d_X11_init_104 : DD prog_1_method_1_code 104 (.dup) 1 105 := ⟨by decide +kernel, rfl⟩
theorem d_X11_init_105 : DD prog_1_method_1_code 105 (.invokespecial 54) 3 108 := ⟨by decide +kernel, rfl⟩
theorem d_X11_init_108 : DD prog_1_method_1_code 108 (.putfield 55) 3 111 := ⟨by decide +kernel, rfl⟩
theorem d_X11_init_111 : DD prog_1_method_1_code 111 (.aload_n 0) 1 112 := ⟨by decide +kernel, rfl⟩
theorem d_X11_init_112 : DD prog_1_method_1_code 112 (.iconst 4) 1 113 := ⟨by decide +kernel, rfl⟩
theorem d_X11_init_113 : DD prog_1_method_1_code 113 (.anewarray 59) 3 116 := ⟨by decide +kernel, rfl⟩
theorem d_X11_init_116 : DD prog_1_method_1_code 116 (.putfield 61) 3 119 := ⟨by decide +kernel, rfl⟩
theorem d_X11_init_119 : DD prog_1_method_1_code 119 (.iconst 0) 1 120 := ⟨by decide +kernel, rfl⟩
theorem d_X11_init_120 : DD prog_1_method_1_code 120 (.istore_n 1) 1 121 := ⟨by decide +kernel, rfl⟩
theorem d_X11_init_121 : DD prog_1_method_1_code 121 (.iload_n 1) 1 122 := ⟨by decide +kernel, rfl⟩
theorem d_X11_init_122 : DD prog_1_method_1_code 122 (.iconst 4) 1 123 := ⟨by decide +kernel, rfl⟩
theorem d_X11_init_123 : DJ prog_1_method_1_code 123 (fun o => .if_icmp .ge o) 145 3 126 := ⟨by decide +kernel, rfl⟩
theorem d_X11_init_126 : DD prog_1_method_1_code 126 (.aload_n 0) 1 127 := ⟨by decide +kernel, rfl⟩
theorem d_X11_init_127 : DD prog_1_method_1_code 127 (.getfield 61) 3 130 := ⟨by decide +kernel, rfl⟩
theorem d_X11_init_130 : DD prog_1_method_1_code 130 (.iload_n 1) 1 131 := ⟨by decide +kernel, rfl⟩
theorem d_X11_init_131 : DD prog_1_method_1_code 131 (.new 59) 3 134 := ⟨by decide +kernel, rfl⟩
theorem d_X11_init_134 : DD prog_1_method_1_code 134 (.dup) 1 135 := ⟨by decide +kernel, rfl⟩
theorem d_X11_init_135 : DD prog_1_method_1_code 135 (.invokespecial 65) 3 138 := ⟨by decide +kernel, rfl⟩
theorem d_X11_init_138 : DD prog_1_method_1_code 138 (.aastore) 1 139 := ⟨by decide +kernel, rfl⟩
theorem d_X11_init_139 : DD prog_1_method_1_code 139 (.iinc 1 1) 3 142 := ⟨by decide +kernel, rfl⟩
theorem d_X11_init_142 : DJ prog_1_method_1_code 142 (fun o => .goto o) 121 3 145 := ⟨by decide +kernel, rfl⟩
theorem d_X11_init_145 : DD prog_1_method_1_code 145 (.aload_n 0) 1 146 := ⟨by decide +kernel, rfl⟩
theorem d_X11_init_146 : DD prog_1_method_1_code 146 (.new 66) 3 149 := ⟨by decide +kernel, rfl⟩
theorem d_X11_init_149 : DD prog_1_method_1_code 149 (.dup) 1 150 := ⟨by decide +kernel, rfl⟩
theorem d_X11_init_150 : DD prog_1_method_1_code 150 (.invokespecial 68) 3 153 := ⟨by decide +kernel, rfl⟩
theorem d_X11_init_153 : DD prog_1_method_1_code 153 (.putfield 69) 3 156 := ⟨by decide +kernel, rfl⟩
theorem d_X11_init_156 : DD prog_1_method_1_code 156 (.aload_n 0) 1 157 := ⟨by decide +kernel, rfl⟩
theorem d_X11_init_157 : DD prog_1_method_1_code 157 (.new 66) 3 160 := ⟨by decide +kernel, rfl⟩
theorem d_X11_init_160 : DD prog_1_method_1_code 160 (.dup) 1 161 := ⟨by decide +kernel, rfl⟩
theorem d_X11_init_161 : DD prog_1_method_1_code 161 (.invokespecial 68) 3 164 := ⟨by decide +kernel, rfl⟩
theorem d_X11_init_164 : DD prog_1_method_1_code 164 (.putfield 73) 3 167 := ⟨by decide +kernel, rfl⟩
theorem d_X11_init_167 : DD prog_1_method_1_code 167 (.aload_n 0) 1 168 := ⟨by decide +kernel, rfl⟩
theorem d_X11_init_168 : DD prog_1_method_1_code 168 (.iconst 0) 1 169 := ⟨by decide +kernel, rfl⟩
theorem d_X11_init_169 : DD prog_1_method_1_code 169 (.putfield 76) 3 172 := ⟨by decide +kernel, rfl⟩
theorem d_X11_init_172 : DD prog_1_method_1_code 172 (.return_) 1 173 := ⟨by decide +kernel, rfl⟩
def Mi (Ma Mb : Mm) : Mm := (fun c => if c < 141 then (fun j => if c = 0 then (if j = 10 then 1 else 0) else 0) else if c < 177 then Ma.1 c else Mb.1 c, fun c => if c < 141 then (fun _ => 0) else if c < 177 then Ma.2 c else Mb.2 c)
theorem Mi_z {Ma Mb : Mm} {c : Nat} (h : c < 141) (h0 : c ≠ 0) : (Mi Ma Mb).1 c = fun _ => 0 := by
  unfold Mi
  dsimp only
  rw [if_pos h]
  funext j
  rw [if_neg h0]
theorem Mi_z2 {Ma Mb : Mm} {c : Nat} (h : c < 141) : (Mi Ma Mb).2 c = fun _ => 0 := by
  unfold Mi
  dsimp only
  rw [if_pos h]
theorem Mi_0 {Ma Mb : Mm} : (Mi Ma Mb).1 0 = fun j => if j = 10 then 1 else 0 := by
  unfold Mi
  dsimp only
  rw [if_pos (by decide)]
  funext j
  rw [if_pos rfl]
theorem Mi_a {Ma Mb : Mm} {c : Nat} (h : 141 ≤ c) (h1 : c < 177) : (Mi Ma Mb).1 c = Ma.1 c ∧ (Mi Ma Mb).2 c = Ma.2 c := by
  unfold Mi
  dsimp only
  rw [if_neg (by omega), if_pos h1, if_neg (by omega), if_pos h1]
  exact ⟨rfl, rfl⟩
theorem Mi_b {Ma Mb : Mm} {c : Nat} (h : 177 ≤ c) : (Mi Ma Mb).1 c = Mb.1 c ∧ (Mi Ma Mb).2 c = Mb.2 c := by
  unfold Mi
  dsimp only
  rw [if_neg (by omega), if_neg (by omega), if_neg (by omega), if_neg (by omega)]
  exact ⟨rfl, rfl⟩
theorem up1_self (E : Nat → va_E) (n : Nat) {x : va_E} (h : E n = x) : up1 E n x = E := by
  funext i
  unfold up1
  by_cases q : i = n
  · rw [if_pos q, q, h]
  · rw [if_neg q]
theorem up1_up1 (E : Nat → va_E) (n : Nat) (x y : va_E) : up1 (up1 E n x) n y = up1 E n y := by
  funext i
  unfold up1
  by_cases q : i = n
  · rw [if_pos q, if_pos q]
  · rw [if_neg q, if_neg q, if_neg q]
theorem up1_comm (E : Nat → va_E) {a b : Nat} (h : a ≠ b) (x y : va_E) : up1 (up1 E a x) b y = up1 (up1 E b y) a x := by
  funext i
  unfold up1
  by_cases q : i = b
  · rw [if_pos q, if_neg (by omega), if_pos q]
  · rw [if_neg q, if_neg q]
def EPx (G : GG) (M : Mm) (A B X : va_E) : Nat → va_E := up1 (up1 (up1 (EU 0 G M) 34 A) 132 B) 0 X
theorem EPx_0 (G : GG) (M : Mm) (A B X : va_E) : EPx G M A B X 0 = X := up1_s _ _ _
theorem EPx_34 (G : GG) (M : Mm) (A B X : va_E) : EPx G M A B X 34 = A := ((up1_n (by decide)).trans (up1_n (by decide))).trans (up1_s _ _ _)
theorem EPx_132 (G : GG) (M : Mm) (A B X : va_E) : EPx G M A B X 132 = B := (up1_n (by decide)).trans (up1_s _ _ _)
theorem EPx_n {G : GG} {M : Mm} {A B X : va_E} {i : Nat} (h : i ≠ 0) (h1 : i ≠ 34) (h2 : i ≠ 132) : EPx G M A B X i = EU 0 G M i := ((up1_n h).trans (up1_n h2)).trans (up1_n h1)
theorem EPx_p0 (G : GG) (M : Mm) (A B X Y : va_E) : up1 (EPx G M A B X) 0 Y = EPx G M A B Y := up1_up1 _ _ _ _
theorem EPx_p34 (G : GG) (M : Mm) (A B X Y : va_E) : up1 (EPx G M A B X) 34 Y = EPx G M Y B X := by
  unfold EPx
  rw [up1_comm _ (show 0 ≠ 34 by decide), up1_comm _ (show 132 ≠ 34 by decide), up1_up1]
theorem EPx_p132 (G : GG) (M : Mm) (A B X Y : va_E) : up1 (EPx G M A B X) 132 Y = EPx G M A Y X := by
  unfold EPx
  rw [up1_comm _ (show 0 ≠ 132 by decide), up1_up1]
theorem EPx_z {G : GG} {Ma Mb : Mm} {A B X : va_E} {i : Nat} (h : i < 141) (h0 : i ≠ 0) (h1 : i ≠ 34) (h2 : i ≠ 132) : EU 0 G Mz i = EPx G (Mi Ma Mb) A B X i := by
  rw [EPx_n h0 h1 h2]
  unfold EU
  rw [Mi_z h h0, Mi_z2 h]
  rfl
theorem EPx_a {G : GG} {Ma Mb : Mm} {A B X : va_E} {i : Nat} (h : 141 ≤ i) (h1 : i < 177) : EU 0 G Ma i = EPx G (Mi Ma Mb) A B X i := by
  rw [EPx_n (by omega) (by omega) (by omega)]
  unfold EU
  rw [(Mi_a h h1).1, (Mi_a h h1).2]
theorem EPx_b {G : GG} {Ma Mb : Mm} {A B X : va_E} {i : Nat} (h : 177 ≤ i) : EU 0 G Mb i = EPx G (Mi Ma Mb) A B X i := by
  rw [EPx_n (by omega) (by omega) (by omega)]
  unfold EU
  rw [(Mi_b h).1, (Mi_b h).2]
theorem q_jn {E E1 : Nat → va_E} {n0 n n1 : Nat} {x : va_E} (h : ∀ i, n ≤ i → i < n1 → E1 i = E i) : ∀ i, n0 ≤ i → i < n1 → jn (up1 E n x) n E1 i = E i := fun i h1 h2 => by
  by_cases q : i < n
  · exact (jn_lt q).trans (up1_n (by omega))
  · exact (jn_ge (by omega)).trans (h i (by omega) h2)
theorem im_2 (G : GG) : (.inl (gC G 5, 2, .inr (.inr (.inr (.inr (va_up (va_up (fun _ => none) (0 : Int32).toNatClampNeg (some (gB G + 36))) (1 : Int32).toNatClampNeg (some (gB G + 67))))))) : va_E) = .inl (gC G 5, 2, .inr (.inr (.inr (.inr (fun i => if i < 2 then some (gB G + (34 + 2 + 31 * i)) else none))))) := by
  have e : va_up (va_up (fun _ => none) (0 : Int32).toNatClampNeg (some (gB G + 36))) (1 : Int32).toNatClampNeg (some (gB G + 67)) = fun i => if i < 2 then some (gB G + (34 + 2 + 31 * i)) else none := by
    rw [show (0 : Int32).toNatClampNeg = 0 by decide, show (1 : Int32).toNatClampNeg = 1 by decide]
    funext t
    match t with
    | 0 => rfl
    | 1 => rfl
    | t + 2 => rw [if_neg (by omega), va_up_ne _ _ (by omega), va_up_ne _ _ (by omega)]
  rw [e]
theorem sh_4 (G : GG) : (.inl (gC G 6, 4, .inr (.inr (.inr (.inr (va_up (va_up (va_up (va_up (fun _ => none) (0 : Int32).toNatClampNeg (some (gB G + 133))) (1 : Int32).toNatClampNeg (some (gB G + 135))) (2 : Int32).toNatClampNeg (some (gB G + 137))) (3 : Int32).toNatClampNeg (some (gB G + 139))))))) : va_E) = .inl (gC G 6, 4, .inr (.inr (.inr (.inr (fun i => if i < 4 then some (gB G + (132 + 1 + 2 * i)) else none))))) := by
  have e : va_up (va_up (va_up (va_up (fun _ => none) (0 : Int32).toNatClampNeg (some (gB G + 133))) (1 : Int32).toNatClampNeg (some (gB G + 135))) (2 : Int32).toNatClampNeg (some (gB G + 137))) (3 : Int32).toNatClampNeg (some (gB G + 139)) = fun i => if i < 4 then some (gB G + (132 + 1 + 2 * i)) else none := by
    rw [show (0 : Int32).toNatClampNeg = 0 by decide, show (1 : Int32).toNatClampNeg = 1 by decide, show (2 : Int32).toNatClampNeg = 2 by decide, show (3 : Int32).toNatClampNeg = 3 by decide]
    funext t
    match t with
    | 0 => rfl
    | 1 => rfl
    | 2 => rfl
    | 3 => rfl
    | t + 4 => rw [if_neg (by omega), va_up_ne _ _ (by omega), va_up_ne _ _ (by omega), va_up_ne _ _ (by omega), va_up_ne _ _ (by omega)]
  rw [e]
theorem n_X11_init (l : Launch) (G : GG) {Ma Mb : Mm} (hMa : f_X4_wipe Mz 141 = some Ma) (hMb : f_X4_wipe Mz 177 = some Mb) : CN l G y_X11_init prog_1_method_1_code 2 4 84 212 2277 0 (.inr (11, [.null, .null, .null, .null, .null, .null, .null, .null, .null, .null, .null, .int 0])) (EU 0 G (Mi Ma Mb)) := by
  refine CN.of (by decide) rfl (by decide) ?_
  intro p e s m args below meth c C K hs0 hlk hr hnm
  refine g_aload_n (x := gB G + 0) 0 C d_X11_init_0 rfl rfl ?_
  refine k_obj C wO_X11 wOi wOc (Nat.le_of_ble_eq_true rfl) (Nat.le_of_ble_eq_true rfl) d_X11_init_1 ?_
  refine g_F (F2 := FC s G 0 1 (EPx G (Mi Ma Mb) (.inl (gC G 5, 2, .inr (.inr (.inr (.inr (fun _ => none)))))) (.inl (gC G 6, 4, .inr (.inr (.inr (.inr (fun _ => none)))))) (.inr (11, [.null, .null, .null, .null, .null, .null, .null, .null, .null, .null, .null, .int 0])))) (FC.c (fun i h1 h2 => ?_)) ?_
  · obtain rfl : i = 0 := by omega
    exact (EPx_0 G _ _ _ _).symm
  refine g_aload_n (x := gB G + 0) 0 C d_X11_init_4 rfl rfl ?_
  refine k_new (n := 1) (cells := 0) (slots := 0) (ci := 9) (fs := [.null, .int 0, .int 0, .int 0, .int 0, .int 0, .int 0, .int 0, .int 0, .int 0, .int 0, .int 0]) C K.1 (by omega) (by omega) (by omega) inX9 tyX9 tyX9_ok wk_X11_7 wn_X9 wi_X9 rfl df_X9 (Nat.le_of_ble_eq_true rfl) (Nat.le_of_ble_eq_true rfl) d_X11_init_5 ?_
  refine g_dup C d_X11_init_8 rfl ?_
  refine k_cN (a := 1) (cells := 1) (slots := 12) C K (n_X9_init l G (show kU 0 1 = 9 by decide +kernel) (show kU 0 2 = 25 by decide +kernel)) (by omega) (by omega) (by omega) (up1_s _ _ _) wc_X9_init wm_X11_9 ws_X9_init wi_X9 rfl hy_X9_init ⟨(Nat.le_of_ble_eq_true rfl), (Nat.le_of_ble_eq_true rfl)⟩ (Nat.le_of_ble_eq_true rfl) ⟨(Nat.le_of_ble_eq_true rfl), (Nat.le_of_ble_eq_true rfl)⟩ d_X11_init_9 ?_
  refine g_F (F2 := FC s G 0 3 (EPx G (Mi Ma Mb) _ _ _)) (FC.c (q_jn (fun i h1 h2 => EPx_z (by omega) (by omega) (by omega) (by omega)))) ?_
  refine k_put (n := 3) (a := 0) (k := 0) (ty := .object "SnowSentries$Text") C K.1 (by omega) (by omega) (EPx_0 G _ _ _ _) rfl inX11 tyX11 tyX11_ok nmX11 (by decide) wf_X11_10 (Or.inr ⟨rfl, hnm, rfl⟩) (by decide +kernel) rfl rfl (Nat.le_of_ble_eq_true rfl) d_X11_init_12 ?_
  rw [EPx_p0]
  refine g_aload_n (x := gB G + 0) 0 C d_X11_init_15 rfl rfl ?_
  refine k_new (n := 3) (cells := 2) (slots := 412) (ci := 7) (fs := [.int 0, .null, .null, .null, .null, .null, .null]) C K.1 (by omega) (by omega) (by omega) inX7 tyX7 tyX7_ok wk_X11_16 wn_X7 wi_X7 rfl df_X7 (Nat.le_of_ble_eq_true rfl) (Nat.le_of_ble_eq_true rfl) d_X11_init_16 ?_
  refine g_dup C d_X11_init_19 rfl ?_
  refine k_cI (a := 3) (cells := 3) (slots := 419) C K (n_X7_init l G (show kU 0 3 = 7 by decide +kernel)) (by omega) (by omega) (by omega) (up1_s _ _ _) wc_X7_init wm_X11_18 ws_X7_init wi_X7 rfl hy_X7_init ⟨(Nat.le_of_ble_eq_true rfl), (Nat.le_of_ble_eq_true rfl)⟩ (Nat.le_of_ble_eq_true rfl) ⟨(Nat.le_of_ble_eq_true rfl), (Nat.le_of_ble_eq_true rfl)⟩ d_X11_init_20 ?_
  refine g_F (F2 := FC s G 0 34 (EPx G (Mi Ma Mb) _ _ _)) (FC.c (q_jn (fun i h1 h2 => EPx_z (by omega) (by omega) (by omega) (by omega)))) ?_
  refine k_put (n := 34) (a := 0) (k := 1) (ty := .object "SnowSentries$Scene") C K.1 (by omega) (by omega) (EPx_0 G _ _ _ _) rfl inX11 tyX11 tyX11_ok nmX11 (by decide) wf_X11_19 (Or.inr ⟨rfl, hnm, rfl⟩) (by decide +kernel) rfl rfl (Nat.le_of_ble_eq_true rfl) d_X11_init_23 ?_
  rw [EPx_p0]
  refine g_aload_n (x := gB G + 0) 0 C d_X11_init_26 rfl rfl ?_
  refine g_iconst (v := 2) C d_X11_init_27 rfl ?_
  refine k_anew (n := 34) (cells := 33) (slots := 650) (t := 5) (N := 2) C K (by omega) (by omega) (by omega) wk_X11_16 K.2.2.2.1 rfl (by decide) rfl (by decide) (Nat.le_of_ble_eq_true rfl) (Nat.le_of_ble_eq_true rfl) d_X11_init_28 ?_
  rw [EPx_p34]
  refine k_put (n := 35) (a := 0) (k := 2) (ty := .array (.object "SnowSentries$Scene")) C K.1 (by omega) (by omega) (EPx_0 G _ _ _ _) rfl inX11 tyX11 tyX11_ok nmX11 (by decide) wf_X11_23 (Or.inr ⟨rfl, hnm, rfl⟩) (by decide +kernel) rfl rfl (Nat.le_of_ble_eq_true rfl) d_X11_init_31 ?_
  rw [EPx_p0]
  refine g_aload_n (x := gB G + 0) 0 C d_X11_init_34 rfl rfl ?_
  refine g_iconst (v := 2) C d_X11_init_35 rfl ?_
  refine k_newa (n := 35) (cells := 34) (slots := 652) (t := 2) (N := 2) (atype := .boolean) (a0 := (2, .inl fun _ => 0)) C K (by omega) (by omega) (by omega) wA_boolean rfl rfl (fun _ _ h => h) (fun _ => rfl) (by decide) rfl (by decide) (Nat.le_of_ble_eq_true rfl) (Nat.le_of_ble_eq_true rfl) d_X11_init_36 ?_
  rw [up1_self (EPx G (Mi Ma Mb) _ _ _) 35 (x := .inl (gC G 2, 2, .inl fun _ => 0)) (((EPx_z (by decide) (by decide) (by decide) (by decide)).symm.trans (E_26 (show kU 0 35 = 26 by decide +kernel) G (Mz.1 _) (Mz.2 _))))]
  refine k_put (n := 36) (a := 0) (k := 3) (ty := .array .boolean) C K.1 (by omega) (by omega) (EPx_0 G _ _ _ _) rfl inX11 tyX11 tyX11_ok nmX11 (by decide) wf_X11_27 (Or.inr ⟨rfl, hnm, rfl⟩) (by decide +kernel) rfl rfl (Nat.le_of_ble_eq_true rfl) d_X11_init_38 ?_
  rw [EPx_p0]
  refine g_iconst (v := 0) C d_X11_init_41 rfl ?_
  refine g_istore_n C d_X11_init_42 rfl (by decide) rfl ?_
  refine g_iload_n (x := 0) 0 C d_X11_init_43 rfl rfl ?_
  refine g_iconst (v := 2) C d_X11_init_44 rfl ?_
  refine g_icmp_ge C d_X11_init_45 (fun h => absurd h (by decide)) (fun _ => ?_)
  refine g_aload_n (x := gB G + 0) 1 C d_X11_init_48 rfl rfl ?_
  refine k_get (n := 36) (a := 0) (k := 2) (v := .ref (gB G + 34)) C K.1 (by omega) (by omega) (EPx_0 G _ _ _ _) rfl inX11 (by decide) wf_X11_23 rfl d_X11_init_49 ?_
  refine g_iload_n (x := 0) 0 C d_X11_init_52 rfl rfl ?_
  refine k_new (n := 36) (cells := 35) (slots := 654) (ci := 7) (fs := [.int 0, .null, .null, .null, .null, .null, .null]) C K.1 (by omega) (by omega) (by omega) inX7 tyX7 tyX7_ok wk_X11_16 wn_X7 wi_X7 rfl df_X7 (Nat.le_of_ble_eq_true rfl) (Nat.le_of_ble_eq_true rfl) d_X11_init_53 ?_
  refine g_dup C d_X11_init_56 rfl ?_
  refine k_cI (a := 36) (cells := 36) (slots := 661) C K (n_X7_init l G (show kU 0 36 = 7 by decide +kernel)) (by omega) (by omega) (by omega) (up1_s _ _ _) wc_X7_init wm_X11_18 ws_X7_init wi_X7 rfl hy_X7_init ⟨(Nat.le_of_ble_eq_true rfl), (Nat.le_of_ble_eq_true rfl)⟩ (Nat.le_of_ble_eq_true rfl) ⟨(Nat.le_of_ble_eq_true rfl), (Nat.le_of_ble_eq_true rfl)⟩ d_X11_init_57 ?_
  refine g_F (F2 := FC s G 0 67 (EPx G (Mi Ma Mb) _ _ _)) (FC.c (q_jn (fun i h1 h2 => EPx_z (by omega) (by omega) (by omega) (by omega)))) ?_
  refine k_ast (n := 67) (a := 34) (b := 36) (t := 5) (ci := 7) (N := 2) (i := 0) C K.1 (by omega) (by omega) (EPx_34 G _ _ _ _) rfl (by omega) (by omega) ((EPx_z (by decide) (by decide) (by decide) (by decide)).symm.trans (E_7 (show kU 0 36 = 7 by decide +kernel) G (Mz.1 _) (Mz.2 _))) rfl (by unfold vp_in; decide) d_X11_init_60 ?_
  rw [EPx_p34]
  refine g_iinc (v := 1) 0 C d_X11_init_61 rfl (by decide) (by decide) rfl ?_
  refine g_goto C d_X11_init_64 ?_
  refine g_iload_n (x := 1) 0 C d_X11_init_43 rfl rfl ?_
  refine g_iconst (v := 2) C d_X11_init_44 rfl ?_
  refine g_icmp_ge C d_X11_init_45 (fun h => absurd h (by decide)) (fun _ => ?_)
  refine g_aload_n (x := gB G + 0) 1 C d_X11_init_48 rfl rfl ?_
  refine k_get (n := 67) (a := 0) (k := 2) (v := .ref (gB G + 34)) C K.1 (by omega) (by omega) (EPx_0 G _ _ _ _) rfl inX11 (by decide) wf_X11_23 rfl d_X11_init_49 ?_
  refine g_iload_n (x := 1) 0 C d_X11_init_52 rfl rfl ?_
  refine k_new (n := 67) (cells := 66) (slots := 892) (ci := 7) (fs := [.int 0, .null, .null, .null, .null, .null, .null]) C K.1 (by omega) (by omega) (by omega) inX7 tyX7 tyX7_ok wk_X11_16 wn_X7 wi_X7 rfl df_X7 (Nat.le_of_ble_eq_true rfl) (Nat.le_of_ble_eq_true rfl) d_X11_init_53 ?_
  refine g_dup C d_X11_init_56 rfl ?_
  refine k_cI (a := 67) (cells := 67) (slots := 899) C K (n_X7_init l G (show kU 0 67 = 7 by decide +kernel)) (by omega) (by omega) (by omega) (up1_s _ _ _) wc_X7_init wm_X11_18 ws_X7_init wi_X7 rfl hy_X7_init ⟨(Nat.le_of_ble_eq_true rfl), (Nat.le_of_ble_eq_true rfl)⟩ (Nat.le_of_ble_eq_true rfl) ⟨(Nat.le_of_ble_eq_true rfl), (Nat.le_of_ble_eq_true rfl)⟩ d_X11_init_57 ?_
  refine g_F (F2 := FC s G 0 98 (EPx G (Mi Ma Mb) _ _ _)) (FC.c (q_jn (fun i h1 h2 => EPx_z (by omega) (by omega) (by omega) (by omega)))) ?_
  refine k_ast (n := 98) (a := 34) (b := 67) (t := 5) (ci := 7) (N := 2) (i := 1) C K.1 (by omega) (by omega) (EPx_34 G _ _ _ _) rfl (by omega) (by omega) ((EPx_z (by decide) (by decide) (by decide) (by decide)).symm.trans (E_7 (show kU 0 67 = 7 by decide +kernel) G (Mz.1 _) (Mz.2 _))) rfl (by unfold vp_in; decide) d_X11_init_60 ?_
  rw [EPx_p34]
  refine g_iinc (v := 2) 0 C d_X11_init_61 rfl (by decide) (by decide) rfl ?_
  refine g_goto C d_X11_init_64 ?_
  refine g_iload_n (x := 2) 0 C d_X11_init_43 rfl rfl ?_
  refine g_iconst (v := 2) C d_X11_init_44 rfl ?_
  refine g_icmp_ge C d_X11_init_45 (fun _ => ?_) (fun h => absurd (by decide) h)
  refine g_aload_n (x := gB G + 0) 1 C d_X11_init_67 rfl rfl ?_
  refine k_new (n := 98) (cells := 97) (slots := 1130) (ci := 2) (fs := [.int 0, .int 0, .int 0, .int 0, .int 0, .int 0, .null]) C K.1 (by omega) (by omega) (by omega) inX2 tyX2 tyX2_ok wk_X11_31 wn_X2 wi_X2 rfl df_X2 (Nat.le_of_ble_eq_true rfl) (Nat.le_of_ble_eq_true rfl) d_X11_init_68 ?_
  refine g_dup C d_X11_init_71 rfl ?_
  refine k_cN (a := 98) (cells := 98) (slots := 1137) C K (n_X2_init l G (show kU 0 98 = 2 by decide +kernel) (show kU 0 99 = 21 by decide +kernel)) (by omega) (by omega) (by omega) (up1_s _ _ _) wc_X2_init wm_X11_33 ws_X2_init wi_X2 rfl hy_X2_init ⟨(Nat.le_of_ble_eq_true rfl), (Nat.le_of_ble_eq_true rfl)⟩ (Nat.le_of_ble_eq_true rfl) ⟨(Nat.le_of_ble_eq_true rfl), (Nat.le_of_ble_eq_true rfl)⟩ d_X11_init_72 ?_
  refine g_F (F2 := FC s G 0 100 (EPx G (Mi Ma Mb) _ _ _)) (FC.c (q_jn (fun i h1 h2 => EPx_z (by omega) (by omega) (by omega) (by omega)))) ?_
  refine k_put (n := 100) (a := 0) (k := 4) (ty := .object "SnowSentries$Felt") C K.1 (by omega) (by omega) (EPx_0 G _ _ _ _) rfl inX11 tyX11 tyX11_ok nmX11 (by decide) wf_X11_34 (Or.inr ⟨rfl, hnm, rfl⟩) (by decide +kernel) rfl rfl (Nat.le_of_ble_eq_true rfl) d_X11_init_75 ?_
  rw [EPx_p0]
  refine g_aload_n (x := gB G + 0) 1 C d_X11_init_78 rfl rfl ?_
  refine k_new (n := 100) (cells := 99) (slots := 1147) (ci := 10) (fs := [.int 0, .int 0, .null, .null]) C K.1 (by omega) (by omega) (by omega) inX10 tyX10 tyX10_ok wk_X11_38 wn_X10 wi_X10 rfl df_X10 (Nat.le_of_ble_eq_true rfl) (Nat.le_of_ble_eq_true rfl) d_X11_init_79 ?_
  refine g_dup C d_X11_init_82 rfl ?_
  refine k_cN (a := 100) (cells := 100) (slots := 1151) C K (n_X10_init l G (show kU 0 100 = 10 by decide +kernel) (show kU 0 101 = 31 by decide +kernel) (show kU 0 114 = 32 by decide +kernel)) (by omega) (by omega) (by omega) (up1_s _ _ _) wc_X10_init wm_X11_40 ws_X10_init wi_X10 rfl hy_X10_init ⟨(Nat.le_of_ble_eq_true rfl), (Nat.le_of_ble_eq_true rfl)⟩ (Nat.le_of_ble_eq_true rfl) ⟨(Nat.le_of_ble_eq_true rfl), (Nat.le_of_ble_eq_true rfl)⟩ d_X11_init_83 ?_
  refine g_F (F2 := FC s G 0 128 (EPx G (Mi Ma Mb) _ _ _)) (FC.c (q_jn (fun i h1 h2 => EPx_z (by omega) (by omega) (by omega) (by omega)))) ?_
  refine k_put (n := 128) (a := 0) (k := 5) (ty := .object "SnowSentries$Ways") C K.1 (by omega) (by omega) (EPx_0 G _ _ _ _) rfl inX11 tyX11 tyX11_ok nmX11 (by decide) wf_X11_41 (Or.inr ⟨rfl, hnm, rfl⟩) (by decide +kernel) rfl rfl (Nat.le_of_ble_eq_true rfl) d_X11_init_86 ?_
  rw [EPx_p0]
  refine g_aload_n (x := gB G + 0) 1 C d_X11_init_89 rfl rfl ?_
  refine k_new (n := 128) (cells := 127) (slots := 1426) (ci := 3) (fs := [.long 0, .long 0, .null]) C K.1 (by omega) (by omega) (by omega) inX3 tyX3 tyX3_ok wk_X11_45 wn_X3 wi_X3 rfl df_X3 (Nat.le_of_ble_eq_true rfl) (Nat.le_of_ble_eq_true rfl) d_X11_init_90 ?_
  refine g_dup C d_X11_init_93 rfl ?_
  refine k_cN (a := 128) (cells := 128) (slots := 1429) C K (n_X3_init l G (show kU 0 128 = 3 by decide +kernel) (show kU 0 129 = 27 by decide +kernel)) (by omega) (by omega) (by omega) (up1_s _ _ _) wc_X3_init wm_X11_47 ws_X3_init wi_X3 rfl hy_X3_init ⟨(Nat.le_of_ble_eq_true rfl), (Nat.le_of_ble_eq_true rfl)⟩ (Nat.le_of_ble_eq_true rfl) ⟨(Nat.le_of_ble_eq_true rfl), (Nat.le_of_ble_eq_true rfl)⟩ d_X11_init_94 ?_
  refine g_F (F2 := FC s G 0 130 (EPx G (Mi Ma Mb) _ _ _)) (FC.c (q_jn (fun i h1 h2 => EPx_z (by omega) (by omega) (by omega) (by omega)))) ?_
  refine k_put (n := 130) (a := 0) (k := 6) (ty := .object "SnowSentries$Forecast") C K.1 (by omega) (by omega) (EPx_0 G _ _ _ _) rfl inX11 tyX11 tyX11_ok nmX11 (by decide) wf_X11_48 (Or.inr ⟨rfl, hnm, rfl⟩) (by decide +kernel) rfl rfl (Nat.le_of_ble_eq_true rfl) d_X11_init_97 ?_
  rw [EPx_p0]
  refine g_aload_n (x := gB G + 0) 1 C d_X11_init_100 rfl rfl ?_
  refine k_new (n := 130) (cells := 129) (slots := 1529) (ci := 1) (fs := [.int 0, .int 0, .int 0, .null]) C K.1 (by omega) (by omega) (by omega) inX1 tyX1 tyX1_ok wk_X11_52 wn_X1 wi_X1 rfl df_X1 (Nat.le_of_ble_eq_true rfl) (Nat.le_of_ble_eq_true rfl) d_X11_init_101 ?_
  refine g_dup C d_X11_init_104 rfl ?_
  refine k_cN (a := 130) (cells := 130) (slots := 1533) C K (n_X1_init l G (show kU 0 130 = 1 by decide +kernel) (show kU 0 131 = 21 by decide +kernel)) (by omega) (by omega) (by omega) (up1_s _ _ _) wc_X1_init wm_X11_54 ws_X1_init wi_X1 rfl hy_X1_init ⟨(Nat.le_of_ble_eq_true rfl), (Nat.le_of_ble_eq_true rfl)⟩ (Nat.le_of_ble_eq_true rfl) ⟨(Nat.le_of_ble_eq_true rfl), (Nat.le_of_ble_eq_true rfl)⟩ d_X11_init_105 ?_
  refine g_F (F2 := FC s G 0 132 (EPx G (Mi Ma Mb) _ _ _)) (FC.c (q_jn (fun i h1 h2 => EPx_z (by omega) (by omega) (by omega) (by omega)))) ?_
  refine k_put (n := 132) (a := 0) (k := 7) (ty := .object "SnowSentries$Crews") C K.1 (by omega) (by omega) (EPx_0 G _ _ _ _) rfl inX11 tyX11 tyX11_ok nmX11 (by decide) wf_X11_55 (Or.inr ⟨rfl, hnm, rfl⟩) (by decide +kernel) rfl rfl (Nat.le_of_ble_eq_true rfl) d_X11_init_108 ?_
  rw [EPx_p0]
  refine g_aload_n (x := gB G + 0) 1 C d_X11_init_111 rfl rfl ?_
  refine g_iconst (v := 4) C d_X11_init_112 rfl ?_
  refine k_anew (n := 132) (cells := 131) (slots := 1543) (t := 6) (N := 4) C K (by omega) (by omega) (by omega) wk_X11_59 K.2.2.2.2.1 rfl (by decide) rfl (by decide) (Nat.le_of_ble_eq_true rfl) (Nat.le_of_ble_eq_true rfl) d_X11_init_113 ?_
  rw [EPx_p132]
  refine k_put (n := 133) (a := 0) (k := 8) (ty := .array (.object "SnowSentries$Sheet")) C K.1 (by omega) (by omega) (EPx_0 G _ _ _ _) rfl inX11 tyX11 tyX11_ok nmX11 (by decide) wf_X11_61 (Or.inr ⟨rfl, hnm, rfl⟩) (by decide +kernel) rfl rfl (Nat.le_of_ble_eq_true rfl) d_X11_init_116 ?_
  rw [EPx_p0]
  refine g_iconst (v := 0) C d_X11_init_119 rfl ?_
  refine g_istore_n C d_X11_init_120 rfl (by decide) rfl ?_
  refine g_iload_n (x := 0) 0 C d_X11_init_121 rfl rfl ?_
  refine g_iconst (v := 4) C d_X11_init_122 rfl ?_
  refine g_icmp_ge C d_X11_init_123 (fun h => absurd h (by decide)) (fun _ => ?_)
  refine g_aload_n (x := gB G + 0) 1 C d_X11_init_126 rfl rfl ?_
  refine k_get (n := 133) (a := 0) (k := 8) (v := .ref (gB G + 132)) C K.1 (by omega) (by omega) (EPx_0 G _ _ _ _) rfl inX11 (by decide) wf_X11_61 rfl d_X11_init_127 ?_
  refine g_iload_n (x := 0) 0 C d_X11_init_130 rfl rfl ?_
  refine k_new (n := 133) (cells := 132) (slots := 1547) (ci := 8) (fs := [.int 0, .int 0, .null, .int 0]) C K.1 (by omega) (by omega) (by omega) inX8 tyX8 tyX8_ok wk_X11_59 wn_X8 wi_X8 rfl df_X8 (Nat.le_of_ble_eq_true rfl) (Nat.le_of_ble_eq_true rfl) d_X11_init_131 ?_
  refine g_dup C d_X11_init_134 rfl ?_
  refine k_cN (a := 133) (cells := 133) (slots := 1551) C K (n_X8_init l G (show kU 0 133 = 8 by decide +kernel)) (by omega) (by omega) (by omega) (up1_s _ _ _) wc_X8_init wm_X11_65 ws_X8_init wi_X8 rfl hy_X8_init ⟨(Nat.le_of_ble_eq_true rfl), (Nat.le_of_ble_eq_true rfl)⟩ (Nat.le_of_ble_eq_true rfl) ⟨(Nat.le_of_ble_eq_true rfl), (Nat.le_of_ble_eq_true rfl)⟩ d_X11_init_135 ?_
  refine g_F (F2 := FC s G 0 135 (EPx G (Mi Ma Mb) _ _ _)) (FC.c (q_jn (fun i h1 h2 => EPx_z (by omega) (by omega) (by omega) (by omega)))) ?_
  refine k_ast (n := 135) (a := 132) (b := 133) (t := 6) (ci := 8) (N := 4) (i := 0) C K.1 (by omega) (by omega) (EPx_132 G _ _ _ _) rfl (by omega) (by omega) ((EPx_z (by decide) (by decide) (by decide) (by decide)).symm.trans (E_8 (show kU 0 133 = 8 by decide +kernel) G (Mz.1 _) (Mz.2 _))) rfl (by unfold vp_in; decide) d_X11_init_138 ?_
  rw [EPx_p132]
  refine g_iinc (v := 1) 0 C d_X11_init_139 rfl (by decide) (by decide) rfl ?_
  refine g_goto C d_X11_init_142 ?_
  refine g_iload_n (x := 1) 0 C d_X11_init_121 rfl rfl ?_
  refine g_iconst (v := 4) C d_X11_init_122 rfl ?_
  refine g_icmp_ge C d_X11_init_123 (fun h => absurd h (by decide)) (fun _ => ?_)
  refine g_aload_n (x := gB G + 0) 1 C d_X11_init_126 rfl rfl ?_
  refine k_get (n := 135) (a := 0) (k := 8) (v := .ref (gB G + 132)) C K.1 (by omega) (by omega) (EPx_0 G _ _ _ _) rfl inX11 (by decide) wf_X11_61 rfl d_X11_init_127 ?_
  refine g_iload_n (x := 1) 0 C d_X11_init_130 rfl rfl ?_
  refine k_new (n := 135) (cells := 134) (slots := 1591) (ci := 8) (fs := [.int 0, .int 0, .null, .int 0]) C K.1 (by omega) (by omega) (by omega) inX8 tyX8 tyX8_ok wk_X11_59 wn_X8 wi_X8 rfl df_X8 (Nat.le_of_ble_eq_true rfl) (Nat.le_of_ble_eq_true rfl) d_X11_init_131 ?_
  refine g_dup C d_X11_init_134 rfl ?_
  refine k_cN (a := 135) (cells := 135) (slots := 1595) C K (n_X8_init l G (show kU 0 135 = 8 by decide +kernel)) (by omega) (by omega) (by omega) (up1_s _ _ _) wc_X8_init wm_X11_65 ws_X8_init wi_X8 rfl hy_X8_init ⟨(Nat.le_of_ble_eq_true rfl), (Nat.le_of_ble_eq_true rfl)⟩ (Nat.le_of_ble_eq_true rfl) ⟨(Nat.le_of_ble_eq_true rfl), (Nat.le_of_ble_eq_true rfl)⟩ d_X11_init_135 ?_
  refine g_F (F2 := FC s G 0 137 (EPx G (Mi Ma Mb) _ _ _)) (FC.c (q_jn (fun i h1 h2 => EPx_z (by omega) (by omega) (by omega) (by omega)))) ?_
  refine k_ast (n := 137) (a := 132) (b := 135) (t := 6) (ci := 8) (N := 4) (i := 1) C K.1 (by omega) (by omega) (EPx_132 G _ _ _ _) rfl (by omega) (by omega) ((EPx_z (by decide) (by decide) (by decide) (by decide)).symm.trans (E_8 (show kU 0 135 = 8 by decide +kernel) G (Mz.1 _) (Mz.2 _))) rfl (by unfold vp_in; decide) d_X11_init_138 ?_
  rw [EPx_p132]
  refine g_iinc (v := 2) 0 C d_X11_init_139 rfl (by decide) (by decide) rfl ?_
  refine g_goto C d_X11_init_142 ?_
  refine g_iload_n (x := 2) 0 C d_X11_init_121 rfl rfl ?_
  refine g_iconst (v := 4) C d_X11_init_122 rfl ?_
  refine g_icmp_ge C d_X11_init_123 (fun h => absurd h (by decide)) (fun _ => ?_)
  refine g_aload_n (x := gB G + 0) 1 C d_X11_init_126 rfl rfl ?_
  refine k_get (n := 137) (a := 0) (k := 8) (v := .ref (gB G + 132)) C K.1 (by omega) (by omega) (EPx_0 G _ _ _ _) rfl inX11 (by decide) wf_X11_61 rfl d_X11_init_127 ?_
  refine g_iload_n (x := 2) 0 C d_X11_init_130 rfl rfl ?_
  refine k_new (n := 137) (cells := 136) (slots := 1635) (ci := 8) (fs := [.int 0, .int 0, .null, .int 0]) C K.1 (by omega) (by omega) (by omega) inX8 tyX8 tyX8_ok wk_X11_59 wn_X8 wi_X8 rfl df_X8 (Nat.le_of_ble_eq_true rfl) (Nat.le_of_ble_eq_true rfl) d_X11_init_131 ?_
  refine g_dup C d_X11_init_134 rfl ?_
  refine k_cN (a := 137) (cells := 137) (slots := 1639) C K (n_X8_init l G (show kU 0 137 = 8 by decide +kernel)) (by omega) (by omega) (by omega) (up1_s _ _ _) wc_X8_init wm_X11_65 ws_X8_init wi_X8 rfl hy_X8_init ⟨(Nat.le_of_ble_eq_true rfl), (Nat.le_of_ble_eq_true rfl)⟩ (Nat.le_of_ble_eq_true rfl) ⟨(Nat.le_of_ble_eq_true rfl), (Nat.le_of_ble_eq_true rfl)⟩ d_X11_init_135 ?_
  refine g_F (F2 := FC s G 0 139 (EPx G (Mi Ma Mb) _ _ _)) (FC.c (q_jn (fun i h1 h2 => EPx_z (by omega) (by omega) (by omega) (by omega)))) ?_
  refine k_ast (n := 139) (a := 132) (b := 137) (t := 6) (ci := 8) (N := 4) (i := 2) C K.1 (by omega) (by omega) (EPx_132 G _ _ _ _) rfl (by omega) (by omega) ((EPx_z (by decide) (by decide) (by decide) (by decide)).symm.trans (E_8 (show kU 0 137 = 8 by decide +kernel) G (Mz.1 _) (Mz.2 _))) rfl (by unfold vp_in; decide) d_X11_init_138 ?_
  rw [EPx_p132]
  refine g_iinc (v := 3) 0 C d_X11_init_139 rfl (by decide) (by decide) rfl ?_
  refine g_goto C d_X11_init_142 ?_
  refine g_iload_n (x := 3) 0 C d_X11_init_121 rfl rfl ?_
  refine g_iconst (v := 4) C d_X11_init_122 rfl ?_
  refine g_icmp_ge C d_X11_init_123 (fun h => absurd h (by decide)) (fun _ => ?_)
  refine g_aload_n (x := gB G + 0) 1 C d_X11_init_126 rfl rfl ?_
  refine k_get (n := 139) (a := 0) (k := 8) (v := .ref (gB G + 132)) C K.1 (by omega) (by omega) (EPx_0 G _ _ _ _) rfl inX11 (by decide) wf_X11_61 rfl d_X11_init_127 ?_
  refine g_iload_n (x := 3) 0 C d_X11_init_130 rfl rfl ?_
  refine k_new (n := 139) (cells := 138) (slots := 1679) (ci := 8) (fs := [.int 0, .int 0, .null, .int 0]) C K.1 (by omega) (by omega) (by omega) inX8 tyX8 tyX8_ok wk_X11_59 wn_X8 wi_X8 rfl df_X8 (Nat.le_of_ble_eq_true rfl) (Nat.le_of_ble_eq_true rfl) d_X11_init_131 ?_
  refine g_dup C d_X11_init_134 rfl ?_
  refine k_cN (a := 139) (cells := 139) (slots := 1683) C K (n_X8_init l G (show kU 0 139 = 8 by decide +kernel)) (by omega) (by omega) (by omega) (up1_s _ _ _) wc_X8_init wm_X11_65 ws_X8_init wi_X8 rfl hy_X8_init ⟨(Nat.le_of_ble_eq_true rfl), (Nat.le_of_ble_eq_true rfl)⟩ (Nat.le_of_ble_eq_true rfl) ⟨(Nat.le_of_ble_eq_true rfl), (Nat.le_of_ble_eq_true rfl)⟩ d_X11_init_135 ?_
  refine g_F (F2 := FC s G 0 141 (EPx G (Mi Ma Mb) _ _ _)) (FC.c (q_jn (fun i h1 h2 => EPx_z (by omega) (by omega) (by omega) (by omega)))) ?_
  refine k_ast (n := 141) (a := 132) (b := 139) (t := 6) (ci := 8) (N := 4) (i := 3) C K.1 (by omega) (by omega) (EPx_132 G _ _ _ _) rfl (by omega) (by omega) ((EPx_z (by decide) (by decide) (by decide) (by decide)).symm.trans (E_8 (show kU 0 139 = 8 by decide +kernel) G (Mz.1 _) (Mz.2 _))) rfl (by unfold vp_in; decide) d_X11_init_138 ?_
  rw [EPx_p132]
  refine g_iinc (v := 4) 0 C d_X11_init_139 rfl (by decide) (by decide) rfl ?_
  refine g_goto C d_X11_init_142 ?_
  refine g_iload_n (x := 4) 0 C d_X11_init_121 rfl rfl ?_
  refine g_iconst (v := 4) C d_X11_init_122 rfl ?_
  refine g_icmp_ge C d_X11_init_123 (fun _ => ?_) (fun h => absurd (by decide) h)
  refine g_aload_n (x := gB G + 0) 1 C d_X11_init_145 rfl rfl ?_
  refine k_new (n := 141) (cells := 140) (slots := 1723) (ci := 4) (fs := [.int 0, .int 0, .null, .null, .int 0, .null, .null, .null]) C K.1 (by omega) (by omega) (by omega) inX4 tyX4 tyX4_ok wk_X11_66 wn_X4 wi_X4 rfl df_X4 (Nat.le_of_ble_eq_true rfl) (Nat.le_of_ble_eq_true rfl) d_X11_init_146 ?_
  refine g_dup C d_X11_init_149 rfl ?_
  refine k_cI (a := 141) (cells := 141) (slots := 1731) C K (n_X4_init l G (u := 2) rfl rfl (by decide) (by decide) (show kU 0 141 = 4 by decide +kernel) (show kU 2 141 = 4 by decide +kernel) hMa) (by omega) (by omega) (by omega) (up1_s _ _ _) wc_X4_init wm_X11_68 ws_X4_init wi_X4 rfl hy_X4_init ⟨(Nat.le_of_ble_eq_true rfl), (Nat.le_of_ble_eq_true rfl)⟩ (Nat.le_of_ble_eq_true rfl) ⟨(Nat.le_of_ble_eq_true rfl), (Nat.le_of_ble_eq_true rfl)⟩ d_X11_init_150 ?_
  refine g_F (F2 := FC s G 0 177 (EPx G (Mi Ma Mb) _ _ _)) (FC.c (q_jn (fun i h1 h2 => EPx_a (by omega) (by omega)))) ?_
  refine k_put (n := 177) (a := 0) (k := 9) (ty := .object "SnowSentries$Land") C K.1 (by omega) (by omega) (EPx_0 G _ _ _ _) rfl inX11 tyX11 tyX11_ok nmX11 (by decide) wf_X11_69 (Or.inl rfl) (by decide +kernel) rfl rfl (Nat.le_of_ble_eq_true rfl) d_X11_init_153 ?_
  rw [EPx_p0]
  refine g_aload_n (x := gB G + 0) 1 C d_X11_init_156 rfl rfl ?_
  refine k_new (n := 177) (cells := 176) (slots := 2000) (ci := 4) (fs := [.int 0, .int 0, .null, .null, .int 0, .null, .null, .null]) C K.1 (by omega) (by omega) (by omega) inX4 tyX4 tyX4_ok wk_X11_66 wn_X4 wi_X4 rfl df_X4 (Nat.le_of_ble_eq_true rfl) (Nat.le_of_ble_eq_true rfl) d_X11_init_157 ?_
  refine g_dup C d_X11_init_160 rfl ?_
  refine k_cI (a := 177) (cells := 177) (slots := 2008) C K (n_X4_init l G (u := 3) rfl rfl (by decide) (by decide) (show kU 0 177 = 4 by decide +kernel) (show kU 3 177 = 4 by decide +kernel) hMb) (by omega) (by omega) (by omega) (up1_s _ _ _) wc_X4_init wm_X11_68 ws_X4_init wi_X4 rfl hy_X4_init ⟨(Nat.le_of_ble_eq_true rfl), (Nat.le_of_ble_eq_true rfl)⟩ (Nat.le_of_ble_eq_true rfl) ⟨(Nat.le_of_ble_eq_true rfl), (Nat.le_of_ble_eq_true rfl)⟩ d_X11_init_161 ?_
  refine g_F (F2 := FC s G 0 213 (EPx G (Mi Ma Mb) _ _ _)) (FC.c (q_jn (fun i h1 h2 => EPx_b (by omega)))) ?_
  refine k_put (n := 213) (a := 0) (k := 10) (ty := .object "SnowSentries$Land") C K.1 (by omega) (by omega) (EPx_0 G _ _ _ _) rfl inX11 tyX11 tyX11_ok nmX11 (by decide) wf_X11_73 (Or.inl rfl) (by decide +kernel) rfl rfl (Nat.le_of_ble_eq_true rfl) d_X11_init_164 ?_
  rw [EPx_p0]
  refine g_aload_n (x := gB G + 0) 1 C d_X11_init_167 rfl rfl ?_
  refine g_iconst (v := 0) C d_X11_init_168 rfl ?_
  refine k_put (n := 213) (a := 0) (k := 11) (ty := .int) C K.1 (by omega) (by omega) (EPx_0 G _ _ _ _) rfl inX11 tyX11 tyX11_ok nmX11 (by decide) wf_X11_76 (Or.inl rfl) (by decide +kernel) rfl rfl (Nat.le_of_ble_eq_true rfl) d_X11_init_169 ?_
  rw [EPx_p0]
  refine k_vret C hlk hr rfl (fun i h1 h2 => ?_) rfl rfl d_X11_init_172
  by_cases i0 : i = 0
  · rw [i0]
    refine (EPx_0 G _ _ _ _).trans ?_
    refine Eq.trans ?_ (E_11 (show kU 0 0 = 11 by decide +kernel) G ((Mi Ma Mb).1 0) ((Mi Ma Mb).2 0)).symm
    rw [Mi_0]
    rfl
  by_cases i1 : i = 34
  · rw [i1]
    exact ((EPx_34 G _ _ _ _).trans (im_2 G)).trans (E_29 (show kU 0 34 = 29 by decide +kernel) G ((Mi Ma Mb).1 34) ((Mi Ma Mb).2 34)).symm
  by_cases i2 : i = 132
  · rw [i2]
    exact ((EPx_132 G _ _ _ _).trans (sh_4 G)).trans (E_30 (show kU 0 132 = 30 by decide +kernel) G ((Mi Ma Mb).1 132) ((Mi Ma Mb).2 132)).symm
  exact EPx_n i0 i1 i2
