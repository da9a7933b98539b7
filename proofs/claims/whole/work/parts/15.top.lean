def y_X11_feed : MethodName := ⟨"SnowSentries", "feed", "(J)I"⟩
def y_X11_end : MethodName := ⟨"SnowSentries", "end", "(I)I"⟩
def y_X11_land : MethodName := ⟨"SnowSentries", "land", "()I"⟩
def y_X11_fault : MethodName := ⟨"SnowSentries", "fault", "()I"⟩
def y_X11_rule : MethodName := ⟨"SnowSentries", "rule", "(I)I"⟩
def y_X11_isHour : MethodName := ⟨"SnowSentries", "isHour", "(I)Z"⟩
def y_X11_hour : MethodName := ⟨"SnowSentries", "hour", "(II)I"⟩
def y_X11_isFurlong : MethodName := ⟨"SnowSentries", "isFurlong", "(I)Z"⟩
def y_X11_furlong : MethodName := ⟨"SnowSentries", "furlong", "(II)I"⟩
def y_X11_isSide : MethodName := ⟨"SnowSentries", "isSide", "(I)Z"⟩
def y_X11_man : MethodName := ⟨"SnowSentries", "man", "(III)I"⟩
def y_X11_isBrazier : MethodName := ⟨"SnowSentries", "isBrazier", "(I)Z"⟩
def y_X11_brazier : MethodName := ⟨"SnowSentries", "brazier", "(II)I"⟩
def y_X11_house : MethodName := ⟨"SnowSentries", "house", "(II)I"⟩
def y_X11_shine : MethodName := ⟨"SnowSentries", "shine", "(II)I"⟩
def y_X11_treaty : MethodName := ⟨"SnowSentries", "treaty", "(II)I"⟩
def y_X11_chance : MethodName := ⟨"SnowSentries", "chance", "(I)I"⟩
def y_X11_light : MethodName := ⟨"SnowSentries", "light", "(IIII)I"⟩
def y_X11_quench : MethodName := ⟨"SnowSentries", "quench", "(I)I"⟩
def y_X11_mend : MethodName := ⟨"SnowSentries", "mend", "(III)I"⟩
def y_X11_carry : MethodName := ⟨"SnowSentries", "carry", "(III)I"⟩
def y_X11_heat : MethodName := ⟨"SnowSentries", "heat", "(IIZ)I"⟩
def y_X11_go : MethodName := ⟨"SnowSentries", "go", "(I)I"⟩
def y_X11_dawn : MethodName := ⟨"SnowSentries", "dawn", "()I"⟩
def y_X11_all : MethodName := ⟨"SnowSentries", "all", "()I"⟩
def y_X11_isFromNow : MethodName := ⟨"SnowSentries", "isFromNow", "(I)Z"⟩
def y_X11_lookAhead : MethodName := ⟨"SnowSentries", "lookAhead", "(I)V"⟩
def y_X11_later : MethodName := ⟨"SnowSentries", "later", "(III)I"⟩
def y_X11_line : MethodName := ⟨"SnowSentries", "line", "(II)I"⟩
def y_X11_houses : MethodName := ⟨"SnowSentries", "houses", "(II)I"⟩
def y_X11_holds : MethodName := ⟨"SnowSentries", "holds", "(II)I"⟩
def y_X11_need : MethodName := ⟨"SnowSentries", "need", "(III)I"⟩
def y_X11_crews : MethodName := ⟨"SnowSentries", "crews", "(IIII)I"⟩
def y_X11_lowestBit : MethodName := ⟨"SnowSentries", "lowestBit", "(I)I"⟩
def y_X11_gap : MethodName := ⟨"SnowSentries", "gap", "(II)I"⟩
def y_X11_lead : MethodName := ⟨"SnowSentries", "lead", "(III)I"⟩
def y_X11_felt : MethodName := ⟨"SnowSentries", "felt", "(I)I"⟩
def y_X11_forget : MethodName := ⟨"SnowSentries", "forget", "()I"⟩
def y_X11_spy : MethodName := ⟨"SnowSentries", "spy", "(I)I"⟩
def y_X11_spies : MethodName := ⟨"SnowSentries", "spies", "(I)I"⟩
def y_X11_odds : MethodName := ⟨"SnowSentries", "odds", "(IIII)J"⟩
def y_X11_talks : MethodName := ⟨"SnowSentries", "talks", "(I)I"⟩
def y_X11_strength : MethodName := ⟨"SnowSentries", "strength", "(I)I"⟩
def y_X11_keep : MethodName := ⟨"SnowSentries", "keep", "(I)I"⟩
def y_X11_back : MethodName := ⟨"SnowSentries", "back", "(I)I"⟩
def y_X11_isSheet : MethodName := ⟨"SnowSentries", "isSheet", "(I)Z"⟩
def y_X11_sheet : MethodName := ⟨"SnowSentries", "sheet", "(III)I"⟩
def y_X11_lay : MethodName := ⟨"SnowSentries", "lay", "(III)I"⟩
def y_X11_read : MethodName := ⟨"SnowSentries", "read", "(IIII)I"⟩
def y_X11_torn : MethodName := ⟨"SnowSentries", "torn", "()I"⟩
def y_X11_count : MethodName := ⟨"SnowSentries", "count", "(I)I"⟩
theorem kx_0 : kU 0 0 = 11 := by decide +kernel
theorem wf_X11_10 : Cond.fieldLink "SnowSentries" 10 "SnowSentries" "text" "LSnowSentries$Text;" ∈ TB := it_2 (List.mem_of_getElem? (i := 177) rfl) rfl
theorem wm_X11_80 : Cond.methodLink "SnowSentries" 80 y_X9_append ∈ TB := it_2 (List.mem_of_getElem? (i := 218) rfl) rfl
theorem wc_X9_append : Cond.code y_X9_append prog_11_method_2_code 4 (some .int) ∈ TB := it_2 (List.mem_of_getElem? (i := 221) rfl) rfl
theorem ws_X9_append : Cond.instanceMethod y_X9_append ∈ TB := it_2 (List.mem_of_getElem? (i := 219) rfl) rfl
theorem hy_X9_append : (y_X9_append).cls ≠ "java/lang/invoke/MethodHandle" ∧ (y_X9_append).cls ≠ "java/lang/invoke/VarHandle" ∧ (parseMethodDescriptor (y_X9_append).desc).map (fun d => d.parameters.length) = some 1 := by decide +kernel
theorem wl_X9_append : Cond.selects "SnowSentries$Text" y_X9_append y_X9_append ∈ TB := it_2 (List.mem_of_getElem? (i := 220) rfl) rfl
theorem wm_X11_84 : Cond.methodLink "SnowSentries" 84 y_X9_cut ∈ TB := it_2 (List.mem_of_getElem? (i := 226) rfl) rfl
theorem wc_X9_cut : Cond.code y_X9_cut prog_11_method_3_code 3 (some .int) ∈ TB := it_2 (List.mem_of_getElem? (i := 229) rfl) rfl
theorem ws_X9_cut : Cond.instanceMethod y_X9_cut ∈ TB := it_2 (List.mem_of_getElem? (i := 227) rfl) rfl
theorem hy_X9_cut : (y_X9_cut).cls ≠ "java/lang/invoke/MethodHandle" ∧ (y_X9_cut).cls ≠ "java/lang/invoke/VarHandle" ∧ (parseMethodDescriptor (y_X9_cut).desc).map (fun d => d.parameters.length) = some 1 := by decide +kernel
theorem wl_X9_cut : Cond.selects "SnowSentries$Text" y_X9_cut y_X9_cut ∈ TB := it_2 (List.mem_of_getElem? (i := 228) rfl) rfl
theorem wf_X11_73 : Cond.fieldLink "SnowSentries" 73 "SnowSentries" "draft" "LSnowSentries$Land;" ∈ TB := it_2 (List.mem_of_getElem? (i := 187) rfl) rfl
theorem wm_X11_88 : Cond.methodLink "SnowSentries" 88 y_X4_wipe ∈ TB := it_2 (List.mem_of_getElem? (i := 237) rfl) rfl
theorem wc_X4_wipe : Cond.code y_X4_wipe prog_6_method_2_code 1 none ∈ TB := it_2 (List.mem_of_getElem? (i := 119) rfl) rfl
theorem ws_X4_wipe : Cond.instanceMethod y_X4_wipe ∈ TB := it_2 (List.mem_of_getElem? (i := 117) rfl) rfl
theorem hy_X4_wipe : (y_X4_wipe).cls ≠ "java/lang/invoke/MethodHandle" ∧ (y_X4_wipe).cls ≠ "java/lang/invoke/VarHandle" ∧ (parseMethodDescriptor (y_X4_wipe).desc).map (fun d => d.parameters.length) = some 0 := by decide +kernel
theorem wl_X4_wipe : Cond.selects "SnowSentries$Land" y_X4_wipe y_X4_wipe ∈ TB := it_2 (List.mem_of_getElem? (i := 118) rfl) rfl
theorem wm_X11_91 : Cond.methodLink "SnowSentries" 91 y_X9_tell ∈ TB := it_2 (List.mem_of_getElem? (i := 238) rfl) rfl
theorem wc_X9_tell : Cond.code y_X9_tell prog_11_method_4_code 3 none ∈ TB := it_3 (List.mem_of_getElem? (i := 1) rfl) rfl
theorem ws_X9_tell : Cond.instanceMethod y_X9_tell ∈ TB := it_2 (List.mem_of_getElem? (i := 239) rfl) rfl
theorem hy_X9_tell : (y_X9_tell).cls ≠ "java/lang/invoke/MethodHandle" ∧ (y_X9_tell).cls ≠ "java/lang/invoke/VarHandle" ∧ (parseMethodDescriptor (y_X9_tell).desc).map (fun d => d.parameters.length) = some 1 := by decide +kernel
theorem wl_X9_tell : Cond.selects "SnowSentries$Text" y_X9_tell y_X9_tell ∈ TB := it_3 (List.mem_of_getElem? (i := 0) rfl) rfl
theorem wf_X11_95 : Cond.fieldLink "SnowSentries" 95 "SnowSentries$Text" "length" "I" ∈ TB := it_1 (List.mem_of_getElem? (i := 37) rfl) rfl
theorem wf_X11_98 : Cond.fieldLink "SnowSentries" 98 "SnowSentries$Text" "fault" "I" ∈ TB := it_1 (List.mem_of_getElem? (i := 41) rfl) rfl
theorem wf_X11_69 : Cond.fieldLink "SnowSentries" 69 "SnowSentries" "present" "LSnowSentries$Land;" ∈ TB := it_2 (List.mem_of_getElem? (i := 186) rfl) rfl
theorem wf_X11_34 : Cond.fieldLink "SnowSentries" 34 "SnowSentries" "rumour" "LSnowSentries$Felt;" ∈ TB := it_2 (List.mem_of_getElem? (i := 181) rfl) rfl
theorem wf_X11_104 : Cond.fieldLink "SnowSentries" 104 "SnowSentries$Felt" "size" "I" ∈ TB := it_1 (List.mem_of_getElem? (i := 211) rfl) rfl
theorem wf_X11_27 : Cond.fieldLink "SnowSentries" 27 "SnowSentries" "imaged" "[Z" ∈ TB := it_2 (List.mem_of_getElem? (i := 180) rfl) rfl
theorem kx_35 : kU 0 35 = 26 := by decide +kernel
theorem wf_X11_107 : Cond.fieldLink "SnowSentries" 107 "SnowSentries$Text" "lines" "I" ∈ TB := it_1 (List.mem_of_getElem? (i := 39) rfl) rfl
theorem wf_X11_101 : Cond.fieldLink "SnowSentries" 101 "SnowSentries$Text" "place" "I" ∈ TB := it_1 (List.mem_of_getElem? (i := 43) rfl) rfl
theorem wf_X11_110 : Cond.fieldLink "SnowSentries" 110 "SnowSentries$Land" "furlongs" "I" ∈ TB := it_2 (List.mem_of_getElem? (i := 136) rfl) rfl
theorem wf_X11_113 : Cond.fieldLink "SnowSentries" 113 "SnowSentries$Land" "scene" "LSnowSentries$Scene;" ∈ TB := it_2 (List.mem_of_getElem? (i := 159) rfl) rfl
theorem wf_X11_116 : Cond.fieldLink "SnowSentries" 116 "SnowSentries$Scene" "hour" "I" ∈ TB := it_1 (List.mem_of_getElem? (i := 166) rfl) rfl
theorem wf_X11_119 : Cond.fieldLink "SnowSentries" 119 "SnowSentries$Land" "law" "LSnowSentries$Law;" ∈ TB := it_2 (List.mem_of_getElem? (i := 145) rfl) rfl
theorem wf_X11_123 : Cond.fieldLink "SnowSentries" 123 "SnowSentries$Law" "head" "I" ∈ TB := it_2 (List.mem_of_getElem? (i := 99) rfl) rfl
theorem wf_X11_128 : Cond.fieldLink "SnowSentries" 128 "SnowSentries$Law" "eyes" "I" ∈ TB := it_2 (List.mem_of_getElem? (i := 102) rfl) rfl
theorem wf_X11_131 : Cond.fieldLink "SnowSentries" 131 "SnowSentries$Law" "uniform" "I" ∈ TB := it_2 (List.mem_of_getElem? (i := 105) rfl) rfl
theorem wf_X11_134 : Cond.fieldLink "SnowSentries" 134 "SnowSentries$Land" "chance" "I" ∈ TB := it_2 (List.mem_of_getElem? (i := 139) rfl) rfl
theorem wm_X11_166 : Cond.methodLink "SnowSentries" 166 y_X11_isAmong ∈ TB := it_3 (List.mem_of_getElem? (i := 185) rfl) rfl
theorem wm_X11_137 : Cond.methodLink "SnowSentries" 137 y_X11_isHour ∈ TB := it_3 (List.mem_of_getElem? (i := 182) rfl) rfl
theorem wc_X11_isHour : Cond.code y_X11_isHour prog_1_method_47_code 1 (some .boolean) ∈ TB := it_3 (List.mem_of_getElem? (i := 184) rfl) rfl
theorem ws_X11_isHour : Cond.static y_X11_isHour ∈ TB := it_3 (List.mem_of_getElem? (i := 183) rfl) rfl
theorem hy_X11_isHour : (y_X11_isHour).cls ≠ "java/lang/invoke/MethodHandle" ∧ (y_X11_isHour).cls ≠ "java/lang/invoke/VarHandle" ∧ (parseMethodDescriptor (y_X11_isHour).desc).map (fun d => d.parameters.length) = some 1 := by decide +kernel
theorem wf_X11_141 : Cond.fieldLink "SnowSentries" 141 "SnowSentries$Scene" "sun" "[I" ∈ TB := it_1 (List.mem_of_getElem? (i := 181) rfl) rfl
theorem wf_X11_145 : Cond.fieldLink "SnowSentries" 145 "SnowSentries$Land" "frost" "[I" ∈ TB := it_2 (List.mem_of_getElem? (i := 142) rfl) rfl
theorem wm_X11_148 : Cond.methodLink "SnowSentries" 148 y_X11_isFurlong ∈ TB := it_3 (List.mem_of_getElem? (i := 190) rfl) rfl
theorem wc_X11_isFurlong : Cond.code y_X11_isFurlong prog_1_method_49_code 2 (some .boolean) ∈ TB := it_3 (List.mem_of_getElem? (i := 193) rfl) rfl
theorem ws_X11_isFurlong : Cond.instanceMethod y_X11_isFurlong ∈ TB := it_3 (List.mem_of_getElem? (i := 192) rfl) rfl
theorem hy_X11_isFurlong : (y_X11_isFurlong).cls ≠ "java/lang/invoke/MethodHandle" ∧ (y_X11_isFurlong).cls ≠ "java/lang/invoke/VarHandle" ∧ (parseMethodDescriptor (y_X11_isFurlong).desc).map (fun d => d.parameters.length) = some 1 := by decide +kernel
theorem wl_X11_isFurlong : Cond.selects "SnowSentries" y_X11_isFurlong y_X11_isFurlong ∈ TB := TB_in (List.mem_append_left _ (List.mem_of_getElem? (i := 21) rfl)) rfl
theorem wf_X11_151 : Cond.fieldLink "SnowSentries" 151 "SnowSentries$Scene" "snow" "[I" ∈ TB := it_1 (List.mem_of_getElem? (i := 171) rfl) rfl
theorem wf_X11_154 : Cond.fieldLink "SnowSentries" 154 "SnowSentries$Scene" "water" "[I" ∈ TB := it_1 (List.mem_of_getElem? (i := 174) rfl) rfl
theorem wf_X11_157 : Cond.fieldLink "SnowSentries" 157 "SnowSentries$Scene" "lines" "[I" ∈ TB := it_1 (List.mem_of_getElem? (i := 177) rfl) rfl
theorem wm_X11_159 : Cond.methodLink "SnowSentries" 159 y_X4_counting ∈ TB := it_3 (List.mem_of_getElem? (i := 194) rfl) rfl
theorem wm_X11_163 : Cond.methodLink "SnowSentries" 163 y_X11_isSide ∈ TB := it_3 (List.mem_of_getElem? (i := 207) rfl) rfl
theorem wc_X11_isSide : Cond.code y_X11_isSide prog_1_method_46_code 1 (some .boolean) ∈ TB := it_3 (List.mem_of_getElem? (i := 209) rfl) rfl
theorem ws_X11_isSide : Cond.static y_X11_isSide ∈ TB := it_3 (List.mem_of_getElem? (i := 208) rfl) rfl
theorem hy_X11_isSide : (y_X11_isSide).cls ≠ "java/lang/invoke/MethodHandle" ∧ (y_X11_isSide).cls ≠ "java/lang/invoke/VarHandle" ∧ (parseMethodDescriptor (y_X11_isSide).desc).map (fun d => d.parameters.length) = some 1 := by decide +kernel
theorem wm_X11_170 : Cond.methodLink "SnowSentries" 170 y_X7_manOf ∈ TB := it_3 (List.mem_of_getElem? (i := 210) rfl) rfl
theorem wf_X11_174 : Cond.fieldLink "SnowSentries" 174 "SnowSentries$Man" "there" "Z" ∈ TB := it_1 (List.mem_of_getElem? (i := 122) rfl) rfl
theorem wf_X11_180 : Cond.fieldLink "SnowSentries" 180 "SnowSentries$Man" "kind" "I" ∈ TB := it_1 (List.mem_of_getElem? (i := 126) rfl) rfl
theorem wf_X11_183 : Cond.fieldLink "SnowSentries" 183 "SnowSentries$Man" "base" "I" ∈ TB := it_1 (List.mem_of_getElem? (i := 129) rfl) rfl
theorem wf_X11_186 : Cond.fieldLink "SnowSentries" 186 "SnowSentries$Man" "belly" "I" ∈ TB := it_1 (List.mem_of_getElem? (i := 132) rfl) rfl
theorem wf_X11_189 : Cond.fieldLink "SnowSentries" 189 "SnowSentries$Man" "head" "I" ∈ TB := it_1 (List.mem_of_getElem? (i := 138) rfl) rfl
theorem wf_X11_190 : Cond.fieldLink "SnowSentries" 190 "SnowSentries$Man" "eyes" "I" ∈ TB := it_1 (List.mem_of_getElem? (i := 142) rfl) rfl
theorem wf_X11_191 : Cond.fieldLink "SnowSentries" 191 "SnowSentries$Man" "uniform" "Z" ∈ TB := it_1 (List.mem_of_getElem? (i := 146) rfl) rfl
theorem wf_X11_193 : Cond.fieldLink "SnowSentries" 193 "SnowSentries$Scene" "fires" "LSnowSentries$Braziers;" ∈ TB := it_1 (List.mem_of_getElem? (i := 187) rfl) rfl
theorem wf_X11_239 : Cond.fieldLink "SnowSentries" 239 "SnowSentries$Braziers" "size" "I" ∈ TB := it_1 (List.mem_of_getElem? (i := 93) rfl) rfl
theorem wm_X11_197 : Cond.methodLink "SnowSentries" 197 y_X11_isBrazier ∈ TB := it_3 (List.mem_of_getElem? (i := 215) rfl) rfl
theorem wc_X11_isBrazier : Cond.code y_X11_isBrazier prog_1_method_50_code 2 (some .boolean) ∈ TB := it_3 (List.mem_of_getElem? (i := 218) rfl) rfl
theorem ws_X11_isBrazier : Cond.instanceMethod y_X11_isBrazier ∈ TB := it_3 (List.mem_of_getElem? (i := 217) rfl) rfl
theorem hy_X11_isBrazier : (y_X11_isBrazier).cls ≠ "java/lang/invoke/MethodHandle" ∧ (y_X11_isBrazier).cls ≠ "java/lang/invoke/VarHandle" ∧ (parseMethodDescriptor (y_X11_isBrazier).desc).map (fun d => d.parameters.length) = some 1 := by decide +kernel
theorem wl_X11_isBrazier : Cond.selects "SnowSentries" y_X11_isBrazier y_X11_isBrazier ∈ TB := TB_in (List.mem_append_left _ (List.mem_of_getElem? (i := 22) rfl)) rfl
theorem wf_X11_200 : Cond.fieldLink "SnowSentries" 200 "SnowSentries$Braziers" "furlong" "[I" ∈ TB := it_1 (List.mem_of_getElem? (i := 95) rfl) rfl
theorem wf_X11_205 : Cond.fieldLink "SnowSentries" 205 "SnowSentries$Braziers" "heat" "[I" ∈ TB := it_1 (List.mem_of_getElem? (i := 97) rfl) rfl
theorem wf_X11_208 : Cond.fieldLink "SnowSentries" 208 "SnowSentries$Braziers" "from" "[I" ∈ TB := it_1 (List.mem_of_getElem? (i := 99) rfl) rfl
theorem wf_X11_211 : Cond.fieldLink "SnowSentries" 211 "SnowSentries$Braziers" "to" "[I" ∈ TB := it_1 (List.mem_of_getElem? (i := 101) rfl) rfl
theorem wf_X11_214 : Cond.fieldLink "SnowSentries" 214 "SnowSentries$Land" "houseCount" "I" ∈ TB := it_2 (List.mem_of_getElem? (i := 148) rfl) rfl
theorem wf_X11_217 : Cond.fieldLink "SnowSentries" 217 "SnowSentries$Land" "houseFurlong" "[I" ∈ TB := it_2 (List.mem_of_getElem? (i := 151) rfl) rfl
theorem wf_X11_220 : Cond.fieldLink "SnowSentries" 220 "SnowSentries$Land" "housePlace" "[I" ∈ TB := it_2 (List.mem_of_getElem? (i := 153) rfl) rfl
theorem wm_X11_223 : Cond.methodLink "SnowSentries" 223 y_X4_ownerOf ∈ TB := it_3 (List.mem_of_getElem? (i := 223) rfl) rfl
theorem wc_X4_ownerOf : Cond.code y_X4_ownerOf prog_6_method_4_code 4 (some .int) ∈ TB := it_3 (List.mem_of_getElem? (i := 226) rfl) rfl
theorem ws_X4_ownerOf : Cond.instanceMethod y_X4_ownerOf ∈ TB := it_3 (List.mem_of_getElem? (i := 224) rfl) rfl
theorem hy_X4_ownerOf : (y_X4_ownerOf).cls ≠ "java/lang/invoke/MethodHandle" ∧ (y_X4_ownerOf).cls ≠ "java/lang/invoke/VarHandle" ∧ (parseMethodDescriptor (y_X4_ownerOf).desc).map (fun d => d.parameters.length) = some 2 := by decide +kernel
theorem wl_X4_ownerOf : Cond.selects "SnowSentries$Land" y_X4_ownerOf y_X4_ownerOf ∈ TB := it_3 (List.mem_of_getElem? (i := 225) rfl) rfl
theorem wm_X11_227 : Cond.methodLink "SnowSentries" 227 y_X5_change ∈ TB := it_3 (List.mem_of_getElem? (i := 235) rfl) rfl
theorem wc_X5_change : Cond.code y_X5_change prog_7_method_3_code 4 (some .int) ∈ TB := it_3 (List.mem_of_getElem? (i := 238) rfl) rfl
theorem ws_X5_change : Cond.instanceMethod y_X5_change ∈ TB := it_3 (List.mem_of_getElem? (i := 236) rfl) rfl
theorem hy_X5_change : (y_X5_change).cls ≠ "java/lang/invoke/MethodHandle" ∧ (y_X5_change).cls ≠ "java/lang/invoke/VarHandle" ∧ (parseMethodDescriptor (y_X5_change).desc).map (fun d => d.parameters.length) = some 2 := by decide +kernel
theorem wl_X5_change : Cond.selects "SnowSentries$Law" y_X5_change y_X5_change ∈ TB := it_3 (List.mem_of_getElem? (i := 237) rfl) rfl
theorem wm_X11_231 : Cond.methodLink "SnowSentries" 231 y_X0_isFull ∈ TB := it_4 (List.mem_of_getElem? (i := 8) rfl) rfl
theorem wm_X11_235 : Cond.methodLink "SnowSentries" 235 y_X0_put ∈ TB := it_4 (List.mem_of_getElem? (i := 9) rfl) rfl
theorem wm_X11_240 : Cond.methodLink "SnowSentries" 240 y_X0_takeAway ∈ TB := it_4 (List.mem_of_getElem? (i := 14) rfl) rfl
theorem wc_X0_takeAway : Cond.code y_X0_takeAway prog_2_method_4_code 3 none ∈ TB := it_4 (List.mem_of_getElem? (i := 17) rfl) rfl
theorem ws_X0_takeAway : Cond.instanceMethod y_X0_takeAway ∈ TB := it_4 (List.mem_of_getElem? (i := 15) rfl) rfl
theorem hy_X0_takeAway : (y_X0_takeAway).cls ≠ "java/lang/invoke/MethodHandle" ∧ (y_X0_takeAway).cls ≠ "java/lang/invoke/VarHandle" ∧ (parseMethodDescriptor (y_X0_takeAway).desc).map (fun d => d.parameters.length) = some 1 := by decide +kernel
theorem wl_X0_takeAway : Cond.selects "SnowSentries$Braziers" y_X0_takeAway y_X0_takeAway ∈ TB := it_4 (List.mem_of_getElem? (i := 16) rfl) rfl
theorem wm_X11_244 : Cond.methodLink "SnowSentries" 244 Lib.Math.abs.name ∈ TB := it_4 (List.mem_of_getElem? (i := 26) rfl) rfl
theorem wm_X11_252 : Cond.methodLink "SnowSentries" 252 y_X0_warmthOn ∈ TB := it_4 (List.mem_of_getElem? (i := 46) rfl) rfl
theorem wm_X11_249 : Cond.methodLink "SnowSentries" 249 y_X7_heatOn ∈ TB := it_4 (List.mem_of_getElem? (i := 33) rfl) rfl
theorem wm_X11_255 : Cond.methodLink "SnowSentries" 255 y_X4_passTill ∈ TB := it_4 (List.mem_of_getElem? (i := 51) rfl) rfl
theorem wc_X4_passTill : Cond.code y_X4_passTill prog_6_method_7_code 5 none ∈ TB := it_4 (List.mem_of_getElem? (i := 54) rfl) rfl
theorem ws_X4_passTill : Cond.instanceMethod y_X4_passTill ∈ TB := it_4 (List.mem_of_getElem? (i := 52) rfl) rfl
theorem hy_X4_passTill : (y_X4_passTill).cls ≠ "java/lang/invoke/MethodHandle" ∧ (y_X4_passTill).cls ≠ "java/lang/invoke/VarHandle" ∧ (parseMethodDescriptor (y_X4_passTill).desc).map (fun d => d.parameters.length) = some 2 := by decide +kernel
theorem wl_X4_passTill : Cond.selects "SnowSentries$Land" y_X4_passTill y_X4_passTill ∈ TB := it_4 (List.mem_of_getElem? (i := 53) rfl) rfl
theorem wm_X11_259 : Cond.methodLink "SnowSentries" 259 y_X7_snowInAll ∈ TB := it_4 (List.mem_of_getElem? (i := 95) rfl) rfl
theorem wc_X7_snowInAll : Cond.code y_X7_snowInAll prog_9_method_7_code 3 (some .int) ∈ TB := it_4 (List.mem_of_getElem? (i := 98) rfl) rfl
theorem ws_X7_snowInAll : Cond.instanceMethod y_X7_snowInAll ∈ TB := it_4 (List.mem_of_getElem? (i := 96) rfl) rfl
theorem hy_X7_snowInAll : (y_X7_snowInAll).cls ≠ "java/lang/invoke/MethodHandle" ∧ (y_X7_snowInAll).cls ≠ "java/lang/invoke/VarHandle" ∧ (parseMethodDescriptor (y_X7_snowInAll).desc).map (fun d => d.parameters.length) = some 0 := by decide +kernel
theorem wl_X7_snowInAll : Cond.selects "SnowSentries$Scene" y_X7_snowInAll y_X7_snowInAll ∈ TB := it_4 (List.mem_of_getElem? (i := 97) rfl) rfl
theorem wf_X11_19 : Cond.fieldLink "SnowSentries" 19 "SnowSentries" "ahead" "LSnowSentries$Scene;" ∈ TB := it_2 (List.mem_of_getElem? (i := 178) rfl) rfl
theorem kx_3 : kU 0 3 = 7 := by decide +kernel
theorem wm_X11_339 : Cond.methodLink "SnowSentries" 339 y_X7_become ∈ TB := it_4 (List.mem_of_getElem? (i := 111) rfl) rfl
theorem wc_X7_become : Cond.code y_X7_become prog_9_method_3_code 3 none ∈ TB := it_4 (List.mem_of_getElem? (i := 114) rfl) rfl
theorem ws_X7_become : Cond.instanceMethod y_X7_become ∈ TB := it_4 (List.mem_of_getElem? (i := 112) rfl) rfl
theorem hy_X7_become : (y_X7_become).cls ≠ "java/lang/invoke/MethodHandle" ∧ (y_X7_become).cls ≠ "java/lang/invoke/VarHandle" ∧ (parseMethodDescriptor (y_X7_become).desc).map (fun d => d.parameters.length) = some 1 := by decide +kernel
theorem wl_X7_become : Cond.selects "SnowSentries$Scene" y_X7_become y_X7_become ∈ TB := it_4 (List.mem_of_getElem? (i := 113) rfl) rfl
theorem wm_X11_263 : Cond.methodLink "SnowSentries" 263 y_X11_isFromNow ∈ TB := it_4 (List.mem_of_getElem? (i := 103) rfl) rfl
theorem wc_X11_isFromNow : Cond.code y_X11_isFromNow prog_1_method_51_code 2 (some .boolean) ∈ TB := it_4 (List.mem_of_getElem? (i := 106) rfl) rfl
theorem ws_X11_isFromNow : Cond.instanceMethod y_X11_isFromNow ∈ TB := it_4 (List.mem_of_getElem? (i := 105) rfl) rfl
theorem hy_X11_isFromNow : (y_X11_isFromNow).cls ≠ "java/lang/invoke/MethodHandle" ∧ (y_X11_isFromNow).cls ≠ "java/lang/invoke/VarHandle" ∧ (parseMethodDescriptor (y_X11_isFromNow).desc).map (fun d => d.parameters.length) = some 1 := by decide +kernel
theorem wl_X11_isFromNow : Cond.selects "SnowSentries" y_X11_isFromNow y_X11_isFromNow ∈ TB := TB_in (List.mem_append_left _ (List.mem_of_getElem? (i := 24) rfl)) rfl
theorem wm_X11_266 : Cond.methodLink "SnowSentries" 266 y_X11_lookAhead ∈ TB := it_4 (List.mem_of_getElem? (i := 107) rfl) rfl
theorem wc_X11_lookAhead : Cond.code y_X11_lookAhead prog_1_method_52_code 2 none ∈ TB := it_4 (List.mem_of_getElem? (i := 110) rfl) rfl
theorem ws_X11_lookAhead : Cond.instanceMethod y_X11_lookAhead ∈ TB := it_4 (List.mem_of_getElem? (i := 109) rfl) rfl
theorem hy_X11_lookAhead : (y_X11_lookAhead).cls ≠ "java/lang/invoke/MethodHandle" ∧ (y_X11_lookAhead).cls ≠ "java/lang/invoke/VarHandle" ∧ (parseMethodDescriptor (y_X11_lookAhead).desc).map (fun d => d.parameters.length) = some 1 := by decide +kernel
theorem wl_X11_lookAhead : Cond.selects "SnowSentries" y_X11_lookAhead y_X11_lookAhead ∈ TB := TB_in (List.mem_append_left _ (List.mem_of_getElem? (i := 25) rfl)) rfl
theorem kx_7 : kU 0 7 = 21 := by decide +kernel
theorem wm_X11_269 : Cond.methodLink "SnowSentries" 269 y_X4_holders ∈ TB := it_4 (List.mem_of_getElem? (i := 139) rfl) rfl
theorem wc_X4_holders : Cond.code y_X4_holders prog_6_method_11_code 5 (some .int) ∈ TB := it_4 (List.mem_of_getElem? (i := 142) rfl) rfl
theorem ws_X4_holders : Cond.instanceMethod y_X4_holders ∈ TB := it_4 (List.mem_of_getElem? (i := 140) rfl) rfl
theorem hy_X4_holders : (y_X4_holders).cls ≠ "java/lang/invoke/MethodHandle" ∧ (y_X4_holders).cls ≠ "java/lang/invoke/VarHandle" ∧ (parseMethodDescriptor (y_X4_holders).desc).map (fun d => d.parameters.length) = some 2 := by decide +kernel
theorem wl_X4_holders : Cond.selects "SnowSentries$Land" y_X4_holders y_X4_holders ∈ TB := it_4 (List.mem_of_getElem? (i := 141) rfl) rfl
theorem wm_X11_272 : Cond.methodLink "SnowSentries" 272 y_X4_needOf ∈ TB := it_4 (List.mem_of_getElem? (i := 157) rfl) rfl
theorem wf_X11_55 : Cond.fieldLink "SnowSentries" 55 "SnowSentries" "gangs" "LSnowSentries$Crews;" ∈ TB := it_2 (List.mem_of_getElem? (i := 184) rfl) rfl
theorem wm_X11_276 : Cond.methodLink "SnowSentries" 276 y_X1_send ∈ TB := it_4 (List.mem_of_getElem? (i := 162) rfl) rfl
theorem wc_X1_send : Cond.code y_X1_send prog_3_method_2_code 7 none ∈ TB := it_4 (List.mem_of_getElem? (i := 165) rfl) rfl
theorem ws_X1_send : Cond.instanceMethod y_X1_send ∈ TB := it_4 (List.mem_of_getElem? (i := 163) rfl) rfl
theorem hy_X1_send : (y_X1_send).cls ≠ "java/lang/invoke/MethodHandle" ∧ (y_X1_send).cls ≠ "java/lang/invoke/VarHandle" ∧ (parseMethodDescriptor (y_X1_send).desc).map (fun d => d.parameters.length) = some 4 := by decide +kernel
theorem wl_X1_send : Cond.selects "SnowSentries$Crews" y_X1_send y_X1_send ∈ TB := it_4 (List.mem_of_getElem? (i := 164) rfl) rfl
theorem wf_X11_280 : Cond.fieldLink "SnowSentries" 280 "SnowSentries$Crews" "held" "I" ∈ TB := it_2 (List.mem_of_getElem? (i := 46) rfl) rfl
theorem wf_X11_283 : Cond.fieldLink "SnowSentries" 283 "SnowSentries$Crews" "snow" "I" ∈ TB := it_2 (List.mem_of_getElem? (i := 48) rfl) rfl
theorem wf_X11_285 : Cond.fieldLink "SnowSentries" 285 "SnowSentries$Crews" "bits" "I" ∈ TB := it_2 (List.mem_of_getElem? (i := 50) rfl) rfl
theorem wm_X11_288 : Cond.methodLink "SnowSentries" 288 y_X11_lowestBit ∈ TB := it_4 (List.mem_of_getElem? (i := 175) rfl) rfl
theorem wc_X11_lowestBit : Cond.code y_X11_lowestBit prog_1_method_53_code 2 (some .int) ∈ TB := it_4 (List.mem_of_getElem? (i := 177) rfl) rfl
theorem ws_X11_lowestBit : Cond.static y_X11_lowestBit ∈ TB := it_4 (List.mem_of_getElem? (i := 176) rfl) rfl
theorem hy_X11_lowestBit : (y_X11_lowestBit).cls ≠ "java/lang/invoke/MethodHandle" ∧ (y_X11_lowestBit).cls ≠ "java/lang/invoke/VarHandle" ∧ (parseMethodDescriptor (y_X11_lowestBit).desc).map (fun d => d.parameters.length) = some 1 := by decide +kernel
theorem wf_X11_41 : Cond.fieldLink "SnowSentries" 41 "SnowSentries" "ways" "LSnowSentries$Ways;" ∈ TB := it_2 (List.mem_of_getElem? (i := 182) rfl) rfl
theorem wm_X11_291 : Cond.methodLink "SnowSentries" 291 y_X10_weigh ∈ TB := it_4 (List.mem_of_getElem? (i := 182) rfl) rfl
theorem wc_X10_weigh : Cond.code y_X10_weigh prog_12_method_2_code 4 none ∈ TB := it_4 (List.mem_of_getElem? (i := 185) rfl) rfl
theorem ws_X10_weigh : Cond.instanceMethod y_X10_weigh ∈ TB := it_4 (List.mem_of_getElem? (i := 183) rfl) rfl
theorem hy_X10_weigh : (y_X10_weigh).cls ≠ "java/lang/invoke/MethodHandle" ∧ (y_X10_weigh).cls ≠ "java/lang/invoke/VarHandle" ∧ (parseMethodDescriptor (y_X10_weigh).desc).map (fun d => d.parameters.length) = some 1 := by decide +kernel
theorem wl_X10_weigh : Cond.selects "SnowSentries$Ways" y_X10_weigh y_X10_weigh ∈ TB := it_4 (List.mem_of_getElem? (i := 184) rfl) rfl
theorem wm_X11_297 : Cond.methodLink "SnowSentries" 297 y_X10_placeOn ∈ TB := it_4 (List.mem_of_getElem? (i := 197) rfl) rfl
theorem wc_X10_placeOn : Cond.code y_X10_placeOn prog_12_method_5_code 7 (some .int) ∈ TB := it_4 (List.mem_of_getElem? (i := 200) rfl) rfl
theorem ws_X10_placeOn : Cond.instanceMethod y_X10_placeOn ∈ TB := it_4 (List.mem_of_getElem? (i := 198) rfl) rfl
theorem hy_X10_placeOn : (y_X10_placeOn).cls ≠ "java/lang/invoke/MethodHandle" ∧ (y_X10_placeOn).cls ≠ "java/lang/invoke/VarHandle" ∧ (parseMethodDescriptor (y_X10_placeOn).desc).map (fun d => d.parameters.length) = some 3 := by decide +kernel
theorem wl_X10_placeOn : Cond.selects "SnowSentries$Ways" y_X10_placeOn y_X10_placeOn ∈ TB := it_4 (List.mem_of_getElem? (i := 199) rfl) rfl
theorem wm_X11_294 : Cond.methodLink "SnowSentries" 294 y_X10_lastOf ∈ TB := it_4 (List.mem_of_getElem? (i := 192) rfl) rfl
theorem wm_X11_300 : Cond.methodLink "SnowSentries" 300 y_X2_put ∈ TB := it_4 (List.mem_of_getElem? (i := 210) rfl) rfl
theorem wc_X2_put : Cond.code y_X2_put prog_4_method_2_code 2 none ∈ TB := it_4 (List.mem_of_getElem? (i := 213) rfl) rfl
theorem ws_X2_put : Cond.instanceMethod y_X2_put ∈ TB := it_4 (List.mem_of_getElem? (i := 211) rfl) rfl
theorem hy_X2_put : (y_X2_put).cls ≠ "java/lang/invoke/MethodHandle" ∧ (y_X2_put).cls ≠ "java/lang/invoke/VarHandle" ∧ (parseMethodDescriptor (y_X2_put).desc).map (fun d => d.parameters.length) = some 1 := by decide +kernel
theorem wl_X2_put : Cond.selects "SnowSentries$Felt" y_X2_put y_X2_put ∈ TB := it_4 (List.mem_of_getElem? (i := 212) rfl) rfl
theorem wm_X11_302 : Cond.methodLink "SnowSentries" 302 y_X2_seekOne ∈ TB := it_4 (List.mem_of_getElem? (i := 222) rfl) rfl
theorem wc_X2_seekOne : Cond.code y_X2_seekOne prog_4_method_3_code 4 none ∈ TB := it_4 (List.mem_of_getElem? (i := 225) rfl) rfl
theorem ws_X2_seekOne : Cond.instanceMethod y_X2_seekOne ∈ TB := it_4 (List.mem_of_getElem? (i := 223) rfl) rfl
theorem hy_X2_seekOne : (y_X2_seekOne).cls ≠ "java/lang/invoke/MethodHandle" ∧ (y_X2_seekOne).cls ≠ "java/lang/invoke/VarHandle" ∧ (parseMethodDescriptor (y_X2_seekOne).desc).map (fun d => d.parameters.length) = some 1 := by decide +kernel
theorem wl_X2_seekOne : Cond.selects "SnowSentries$Felt" y_X2_seekOne y_X2_seekOne ∈ TB := it_4 (List.mem_of_getElem? (i := 224) rfl) rfl
theorem wf_X11_305 : Cond.fieldLink "SnowSentries" 305 "SnowSentries$Felt" "found" "I" ∈ TB := it_1 (List.mem_of_getElem? (i := 213) rfl) rfl
theorem wf_X11_311 : Cond.fieldLink "SnowSentries" 311 "SnowSentries$Felt" "firstHeat" "I" ∈ TB := it_1 (List.mem_of_getElem? (i := 219) rfl) rfl
theorem wf_X11_308 : Cond.fieldLink "SnowSentries" 308 "SnowSentries$Felt" "firstFurlong" "I" ∈ TB := it_1 (List.mem_of_getElem? (i := 215) rfl) rfl
theorem wm_X11_314 : Cond.methodLink "SnowSentries" 314 y_X2_seekTwo ∈ TB := it_4 (List.mem_of_getElem? (i := 239) rfl) rfl
theorem wc_X2_seekTwo : Cond.code y_X2_seekTwo prog_4_method_4_code 4 none ∈ TB := it_5 (List.mem_of_getElem? (i := 2) rfl) rfl
theorem ws_X2_seekTwo : Cond.instanceMethod y_X2_seekTwo ∈ TB := it_5 (List.mem_of_getElem? (i := 0) rfl) rfl
theorem hy_X2_seekTwo : (y_X2_seekTwo).cls ≠ "java/lang/invoke/MethodHandle" ∧ (y_X2_seekTwo).cls ≠ "java/lang/invoke/VarHandle" ∧ (parseMethodDescriptor (y_X2_seekTwo).desc).map (fun d => d.parameters.length) = some 1 := by decide +kernel
theorem wl_X2_seekTwo : Cond.selects "SnowSentries$Felt" y_X2_seekTwo y_X2_seekTwo ∈ TB := it_5 (List.mem_of_getElem? (i := 1) rfl) rfl
theorem wf_X11_320 : Cond.fieldLink "SnowSentries" 320 "SnowSentries$Felt" "otherHeat" "I" ∈ TB := it_1 (List.mem_of_getElem? (i := 221) rfl) rfl
theorem wf_X11_317 : Cond.fieldLink "SnowSentries" 317 "SnowSentries$Felt" "otherFurlong" "I" ∈ TB := it_1 (List.mem_of_getElem? (i := 217) rfl) rfl
theorem wk_X11_323 : Cond.constantLong "SnowSentries" 323 (-1 : Int64) ∈ TB := it_5 (List.mem_of_getElem? (i := 11) rfl) rfl
theorem wf_X11_48 : Cond.fieldLink "SnowSentries" 48 "SnowSentries" "forecast" "LSnowSentries$Forecast;" ∈ TB := it_2 (List.mem_of_getElem? (i := 183) rfl) rfl
theorem wm_X11_327 : Cond.methodLink "SnowSentries" 327 y_X3_weigh ∈ TB := it_5 (List.mem_of_getElem? (i := 13) rfl) rfl
theorem wc_X3_weigh : Cond.code y_X3_weigh prog_5_method_2_code 11 none ∈ TB := it_5 (List.mem_of_getElem? (i := 16) rfl) rfl
theorem ws_X3_weigh : Cond.instanceMethod y_X3_weigh ∈ TB := it_5 (List.mem_of_getElem? (i := 14) rfl) rfl
theorem hy_X3_weigh : (y_X3_weigh).cls ≠ "java/lang/invoke/MethodHandle" ∧ (y_X3_weigh).cls ≠ "java/lang/invoke/VarHandle" ∧ (parseMethodDescriptor (y_X3_weigh).desc).map (fun d => d.parameters.length) = some 4 := by decide +kernel
theorem wl_X3_weigh : Cond.selects "SnowSentries$Forecast" y_X3_weigh y_X3_weigh ∈ TB := it_5 (List.mem_of_getElem? (i := 15) rfl) rfl
theorem wf_X11_333 : Cond.fieldLink "SnowSentries" 333 "SnowSentries$Forecast" "denominator" "J" ∈ TB := it_2 (List.mem_of_getElem? (i := 29) rfl) rfl
theorem wf_X11_329 : Cond.fieldLink "SnowSentries" 329 "SnowSentries$Forecast" "numerator" "J" ∈ TB := it_2 (List.mem_of_getElem? (i := 27) rfl) rfl
theorem wk_X11_325 : Cond.constantLong "SnowSentries" 325 (-4 : Int64) ∈ TB := it_5 (List.mem_of_getElem? (i := 12) rfl) rfl
theorem wm_X11_336 : Cond.methodLink "SnowSentries" 336 y_X4_strengthBy ∈ TB := it_5 (List.mem_of_getElem? (i := 42) rfl) rfl
theorem wc_X4_strengthBy : Cond.code y_X4_strengthBy prog_6_method_6_code 6 (some .int) ∈ TB := it_5 (List.mem_of_getElem? (i := 45) rfl) rfl
theorem ws_X4_strengthBy : Cond.instanceMethod y_X4_strengthBy ∈ TB := it_5 (List.mem_of_getElem? (i := 43) rfl) rfl
theorem hy_X4_strengthBy : (y_X4_strengthBy).cls ≠ "java/lang/invoke/MethodHandle" ∧ (y_X4_strengthBy).cls ≠ "java/lang/invoke/VarHandle" ∧ (parseMethodDescriptor (y_X4_strengthBy).desc).map (fun d => d.parameters.length) = some 2 := by decide +kernel
theorem wl_X4_strengthBy : Cond.selects "SnowSentries$Land" y_X4_strengthBy y_X4_strengthBy ∈ TB := it_5 (List.mem_of_getElem? (i := 44) rfl) rfl
theorem wf_X11_23 : Cond.fieldLink "SnowSentries" 23 "SnowSentries" "images" "[LSnowSentries$Scene;" ∈ TB := it_2 (List.mem_of_getElem? (i := 179) rfl) rfl
theorem kx_34 : kU 0 34 = 29 := by decide +kernel
theorem wm_X11_343 : Cond.methodLink "SnowSentries" 343 y_X11_isSheet ∈ TB := it_5 (List.mem_of_getElem? (i := 62) rfl) rfl
theorem wc_X11_isSheet : Cond.code y_X11_isSheet prog_1_method_48_code 1 (some .boolean) ∈ TB := it_5 (List.mem_of_getElem? (i := 64) rfl) rfl
theorem ws_X11_isSheet : Cond.static y_X11_isSheet ∈ TB := it_5 (List.mem_of_getElem? (i := 63) rfl) rfl
theorem hy_X11_isSheet : (y_X11_isSheet).cls ≠ "java/lang/invoke/MethodHandle" ∧ (y_X11_isSheet).cls ≠ "java/lang/invoke/VarHandle" ∧ (parseMethodDescriptor (y_X11_isSheet).desc).map (fun d => d.parameters.length) = some 1 := by decide +kernel
theorem wf_X11_61 : Cond.fieldLink "SnowSentries" 61 "SnowSentries" "sheets" "[LSnowSentries$Sheet;" ∈ TB := it_2 (List.mem_of_getElem? (i := 185) rfl) rfl
theorem kx_132 : kU 0 132 = 30 := by decide +kernel
theorem wm_X11_346 : Cond.methodLink "SnowSentries" 346 y_X8_renew ∈ TB := it_5 (List.mem_of_getElem? (i := 65) rfl) rfl
theorem wc_X8_renew : Cond.code y_X8_renew prog_10_method_2_code 3 none ∈ TB := it_5 (List.mem_of_getElem? (i := 68) rfl) rfl
theorem ws_X8_renew : Cond.instanceMethod y_X8_renew ∈ TB := it_5 (List.mem_of_getElem? (i := 66) rfl) rfl
theorem wi_X8 : Cond.initialized "SnowSentries$Sheet" ∈ TB := it_1 (List.mem_of_getElem? (i := 10) rfl) rfl
theorem hy_X8_renew : (y_X8_renew).cls ≠ "java/lang/invoke/MethodHandle" ∧ (y_X8_renew).cls ≠ "java/lang/invoke/VarHandle" ∧ (parseMethodDescriptor (y_X8_renew).desc).map (fun d => d.parameters.length) = some 2 := by decide +kernel
theorem wl_X8_renew : Cond.selects "SnowSentries$Sheet" y_X8_renew y_X8_renew ∈ TB := it_5 (List.mem_of_getElem? (i := 67) rfl) rfl
theorem wf_X11_350 : Cond.fieldLink "SnowSentries" 350 "SnowSentries$Sheet" "there" "Z" ∈ TB := it_2 (List.mem_of_getElem? (i := 69) rfl) rfl
theorem wf_X11_351 : Cond.fieldLink "SnowSentries" 351 "SnowSentries$Sheet" "size" "I" ∈ TB := it_2 (List.mem_of_getElem? (i := 71) rfl) rfl
theorem wm_X11_352 : Cond.methodLink "SnowSentries" 352 y_X8_put ∈ TB := it_5 (List.mem_of_getElem? (i := 74) rfl) rfl
theorem wc_X8_put : Cond.code y_X8_put prog_10_method_3_code 3 none ∈ TB := it_5 (List.mem_of_getElem? (i := 77) rfl) rfl
theorem ws_X8_put : Cond.instanceMethod y_X8_put ∈ TB := it_5 (List.mem_of_getElem? (i := 75) rfl) rfl
theorem hy_X8_put : (y_X8_put).cls ≠ "java/lang/invoke/MethodHandle" ∧ (y_X8_put).cls ≠ "java/lang/invoke/VarHandle" ∧ (parseMethodDescriptor (y_X8_put).desc).map (fun d => d.parameters.length) = some 2 := by decide +kernel
theorem wl_X8_put : Cond.selects "SnowSentries$Sheet" y_X8_put y_X8_put ∈ TB := it_5 (List.mem_of_getElem? (i := 76) rfl) rfl
theorem wf_X11_76 : Cond.fieldLink "SnowSentries" 76 "SnowSentries" "tear" "I" ∈ TB := it_2 (List.mem_of_getElem? (i := 188) rfl) rfl
theorem wm_X11_360 : Cond.methodLink "SnowSentries" 360 y_X8_faultFor ∈ TB := it_5 (List.mem_of_getElem? (i := 88) rfl) rfl
theorem wc_X8_faultFor : Cond.code y_X8_faultFor prog_10_method_5_code 2 (some .int) ∈ TB := it_5 (List.mem_of_getElem? (i := 91) rfl) rfl
theorem ws_X8_faultFor : Cond.instanceMethod y_X8_faultFor ∈ TB := it_5 (List.mem_of_getElem? (i := 89) rfl) rfl
theorem hy_X8_faultFor : (y_X8_faultFor).cls ≠ "java/lang/invoke/MethodHandle" ∧ (y_X8_faultFor).cls ≠ "java/lang/invoke/VarHandle" ∧ (parseMethodDescriptor (y_X8_faultFor).desc).map (fun d => d.parameters.length) = some 1 := by decide +kernel
theorem wl_X8_faultFor : Cond.selects "SnowSentries$Sheet" y_X8_faultFor y_X8_faultFor ∈ TB := it_5 (List.mem_of_getElem? (i := 90) rfl) rfl
theorem wf_X11_357 : Cond.fieldLink "SnowSentries" 357 "SnowSentries$Sheet" "cells" "[I" ∈ TB := it_2 (List.mem_of_getElem? (i := 73) rfl) rfl
theorem wm_X11_354 : Cond.methodLink "SnowSentries" 354 y_X8_readable ∈ TB := it_5 (List.mem_of_getElem? (i := 82) rfl) rfl
theorem wc_X8_readable : Cond.code y_X8_readable prog_10_method_4_code 4 (some .int) ∈ TB := it_5 (List.mem_of_getElem? (i := 85) rfl) rfl
theorem ws_X8_readable : Cond.instanceMethod y_X8_readable ∈ TB := it_5 (List.mem_of_getElem? (i := 83) rfl) rfl
theorem hy_X8_readable : (y_X8_readable).cls ≠ "java/lang/invoke/MethodHandle" ∧ (y_X8_readable).cls ≠ "java/lang/invoke/VarHandle" ∧ (parseMethodDescriptor (y_X8_readable).desc).map (fun d => d.parameters.length) = some 3 := by decide +kernel
theorem wl_X8_readable : Cond.selects "SnowSentries$Sheet" y_X8_readable y_X8_readable ∈ TB := it_5 (List.mem_of_getElem? (i := 84) rfl) rfl
theorem wm_X11_363 : Cond.methodLink "SnowSentries" 363 y_X7_menInAll ∈ TB := it_5 (List.mem_of_getElem? (i := 100) rfl) rfl
theorem wc_X7_menInAll : Cond.code y_X7_menInAll prog_9_method_6_code 3 (some .int) ∈ TB := it_5 (List.mem_of_getElem? (i := 103) rfl) rfl
theorem ws_X7_menInAll : Cond.instanceMethod y_X7_menInAll ∈ TB := it_5 (List.mem_of_getElem? (i := 101) rfl) rfl
theorem hy_X7_menInAll : (y_X7_menInAll).cls ≠ "java/lang/invoke/MethodHandle" ∧ (y_X7_menInAll).cls ≠ "java/lang/invoke/VarHandle" ∧ (parseMethodDescriptor (y_X7_menInAll).desc).map (fun d => d.parameters.length) = some 0 := by decide +kernel
theorem wl_X7_menInAll : Cond.selects "SnowSentries$Scene" y_X7_menInAll y_X7_menInAll ∈ TB := it_5 (List.mem_of_getElem? (i := 102) rfl) rfl
theorem d_X11_feed_0 : DD prog_1_method_2_code 0 (.aload_n 0) 1 1 := ⟨by decide +kernel, rfl⟩
theorem d_X11_feed_1 : DD prog_1_method_2_code 1 (.getfield 10) 3 4 := ⟨by decide +kernel, rfl⟩
theorem d_X11_feed_4 : DD prog_1_method_2_code 4 (.lload_n 1) 1 5 := ⟨by decide +kernel, rfl⟩
theorem d_X11_feed_5 : DD prog_1_method_2_code 5 (.invokevirtual 80) 3 8 := ⟨by decide +kernel, rfl⟩
theorem d_X11_feed_8 : DD prog_1_method_2_code 8 (.ireturn) 1 9 := ⟨by decide +kernel, rfl⟩
theorem d_X11_end_0 : DD prog_1_method_3_code 0 (.aload_n 0) 1 1 := ⟨by decide +kernel, rfl⟩
theorem d_X11_end_1 : DD prog_1_method_3_code 1 (.getfield 10) 3 4 := ⟨by decide +kernel, rfl⟩
theorem d_X11_end_4 : DD prog_1_method_3_code 4 (.iload_n 1) 1 5 := ⟨by decide +kernel, rfl⟩
theorem d_X11_end_5 : DD prog_1_method_3_code 5 (.invokevirtual 84) 3 8 := ⟨by decide +kernel, rfl⟩
theorem d_X11_end_8 : DD prog_1_method_3_code 8 (.ireturn) 1 9 := ⟨by decide +kernel, rfl⟩
theorem d_X11_land_0 : DD prog_1_method_4_code 0 (.aload_n 0) 1 1 := ⟨by decide +kernel, rfl⟩
theorem d_X11_land_1 : DD prog_1_method_4_code 1 (.getfield 73) 3 4 := ⟨by decide +kernel, rfl⟩
theorem d_X11_land_4 : DD prog_1_method_4_code 4 (.invokevirtual 88) 3 7 := ⟨by decide +kernel, rfl⟩
theorem d_X11_land_7 : DD prog_1_method_4_code 7 (.aload_n 0) 1 8 := ⟨by decide +kernel, rfl⟩
theorem d_X11_land_8 : DD prog_1_method_4_code 8 (.getfield 10) 3 11 := ⟨by decide +kernel, rfl⟩
theorem d_X11_land_11 : DD prog_1_method_4_code 11 (.aload_n 0) 1 12 := ⟨by decide +kernel, rfl⟩
theorem d_X11_land_12 : DD prog_1_method_4_code 12 (.getfield 73) 3 15 := ⟨by decide +kernel, rfl⟩
theorem d_X11_land_15 : DD prog_1_method_4_code 15 (.invokevirtual 91) 3 18 := ⟨by decide +kernel, rfl⟩
theorem d_X11_land_18 : DD prog_1_method_4_code 18 (.aload_n 0) 1 19 := ⟨by decide +kernel, rfl⟩
theorem d_X11_land_19 : DD prog_1_method_4_code 19 (.getfield 10) 3 22 := ⟨by decide +kernel, rfl⟩
theorem d_X11_land_22 : DD prog_1_method_4_code 22 (.iconst 0) 1 23 := ⟨by decide +kernel, rfl⟩
theorem d_X11_land_23 : DD prog_1_method_4_code 23 (.putfield 95) 3 26 := ⟨by decide +kernel, rfl⟩
theorem d_X11_land_26 : DD prog_1_method_4_code 26 (.aload_n 0) 1 27 := ⟨by decide +kernel, rfl⟩
theorem d_X11_land_27 : DD prog_1_method_4_code 27 (.getfield 10) 3 30 := ⟨by decide +kernel, rfl⟩
theorem d_X11_land_30 : DD prog_1_method_4_code 30 (.getfield 98) 3 33 := ⟨by decide +kernel, rfl⟩
theorem d_X11_land_33 : DJ prog_1_method_4_code 33 (fun o => .ifCond .eq o) 47 3 36 := ⟨by decide +kernel, rfl⟩
theorem d_X11_land_36 : DD prog_1_method_4_code 36 (.bipush (-10)) 2 38 := ⟨by decide +kernel, rfl⟩
theorem d_X11_land_38 : DD prog_1_method_4_code 38 (.aload_n 0) 1 39 := ⟨by decide +kernel, rfl⟩
theorem d_X11_land_39 : DD prog_1_method_4_code 39 (.getfield 10) 3 42 := ⟨by decide +kernel, rfl⟩
theorem d_X11_land_42 : DD prog_1_method_4_code 42 (.getfield 101) 3 45 := ⟨by decide +kernel, rfl⟩
theorem d_X11_land_45 : DD prog_1_method_4_code 45 (.isub) 1 46 := ⟨by decide +kernel, rfl⟩
theorem d_X11_land_46 : DD prog_1_method_4_code 46 (.ireturn) 1 47 := ⟨by decide +kernel, rfl⟩
theorem d_X11_land_47 : DD prog_1_method_4_code 47 (.aload_n 0) 1 48 := ⟨by decide +kernel, rfl⟩
theorem d_X11_land_48 : DD prog_1_method_4_code 48 (.getfield 69) 3 51 := ⟨by decide +kernel, rfl⟩
theorem d_X11_land_51 : DD prog_1_method_4_code 51 (.astore_n 1) 1 52 := ⟨by decide +kernel, rfl⟩
theorem d_X11_land_52 : DD prog_1_method_4_code 52 (.aload_n 0) 1 53 := ⟨by decide +kernel, rfl⟩
theorem d_X11_land_53 : DD prog_1_method_4_code 53 (.aload_n 0) 1 54 := ⟨by decide +kernel, rfl⟩
theorem d_X11_land_54 : DD prog_1_method_4_code 54 (.getfield 73) 3 57 := ⟨by decide +kernel, rfl⟩
theorem d_X11_land_57 : DD prog_1_method_4_code 57 (.putfield 69) 3 60 := ⟨by decide +kernel, rfl⟩
theorem d_X11_land_60 : DD prog_1_method_4_code 60 (.aload_n 0) 1 61 := ⟨by decide +kernel, rfl⟩
theorem d_X11_land_61 : DD prog_1_method_4_code 61 (.aload_n 1) 1 62 := ⟨by decide +kernel, rfl⟩
theorem d_X11_land_62 : DD prog_1_method_4_code 62 (.putfield 73) 3 65 := ⟨by decide +kernel, rfl⟩
theorem d_X11_land_65 : DD prog_1_method_4_code 65 (.aload_n 0) 1 66 := ⟨by decide +kernel, rfl⟩
theorem d_X11_land_66 : DD prog_1_method_4_code 66 (.getfield 34) 3 69 := ⟨by decide +kernel, rfl⟩
theorem d_X11_land_69 : DD prog_1_method_4_code 69 (.iconst 0) 1 70 := ⟨by decide +kernel, rfl⟩
theorem d_X11_land_70 : DD prog_1_method_4_code 70 (.putfield 104) 3 73 := ⟨by decide +kernel, rfl⟩
theorem d_X11_land_73 : DD prog_1_method_4_code 73 (.aload_n 0) 1 74 := ⟨by decide +kernel, rfl⟩
theorem d_X11_land_74 : DD prog_1_method_4_code 74 (.getfield 27) 3 77 := ⟨by decide +kernel, rfl⟩
theorem d_X11_land_77 : DD prog_1_method_4_code 77 (.iconst 0) 1 78 := ⟨by decide +kernel, rfl⟩
theorem d_X11_land_78 : DD prog_1_method_4_code 78 (.iconst 0) 1 79 := ⟨by decide +kernel, rfl⟩
theorem d_X11_land_79 : DD prog_1_method_4_code 79 (.bastore) 1 80 := ⟨by decide +kernel, rfl⟩
theorem d_X11_land_80 : DD prog_1_method_4_code 80 (.aload_n 0) 1 81 := ⟨by decide +kernel, rfl⟩
theorem d_X11_land_81 : DD prog_1_method_4_code 81 (.getfield 27) 3 84 := ⟨by decide +kernel, rfl⟩
theorem d_X11_land_84 : DD prog_1_method_4_code 84 (.iconst 1) 1 85 := ⟨by decide +kernel, rfl⟩
theorem d_X11_land_85 : DD prog_1_method_4_code 85 (.iconst 0) 1 86 := ⟨by decide +kernel, rfl⟩
theorem d_X11_land_86 : DD prog_1_method_4_code 86 (.bastore) 1 87 := ⟨by decide +kernel, rfl⟩
theorem d_X11_land_87 : DD prog_1_method_4_code 87 (.aload_n 0) 1 88 := ⟨by decide +kernel, rfl⟩
theorem d_X11_land_88 : DD prog_1_method_4_code 88 (.getfield 10) 3 91 := ⟨by decide +kernel, rfl⟩
theorem d_X11_land_91 : DD prog_1_method_4_code 91 (.getfield 107) 3 94 := ⟨by decide +kernel, rfl⟩
theorem d_X11_land_94 : DD prog_1_method_4_code 94 (.ireturn) 1 95 := ⟨by decide +kernel, rfl⟩
theorem d_X11_fault_0 : DD prog_1_method_5_code 0 (.aload_n 0) 1 1 := ⟨by decide +kernel, rfl⟩
theorem d_X11_fault_1 : DD prog_1_method_5_code 1 (.getfield 10) 3 4 := ⟨by decide +kernel, rfl⟩
theorem d_X11_fault_4 : DD prog_1_method_5_code 4 (.getfield 98) 3 7 := ⟨by decide +kernel, rfl⟩
theorem d_X11_fault_7 : DD prog_1_method_5_code 7 (.ireturn) 1 8 := ⟨by decide +kernel, rfl⟩
theorem d_X11_rule_0 : DD prog_1_method_6_code 0 (.iload_n 1) 1 1 := ⟨by decide +kernel, rfl⟩
theorem d_X11_rule_1 : DD prog_1_method_6_code 1 (.tableswitch 99 0 5 #[39, 47, 58, 69, 80, 91]) 39 40 := ⟨by decide +kernel, rfl⟩
theorem d_X11_rule_40 : DD prog_1_method_6_code 40 (.aload_n 0) 1 41 := ⟨by decide +kernel, rfl⟩
theorem d_X11_rule_41 : DD prog_1_method_6_code 41 (.getfield 69) 3 44 := ⟨by decide +kernel, rfl⟩
theorem d_X11_rule_44 : DD prog_1_method_6_code 44 (.getfield 110) 3 47 := ⟨by decide +kernel, rfl⟩
theorem d_X11_rule_47 : DD prog_1_method_6_code 47 (.ireturn) 1 48 := ⟨by decide +kernel, rfl⟩
theorem d_X11_rule_48 : DD prog_1_method_6_code 48 (.aload_n 0) 1 49 := ⟨by decide +kernel, rfl⟩
theorem d_X11_rule_49 : DD prog_1_method_6_code 49 (.getfield 69) 3 52 := ⟨by decide +kernel, rfl⟩
theorem d_X11_rule_52 : DD prog_1_method_6_code 52 (.getfield 113) 3 55 := ⟨by decide +kernel, rfl⟩
theorem d_X11_rule_55 : DD prog_1_method_6_code 55 (.getfield 116) 3 58 := ⟨by decide +kernel, rfl⟩
theorem d_X11_rule_58 : DD prog_1_method_6_code 58 (.ireturn) 1 59 := ⟨by decide +kernel, rfl⟩
theorem d_X11_rule_59 : DD prog_1_method_6_code 59 (.aload_n 0) 1 60 := ⟨by decide +kernel, rfl⟩
theorem d_X11_rule_60 : DD prog_1_method_6_code 60 (.getfield 69) 3 63 := ⟨by decide +kernel, rfl⟩
theorem d_X11_rule_63 : DD prog_1_method_6_code 63 (.getfield 119) 3 66 := ⟨by decide +kernel, rfl⟩
theorem d_X11_rule_66 : DD prog_1_method_6_code 66 (.getfield 123) 3 69 := ⟨by decide +kernel, rfl⟩
theorem d_X11_rule_69 : DD prog_1_method_6_code 69 (.ireturn) 1 70 := ⟨by decide +kernel, rfl⟩
theorem d_X11_rule_70 : DD prog_1_method_6_code 70 (.aload_n 0) 1 71 := ⟨by decide +kernel, rfl⟩
theorem d_X11_rule_71 : DD prog_1_method_6_code 71 (.getfield 69) 3 74 := ⟨by decide +kernel, rfl⟩
theorem d_X11_rule_74 : DD prog_1_method_6_code 74 (.getfield 119) 3 77 := ⟨by decide +kernel, rfl⟩
theorem d_X11_rule_77 : DD prog_1_method_6_code 77 (.getfield 128) 3 80 := ⟨by decide +kernel, rfl⟩
theorem d_X11_rule_80 : DD prog_1_method_6_code 80 (.ireturn) 1 81 := ⟨by decide +kernel, rfl⟩
theorem d_X11_rule_81 : DD prog_1_method_6_code 81 (.aload_n 0) 1 82 := ⟨by decide +kernel, rfl⟩
theorem d_X11_rule_82 : DD prog_1_method_6_code 82 (.getfield 69) 3 85 := ⟨by decide +kernel, rfl⟩
theorem d_X11_rule_85 : DD prog_1_method_6_code 85 (.getfield 119) 3 88 := ⟨by decide +kernel, rfl⟩
theorem d_X11_rule_88 : DD prog_1_method_6_code 88 (.getfield 131) 3 91 := ⟨by decide +kernel, rfl⟩
theorem d_X11_rule_91 : DD prog_1_method_6_code 91 (.ireturn) 1 92 := ⟨by decide +kernel, rfl⟩
theorem d_X11_rule_92 : DD prog_1_method_6_code 92 (.aload_n 0) 1 93 := ⟨by decide +kernel, rfl⟩
theorem d_X11_rule_93 : DD prog_1_method_6_code 93 (.getfield 69) 3 96 := ⟨by decide +kernel, rfl⟩
theorem d_X11_rule_96 : DD prog_1_method_6_code 96 (.getfield 134) 3 99 := ⟨by decide +kernel, rfl⟩
theorem d_X11_rule_99 : DD prog_1_method_6_code 99 (.ireturn) 1 100 := ⟨by decide +kernel, rfl⟩
theorem d_X11_rule_100 : DD prog_1_method_6_code 100 (.iconst (-1)) 1 101 := ⟨by decide +kernel, rfl⟩
theorem d_X11_rule_101 : DD prog_1_method_6_code 101 (.ireturn) 1 102 := ⟨by decide +kernel, rfl⟩
theorem d_X11_isHour_0 : DD prog_1_method_47_code 0 (.iload_n 0) 1 1 := ⟨by decide +kernel, rfl⟩
theorem d_X11_isHour_1 : DD prog_1_method_47_code 1 (.iconst 0) 1 2 := ⟨by decide +kernel, rfl⟩
theorem d_X11_isHour_2 : DD prog_1_method_47_code 2 (.bipush 11) 2 4 := ⟨by decide +kernel, rfl⟩
theorem d_X11_isHour_4 : DD prog_1_method_47_code 4 (.invokestatic 166) 3 7 := ⟨by decide +kernel, rfl⟩
theorem d_X11_isHour_7 : DD prog_1_method_47_code 7 (.ireturn) 1 8 := ⟨by decide +kernel, rfl⟩
theorem d_X11_hour_0 : DD prog_1_method_7_code 0 (.iload_n 1) 1 1 := ⟨by decide +kernel, rfl⟩
theorem d_X11_hour_1 : DD prog_1_method_7_code 1 (.invokestatic 137) 3 4 := ⟨by decide +kernel, rfl⟩
theorem d_X11_hour_4 : DJ prog_1_method_7_code 4 (fun o => .ifCond .ne o) 9 3 7 := ⟨by decide +kernel, rfl⟩
theorem d_X11_hour_7 : DD prog_1_method_7_code 7 (.iconst (-1)) 1 8 := ⟨by decide +kernel, rfl⟩
theorem d_X11_hour_8 : DD prog_1_method_7_code 8 (.ireturn) 1 9 := ⟨by decide +kernel, rfl⟩
theorem d_X11_hour_9 : DD prog_1_method_7_code 9 (.iload_n 2) 1 10 := ⟨by decide +kernel, rfl⟩
theorem d_X11_hour_10 : DD prog_1_method_7_code 10 (.lookupswitch 49 #[(0, 26), (1, 39)]) 26 36 := ⟨by decide +kernel, rfl⟩
theorem d_X11_hour_36 : DD prog_1_method_7_code 36 (.aload_n 0) 1 37 := ⟨by decide +kernel, rfl⟩
theorem d_X11_hour_37 : DD prog_1_method_7_code 37 (.getfield 69) 3 40 := ⟨by decide +kernel, rfl⟩
theorem d_X11_hour_40 : DD prog_1_method_7_code 40 (.getfield 113) 3 43 := ⟨by decide +kernel, rfl⟩
theorem d_X11_hour_43 : DD prog_1_method_7_code 43 (.getfield 141) 3 46 := ⟨by decide +kernel, rfl⟩
theorem d_X11_hour_46 : DD prog_1_method_7_code 46 (.iload_n 1) 1 47 := ⟨by decide +kernel, rfl⟩
theorem d_X11_hour_47 : DD prog_1_method_7_code 47 (.iaload) 1 48 := ⟨by decide +kernel, rfl⟩
theorem d_X11_hour_48 : DD prog_1_method_7_code 48 (.ireturn) 1 49 := ⟨by decide +kernel, rfl⟩
theorem d_X11_hour_49 : DD prog_1_method_7_code 49 (.aload_n 0) 1 50 := ⟨by decide +kernel, rfl⟩
theorem d_X11_hour_50 : DD prog_1_method_7_code 50 (.getfield 69) 3 53 := ⟨by decide +kernel, rfl⟩
theorem d_X11_hour_53 : DD prog_1_method_7_code 53 (.getfield 145) 3 56 := ⟨by decide +kernel, rfl⟩
theorem d_X11_hour_56 : DD prog_1_method_7_code 56 (.iload_n 1) 1 57 := ⟨by decide +kernel, rfl⟩
theorem d_X11_hour_57 : DD prog_1_method_7_code 57 (.iaload) 1 58 := ⟨by decide +kernel, rfl⟩
theorem d_X11_hour_58 : DD prog_1_method_7_code 58 (.ireturn) 1 59 := ⟨by decide +kernel, rfl⟩
theorem d_X11_hour_59 : DD prog_1_method_7_code 59 (.iconst (-1)) 1 60 := ⟨by decide +kernel, rfl⟩
theorem d_X11_hour_60 : DD prog_1_method_7_code 60 (.ireturn) 1 61 := ⟨by decide +kernel, rfl⟩
theorem d_X11_isFurlong_0 : DD prog_1_method_49_code 0 (.iload_n 1) 1 1 := ⟨by decide +kernel, rfl⟩
theorem d_X11_isFurlong_1 : DD prog_1_method_49_code 1 (.iconst 0) 1 2 := ⟨by decide +kernel, rfl⟩
theorem d_X11_isFurlong_2 : DD prog_1_method_49_code 2 (.aload_n 0) 1 3 := ⟨by decide +kernel, rfl⟩
theorem d_X11_isFurlong_3 : DD prog_1_method_49_code 3 (.getfield 69) 3 6 := ⟨by decide +kernel, rfl⟩
theorem d_X11_isFurlong_6 : DD prog_1_method_49_code 6 (.getfield 110) 3 9 := ⟨by decide +kernel, rfl⟩
theorem d_X11_isFurlong_9 : DD prog_1_method_49_code 9 (.iconst 1) 1 10 := ⟨by decide +kernel, rfl⟩
theorem d_X11_isFurlong_10 : DD prog_1_method_49_code 10 (.isub) 1 11 := ⟨by decide +kernel, rfl⟩
theorem d_X11_isFurlong_11 : DD prog_1_method_49_code 11 (.invokestatic 166) 3 14 := ⟨by decide +kernel, rfl⟩
theorem d_X11_isFurlong_14 : DD prog_1_method_49_code 14 (.ireturn) 1 15 := ⟨by decide +kernel, rfl⟩
theorem d_X11_furlong_0 : DD prog_1_method_8_code 0 (.aload_n 0) 1 1 := ⟨by decide +kernel, rfl⟩
theorem d_X11_furlong_1 : DD prog_1_method_8_code 1 (.iload_n 1) 1 2 := ⟨by decide +kernel, rfl⟩
theorem d_X11_furlong_2 : DD prog_1_method_8_code 2 (.invokevirtual 148) 3 5 := ⟨by decide +kernel, rfl⟩
theorem d_X11_furlong_5 : DJ prog_1_method_8_code 5 (fun o => .ifCond .ne o) 10 3 8 := ⟨by decide +kernel, rfl⟩
theorem d_X11_furlong_8 : DD prog_1_method_8_code 8 (.iconst (-1)) 1 9 := ⟨by decide +kernel, rfl⟩
theorem d_X11_furlong_9 : DD prog_1_method_8_code 9 (.ireturn) 1 10 := ⟨by decide +kernel, rfl⟩
theorem d_X11_furlong_10 : DD prog_1_method_8_code 10 (.aload_n 0) 1 11 := ⟨by decide +kernel, rfl⟩
theorem d_X11_furlong_11 : DD prog_1_method_8_code 11 (.getfield 69) 3 14 := ⟨by decide +kernel, rfl⟩
theorem d_X11_furlong_14 : DD prog_1_method_8_code 14 (.getfield 113) 3 17 := ⟨by decide +kernel, rfl⟩
theorem d_X11_furlong_17 : DD prog_1_method_8_code 17 (.astore_n 3) 1 18 := ⟨by decide +kernel, rfl⟩
theorem d_X11_furlong_18 : DD prog_1_method_8_code 18 (.iload_n 2) 1 19 := ⟨by decide +kernel, rfl⟩
theorem d_X11_furlong_19 : DD prog_1_method_8_code 19 (.tableswitch 63 0 3 #[29, 36, 43, 53]) 29 48 := ⟨by decide +kernel, rfl⟩
theorem d_X11_furlong_48 : DD prog_1_method_8_code 48 (.aload_n 3) 1 49 := ⟨by decide +kernel, rfl⟩
theorem d_X11_furlong_49 : DD prog_1_method_8_code 49 (.getfield 151) 3 52 := ⟨by decide +kernel, rfl⟩
theorem d_X11_furlong_52 : DD prog_1_method_8_code 52 (.iload_n 1) 1 53 := ⟨by decide +kernel, rfl⟩
theorem d_X11_furlong_53 : DD prog_1_method_8_code 53 (.iaload) 1 54 := ⟨by decide +kernel, rfl⟩
theorem d_X11_furlong_54 : DD prog_1_method_8_code 54 (.ireturn) 1 55 := ⟨by decide +kernel, rfl⟩
theorem d_X11_furlong_55 : DD prog_1_method_8_code 55 (.aload_n 3) 1 56 := ⟨by decide +kernel, rfl⟩
theorem d_X11_furlong_56 : DD prog_1_method_8_code 56 (.getfield 154) 3 59 := ⟨by decide +kernel, rfl⟩
theorem d_X11_furlong_59 : DD prog_1_method_8_code 59 (.iload_n 1) 1 60 := ⟨by decide +kernel, rfl⟩
theorem d_X11_furlong_60 : DD prog_1_method_8_code 60 (.iaload) 1 61 := ⟨by decide +kernel, rfl⟩
theorem d_X11_furlong_61 : DD prog_1_method_8_code 61 (.ireturn) 1 62 := ⟨by decide +kernel, rfl⟩
theorem d_X11_furlong_62 : DD prog_1_method_8_code 62 (.aload_n 3) 1 63 := ⟨by decide +kernel, rfl⟩
theorem d_X11_furlong_63 : DD prog_1_method_8_code 63 (.getfield 157) 3 66 := ⟨by decide +kernel, rfl⟩
theorem d_X11_furlong_66 : DD prog_1_method_8_code 66 (.iload_n 1) 1 67 := ⟨by decide +kernel, rfl⟩
theorem d_X11_furlong_67 : DD prog_1_method_8_code 67 (.iaload) 1 68 := ⟨by decide +kernel, rfl⟩
theorem d_X11_furlong_68 : DD prog_1_method_8_code 68 (.bipush 100) 2 70 := ⟨by decide +kernel, rfl⟩
theorem d_X11_furlong_70 : DD prog_1_method_8_code 70 (.iadd) 1 71 := ⟨by decide +kernel, rfl⟩
theorem d_X11_furlong_71 : DD prog_1_method_8_code 71 (.ireturn) 1 72 := ⟨by decide +kernel, rfl⟩
theorem d_X11_furlong_72 : DD prog_1_method_8_code 72 (.aload_n 0) 1 73 := ⟨by decide +kernel, rfl⟩
theorem d_X11_furlong_73 : DD prog_1_method_8_code 73 (.getfield 69) 3 76 := ⟨by decide +kernel, rfl⟩
theorem d_X11_furlong_76 : DD prog_1_method_8_code 76 (.aload_n 3) 1 77 := ⟨by decide +kernel, rfl⟩
theorem d_X11_furlong_77 : DD prog_1_method_8_code 77 (.iload_n 1) 1 78 := ⟨by decide +kernel, rfl⟩
theorem d_X11_furlong_78 : DD prog_1_method_8_code 78 (.invokevirtual 159) 3 81 := ⟨by decide +kernel, rfl⟩
theorem d_X11_furlong_81 : DD prog_1_method_8_code 81 (.ireturn) 1 82 := ⟨by decide +kernel, rfl⟩
theorem d_X11_furlong_82 : DD prog_1_method_8_code 82 (.iconst (-1)) 1 83 := ⟨by decide +kernel, rfl⟩
theorem d_X11_furlong_83 : DD prog_1_method_8_code 83 (.ireturn) 1 84 := ⟨by decide +kernel, rfl⟩
theorem d_X11_isSide_0 : DD prog_1_method_46_code 0 (.iload_n 0) 1 1 := ⟨by decide +kernel, rfl⟩
theorem d_X11_isSide_1 : DD prog_1_method_46_code 1 (.iconst 0) 1 2 := ⟨by decide +kernel, rfl⟩
theorem d_X11_isSide_2 : DD prog_1_method_46_code 2 (.iconst 1) 1 3 := ⟨by decide +kernel, rfl⟩
theorem d_X11_isSide_3 : DD prog_1_method_46_code 3 (.invokestatic 166) 3 6 := ⟨by decide +kernel, rfl⟩
theorem d_X11_isSide_6 : DD prog_1_method_46_code 6 (.ireturn) 1 7 := ⟨by decide +kernel, rfl⟩
theorem d_X11_man_0 : DD prog_1_method_9_code 0 (.iload_n 1) 1 1 := ⟨by decide +kernel, rfl⟩
theorem d_X11_man_1 : DD prog_1_method_9_code 1 (.invokestatic 163) 3 4 := ⟨by decide +kernel, rfl⟩
theorem d_X11_man_4 : DJ prog_1_method_9_code 4 (fun o => .ifCond .eq o) 24 3 7 := ⟨by decide +kernel, rfl⟩
theorem d_X11_man_7 : DD prog_1_method_9_code 7 (.aload_n 0) 1 8 := ⟨by decide +kernel, rfl⟩
theorem d_X11_man_8 : DD prog_1_method_9_code 8 (.iload_n 2) 1 9 := ⟨by decide +kernel, rfl⟩
theorem d_X11_man_9 : DD prog_1_method_9_code 9 (.invokevirtual 148) 3 12 := ⟨by decide +kernel, rfl⟩
theorem d_X11_man_12 : DJ prog_1_method_9_code 12 (fun o => .ifCond .eq o) 24 3 15 := ⟨by decide +kernel, rfl⟩
theorem d_X11_man_15 : DD prog_1_method_9_code 15 (.iload_n 3) 1 16 := ⟨by decide +kernel, rfl⟩
theorem d_X11_man_16 : DD prog_1_method_9_code 16 (.iconst 0) 1 17 := ⟨by decide +kernel, rfl⟩
theorem d_X11_man_17 : DD prog_1_method_9_code 17 (.iconst 5) 1 18 := ⟨by decide +kernel, rfl⟩
theorem d_X11_man_18 : DD prog_1_method_9_code 18 (.invokestatic 166) 3 21 := ⟨by decide +kernel, rfl⟩
theorem d_X11_man_21 : DJ prog_1_method_9_code 21 (fun o => .ifCond .ne o) 26 3 24 := ⟨by decide +kernel, rfl⟩
theorem d_X11_man_24 : DD prog_1_method_9_code 24 (.iconst (-1)) 1 25 := ⟨by decide +kernel, rfl⟩
theorem d_X11_man_25 : DD prog_1_method_9_code 25 (.ireturn) 1 26 := ⟨by decide +kernel, rfl⟩
theorem d_X11_man_26 : DD prog_1_method_9_code 26 (.aload_n 0) 1 27 := ⟨by decide +kernel, rfl⟩
theorem d_X11_man_27 : DD prog_1_method_9_code 27 (.getfield 69) 3 30 := ⟨by decide +kernel, rfl⟩
theorem d_X11_man_30 : DD prog_1_method_9_code 30 (.getfield 113) 3 33 := ⟨by decide +kernel, rfl⟩
theorem d_X11_man_33 : DD prog_1_method_9_code 33 (.iload_n 1) 1 34 := ⟨by decide +kernel, rfl⟩
theorem d_X11_man_34 : DD prog_1_method_9_code 34 (.iload_n 2) 1 35 := ⟨by decide +kernel, rfl⟩
theorem d_X11_man_35 : DD prog_1_method_9_code 35 (.invokevirtual 170) 3 38 := ⟨by decide +kernel, rfl⟩
theorem d_X11_man_38 : DD prog_1_method_9_code 38 (.astore 4) 2 40 := ⟨by decide +kernel, rfl⟩
theorem d_X11_man_40 : DD prog_1_method_9_code 40 (.aload 4) 2 42 := ⟨by decide +kernel, rfl⟩
theorem d_X11_man_42 : DD prog_1_method_9_code 42 (.getfield 174) 3 45 := ⟨by decide +kernel, rfl⟩
theorem d_X11_man_45 : DJ prog_1_method_9_code 45 (fun o => .ifCond .ne o) 51 3 48 := ⟨by decide +kernel, rfl⟩
theorem d_X11_man_48 : DD prog_1_method_9_code 48 (.bipush (-4)) 2 50 := ⟨by decide +kernel, rfl⟩
theorem d_X11_man_50 : DD prog_1_method_9_code 50 (.ireturn) 1 51 := ⟨by decide +kernel, rfl⟩
theorem d_X11_man_51 : DD prog_1_method_9_code 51 (.iload_n 3) 1 52 := ⟨by decide +kernel, rfl⟩
theorem d_X11_man_52 : DD prog_1_method_9_code 52 (.tableswitch 66 0 4 #[36, 42, 48, 54, 60]) 36 88 := ⟨by decide +kernel, rfl⟩
theorem d_X11_man_88 : DD prog_1_method_9_code 88 (.aload 4) 2 90 := ⟨by decide +kernel, rfl⟩
theorem d_X11_man_90 : DD prog_1_method_9_code 90 (.getfield 180) 3 93 := ⟨by decide +kernel, rfl⟩
theorem d_X11_man_93 : DD prog_1_method_9_code 93 (.ireturn) 1 94 := ⟨by decide +kernel, rfl⟩
theorem d_X11_man_94 : DD prog_1_method_9_code 94 (.aload 4) 2 96 := ⟨by decide +kernel, rfl⟩
theorem d_X11_man_96 : DD prog_1_method_9_code 96 (.getfield 183) 3 99 := ⟨by decide +kernel, rfl⟩
theorem d_X11_man_99 : DD prog_1_method_9_code 99 (.ireturn) 1 100 := ⟨by decide +kernel, rfl⟩
theorem d_X11_man_100 : DD prog_1_method_9_code 100 (.aload 4) 2 102 := ⟨by decide +kernel, rfl⟩
theorem d_X11_man_102 : DD prog_1_method_9_code 102 (.getfield 186) 3 105 := ⟨by decide +kernel, rfl⟩
theorem d_X11_man_105 : DD prog_1_method_9_code 105 (.ireturn) 1 106 := ⟨by decide +kernel, rfl⟩
theorem d_X11_man_106 : DD prog_1_method_9_code 106 (.aload 4) 2 108 := ⟨by decide +kernel, rfl⟩
theorem d_X11_man_108 : DD prog_1_method_9_code 108 (.getfield 189) 3 111 := ⟨by decide +kernel, rfl⟩
theorem d_X11_man_111 : DD prog_1_method_9_code 111 (.ireturn) 1 112 := ⟨by decide +kernel, rfl⟩
theorem d_X11_man_112 : DD prog_1_method_9_code 112 (.aload 4) 2 114 := ⟨by decide +kernel, rfl⟩
theorem d_X11_man_114 : DD prog_1_method_9_code 114 (.getfield 190) 3 117 := ⟨by decide +kernel, rfl⟩
theorem d_X11_man_117 : DD prog_1_method_9_code 117 (.ireturn) 1 118 := ⟨by decide +kernel, rfl⟩
theorem d_X11_man_118 : DD prog_1_method_9_code 118 (.aload 4) 2 120 := ⟨by decide +kernel, rfl⟩
theorem d_X11_man_120 : DD prog_1_method_9_code 120 (.getfield 191) 3 123 := ⟨by decide +kernel, rfl⟩
theorem d_X11_man_123 : DJ prog_1_method_9_code 123 (fun o => .ifCond .eq o) 130 3 126 := ⟨by decide +kernel, rfl⟩
theorem d_X11_man_126 : DD prog_1_method_9_code 126 (.iconst 1) 1 127 := ⟨by decide +kernel, rfl⟩
theorem d_X11_man_127 : DJ prog_1_method_9_code 127 (fun o => .goto o) 131 3 130 := ⟨by decide +kernel, rfl⟩
theorem d_X11_man_130 : DD prog_1_method_9_code 130 (.iconst 0) 1 131 := ⟨by decide +kernel, rfl⟩
theorem d_X11_man_131 : DD prog_1_method_9_code 131 (.ireturn) 1 132 := ⟨by decide +kernel, rfl⟩
theorem d_X11_isBrazier_0 : DD prog_1_method_50_code 0 (.iload_n 1) 1 1 := ⟨by decide +kernel, rfl⟩
theorem d_X11_isBrazier_1 : DD prog_1_method_50_code 1 (.iconst 0) 1 2 := ⟨by decide +kernel, rfl⟩
theorem d_X11_isBrazier_2 : DD prog_1_method_50_code 2 (.aload_n 0) 1 3 := ⟨by decide +kernel, rfl⟩
theorem d_X11_isBrazier_3 : DD prog_1_method_50_code 3 (.getfield 69) 3 6 := ⟨by decide +kernel, rfl⟩
theorem d_X11_isBrazier_6 : DD prog_1_method_50_code 6 (.getfield 113) 3 9 := ⟨by decide +kernel, rfl⟩
theorem d_X11_isBrazier_9 : DD prog_1_method_50_code 9 (.getfield 193) 3 12 := ⟨by decide +kernel, rfl⟩
theorem d_X11_isBrazier_12 : DD prog_1_method_50_code 12 (.getfield 239) 3 15 := ⟨by decide +kernel, rfl⟩
theorem d_X11_isBrazier_15 : DD prog_1_method_50_code 15 (.iconst 1) 1 16 := ⟨by decide +kernel, rfl⟩
theorem d_X11_isBrazier_16 : DD prog_1_method_50_code 16 (.isub) 1 17 := ⟨by decide +kernel, rfl⟩
theorem d_X11_isBrazier_17 : DD prog_1_method_50_code 17 (.invokestatic 166) 3 20 := ⟨by decide +kernel, rfl⟩
theorem d_X11_isBrazier_20 : DD prog_1_method_50_code 20 (.ireturn) 1 21 := ⟨by decide +kernel, rfl⟩
theorem d_X11_brazier_0 : DD prog_1_method_10_code 0 (.aload_n 0) 1 1 := ⟨by decide +kernel, rfl⟩
theorem d_X11_brazier_1 : DD prog_1_method_10_code 1 (.getfield 69) 3 4 := ⟨by decide +kernel, rfl⟩
theorem d_X11_brazier_4 : DD prog_1_method_10_code 4 (.getfield 113) 3 7 := ⟨by decide +kernel, rfl⟩
theorem d_X11_brazier_7 : DD prog_1_method_10_code 7 (.getfield 193) 3 10 := ⟨by decide +kernel, rfl⟩
theorem d_X11_brazier_10 : DD prog_1_method_10_code 10 (.astore_n 3) 1 11 := ⟨by decide +kernel, rfl⟩
theorem d_X11_brazier_11 : DD prog_1_method_10_code 11 (.aload_n 0) 1 12 := ⟨by decide +kernel, rfl⟩
theorem d_X11_brazier_12 : DD prog_1_method_10_code 12 (.iload_n 1) 1 13 := ⟨by decide +kernel, rfl⟩
theorem d_X11_brazier_13 : DD prog_1_method_10_code 13 (.invokevirtual 197) 3 16 := ⟨by decide +kernel, rfl⟩
theorem d_X11_brazier_16 : DJ prog_1_method_10_code 16 (fun o => .ifCond .ne o) 21 3 19 := ⟨by decide +kernel, rfl⟩
theorem d_X11_brazier_19 : DD prog_1_method_10_code 19 (.iconst (-1)) 1 20 := ⟨by decide +kernel, rfl⟩
theorem d_X11_brazier_20 : DD prog_1_method_10_code 20 (.ireturn) 1 21 := ⟨by decide +kernel, rfl⟩
theorem d_X11_brazier_21 : DD prog_1_method_10_code 21 (.iload_n 2) 1 22 := ⟨by decide +kernel, rfl⟩
theorem d_X11_brazier_22 : DD prog_1_method_10_code 22 (.tableswitch 58 0 3 #[30, 37, 44, 51]) 30 52 := ⟨by decide +kernel, rfl⟩
theorem d_X11_brazier_52 : DD prog_1_method_10_code 52 (.aload_n 3) 1 53 := ⟨by decide +kernel, rfl⟩
theorem d_X11_brazier_53 : DD prog_1_method_10_code 53 (.getfield 200) 3 56 := ⟨by decide +kernel, rfl⟩
theorem d_X11_brazier_56 : DD prog_1_method_10_code 56 (.iload_n 1) 1 57 := ⟨by decide +kernel, rfl⟩
theorem d_X11_brazier_57 : DD prog_1_method_10_code 57 (.iaload) 1 58 := ⟨by decide +kernel, rfl⟩
theorem d_X11_brazier_58 : DD prog_1_method_10_code 58 (.ireturn) 1 59 := ⟨by decide +kernel, rfl⟩
theorem d_X11_brazier_59 : DD prog_1_method_10_code 59 (.aload_n 3) 1 60 := ⟨by decide +kernel, rfl⟩
theorem d_X11_brazier_60 : DD prog_1_method_10_code 60 (.getfield 205) 3 63 := ⟨by decide +kernel, rfl⟩
theorem d_X11_brazier_63 : DD prog_1_method_10_code 63 (.iload_n 1) 1 64 := ⟨by decide +kernel, rfl⟩
theorem d_X11_brazier_64 : DD prog_1_method_10_code 64 (.iaload) 1 65 := ⟨by decide +kernel, rfl⟩
theorem d_X11_brazier_65 : DD prog_1_method_10_code 65 (.ireturn) 1 66 := ⟨by decide +kernel, rfl⟩
theorem d_X11_brazier_66 : DD prog_1_method_10_code 66 (.aload_n 3) 1 67 := ⟨by decide +kernel, rfl⟩
theorem d_X11_brazier_67 : DD prog_1_method_10_code 67 (.getfield 208) 3 70 := ⟨by decide +kernel, rfl⟩
theorem d_X11_brazier_70 : DD prog_1_method_10_code 70 (.iload_n 1) 1 71 := ⟨by decide +kernel, rfl⟩
theorem d_X11_brazier_71 : DD prog_1_method_10_code 71 (.iaload) 1 72 := ⟨by decide +kernel, rfl⟩
theorem d_X11_brazier_72 : DD prog_1_method_10_code 72 (.ireturn) 1 73 := ⟨by decide +kernel, rfl⟩
theorem d_X11_brazier_73 : DD prog_1_method_10_code 73 (.aload_n 3) 1 74 := ⟨by decide +kernel, rfl⟩
theorem d_X11_brazier_74 : DD prog_1_method_10_code 74 (.getfield 211) 3 77 := ⟨by decide +kernel, rfl⟩
theorem d_X11_brazier_77 : DD prog_1_method_10_code 77 (.iload_n 1) 1 78 := ⟨by decide +kernel, rfl⟩
theorem d_X11_brazier_78 : DD prog_1_method_10_code 78 (.iaload) 1 79 := ⟨by decide +kernel, rfl⟩
theorem d_X11_brazier_79 : DD prog_1_method_10_code 79 (.ireturn) 1 80 := ⟨by decide +kernel, rfl⟩
theorem d_X11_brazier_80 : DD prog_1_method_10_code 80 (.iconst (-1)) 1 81 := ⟨by decide +kernel, rfl⟩
theorem d_X11_brazier_81 : DD prog_1_method_10_code 81 (.ireturn) 1 82 := ⟨by decide +kernel, rfl⟩
theorem d_X11_house_0 : DD prog_1_method_11_code 0 (.iload_n 1) 1 1 := ⟨by decide +kernel, rfl⟩
theorem d_X11_house_1 : DD prog_1_method_11_code 1 (.iconst 0) 1 2 := ⟨by decide +kernel, rfl⟩
theorem d_X11_house_2 : DD prog_1_method_11_code 2 (.aload_n 0) 1 3 := ⟨by decide +kernel, rfl⟩
theorem d_X11_house_3 : DD prog_1_method_11_code 3 (.getfield 69) 3 6 := ⟨by decide +kernel, rfl⟩
theorem d_X11_house_6 : DD prog_1_method_11_code 6 (.getfield 214) 3 9 := ⟨by decide +kernel, rfl⟩
theorem d_X11_house_9 : DD prog_1_method_11_code 9 (.iconst 1) 1 10 := ⟨by decide +kernel, rfl⟩
theorem d_X11_house_10 : DD prog_1_method_11_code 10 (.isub) 1 11 := ⟨by decide +kernel, rfl⟩
theorem d_X11_house_11 : DD prog_1_method_11_code 11 (.invokestatic 166) 3 14 := ⟨by decide +kernel, rfl⟩
theorem d_X11_house_14 : DJ prog_1_method_11_code 14 (fun o => .ifCond .ne o) 19 3 17 := ⟨by decide +kernel, rfl⟩
theorem d_X11_house_17 : DD prog_1_method_11_code 17 (.iconst (-1)) 1 18 := ⟨by decide +kernel, rfl⟩
theorem d_X11_house_18 : DD prog_1_method_11_code 18 (.ireturn) 1 19 := ⟨by decide +kernel, rfl⟩
theorem d_X11_house_19 : DD prog_1_method_11_code 19 (.iload_n 2) 1 20 := ⟨by decide +kernel, rfl⟩
theorem d_X11_house_20 : DD prog_1_method_11_code 20 (.tableswitch 67 0 2 #[28, 38, 51]) 28 48 := ⟨by decide +kernel, rfl⟩
theorem d_X11_house_48 : DD prog_1_method_11_code 48 (.aload_n 0) 1 49 := ⟨by decide +kernel, rfl⟩
theorem d_X11_house_49 : DD prog_1_method_11_code 49 (.getfield 69) 3 52 := ⟨by decide +kernel, rfl⟩
theorem d_X11_house_52 : DD prog_1_method_11_code 52 (.getfield 217) 3 55 := ⟨by decide +kernel, rfl⟩
theorem d_X11_house_55 : DD prog_1_method_11_code 55 (.iload_n 1) 1 56 := ⟨by decide +kernel, rfl⟩
theorem d_X11_house_56 : DD prog_1_method_11_code 56 (.iaload) 1 57 := ⟨by decide +kernel, rfl⟩
theorem d_X11_house_57 : DD prog_1_method_11_code 57 (.ireturn) 1 58 := ⟨by decide +kernel, rfl⟩
theorem d_X11_house_58 : DD prog_1_method_11_code 58 (.aload_n 0) 1 59 := ⟨by decide +kernel, rfl⟩
theorem d_X11_house_59 : DD prog_1_method_11_code 59 (.getfield 69) 3 62 := ⟨by decide +kernel, rfl⟩
theorem d_X11_house_62 : DD prog_1_method_11_code 62 (.getfield 220) 3 65 := ⟨by decide +kernel, rfl⟩
theorem d_X11_house_65 : DD prog_1_method_11_code 65 (.iload_n 1) 1 66 := ⟨by decide +kernel, rfl⟩
theorem d_X11_house_66 : DD prog_1_method_11_code 66 (.iaload) 1 67 := ⟨by decide +kernel, rfl⟩
theorem d_X11_house_67 : DD prog_1_method_11_code 67 (.bipush 100) 2 69 := ⟨by decide +kernel, rfl⟩
theorem d_X11_house_69 : DD prog_1_method_11_code 69 (.iadd) 1 70 := ⟨by decide +kernel, rfl⟩
theorem d_X11_house_70 : DD prog_1_method_11_code 70 (.ireturn) 1 71 := ⟨by decide +kernel, rfl⟩
theorem d_X11_house_71 : DD prog_1_method_11_code 71 (.aload_n 0) 1 72 := ⟨by decide +kernel, rfl⟩
theorem d_X11_house_72 : DD prog_1_method_11_code 72 (.getfield 69) 3 75 := ⟨by decide +kernel, rfl⟩
theorem d_X11_house_75 : DD prog_1_method_11_code 75 (.iload_n 1) 1 76 := ⟨by decide +kernel, rfl⟩
theorem d_X11_house_76 : DD prog_1_method_11_code 76 (.aload_n 0) 1 77 := ⟨by decide +kernel, rfl⟩
theorem d_X11_house_77 : DD prog_1_method_11_code 77 (.getfield 69) 3 80 := ⟨by decide +kernel, rfl⟩
theorem d_X11_house_80 : DD prog_1_method_11_code 80 (.getfield 113) 3 83 := ⟨by decide +kernel, rfl⟩
theorem d_X11_house_83 : DD prog_1_method_11_code 83 (.invokevirtual 223) 3 86 := ⟨by decide +kernel, rfl⟩
theorem d_X11_house_86 : DD prog_1_method_11_code 86 (.ireturn) 1 87 := ⟨by decide +kernel, rfl⟩
theorem d_X11_house_87 : DD prog_1_method_11_code 87 (.iconst (-1)) 1 88 := ⟨by decide +kernel, rfl⟩
theorem d_X11_house_88 : DD prog_1_method_11_code 88 (.ireturn) 1 89 := ⟨by decide +kernel, rfl⟩
theorem d_X11_shine_0 : DD prog_1_method_12_code 0 (.iload_n 1) 1 1 := ⟨by decide +kernel, rfl⟩
theorem d_X11_shine_1 : DD prog_1_method_12_code 1 (.invokestatic 137) 3 4 := ⟨by decide +kernel, rfl⟩
theorem d_X11_shine_4 : DJ prog_1_method_12_code 4 (fun o => .ifCond .eq o) 17 3 7 := ⟨by decide +kernel, rfl⟩
theorem d_X11_shine_7 : DD prog_1_method_12_code 7 (.iload_n 2) 1 8 := ⟨by decide +kernel, rfl⟩
theorem d_X11_shine_8 : DD prog_1_method_12_code 8 (.iconst 0) 1 9 := ⟨by decide +kernel, rfl⟩
theorem d_X11_shine_9 : DD prog_1_method_12_code 9 (.bipush 9) 2 11 := ⟨by decide +kernel, rfl⟩
theorem d_X11_shine_11 : DD prog_1_method_12_code 11 (.invokestatic 166) 3 14 := ⟨by decide +kernel, rfl⟩
theorem d_X11_shine_14 : DJ prog_1_method_12_code 14 (fun o => .ifCond .ne o) 19 3 17 := ⟨by decide +kernel, rfl⟩
theorem d_X11_shine_17 : DD prog_1_method_12_code 17 (.iconst (-1)) 1 18 := ⟨by decide +kernel, rfl⟩
theorem d_X11_shine_18 : DD prog_1_method_12_code 18 (.ireturn) 1 19 := ⟨by decide +kernel, rfl⟩
theorem d_X11_shine_19 : DD prog_1_method_12_code 19 (.aload_n 0) 1 20 := ⟨by decide +kernel, rfl⟩
theorem d_X11_shine_20 : DD prog_1_method_12_code 20 (.getfield 69) 3 23 := ⟨by decide +kernel, rfl⟩
theorem d_X11_shine_23 : DD prog_1_method_12_code 23 (.getfield 113) 3 26 := ⟨by decide +kernel, rfl⟩
theorem d_X11_shine_26 : DD prog_1_method_12_code 26 (.getfield 141) 3 29 := ⟨by decide +kernel, rfl⟩
theorem d_X11_shine_29 : DD prog_1_method_12_code 29 (.iload_n 1) 1 30 := ⟨by decide +kernel, rfl⟩
theorem d_X11_shine_30 : DD prog_1_method_12_code 30 (.iaload) 1 31 := ⟨by decide +kernel, rfl⟩
theorem d_X11_shine_31 : DD prog_1_method_12_code 31 (.istore_n 3) 1 32 := ⟨by decide +kernel, rfl⟩
theorem d_X11_shine_32 : DD prog_1_method_12_code 32 (.aload_n 0) 1 33 := ⟨by decide +kernel, rfl⟩
theorem d_X11_shine_33 : DD prog_1_method_12_code 33 (.getfield 69) 3 36 := ⟨by decide +kernel, rfl⟩
theorem d_X11_shine_36 : DD prog_1_method_12_code 36 (.getfield 113) 3 39 := ⟨by decide +kernel, rfl⟩
theorem d_X11_shine_39 : DD prog_1_method_12_code 39 (.getfield 141) 3 42 := ⟨by decide +kernel, rfl⟩
theorem d_X11_shine_42 : DD prog_1_method_12_code 42 (.iload_n 1) 1 43 := ⟨by decide +kernel, rfl⟩
theorem d_X11_shine_43 : DD prog_1_method_12_code 43 (.iload_n 2) 1 44 := ⟨by decide +kernel, rfl⟩
theorem d_X11_shine_44 : DD prog_1_method_12_code 44 (.iastore) 1 45 := ⟨by decide +kernel, rfl⟩
theorem d_X11_shine_45 : DD prog_1_method_12_code 45 (.iload_n 3) 1 46 := ⟨by decide +kernel, rfl⟩
theorem d_X11_shine_46 : DD prog_1_method_12_code 46 (.ireturn) 1 47 := ⟨by decide +kernel, rfl⟩
theorem d_X11_treaty_0 : DD prog_1_method_13_code 0 (.aload_n 0) 1 1 := ⟨by decide +kernel, rfl⟩
theorem d_X11_treaty_1 : DD prog_1_method_13_code 1 (.getfield 69) 3 4 := ⟨by decide +kernel, rfl⟩
theorem d_X11_treaty_4 : DD prog_1_method_13_code 4 (.getfield 119) 3 7 := ⟨by decide +kernel, rfl⟩
theorem d_X11_treaty_7 : DD prog_1_method_13_code 7 (.iload_n 1) 1 8 := ⟨by decide +kernel, rfl⟩
theorem d_X11_treaty_8 : DD prog_1_method_13_code 8 (.iload_n 2) 1 9 := ⟨by decide +kernel, rfl⟩
theorem d_X11_treaty_9 : DD prog_1_method_13_code 9 (.invokevirtual 227) 3 12 := ⟨by decide +kernel, rfl⟩
theorem d_X11_treaty_12 : DD prog_1_method_13_code 12 (.ireturn) 1 13 := ⟨by decide +kernel, rfl⟩
theorem d_X11_chance_0 : DD prog_1_method_14_code 0 (.iload_n 1) 1 1 := ⟨by decide +kernel, rfl⟩
theorem d_X11_chance_1 : DD prog_1_method_14_code 1 (.iconst 0) 1 2 := ⟨by decide +kernel, rfl⟩
theorem d_X11_chance_2 : DD prog_1_method_14_code 2 (.bipush 10) 2 4 := ⟨by decide +kernel, rfl⟩
theorem d_X11_chance_4 : DD prog_1_method_14_code 4 (.invokestatic 166) 3 7 := ⟨by decide +kernel, rfl⟩
theorem d_X11_chance_7 : DJ prog_1_method_14_code 7 (fun o => .ifCond .ne o) 12 3 10 := ⟨by decide +kernel, rfl⟩
theorem d_X11_chance_10 : DD prog_1_method_14_code 10 (.iconst (-1)) 1 11 := ⟨by decide +kernel, rfl⟩
theorem d_X11_chance_11 : DD prog_1_method_14_code 11 (.ireturn) 1 12 := ⟨by decide +kernel, rfl⟩
theorem d_X11_chance_12 : DD prog_1_method_14_code 12 (.aload_n 0) 1 13 := ⟨by decide +kernel, rfl⟩
theorem d_X11_chance_13 : DD prog_1_method_14_code 13 (.getfield 69) 3 16 := ⟨by decide +kernel, rfl⟩
theorem d_X11_chance_16 : DD prog_1_method_14_code 16 (.getfield 134) 3 19 := ⟨by decide +kernel, rfl⟩
theorem d_X11_chance_19 : DD prog_1_method_14_code 19 (.istore_n 2) 1 20 := ⟨by decide +kernel, rfl⟩
theorem d_X11_chance_20 : DD prog_1_method_14_code 20 (.aload_n 0) 1 21 := ⟨by decide +kernel, rfl⟩
theorem d_X11_chance_21 : DD prog_1_method_14_code 21 (.getfield 69) 3 24 := ⟨by decide +kernel, rfl⟩
theorem d_X11_chance_24 : DD prog_1_method_14_code 24 (.iload_n 1) 1 25 := ⟨by decide +kernel, rfl⟩
theorem d_X11_chance_25 : DD prog_1_method_14_code 25 (.putfield 134) 3 28 := ⟨by decide +kernel, rfl⟩
theorem d_X11_chance_28 : DD prog_1_method_14_code 28 (.iload_n 2) 1 29 := ⟨by decide +kernel, rfl⟩
theorem d_X11_chance_29 : DD prog_1_method_14_code 29 (.ireturn) 1 30 := ⟨by decide +kernel, rfl⟩
theorem d_X11_light_0 : DD prog_1_method_15_code 0 (.aload_n 0) 1 1 := ⟨by decide +kernel, rfl⟩
theorem d_X11_light_1 : DD prog_1_method_15_code 1 (.iload_n 1) 1 2 := ⟨by decide +kernel, rfl⟩
theorem d_X11_light_2 : DD prog_1_method_15_code 2 (.invokevirtual 148) 3 5 := ⟨by decide +kernel, rfl⟩
theorem d_X11_light_5 : DJ prog_1_method_15_code 5 (fun o => .ifCond .eq o) 18 3 8 := ⟨by decide +kernel, rfl⟩
theorem d_X11_light_8 : DD prog_1_method_15_code 8 (.iload_n 2) 1 9 := ⟨by decide +kernel, rfl⟩
theorem d_X11_light_9 : DD prog_1_method_15_code 9 (.iconst 1) 1 10 := ⟨by decide +kernel, rfl⟩
theorem d_X11_light_10 : DD prog_1_method_15_code 10 (.bipush 20) 2 12 := ⟨by decide +kernel, rfl⟩
theorem d_X11_light_12 : DD prog_1_method_15_code 12 (.invokestatic 166) 3 15 := ⟨by decide +kernel, rfl⟩
theorem d_X11_light_15 : DJ prog_1_method_15_code 15 (fun o => .ifCond .ne o) 20 3 18 := ⟨by decide +kernel, rfl⟩
theorem d_X11_light_18 : DD prog_1_method_15_code 18 (.iconst (-1)) 1 19 := ⟨by decide +kernel, rfl⟩
theorem d_X11_light_19 : DD prog_1_method_15_code 19 (.ireturn) 1 20 := ⟨by decide +kernel, rfl⟩
theorem d_X11_light_20 : DD prog_1_method_15_code 20 (.iload_n 3) 1 21 := ⟨by decide +kernel, rfl⟩
theorem d_X11_light_21 : DD prog_1_method_15_code 21 (.invokestatic 137) 3 24 := ⟨by decide +kernel, rfl⟩
theorem d_X11_light_24 : DJ prog_1_method_15_code 24 (fun o => .ifCond .eq o) 41 3 27 := ⟨by decide +kernel, rfl⟩
theorem d_X11_light_27 : DD prog_1_method_15_code 27 (.iload 4) 2 29 := ⟨by decide +kernel, rfl⟩
theorem d_X11_light_29 : DD prog_1_method_15_code 29 (.invokestatic 137) 3 32 := ⟨by decide +kernel, rfl⟩
theorem d_X11_light_32 : DJ prog_1_method_15_code 32 (fun o => .ifCond .eq o) 41 3 35 := ⟨by decide +kernel, rfl⟩
theorem d_X11_light_35 : DD prog_1_method_15_code 35 (.iload 4) 2 37 := ⟨by decide +kernel, rfl⟩
theorem d_X11_light_37 : DD prog_1_method_15_code 37 (.iload_n 3) 1 38 := ⟨by decide +kernel, rfl⟩
theorem d_X11_light_38 : DJ prog_1_method_15_code 38 (fun o => .if_icmp .ge o) 43 3 41 := ⟨by decide +kernel, rfl⟩
theorem d_X11_light_41 : DD prog_1_method_15_code 41 (.iconst (-1)) 1 42 := ⟨by decide +kernel, rfl⟩
theorem d_X11_light_42 : DD prog_1_method_15_code 42 (.ireturn) 1 43 := ⟨by decide +kernel, rfl⟩
theorem d_X11_light_43 : DD prog_1_method_15_code 43 (.aload_n 0) 1 44 := ⟨by decide +kernel, rfl⟩
theorem d_X11_light_44 : DD prog_1_method_15_code 44 (.getfield 69) 3 47 := ⟨by decide +kernel, rfl⟩
theorem d_X11_light_47 : DD prog_1_method_15_code 47 (.getfield 113) 3 50 := ⟨by decide +kernel, rfl⟩
theorem d_X11_light_50 : DD prog_1_method_15_code 50 (.getfield 193) 3 53 := ⟨by decide +kernel, rfl⟩
theorem d_X11_light_53 : DD prog_1_method_15_code 53 (.astore 5) 2 55 := ⟨by decide +kernel, rfl⟩
theorem d_X11_light_55 : DD prog_1_method_15_code 55 (.aload 5) 2 57 := ⟨by decide +kernel, rfl⟩
theorem d_X11_light_57 : DD prog_1_method_15_code 57 (.invokevirtual 231) 3 60 := ⟨by decide +kernel, rfl⟩
theorem d_X11_light_60 : DJ prog_1_method_15_code 60 (fun o => .ifCond .eq o) 66 3 63 := ⟨by decide +kernel, rfl⟩
theorem d_X11_light_63 : DD prog_1_method_15_code 63 (.bipush (-3)) 2 65 := ⟨by decide +kernel, rfl⟩
theorem d_X11_light_65 : DD prog_1_method_15_code 65 (.ireturn) 1 66 := ⟨by decide +kernel, rfl⟩
theorem d_X11_light_66 : DD prog_1_method_15_code 66 (.aload 5) 2 68 := ⟨by decide +kernel, rfl⟩
theorem d_X11_light_68 : DD prog_1_method_15_code 68 (.iload_n 1) 1 69 := ⟨by decide +kernel, rfl⟩
theorem d_X11_light_69 : DD prog_1_method_15_code 69 (.iload_n 2) 1 70 := ⟨by decide +kernel, rfl⟩
theorem d_X11_light_70 : DD prog_1_method_15_code 70 (.iload_n 3) 1 71 := ⟨by decide +kernel, rfl⟩
theorem d_X11_light_71 : DD prog_1_method_15_code 71 (.iload 4) 2 73 := ⟨by decide +kernel, rfl⟩
theorem d_X11_light_73 : DD prog_1_method_15_code 73 (.invokevirtual 235) 3 76 := ⟨by decide +kernel, rfl⟩
theorem d_X11_light_76 : DD prog_1_method_15_code 76 (.aload 5) 2 78 := ⟨by decide +kernel, rfl⟩
theorem d_X11_light_78 : DD prog_1_method_15_code 78 (.getfield 239) 3 81 := ⟨by decide +kernel, rfl⟩
theorem d_X11_light_81 : DD prog_1_method_15_code 81 (.ireturn) 1 82 := ⟨by decide +kernel, rfl⟩
theorem d_X11_quench_0 : DD prog_1_method_16_code 0 (.aload_n 0) 1 1 := ⟨by decide +kernel, rfl⟩
theorem d_X11_quench_1 : DD prog_1_method_16_code 1 (.iload_n 1) 1 2 := ⟨by decide +kernel, rfl⟩
theorem d_X11_quench_2 : DD prog_1_method_16_code 2 (.invokevirtual 197) 3 5 := ⟨by decide +kernel, rfl⟩
theorem d_X11_quench_5 : DJ prog_1_method_16_code 5 (fun o => .ifCond .ne o) 10 3 8 := ⟨by decide +kernel, rfl⟩
theorem d_X11_quench_8 : DD prog_1_method_16_code 8 (.iconst (-1)) 1 9 := ⟨by decide +kernel, rfl⟩
theorem d_X11_quench_9 : DD prog_1_method_16_code 9 (.ireturn) 1 10 := ⟨by decide +kernel, rfl⟩
theorem d_X11_quench_10 : DD prog_1_method_16_code 10 (.aload_n 0) 1 11 := ⟨by decide +kernel, rfl⟩
theorem d_X11_quench_11 : DD prog_1_method_16_code 11 (.getfield 69) 3 14 := ⟨by decide +kernel, rfl⟩
theorem d_X11_quench_14 : DD prog_1_method_16_code 14 (.getfield 113) 3 17 := ⟨by decide +kernel, rfl⟩
theorem d_X11_quench_17 : DD prog_1_method_16_code 17 (.getfield 193) 3 20 := ⟨by decide +kernel, rfl⟩
theorem d_X11_quench_20 : DD prog_1_method_16_code 20 (.iload_n 1) 1 21 := ⟨by decide +kernel, rfl⟩
theorem d_X11_quench_21 : DD prog_1_method_16_code 21 (.invokevirtual 240) 3 24 := ⟨by decide +kernel, rfl⟩
theorem d_X11_quench_24 : DD prog_1_method_16_code 24 (.aload_n 0) 1 25 := ⟨by decide +kernel, rfl⟩
theorem d_X11_quench_25 : DD prog_1_method_16_code 25 (.getfield 69) 3 28 := ⟨by decide +kernel, rfl⟩
theorem d_X11_quench_28 : DD prog_1_method_16_code 28 (.getfield 113) 3 31 := ⟨by decide +kernel, rfl⟩
theorem d_X11_quench_31 : DD prog_1_method_16_code 31 (.getfield 193) 3 34 := ⟨by decide +kernel, rfl⟩
theorem d_X11_quench_34 : DD prog_1_method_16_code 34 (.getfield 239) 3 37 := ⟨by decide +kernel, rfl⟩
theorem d_X11_quench_37 : DD prog_1_method_16_code 37 (.ireturn) 1 38 := ⟨by decide +kernel, rfl⟩
theorem d_X11_mend_0 : DD prog_1_method_17_code 0 (.iload_n 1) 1 1 := ⟨by decide +kernel, rfl⟩
theorem d_X11_mend_1 : DD prog_1_method_17_code 1 (.invokestatic 163) 3 4 := ⟨by decide +kernel, rfl⟩
theorem d_X11_mend_4 : DJ prog_1_method_17_code 4 (fun o => .ifCond .eq o) 25 3 7 := ⟨by decide +kernel, rfl⟩
theorem d_X11_mend_7 : DD prog_1_method_17_code 7 (.aload_n 0) 1 8 := ⟨by decide +kernel, rfl⟩
theorem d_X11_mend_8 : DD prog_1_method_17_code 8 (.iload_n 2) 1 9 := ⟨by decide +kernel, rfl⟩
theorem d_X11_mend_9 : DD prog_1_method_17_code 9 (.invokevirtual 148) 3 12 := ⟨by decide +kernel, rfl⟩
theorem d_X11_mend_12 : DJ prog_1_method_17_code 12 (fun o => .ifCond .eq o) 25 3 15 := ⟨by decide +kernel, rfl⟩
theorem d_X11_mend_15 : DD prog_1_method_17_code 15 (.iload_n 3) 1 16 := ⟨by decide +kernel, rfl⟩
theorem d_X11_mend_16 : DD prog_1_method_17_code 16 (.iconst 0) 1 17 := ⟨by decide +kernel, rfl⟩
theorem d_X11_mend_17 : DD prog_1_method_17_code 17 (.bipush 99) 2 19 := ⟨by decide +kernel, rfl⟩
theorem d_X11_mend_19 : DD prog_1_method_17_code 19 (.invokestatic 166) 3 22 := ⟨by decide +kernel, rfl⟩
theorem d_X11_mend_22 : DJ prog_1_method_17_code 22 (fun o => .ifCond .ne o) 27 3 25 := ⟨by decide +kernel, rfl⟩
theorem d_X11_mend_25 : DD prog_1_method_17_code 25 (.iconst (-1)) 1 26 := ⟨by decide +kernel, rfl⟩
theorem d_X11_mend_26 : DD prog_1_method_17_code 26 (.ireturn) 1 27 := ⟨by decide +kernel, rfl⟩
theorem d_X11_mend_27 : DD prog_1_method_17_code 27 (.aload_n 0) 1 28 := ⟨by decide +kernel, rfl⟩
theorem d_X11_mend_28 : DD prog_1_method_17_code 28 (.getfield 69) 3 31 := ⟨by decide +kernel, rfl⟩
theorem d_X11_mend_31 : DD prog_1_method_17_code 31 (.getfield 113) 3 34 := ⟨by decide +kernel, rfl⟩
theorem d_X11_mend_34 : DD prog_1_method_17_code 34 (.astore 4) 2 36 := ⟨by decide +kernel, rfl⟩
theorem d_X11_mend_36 : DD prog_1_method_17_code 36 (.aload 4) 2 38 := ⟨by decide +kernel, rfl⟩
theorem d_X11_mend_38 : DD prog_1_method_17_code 38 (.iload_n 1) 1 39 := ⟨by decide +kernel, rfl⟩
theorem d_X11_mend_39 : DD prog_1_method_17_code 39 (.iload_n 2) 1 40 := ⟨by decide +kernel, rfl⟩
theorem d_X11_mend_40 : DD prog_1_method_17_code 40 (.invokevirtual 170) 3 43 := ⟨by decide +kernel, rfl⟩
theorem d_X11_mend_43 : DD prog_1_method_17_code 43 (.astore 5) 2 45 := ⟨by decide +kernel, rfl⟩
theorem d_X11_mend_45 : DD prog_1_method_17_code 45 (.aload 5) 2 47 := ⟨by decide +kernel, rfl⟩
theorem d_X11_mend_47 : DD prog_1_method_17_code 47 (.getfield 174) 3 50 := ⟨by decide +kernel, rfl⟩
theorem d_X11_mend_50 : DJ prog_1_method_17_code 50 (fun o => .ifCond .ne o) 56 3 53 := ⟨by decide +kernel, rfl⟩
theorem d_X11_mend_53 : DD prog_1_method_17_code 53 (.bipush (-4)) 2 55 := ⟨by decide +kernel, rfl⟩
theorem d_X11_mend_55 : DD prog_1_method_17_code 55 (.ireturn) 1 56 := ⟨by decide +kernel, rfl⟩
theorem d_X11_mend_56 : DD prog_1_method_17_code 56 (.iload_n 3) 1 57 := ⟨by decide +kernel, rfl⟩
theorem d_X11_mend_57 : DD prog_1_method_17_code 57 (.aload 4) 2 59 := ⟨by decide +kernel, rfl⟩
theorem d_X11_mend_59 : DD prog_1_method_17_code 59 (.getfield 151) 3 62 := ⟨by decide +kernel, rfl⟩
theorem d_X11_mend_62 : DD prog_1_method_17_code 62 (.iload_n 2) 1 63 := ⟨by decide +kernel, rfl⟩
theorem d_X11_mend_63 : DD prog_1_method_17_code 63 (.iaload) 1 64 := ⟨by decide +kernel, rfl⟩
theorem d_X11_mend_64 : DJ prog_1_method_17_code 64 (fun o => .if_icmp .le o) 70 3 67 := ⟨by decide +kernel, rfl⟩
theorem d_X11_mend_67 : DD prog_1_method_17_code 67 (.bipush (-2)) 2 69 := ⟨by decide +kernel, rfl⟩
theorem d_X11_mend_69 : DD prog_1_method_17_code 69 (.ireturn) 1 70 := ⟨by decide +kernel, rfl⟩
theorem d_X11_mend_70 : DD prog_1_method_17_code 70 (.aload 5) 2 72 := ⟨by decide +kernel, rfl⟩
theorem d_X11_mend_72 : DD prog_1_method_17_code 72 (.getfield 189) 3 75 := ⟨by decide +kernel, rfl⟩
theorem d_X11_mend_75 : DD prog_1_method_17_code 75 (.iload_n 3) 1 76 := ⟨by decide +kernel, rfl⟩
theorem d_X11_mend_76 : DD prog_1_method_17_code 76 (.iadd) 1 77 := ⟨by decide +kernel, rfl⟩
theorem d_X11_mend_77 : DD prog_1_method_17_code 77 (.bipush 99) 2 79 := ⟨by decide +kernel, rfl⟩
theorem d_X11_mend_79 : DJ prog_1_method_17_code 79 (fun o => .if_icmp .le o) 85 3 82 := ⟨by decide +kernel, rfl⟩
theorem d_X11_mend_82 : DD prog_1_method_17_code 82 (.bipush (-3)) 2 84 := ⟨by decide +kernel, rfl⟩
theorem d_X11_mend_84 : DD prog_1_method_17_code 84 (.ireturn) 1 85 := ⟨by decide +kernel, rfl⟩
theorem d_X11_mend_85 : DD prog_1_method_17_code 85 (.aload 4) 2 87 := ⟨by decide +kernel, rfl⟩
theorem d_X11_mend_87 : DD prog_1_method_17_code 87 (.getfield 151) 3 90 := ⟨by decide +kernel, rfl⟩
theorem d_X11_mend_90 : DD prog_1_method_17_code 90 (.iload_n 2) 1 91 := ⟨by decide +kernel, rfl⟩
theorem d_X11_mend_91 : DD prog_1_method_17_code 91 (.dup2) 1 92 := ⟨by decide +kernel, rfl⟩
theorem d_X11_mend_92 : DD prog_1_method_17_code 92 (.iaload) 1 93 := ⟨by decide +kernel, rfl⟩
theorem d_X11_mend_93 : DD prog_1_method_17_code 93 (.iload_n 3) 1 94 := ⟨by decide +kernel, rfl⟩
theorem d_X11_mend_94 : DD prog_1_method_17_code 94 (.isub) 1 95 := ⟨by decide +kernel, rfl⟩
theorem d_X11_mend_95 : DD prog_1_method_17_code 95 (.iastore) 1 96 := ⟨by decide +kernel, rfl⟩
theorem d_X11_mend_96 : DD prog_1_method_17_code 96 (.aload 5) 2 98 := ⟨by decide +kernel, rfl⟩
theorem d_X11_mend_98 : DD prog_1_method_17_code 98 (.dup) 1 99 := ⟨by decide +kernel, rfl⟩
theorem d_X11_mend_99 : DD prog_1_method_17_code 99 (.getfield 189) 3 102 := ⟨by decide +kernel, rfl⟩
theorem d_X11_mend_102 : DD prog_1_method_17_code 102 (.iload_n 3) 1 103 := ⟨by decide +kernel, rfl⟩
theorem d_X11_mend_103 : DD prog_1_method_17_code 103 (.iadd) 1 104 := ⟨by decide +kernel, rfl⟩
theorem d_X11_mend_104 : DD prog_1_method_17_code 104 (.putfield 189) 3 107 := ⟨by decide +kernel, rfl⟩
theorem d_X11_mend_107 : DD prog_1_method_17_code 107 (.aload 5) 2 109 := ⟨by decide +kernel, rfl⟩
theorem d_X11_mend_109 : DD prog_1_method_17_code 109 (.getfield 189) 3 112 := ⟨by decide +kernel, rfl⟩
theorem d_X11_mend_112 : DD prog_1_method_17_code 112 (.ireturn) 1 113 := ⟨by decide +kernel, rfl⟩
theorem d_X11_carry_0 : DD prog_1_method_18_code 0 (.aload_n 0) 1 1 := ⟨by decide +kernel, rfl⟩
theorem d_X11_carry_1 : DD prog_1_method_18_code 1 (.iload_n 1) 1 2 := ⟨by decide +kernel, rfl⟩
theorem d_X11_carry_2 : DD prog_1_method_18_code 2 (.invokevirtual 148) 3 5 := ⟨by decide +kernel, rfl⟩
theorem d_X11_carry_5 : DJ prog_1_method_18_code 5 (fun o => .ifCond .eq o) 30 3 8 := ⟨by decide +kernel, rfl⟩
theorem d_X11_carry_8 : DD prog_1_method_18_code 8 (.aload_n 0) 1 9 := ⟨by decide +kernel, rfl⟩
theorem d_X11_carry_9 : DD prog_1_method_18_code 9 (.iload_n 2) 1 10 := ⟨by decide +kernel, rfl⟩
theorem d_X11_carry_10 : DD prog_1_method_18_code 10 (.invokevirtual 148) 3 13 := ⟨by decide +kernel, rfl⟩
theorem d_X11_carry_13 : DJ prog_1_method_18_code 13 (fun o => .ifCond .eq o) 30 3 16 := ⟨by decide +kernel, rfl⟩
theorem d_X11_carry_16 : DD prog_1_method_18_code 16 (.iload_n 1) 1 17 := ⟨by decide +kernel, rfl⟩
theorem d_X11_carry_17 : DD prog_1_method_18_code 17 (.iload_n 2) 1 18 := ⟨by decide +kernel, rfl⟩
theorem d_X11_carry_18 : DD prog_1_method_18_code 18 (.isub) 1 19 := ⟨by decide +kernel, rfl⟩
theorem d_X11_carry_19 : DD prog_1_method_18_code 19 (.invokestatic 244) 3 22 := ⟨by decide +kernel, rfl⟩
theorem d_X11_carry_22 : DD prog_1_method_18_code 22 (.iconst 1) 1 23 := ⟨by decide +kernel, rfl⟩
theorem d_X11_carry_23 : DJ prog_1_method_18_code 23 (fun o => .if_icmp .ne o) 30 3 26 := ⟨by decide +kernel, rfl⟩
theorem d_X11_carry_26 : DD prog_1_method_18_code 26 (.iload_n 3) 1 27 := ⟨by decide +kernel, rfl⟩
theorem d_X11_carry_27 : DJ prog_1_method_18_code 27 (fun o => .ifCond .ge o) 32 3 30 := ⟨by decide +kernel, rfl⟩
theorem d_X11_carry_30 : DD prog_1_method_18_code 30 (.iconst (-1)) 1 31 := ⟨by decide +kernel, rfl⟩
theorem d_X11_carry_31 : DD prog_1_method_18_code 31 (.ireturn) 1 32 := ⟨by decide +kernel, rfl⟩
theorem d_X11_carry_32 : DD prog_1_method_18_code 32 (.aload_n 0) 1 33 := ⟨by decide +kernel, rfl⟩
theorem d_X11_carry_33 : DD prog_1_method_18_code 33 (.getfield 69) 3 36 := ⟨by decide +kernel, rfl⟩
theorem d_X11_carry_36 : DD prog_1_method_18_code 36 (.getfield 113) 3 39 := ⟨by decide +kernel, rfl⟩
theorem d_X11_carry_39 : DD prog_1_method_18_code 39 (.getfield 151) 3 42 := ⟨by decide +kernel, rfl⟩
theorem d_X11_carry_42 : DD prog_1_method_18_code 42 (.astore 4) 2 44 := ⟨by decide +kernel, rfl⟩
theorem d_X11_carry_44 : DD prog_1_method_18_code 44 (.iload_n 3) 1 45 := ⟨by decide +kernel, rfl⟩
theorem d_X11_carry_45 : DD prog_1_method_18_code 45 (.aload 4) 2 47 := ⟨by decide +kernel, rfl⟩
theorem d_X11_carry_47 : DD prog_1_method_18_code 47 (.iload_n 1) 1 48 := ⟨by decide +kernel, rfl⟩
theorem d_X11_carry_48 : DD prog_1_method_18_code 48 (.iaload) 1 49 := ⟨by decide +kernel, rfl⟩
theorem d_X11_carry_49 : DJ prog_1_method_18_code 49 (fun o => .if_icmp .le o) 55 3 52 := ⟨by decide +kernel, rfl⟩
theorem d_X11_carry_52 : DD prog_1_method_18_code 52 (.bipush (-2)) 2 54 := ⟨by decide +kernel, rfl⟩
theorem d_X11_carry_54 : DD prog_1_method_18_code 54 (.ireturn) 1 55 := ⟨by decide +kernel, rfl⟩
theorem d_X11_carry_55 : DD prog_1_method_18_code 55 (.aload 4) 2 57 := ⟨by decide +kernel, rfl⟩
theorem d_X11_carry_57 : DD prog_1_method_18_code 57 (.iload_n 1) 1 58 := ⟨by decide +kernel, rfl⟩
theorem d_X11_carry_58 : DD prog_1_method_18_code 58 (.dup2) 1 59 := ⟨by decide +kernel, rfl⟩
theorem d_X11_carry_59 : DD prog_1_method_18_code 59 (.iaload) 1 60 := ⟨by decide +kernel, rfl⟩
theorem d_X11_carry_60 : DD prog_1_method_18_code 60 (.iload_n 3) 1 61 := ⟨by decide +kernel, rfl⟩
theorem d_X11_carry_61 : DD prog_1_method_18_code 61 (.isub) 1 62 := ⟨by decide +kernel, rfl⟩
theorem d_X11_carry_62 : DD prog_1_method_18_code 62 (.iastore) 1 63 := ⟨by decide +kernel, rfl⟩
theorem d_X11_carry_63 : DD prog_1_method_18_code 63 (.aload 4) 2 65 := ⟨by decide +kernel, rfl⟩
theorem d_X11_carry_65 : DD prog_1_method_18_code 65 (.iload_n 2) 1 66 := ⟨by decide +kernel, rfl⟩
theorem d_X11_carry_66 : DD prog_1_method_18_code 66 (.dup2) 1 67 := ⟨by decide +kernel, rfl⟩
theorem d_X11_carry_67 : DD prog_1_method_18_code 67 (.iaload) 1 68 := ⟨by decide +kernel, rfl⟩
theorem d_X11_carry_68 : DD prog_1_method_18_code 68 (.iload_n 3) 1 69 := ⟨by decide +kernel, rfl⟩
theorem d_X11_carry_69 : DD prog_1_method_18_code 69 (.iadd) 1 70 := ⟨by decide +kernel, rfl⟩
theorem d_X11_carry_70 : DD prog_1_method_18_code 70 (.iastore) 1 71 := ⟨by decide +kernel, rfl⟩
theorem d_X11_carry_71 : DD prog_1_method_18_code 71 (.aload 4) 2 73 := ⟨by decide +kernel, rfl⟩
theorem d_X11_carry_73 : DD prog_1_method_18_code 73 (.iload_n 2) 1 74 := ⟨by decide +kernel, rfl⟩
theorem d_X11_carry_74 : DD prog_1_method_18_code 74 (.iaload) 1 75 := ⟨by decide +kernel, rfl⟩
theorem d_X11_carry_75 : DD prog_1_method_18_code 75 (.ireturn) 1 76 := ⟨by decide +kernel, rfl⟩
theorem d_X11_heat_0 : DD prog_1_method_19_code 0 (.aload_n 0) 1 1 := ⟨by decide +kernel, rfl⟩
theorem d_X11_heat_1 : DD prog_1_method_19_code 1 (.iload_n 1) 1 2 := ⟨by decide +kernel, rfl⟩
theorem d_X11_heat_2 : DD prog_1_method_19_code 2 (.invokevirtual 148) 3 5 := ⟨by decide +kernel, rfl⟩
theorem d_X11_heat_5 : DJ prog_1_method_19_code 5 (fun o => .ifCond .eq o) 15 3 8 := ⟨by decide +kernel, rfl⟩
theorem d_X11_heat_8 : DD prog_1_method_19_code 8 (.iload_n 2) 1 9 := ⟨by decide +kernel, rfl⟩
theorem d_X11_heat_9 : DD prog_1_method_19_code 9 (.invokestatic 137) 3 12 := ⟨by decide +kernel, rfl⟩
theorem d_X11_heat_12 : DJ prog_1_method_19_code 12 (fun o => .ifCond .ne o) 17 3 15 := ⟨by decide +kernel, rfl⟩
theorem d_X11_heat_15 : DD prog_1_method_19_code 15 (.iconst (-1)) 1 16 := ⟨by decide +kernel, rfl⟩
theorem d_X11_heat_16 : DD prog_1_method_19_code 16 (.ireturn) 1 17 := ⟨by decide +kernel, rfl⟩
theorem d_X11_heat_17 : DD prog_1_method_19_code 17 (.iload_n 3) 1 18 := ⟨by decide +kernel, rfl⟩
theorem d_X11_heat_18 : DJ prog_1_method_19_code 18 (fun o => .ifCond .eq o) 36 3 21 := ⟨by decide +kernel, rfl⟩
theorem d_X11_heat_21 : DD prog_1_method_19_code 21 (.aload_n 0) 1 22 := ⟨by decide +kernel, rfl⟩
theorem d_X11_heat_22 : DD prog_1_method_19_code 22 (.getfield 69) 3 25 := ⟨by decide +kernel, rfl⟩
theorem d_X11_heat_25 : DD prog_1_method_19_code 25 (.getfield 113) 3 28 := ⟨by decide +kernel, rfl⟩
theorem d_X11_heat_28 : DD prog_1_method_19_code 28 (.iload_n 1) 1 29 := ⟨by decide +kernel, rfl⟩
theorem d_X11_heat_29 : DD prog_1_method_19_code 29 (.iload_n 2) 1 30 := ⟨by decide +kernel, rfl⟩
theorem d_X11_heat_30 : DD prog_1_method_19_code 30 (.invokevirtual 249) 3 33 := ⟨by decide +kernel, rfl⟩
theorem d_X11_heat_33 : DJ prog_1_method_19_code 33 (fun o => .goto o) 51 3 36 := ⟨by decide +kernel, rfl⟩
theorem d_X11_heat_36 : DD prog_1_method_19_code 36 (.aload_n 0) 1 37 := ⟨by decide +kernel, rfl⟩
theorem d_X11_heat_37 : DD prog_1_method_19_code 37 (.getfield 69) 3 40 := ⟨by decide +kernel, rfl⟩
theorem d_X11_heat_40 : DD prog_1_method_19_code 40 (.getfield 113) 3 43 := ⟨by decide +kernel, rfl⟩
theorem d_X11_heat_43 : DD prog_1_method_19_code 43 (.getfield 193) 3 46 := ⟨by decide +kernel, rfl⟩
theorem d_X11_heat_46 : DD prog_1_method_19_code 46 (.iload_n 1) 1 47 := ⟨by decide +kernel, rfl⟩
theorem d_X11_heat_47 : DD prog_1_method_19_code 47 (.iload_n 2) 1 48 := ⟨by decide +kernel, rfl⟩
theorem d_X11_heat_48 : DD prog_1_method_19_code 48 (.invokevirtual 252) 3 51 := ⟨by decide +kernel, rfl⟩
theorem d_X11_heat_51 : DD prog_1_method_19_code 51 (.ireturn) 1 52 := ⟨by decide +kernel, rfl⟩
theorem d_X11_go_0 : DD prog_1_method_20_code 0 (.iload_n 1) 1 1 := ⟨by decide +kernel, rfl⟩
theorem d_X11_go_1 : DD prog_1_method_20_code 1 (.iconst 1) 1 2 := ⟨by decide +kernel, rfl⟩
theorem d_X11_go_2 : DD prog_1_method_20_code 2 (.bipush 12) 2 4 := ⟨by decide +kernel, rfl⟩
theorem d_X11_go_4 : DD prog_1_method_20_code 4 (.invokestatic 166) 3 7 := ⟨by decide +kernel, rfl⟩
theorem d_X11_go_7 : DJ prog_1_method_20_code 7 (fun o => .ifCond .ne o) 12 3 10 := ⟨by decide +kernel, rfl⟩
theorem d_X11_go_10 : DD prog_1_method_20_code 10 (.iconst (-1)) 1 11 := ⟨by decide +kernel, rfl⟩
theorem d_X11_go_11 : DD prog_1_method_20_code 11 (.ireturn) 1 12 := ⟨by decide +kernel, rfl⟩
theorem d_X11_go_12 : DD prog_1_method_20_code 12 (.aload_n 0) 1 13 := ⟨by decide +kernel, rfl⟩
theorem d_X11_go_13 : DD prog_1_method_20_code 13 (.getfield 69) 3 16 := ⟨by decide +kernel, rfl⟩
theorem d_X11_go_16 : DD prog_1_method_20_code 16 (.getfield 113) 3 19 := ⟨by decide +kernel, rfl⟩
theorem d_X11_go_19 : DD prog_1_method_20_code 19 (.getfield 116) 3 22 := ⟨by decide +kernel, rfl⟩
theorem d_X11_go_22 : DD prog_1_method_20_code 22 (.iload_n 1) 1 23 := ⟨by decide +kernel, rfl⟩
theorem d_X11_go_23 : DD prog_1_method_20_code 23 (.iadd) 1 24 := ⟨by decide +kernel, rfl⟩
theorem d_X11_go_24 : DD prog_1_method_20_code 24 (.istore_n 2) 1 25 := ⟨by decide +kernel, rfl⟩
theorem d_X11_go_25 : DD prog_1_method_20_code 25 (.iload_n 2) 1 26 := ⟨by decide +kernel, rfl⟩
theorem d_X11_go_26 : DD prog_1_method_20_code 26 (.bipush 12) 2 28 := ⟨by decide +kernel, rfl⟩
theorem d_X11_go_28 : DJ prog_1_method_20_code 28 (fun o => .if_icmp .le o) 34 3 31 := ⟨by decide +kernel, rfl⟩
theorem d_X11_go_31 : DD prog_1_method_20_code 31 (.bipush (-2)) 2 33 := ⟨by decide +kernel, rfl⟩
theorem d_X11_go_33 : DD prog_1_method_20_code 33 (.ireturn) 1 34 := ⟨by decide +kernel, rfl⟩
theorem d_X11_go_34 : DD prog_1_method_20_code 34 (.aload_n 0) 1 35 := ⟨by decide +kernel, rfl⟩
theorem d_X11_go_35 : DD prog_1_method_20_code 35 (.getfield 69) 3 38 := ⟨by decide +kernel, rfl⟩
theorem d_X11_go_38 : DD prog_1_method_20_code 38 (.aload_n 0) 1 39 := ⟨by decide +kernel, rfl⟩
theorem d_X11_go_39 : DD prog_1_method_20_code 39 (.getfield 69) 3 42 := ⟨by decide +kernel, rfl⟩
theorem d_X11_go_42 : DD prog_1_method_20_code 42 (.getfield 113) 3 45 := ⟨by decide +kernel, rfl⟩
theorem d_X11_go_45 : DD prog_1_method_20_code 45 (.iload_n 2) 1 46 := ⟨by decide +kernel, rfl⟩
theorem d_X11_go_46 : DD prog_1_method_20_code 46 (.invokevirtual 255) 3 49 := ⟨by decide +kernel, rfl⟩
theorem d_X11_go_49 : DD prog_1_method_20_code 49 (.aload_n 0) 1 50 := ⟨by decide +kernel, rfl⟩
theorem d_X11_go_50 : DD prog_1_method_20_code 50 (.getfield 69) 3 53 := ⟨by decide +kernel, rfl⟩
theorem d_X11_go_53 : DD prog_1_method_20_code 53 (.getfield 113) 3 56 := ⟨by decide +kernel, rfl⟩
theorem d_X11_go_56 : DD prog_1_method_20_code 56 (.getfield 116) 3 59 := ⟨by decide +kernel, rfl⟩
theorem d_X11_go_59 : DD prog_1_method_20_code 59 (.ireturn) 1 60 := ⟨by decide +kernel, rfl⟩
theorem d_X11_dawn_0 : DD prog_1_method_21_code 0 (.aload_n 0) 1 1 := ⟨by decide +kernel, rfl⟩
theorem d_X11_dawn_1 : DD prog_1_method_21_code 1 (.getfield 69) 3 4 := ⟨by decide +kernel, rfl⟩
theorem d_X11_dawn_4 : DD prog_1_method_21_code 4 (.getfield 113) 3 7 := ⟨by decide +kernel, rfl⟩
theorem d_X11_dawn_7 : DD prog_1_method_21_code 7 (.getfield 116) 3 10 := ⟨by decide +kernel, rfl⟩
theorem d_X11_dawn_10 : DD prog_1_method_21_code 10 (.istore_n 1) 1 11 := ⟨by decide +kernel, rfl⟩
theorem d_X11_dawn_11 : DD prog_1_method_21_code 11 (.aload_n 0) 1 12 := ⟨by decide +kernel, rfl⟩
theorem d_X11_dawn_12 : DD prog_1_method_21_code 12 (.getfield 69) 3 15 := ⟨by decide +kernel, rfl⟩
theorem d_X11_dawn_15 : DD prog_1_method_21_code 15 (.getfield 113) 3 18 := ⟨by decide +kernel, rfl⟩
theorem d_X11_dawn_18 : DD prog_1_method_21_code 18 (.iconst 0) 1 19 := ⟨by decide +kernel, rfl⟩
theorem d_X11_dawn_19 : DD prog_1_method_21_code 19 (.putfield 116) 3 22 := ⟨by decide +kernel, rfl⟩
theorem d_X11_dawn_22 : DD prog_1_method_21_code 22 (.iload_n 1) 1 23 := ⟨by decide +kernel, rfl⟩
theorem d_X11_dawn_23 : DD prog_1_method_21_code 23 (.ireturn) 1 24 := ⟨by decide +kernel, rfl⟩
theorem d_X11_all_0 : DD prog_1_method_22_code 0 (.aload_n 0) 1 1 := ⟨by decide +kernel, rfl⟩
theorem d_X11_all_1 : DD prog_1_method_22_code 1 (.getfield 69) 3 4 := ⟨by decide +kernel, rfl⟩
theorem d_X11_all_4 : DD prog_1_method_22_code 4 (.getfield 113) 3 7 := ⟨by decide +kernel, rfl⟩
theorem d_X11_all_7 : DD prog_1_method_22_code 7 (.invokevirtual 259) 3 10 := ⟨by decide +kernel, rfl⟩
theorem d_X11_all_10 : DD prog_1_method_22_code 10 (.ireturn) 1 11 := ⟨by decide +kernel, rfl⟩
theorem d_X11_isFromNow_0 : DD prog_1_method_51_code 0 (.iload_n 1) 1 1 := ⟨by decide +kernel, rfl⟩
theorem d_X11_isFromNow_1 : DD prog_1_method_51_code 1 (.aload_n 0) 1 2 := ⟨by decide +kernel, rfl⟩
theorem d_X11_isFromNow_2 : DD prog_1_method_51_code 2 (.getfield 69) 3 5 := ⟨by decide +kernel, rfl⟩
theorem d_X11_isFromNow_5 : DD prog_1_method_51_code 5 (.getfield 113) 3 8 := ⟨by decide +kernel, rfl⟩
theorem d_X11_isFromNow_8 : DD prog_1_method_51_code 8 (.getfield 116) 3 11 := ⟨by decide +kernel, rfl⟩
theorem d_X11_isFromNow_11 : DD prog_1_method_51_code 11 (.bipush 12) 2 13 := ⟨by decide +kernel, rfl⟩
theorem d_X11_isFromNow_13 : DD prog_1_method_51_code 13 (.invokestatic 166) 3 16 := ⟨by decide +kernel, rfl⟩
theorem d_X11_isFromNow_16 : DD prog_1_method_51_code 16 (.ireturn) 1 17 := ⟨by decide +kernel, rfl⟩
theorem d_X11_lookAhead_0 : DD prog_1_method_52_code 0 (.aload_n 0) 1 1 := ⟨by decide +kernel, rfl⟩
theorem d_X11_lookAhead_1 : DD prog_1_method_52_code 1 (.getfield 19) 3 4 := ⟨by decide +kernel, rfl⟩
theorem d_X11_lookAhead_4 : DD prog_1_method_52_code 4 (.aload_n 0) 1 5 := ⟨by decide +kernel, rfl⟩
theorem d_X11_lookAhead_5 : DD prog_1_method_52_code 5 (.getfield 69) 3 8 := ⟨by decide +kernel, rfl⟩
theorem d_X11_lookAhead_8 : DD prog_1_method_52_code 8 (.getfield 113) 3 11 := ⟨by decide +kernel, rfl⟩
theorem d_X11_lookAhead_11 : DD prog_1_method_52_code 11 (.invokevirtual 339) 3 14 := ⟨by decide +kernel, rfl⟩
theorem d_X11_lookAhead_14 : DD prog_1_method_52_code 14 (.aload_n 0) 1 15 := ⟨by decide +kernel, rfl⟩
theorem d_X11_lookAhead_15 : DD prog_1_method_52_code 15 (.getfield 69) 3 18 := ⟨by decide +kernel, rfl⟩
theorem d_X11_lookAhead_18 : DD prog_1_method_52_code 18 (.aload_n 0) 1 19 := ⟨by decide +kernel, rfl⟩
theorem d_X11_lookAhead_19 : DD prog_1_method_52_code 19 (.getfield 19) 3 22 := ⟨by decide +kernel, rfl⟩
theorem d_X11_lookAhead_22 : DD prog_1_method_52_code 22 (.iload_n 1) 1 23 := ⟨by decide +kernel, rfl⟩
theorem d_X11_lookAhead_23 : DD prog_1_method_52_code 23 (.invokevirtual 255) 3 26 := ⟨by decide +kernel, rfl⟩
theorem d_X11_lookAhead_26 : DD prog_1_method_52_code 26 (.return_) 1 27 := ⟨by decide +kernel, rfl⟩
theorem d_X11_later_0 : DD prog_1_method_23_code 0 (.iload_n 1) 1 1 := ⟨by decide +kernel, rfl⟩
theorem d_X11_later_1 : DD prog_1_method_23_code 1 (.invokestatic 163) 3 4 := ⟨by decide +kernel, rfl⟩
theorem d_X11_later_4 : DJ prog_1_method_23_code 4 (fun o => .ifCond .eq o) 23 3 7 := ⟨by decide +kernel, rfl⟩
theorem d_X11_later_7 : DD prog_1_method_23_code 7 (.aload_n 0) 1 8 := ⟨by decide +kernel, rfl⟩
theorem d_X11_later_8 : DD prog_1_method_23_code 8 (.iload_n 2) 1 9 := ⟨by decide +kernel, rfl⟩
theorem d_X11_later_9 : DD prog_1_method_23_code 9 (.invokevirtual 148) 3 12 := ⟨by decide +kernel, rfl⟩
theorem d_X11_later_12 : DJ prog_1_method_23_code 12 (fun o => .ifCond .eq o) 23 3 15 := ⟨by decide +kernel, rfl⟩
theorem d_X11_later_15 : DD prog_1_method_23_code 15 (.aload_n 0) 1 16 := ⟨by decide +kernel, rfl⟩
theorem d_X11_later_16 : DD prog_1_method_23_code 16 (.iload_n 3) 1 17 := ⟨by decide +kernel, rfl⟩
theorem d_X11_later_17 : DD prog_1_method_23_code 17 (.invokevirtual 263) 3 20 := ⟨by decide +kernel, rfl⟩
theorem d_X11_later_20 : DJ prog_1_method_23_code 20 (fun o => .ifCond .ne o) 25 3 23 := ⟨by decide +kernel, rfl⟩
theorem d_X11_later_23 : DD prog_1_method_23_code 23 (.iconst (-1)) 1 24 := ⟨by decide +kernel, rfl⟩
theorem d_X11_later_24 : DD prog_1_method_23_code 24 (.ireturn) 1 25 := ⟨by decide +kernel, rfl⟩
theorem d_X11_later_25 : DD prog_1_method_23_code 25 (.aload_n 0) 1 26 := ⟨by decide +kernel, rfl⟩
theorem d_X11_later_26 : DD prog_1_method_23_code 26 (.iload_n 3) 1 27 := ⟨by decide +kernel, rfl⟩
theorem d_X11_later_27 : DD prog_1_method_23_code 27 (.invokevirtual 266) 3 30 := ⟨by decide +kernel, rfl⟩
theorem d_X11_later_30 : DD prog_1_method_23_code 30 (.aload_n 0) 1 31 := ⟨by decide +kernel, rfl⟩
theorem d_X11_later_31 : DD prog_1_method_23_code 31 (.getfield 19) 3 34 := ⟨by decide +kernel, rfl⟩
theorem d_X11_later_34 : DD prog_1_method_23_code 34 (.iload_n 1) 1 35 := ⟨by decide +kernel, rfl⟩
theorem d_X11_later_35 : DD prog_1_method_23_code 35 (.iload_n 2) 1 36 := ⟨by decide +kernel, rfl⟩
theorem d_X11_later_36 : DD prog_1_method_23_code 36 (.invokevirtual 170) 3 39 := ⟨by decide +kernel, rfl⟩
theorem d_X11_later_39 : DD prog_1_method_23_code 39 (.astore 4) 2 41 := ⟨by decide +kernel, rfl⟩
theorem d_X11_later_41 : DD prog_1_method_23_code 41 (.aload 4) 2 43 := ⟨by decide +kernel, rfl⟩
theorem d_X11_later_43 : DD prog_1_method_23_code 43 (.getfield 174) 3 46 := ⟨by decide +kernel, rfl⟩
theorem d_X11_later_46 : DJ prog_1_method_23_code 46 (fun o => .ifCond .eq o) 57 3 49 := ⟨by decide +kernel, rfl⟩
theorem d_X11_later_49 : DD prog_1_method_23_code 49 (.aload 4) 2 51 := ⟨by decide +kernel, rfl⟩
theorem d_X11_later_51 : DD prog_1_method_23_code 51 (.getfield 189) 3 54 := ⟨by decide +kernel, rfl⟩
theorem d_X11_later_54 : DJ prog_1_method_23_code 54 (fun o => .goto o) 59 3 57 := ⟨by decide +kernel, rfl⟩
theorem d_X11_later_57 : DD prog_1_method_23_code 57 (.bipush (-4)) 2 59 := ⟨by decide +kernel, rfl⟩
theorem d_X11_later_59 : DD prog_1_method_23_code 59 (.ireturn) 1 60 := ⟨by decide +kernel, rfl⟩
theorem d_X11_line_0 : DD prog_1_method_24_code 0 (.aload_n 0) 1 1 := ⟨by decide +kernel, rfl⟩
theorem d_X11_line_1 : DD prog_1_method_24_code 1 (.iload_n 1) 1 2 := ⟨by decide +kernel, rfl⟩
theorem d_X11_line_2 : DD prog_1_method_24_code 2 (.invokevirtual 148) 3 5 := ⟨by decide +kernel, rfl⟩
theorem d_X11_line_5 : DJ prog_1_method_24_code 5 (fun o => .ifCond .eq o) 16 3 8 := ⟨by decide +kernel, rfl⟩
theorem d_X11_line_8 : DD prog_1_method_24_code 8 (.aload_n 0) 1 9 := ⟨by decide +kernel, rfl⟩
theorem d_X11_line_9 : DD prog_1_method_24_code 9 (.iload_n 2) 1 10 := ⟨by decide +kernel, rfl⟩
theorem d_X11_line_10 : DD prog_1_method_24_code 10 (.invokevirtual 263) 3 13 := ⟨by decide +kernel, rfl⟩
theorem d_X11_line_13 : DJ prog_1_method_24_code 13 (fun o => .ifCond .ne o) 18 3 16 := ⟨by decide +kernel, rfl⟩
theorem d_X11_line_16 : DD prog_1_method_24_code 16 (.iconst (-1)) 1 17 := ⟨by decide +kernel, rfl⟩
theorem d_X11_line_17 : DD prog_1_method_24_code 17 (.ireturn) 1 18 := ⟨by decide +kernel, rfl⟩
theorem d_X11_line_18 : DD prog_1_method_24_code 18 (.aload_n 0) 1 19 := ⟨by decide +kernel, rfl⟩
theorem d_X11_line_19 : DD prog_1_method_24_code 19 (.iload_n 2) 1 20 := ⟨by decide +kernel, rfl⟩
theorem d_X11_line_20 : DD prog_1_method_24_code 20 (.invokevirtual 266) 3 23 := ⟨by decide +kernel, rfl⟩
theorem d_X11_line_23 : DD prog_1_method_24_code 23 (.aload_n 0) 1 24 := ⟨by decide +kernel, rfl⟩
theorem d_X11_line_24 : DD prog_1_method_24_code 24 (.getfield 19) 3 27 := ⟨by decide +kernel, rfl⟩
theorem d_X11_line_27 : DD prog_1_method_24_code 27 (.getfield 157) 3 30 := ⟨by decide +kernel, rfl⟩
theorem d_X11_line_30 : DD prog_1_method_24_code 30 (.iload_n 1) 1 31 := ⟨by decide +kernel, rfl⟩
theorem d_X11_line_31 : DD prog_1_method_24_code 31 (.iaload) 1 32 := ⟨by decide +kernel, rfl⟩
theorem d_X11_line_32 : DD prog_1_method_24_code 32 (.bipush 100) 2 34 := ⟨by decide +kernel, rfl⟩
theorem d_X11_line_34 : DD prog_1_method_24_code 34 (.iadd) 1 35 := ⟨by decide +kernel, rfl⟩
theorem d_X11_line_35 : DD prog_1_method_24_code 35 (.ireturn) 1 36 := ⟨by decide +kernel, rfl⟩
theorem d_X11_houses_0 : DD prog_1_method_25_code 0 (.iload_n 1) 1 1 := ⟨by decide +kernel, rfl⟩
theorem d_X11_houses_1 : DD prog_1_method_25_code 1 (.invokestatic 163) 3 4 := ⟨by decide +kernel, rfl⟩
theorem d_X11_houses_4 : DJ prog_1_method_25_code 4 (fun o => .ifCond .eq o) 15 3 7 := ⟨by decide +kernel, rfl⟩
theorem d_X11_houses_7 : DD prog_1_method_25_code 7 (.aload_n 0) 1 8 := ⟨by decide +kernel, rfl⟩
theorem d_X11_houses_8 : DD prog_1_method_25_code 8 (.iload_n 2) 1 9 := ⟨by decide +kernel, rfl⟩
theorem d_X11_houses_9 : DD prog_1_method_25_code 9 (.invokevirtual 263) 3 12 := ⟨by decide +kernel, rfl⟩
theorem d_X11_houses_12 : DJ prog_1_method_25_code 12 (fun o => .ifCond .ne o) 17 3 15 := ⟨by decide +kernel, rfl⟩
theorem d_X11_houses_15 : DD prog_1_method_25_code 15 (.iconst (-1)) 1 16 := ⟨by decide +kernel, rfl⟩
theorem d_X11_houses_16 : DD prog_1_method_25_code 16 (.ireturn) 1 17 := ⟨by decide +kernel, rfl⟩
theorem d_X11_houses_17 : DD prog_1_method_25_code 17 (.aload_n 0) 1 18 := ⟨by decide +kernel, rfl⟩
theorem d_X11_houses_18 : DD prog_1_method_25_code 18 (.iload_n 2) 1 19 := ⟨by decide +kernel, rfl⟩
theorem d_X11_houses_19 : DD prog_1_method_25_code 19 (.invokevirtual 266) 3 22 := ⟨by decide +kernel, rfl⟩
theorem d_X11_houses_22 : DD prog_1_method_25_code 22 (.iconst 0) 1 23 := ⟨by decide +kernel, rfl⟩
theorem d_X11_houses_23 : DD prog_1_method_25_code 23 (.istore_n 3) 1 24 := ⟨by decide +kernel, rfl⟩
theorem d_X11_houses_24 : DD prog_1_method_25_code 24 (.iconst 0) 1 25 := ⟨by decide +kernel, rfl⟩
theorem d_X11_houses_25 : DD prog_1_method_25_code 25 (.istore 4) 2 27 := ⟨by decide +kernel, rfl⟩
theorem d_X11_houses_27 : DD prog_1_method_25_code 27 (.iload 4) 2 29 := ⟨by decide +kernel, rfl⟩
theorem d_X11_houses_29 : DD prog_1_method_25_code 29 (.aload_n 0) 1 30 := ⟨by decide +kernel, rfl⟩
theorem d_X11_houses_30 : DD prog_1_method_25_code 30 (.getfield 69) 3 33 := ⟨by decide +kernel, rfl⟩
theorem d_X11_houses_33 : DD prog_1_method_25_code 33 (.getfield 214) 3 36 := ⟨by decide +kernel, rfl⟩
theorem d_X11_houses_36 : DJ prog_1_method_25_code 36 (fun o => .if_icmp .ge o) 69 3 39 := ⟨by decide +kernel, rfl⟩
theorem d_X11_houses_39 : DD prog_1_method_25_code 39 (.aload_n 0) 1 40 := ⟨by decide +kernel, rfl⟩
theorem d_X11_houses_40 : DD prog_1_method_25_code 40 (.getfield 69) 3 43 := ⟨by decide +kernel, rfl⟩
theorem d_X11_houses_43 : DD prog_1_method_25_code 43 (.iload 4) 2 45 := ⟨by decide +kernel, rfl⟩
theorem d_X11_houses_45 : DD prog_1_method_25_code 45 (.aload_n 0) 1 46 := ⟨by decide +kernel, rfl⟩
theorem d_X11_houses_46 : DD prog_1_method_25_code 46 (.getfield 19) 3 49 := ⟨by decide +kernel, rfl⟩
theorem d_X11_houses_49 : DD prog_1_method_25_code 49 (.invokevirtual 223) 3 52 := ⟨by decide +kernel, rfl⟩
theorem d_X11_houses_52 : DD prog_1_method_25_code 52 (.iload_n 1) 1 53 := ⟨by decide +kernel, rfl⟩
theorem d_X11_houses_53 : DJ prog_1_method_25_code 53 (fun o => .if_icmp .ne o) 63 3 56 := ⟨by decide +kernel, rfl⟩
theorem d_X11_houses_56 : DD prog_1_method_25_code 56 (.iload_n 3) 1 57 := ⟨by decide +kernel, rfl⟩
theorem d_X11_houses_57 : DD prog_1_method_25_code 57 (.iconst 1) 1 58 := ⟨by decide +kernel, rfl⟩
theorem d_X11_houses_58 : DD prog_1_method_25_code 58 (.iload 4) 2 60 := ⟨by decide +kernel, rfl⟩
theorem d_X11_houses_60 : DD prog_1_method_25_code 60 (.ishl) 1 61 := ⟨by decide +kernel, rfl⟩
theorem d_X11_houses_61 : DD prog_1_method_25_code 61 (.ior) 1 62 := ⟨by decide +kernel, rfl⟩
theorem d_X11_houses_62 : DD prog_1_method_25_code 62 (.istore_n 3) 1 63 := ⟨by decide +kernel, rfl⟩
theorem d_X11_houses_63 : DD prog_1_method_25_code 63 (.iinc 4 1) 3 66 := ⟨by decide +kernel, rfl⟩
theorem d_X11_houses_66 : DJ prog_1_method_25_code 66 (fun o => .goto o) 27 3 69 := ⟨by decide +kernel, rfl⟩
theorem d_X11_houses_69 : DD prog_1_method_25_code 69 (.iload_n 3) 1 70 := ⟨by decide +kernel, rfl⟩
theorem d_X11_houses_70 : DD prog_1_method_25_code 70 (.ireturn) 1 71 := ⟨by decide +kernel, rfl⟩
theorem d_X11_holds_0 : DD prog_1_method_26_code 0 (.iload_n 1) 1 1 := ⟨by decide +kernel, rfl⟩
theorem d_X11_holds_1 : DD prog_1_method_26_code 1 (.invokestatic 163) 3 4 := ⟨by decide +kernel, rfl⟩
theorem d_X11_holds_4 : DJ prog_1_method_26_code 4 (fun o => .ifCond .eq o) 15 3 7 := ⟨by decide +kernel, rfl⟩
theorem d_X11_holds_7 : DD prog_1_method_26_code 7 (.aload_n 0) 1 8 := ⟨by decide +kernel, rfl⟩
theorem d_X11_holds_8 : DD prog_1_method_26_code 8 (.iload_n 2) 1 9 := ⟨by decide +kernel, rfl⟩
theorem d_X11_holds_9 : DD prog_1_method_26_code 9 (.invokevirtual 263) 3 12 := ⟨by decide +kernel, rfl⟩
theorem d_X11_holds_12 : DJ prog_1_method_26_code 12 (fun o => .ifCond .ne o) 17 3 15 := ⟨by decide +kernel, rfl⟩
theorem d_X11_holds_15 : DD prog_1_method_26_code 15 (.iconst (-1)) 1 16 := ⟨by decide +kernel, rfl⟩
theorem d_X11_holds_16 : DD prog_1_method_26_code 16 (.ireturn) 1 17 := ⟨by decide +kernel, rfl⟩
theorem d_X11_holds_17 : DD prog_1_method_26_code 17 (.aload_n 0) 1 18 := ⟨by decide +kernel, rfl⟩
theorem d_X11_holds_18 : DD prog_1_method_26_code 18 (.getfield 69) 3 21 := ⟨by decide +kernel, rfl⟩
theorem d_X11_holds_21 : DD prog_1_method_26_code 21 (.iload_n 1) 1 22 := ⟨by decide +kernel, rfl⟩
theorem d_X11_holds_22 : DD prog_1_method_26_code 22 (.iload_n 2) 1 23 := ⟨by decide +kernel, rfl⟩
theorem d_X11_holds_23 : DD prog_1_method_26_code 23 (.invokevirtual 269) 3 26 := ⟨by decide +kernel, rfl⟩
theorem d_X11_holds_26 : DD prog_1_method_26_code 26 (.ireturn) 1 27 := ⟨by decide +kernel, rfl⟩
theorem d_X11_need_0 : DD prog_1_method_27_code 0 (.iload_n 1) 1 1 := ⟨by decide +kernel, rfl⟩
theorem d_X11_need_1 : DD prog_1_method_27_code 1 (.invokestatic 163) 3 4 := ⟨by decide +kernel, rfl⟩
theorem d_X11_need_4 : DJ prog_1_method_27_code 4 (fun o => .ifCond .eq o) 23 3 7 := ⟨by decide +kernel, rfl⟩
theorem d_X11_need_7 : DD prog_1_method_27_code 7 (.aload_n 0) 1 8 := ⟨by decide +kernel, rfl⟩
theorem d_X11_need_8 : DD prog_1_method_27_code 8 (.iload_n 2) 1 9 := ⟨by decide +kernel, rfl⟩
theorem d_X11_need_9 : DD prog_1_method_27_code 9 (.invokevirtual 148) 3 12 := ⟨by decide +kernel, rfl⟩
theorem d_X11_need_12 : DJ prog_1_method_27_code 12 (fun o => .ifCond .eq o) 23 3 15 := ⟨by decide +kernel, rfl⟩
theorem d_X11_need_15 : DD prog_1_method_27_code 15 (.aload_n 0) 1 16 := ⟨by decide +kernel, rfl⟩
theorem d_X11_need_16 : DD prog_1_method_27_code 16 (.iload_n 3) 1 17 := ⟨by decide +kernel, rfl⟩
theorem d_X11_need_17 : DD prog_1_method_27_code 17 (.invokevirtual 263) 3 20 := ⟨by decide +kernel, rfl⟩
theorem d_X11_need_20 : DJ prog_1_method_27_code 20 (fun o => .ifCond .ne o) 25 3 23 := ⟨by decide +kernel, rfl⟩
theorem d_X11_need_23 : DD prog_1_method_27_code 23 (.iconst (-1)) 1 24 := ⟨by decide +kernel, rfl⟩
theorem d_X11_need_24 : DD prog_1_method_27_code 24 (.ireturn) 1 25 := ⟨by decide +kernel, rfl⟩
theorem d_X11_need_25 : DD prog_1_method_27_code 25 (.aload_n 0) 1 26 := ⟨by decide +kernel, rfl⟩
theorem d_X11_need_26 : DD prog_1_method_27_code 26 (.getfield 69) 3 29 := ⟨by decide +kernel, rfl⟩
theorem d_X11_need_29 : DD prog_1_method_27_code 29 (.iload_n 1) 1 30 := ⟨by decide +kernel, rfl⟩
theorem d_X11_need_30 : DD prog_1_method_27_code 30 (.iload_n 2) 1 31 := ⟨by decide +kernel, rfl⟩
theorem d_X11_need_31 : DD prog_1_method_27_code 31 (.iload_n 3) 1 32 := ⟨by decide +kernel, rfl⟩
theorem d_X11_need_32 : DD prog_1_method_27_code 32 (.invokevirtual 272) 3 35 := ⟨by decide +kernel, rfl⟩
theorem d_X11_need_35 : DD prog_1_method_27_code 35 (.ireturn) 1 36 := ⟨by decide +kernel, rfl⟩
theorem d_X11_crews_0 : DD prog_1_method_28_code 0 (.iload_n 1) 1 1 := ⟨by decide +kernel, rfl⟩
theorem d_X11_crews_1 : DD prog_1_method_28_code 1 (.invokestatic 163) 3 4 := ⟨by decide +kernel, rfl⟩
theorem d_X11_crews_4 : DJ prog_1_method_28_code 4 (fun o => .ifCond .eq o) 35 3 7 := ⟨by decide +kernel, rfl⟩
theorem d_X11_crews_7 : DD prog_1_method_28_code 7 (.aload_n 0) 1 8 := ⟨by decide +kernel, rfl⟩
theorem d_X11_crews_8 : DD prog_1_method_28_code 8 (.iload_n 2) 1 9 := ⟨by decide +kernel, rfl⟩
theorem d_X11_crews_9 : DD prog_1_method_28_code 9 (.invokevirtual 263) 3 12 := ⟨by decide +kernel, rfl⟩
theorem d_X11_crews_12 : DJ prog_1_method_28_code 12 (fun o => .ifCond .eq o) 35 3 15 := ⟨by decide +kernel, rfl⟩
theorem d_X11_crews_15 : DD prog_1_method_28_code 15 (.iload_n 3) 1 16 := ⟨by decide +kernel, rfl⟩
theorem d_X11_crews_16 : DD prog_1_method_28_code 16 (.iconst 0) 1 17 := ⟨by decide +kernel, rfl⟩
theorem d_X11_crews_17 : DD prog_1_method_28_code 17 (.bipush 10) 2 19 := ⟨by decide +kernel, rfl⟩
theorem d_X11_crews_19 : DD prog_1_method_28_code 19 (.invokestatic 166) 3 22 := ⟨by decide +kernel, rfl⟩
theorem d_X11_crews_22 : DJ prog_1_method_28_code 22 (fun o => .ifCond .eq o) 35 3 25 := ⟨by decide +kernel, rfl⟩
theorem d_X11_crews_25 : DD prog_1_method_28_code 25 (.iload 4) 2 27 := ⟨by decide +kernel, rfl⟩
theorem d_X11_crews_27 : DD prog_1_method_28_code 27 (.iconst 0) 1 28 := ⟨by decide +kernel, rfl⟩
theorem d_X11_crews_28 : DD prog_1_method_28_code 28 (.iconst 2) 1 29 := ⟨by decide +kernel, rfl⟩
theorem d_X11_crews_29 : DD prog_1_method_28_code 29 (.invokestatic 166) 3 32 := ⟨by decide +kernel, rfl⟩
theorem d_X11_crews_32 : DJ prog_1_method_28_code 32 (fun o => .ifCond .ne o) 37 3 35 := ⟨by decide +kernel, rfl⟩
theorem d_X11_crews_35 : DD prog_1_method_28_code 35 (.iconst (-1)) 1 36 := ⟨by decide +kernel, rfl⟩
theorem d_X11_crews_36 : DD prog_1_method_28_code 36 (.ireturn) 1 37 := ⟨by decide +kernel, rfl⟩
theorem d_X11_crews_37 : DD prog_1_method_28_code 37 (.aload_n 0) 1 38 := ⟨by decide +kernel, rfl⟩
theorem d_X11_crews_38 : DD prog_1_method_28_code 38 (.getfield 55) 3 41 := ⟨by decide +kernel, rfl⟩
theorem d_X11_crews_41 : DD prog_1_method_28_code 41 (.aload_n 0) 1 42 := ⟨by decide +kernel, rfl⟩
theorem d_X11_crews_42 : DD prog_1_method_28_code 42 (.getfield 69) 3 45 := ⟨by decide +kernel, rfl⟩
theorem d_X11_crews_45 : DD prog_1_method_28_code 45 (.iload_n 1) 1 46 := ⟨by decide +kernel, rfl⟩
theorem d_X11_crews_46 : DD prog_1_method_28_code 46 (.iload_n 2) 1 47 := ⟨by decide +kernel, rfl⟩
theorem d_X11_crews_47 : DD prog_1_method_28_code 47 (.iload_n 3) 1 48 := ⟨by decide +kernel, rfl⟩
theorem d_X11_crews_48 : DD prog_1_method_28_code 48 (.invokevirtual 276) 3 51 := ⟨by decide +kernel, rfl⟩
theorem d_X11_crews_51 : DD prog_1_method_28_code 51 (.iload 4) 2 53 := ⟨by decide +kernel, rfl⟩
theorem d_X11_crews_53 : DD prog_1_method_28_code 53 (.lookupswitch 43 #[(0, 27), (1, 35)]) 27 80 := ⟨by decide +kernel, rfl⟩
theorem d_X11_crews_80 : DD prog_1_method_28_code 80 (.aload_n 0) 1 81 := ⟨by decide +kernel, rfl⟩
theorem d_X11_crews_81 : DD prog_1_method_28_code 81 (.getfield 55) 3 84 := ⟨by decide +kernel, rfl⟩
theorem d_X11_crews_84 : DD prog_1_method_28_code 84 (.getfield 280) 3 87 := ⟨by decide +kernel, rfl⟩
theorem d_X11_crews_87 : DD prog_1_method_28_code 87 (.ireturn) 1 88 := ⟨by decide +kernel, rfl⟩
theorem d_X11_crews_88 : DD prog_1_method_28_code 88 (.aload_n 0) 1 89 := ⟨by decide +kernel, rfl⟩
theorem d_X11_crews_89 : DD prog_1_method_28_code 89 (.getfield 55) 3 92 := ⟨by decide +kernel, rfl⟩
theorem d_X11_crews_92 : DD prog_1_method_28_code 92 (.getfield 283) 3 95 := ⟨by decide +kernel, rfl⟩
theorem d_X11_crews_95 : DD prog_1_method_28_code 95 (.ireturn) 1 96 := ⟨by decide +kernel, rfl⟩
theorem d_X11_crews_96 : DD prog_1_method_28_code 96 (.aload_n 0) 1 97 := ⟨by decide +kernel, rfl⟩
theorem d_X11_crews_97 : DD prog_1_method_28_code 97 (.getfield 55) 3 100 := ⟨by decide +kernel, rfl⟩
theorem d_X11_crews_100 : DD prog_1_method_28_code 100 (.getfield 285) 3 103 := ⟨by decide +kernel, rfl⟩
theorem d_X11_crews_103 : DD prog_1_method_28_code 103 (.ireturn) 1 104 := ⟨by decide +kernel, rfl⟩
theorem d_X11_lowestBit_0 : DD prog_1_method_53_code 0 (.iconst 0) 1 1 := ⟨by decide +kernel, rfl⟩
theorem d_X11_lowestBit_1 : DD prog_1_method_53_code 1 (.istore_n 1) 1 2 := ⟨by decide +kernel, rfl⟩
theorem d_X11_lowestBit_2 : DD prog_1_method_53_code 2 (.iload_n 1) 1 3 := ⟨by decide +kernel, rfl⟩
theorem d_X11_lowestBit_3 : DD prog_1_method_53_code 3 (.bipush 31) 2 5 := ⟨by decide +kernel, rfl⟩
theorem d_X11_lowestBit_5 : DJ prog_1_method_53_code 5 (fun o => .if_icmp .ge o) 22 3 8 := ⟨by decide +kernel, rfl⟩
theorem d_X11_lowestBit_8 : DD prog_1_method_53_code 8 (.iload_n 0) 1 9 := ⟨by decide +kernel, rfl⟩
theorem d_X11_lowestBit_9 : DD prog_1_method_53_code 9 (.iload_n 1) 1 10 := ⟨by decide +kernel, rfl⟩
theorem d_X11_lowestBit_10 : DD prog_1_method_53_code 10 (.ishr) 1 11 := ⟨by decide +kernel, rfl⟩
theorem d_X11_lowestBit_11 : DD prog_1_method_53_code 11 (.iconst 1) 1 12 := ⟨by decide +kernel, rfl⟩
theorem d_X11_lowestBit_12 : DD prog_1_method_53_code 12 (.iand) 1 13 := ⟨by decide +kernel, rfl⟩
theorem d_X11_lowestBit_13 : DJ prog_1_method_53_code 13 (fun o => .ifCond .ne o) 22 3 16 := ⟨by decide +kernel, rfl⟩
theorem d_X11_lowestBit_16 : DD prog_1_method_53_code 16 (.iinc 1 1) 3 19 := ⟨by decide +kernel, rfl⟩
theorem d_X11_lowestBit_19 : DJ prog_1_method_53_code 19 (fun o => .goto o) 2 3 22 := ⟨by decide +kernel, rfl⟩
theorem d_X11_lowestBit_22 : DD prog_1_method_53_code 22 (.iload_n 1) 1 23 := ⟨by decide +kernel, rfl⟩
theorem d_X11_lowestBit_23 : DD prog_1_method_53_code 23 (.ireturn) 1 24 := ⟨by decide +kernel, rfl⟩
theorem d_X11_gap_0 : DD prog_1_method_29_code 0 (.iload_n 1) 1 1 := ⟨by decide +kernel, rfl⟩
theorem d_X11_gap_1 : DD prog_1_method_29_code 1 (.invokestatic 163) 3 4 := ⟨by decide +kernel, rfl⟩
theorem d_X11_gap_4 : DJ prog_1_method_29_code 4 (fun o => .ifCond .eq o) 16 3 7 := ⟨by decide +kernel, rfl⟩
theorem d_X11_gap_7 : DD prog_1_method_29_code 7 (.iload_n 2) 1 8 := ⟨by decide +kernel, rfl⟩
theorem d_X11_gap_8 : DD prog_1_method_29_code 8 (.iconst 0) 1 9 := ⟨by decide +kernel, rfl⟩
theorem d_X11_gap_9 : DD prog_1_method_29_code 9 (.iconst 1) 1 10 := ⟨by decide +kernel, rfl⟩
theorem d_X11_gap_10 : DD prog_1_method_29_code 10 (.invokestatic 166) 3 13 := ⟨by decide +kernel, rfl⟩
theorem d_X11_gap_13 : DJ prog_1_method_29_code 13 (fun o => .ifCond .ne o) 18 3 16 := ⟨by decide +kernel, rfl⟩
theorem d_X11_gap_16 : DD prog_1_method_29_code 16 (.iconst (-1)) 1 17 := ⟨by decide +kernel, rfl⟩
theorem d_X11_gap_17 : DD prog_1_method_29_code 17 (.ireturn) 1 18 := ⟨by decide +kernel, rfl⟩
theorem d_X11_gap_18 : DD prog_1_method_29_code 18 (.aload_n 0) 1 19 := ⟨by decide +kernel, rfl⟩
theorem d_X11_gap_19 : DD prog_1_method_29_code 19 (.getfield 69) 3 22 := ⟨by decide +kernel, rfl⟩
theorem d_X11_gap_22 : DD prog_1_method_29_code 22 (.getfield 113) 3 25 := ⟨by decide +kernel, rfl⟩
theorem d_X11_gap_25 : DD prog_1_method_29_code 25 (.getfield 116) 3 28 := ⟨by decide +kernel, rfl⟩
theorem d_X11_gap_28 : DD prog_1_method_29_code 28 (.istore_n 3) 1 29 := ⟨by decide +kernel, rfl⟩
theorem d_X11_gap_29 : DD prog_1_method_29_code 29 (.aload_n 0) 1 30 := ⟨by decide +kernel, rfl⟩
theorem d_X11_gap_30 : DD prog_1_method_29_code 30 (.getfield 69) 3 33 := ⟨by decide +kernel, rfl⟩
theorem d_X11_gap_33 : DD prog_1_method_29_code 33 (.iload_n 1) 1 34 := ⟨by decide +kernel, rfl⟩
theorem d_X11_gap_34 : DD prog_1_method_29_code 34 (.iload_n 3) 1 35 := ⟨by decide +kernel, rfl⟩
theorem d_X11_gap_35 : DD prog_1_method_29_code 35 (.invokevirtual 269) 3 38 := ⟨by decide +kernel, rfl⟩
theorem d_X11_gap_38 : DD prog_1_method_29_code 38 (.istore 4) 2 40 := ⟨by decide +kernel, rfl⟩
theorem d_X11_gap_40 : DD prog_1_method_29_code 40 (.iload_n 3) 1 41 := ⟨by decide +kernel, rfl⟩
theorem d_X11_gap_41 : DD prog_1_method_29_code 41 (.iconst 1) 1 42 := ⟨by decide +kernel, rfl⟩
theorem d_X11_gap_42 : DD prog_1_method_29_code 42 (.iadd) 1 43 := ⟨by decide +kernel, rfl⟩
theorem d_X11_gap_43 : DD prog_1_method_29_code 43 (.istore 5) 2 45 := ⟨by decide +kernel, rfl⟩
theorem d_X11_gap_45 : DD prog_1_method_29_code 45 (.iload 5) 2 47 := ⟨by decide +kernel, rfl⟩
theorem d_X11_gap_47 : DD prog_1_method_29_code 47 (.bipush 12) 2 49 := ⟨by decide +kernel, rfl⟩
theorem d_X11_gap_49 : DJ prog_1_method_29_code 49 (fun o => .if_icmp .gt o) 95 3 52 := ⟨by decide +kernel, rfl⟩
theorem d_X11_gap_52 : DD prog_1_method_29_code 52 (.iload 4) 2 54 := ⟨by decide +kernel, rfl⟩
theorem d_X11_gap_54 : DD prog_1_method_29_code 54 (.aload_n 0) 1 55 := ⟨by decide +kernel, rfl⟩
theorem d_X11_gap_55 : DD prog_1_method_29_code 55 (.getfield 69) 3 58 := ⟨by decide +kernel, rfl⟩
theorem d_X11_gap_58 : DD prog_1_method_29_code 58 (.iload_n 1) 1 59 := ⟨by decide +kernel, rfl⟩
theorem d_X11_gap_59 : DD prog_1_method_29_code 59 (.iload 5) 2 61 := ⟨by decide +kernel, rfl⟩
theorem d_X11_gap_61 : DD prog_1_method_29_code 61 (.invokevirtual 269) 3 64 := ⟨by decide +kernel, rfl⟩
theorem d_X11_gap_64 : DD prog_1_method_29_code 64 (.iconst (-1)) 1 65 := ⟨by decide +kernel, rfl⟩
theorem d_X11_gap_65 : DD prog_1_method_29_code 65 (.ixor) 1 66 := ⟨by decide +kernel, rfl⟩
theorem d_X11_gap_66 : DD prog_1_method_29_code 66 (.iand) 1 67 := ⟨by decide +kernel, rfl⟩
theorem d_X11_gap_67 : DD prog_1_method_29_code 67 (.istore 6) 2 69 := ⟨by decide +kernel, rfl⟩
theorem d_X11_gap_69 : DD prog_1_method_29_code 69 (.iload 6) 2 71 := ⟨by decide +kernel, rfl⟩
theorem d_X11_gap_71 : DJ prog_1_method_29_code 71 (fun o => .ifCond .eq o) 89 3 74 := ⟨by decide +kernel, rfl⟩
theorem d_X11_gap_74 : DD prog_1_method_29_code 74 (.iload_n 2) 1 75 := ⟨by decide +kernel, rfl⟩
theorem d_X11_gap_75 : DJ prog_1_method_29_code 75 (fun o => .ifCond .ne o) 83 3 78 := ⟨by decide +kernel, rfl⟩
theorem d_X11_gap_78 : DD prog_1_method_29_code 78 (.iload 5) 2 80 := ⟨by decide +kernel, rfl⟩
theorem d_X11_gap_80 : DJ prog_1_method_29_code 80 (fun o => .goto o) 88 3 83 := ⟨by decide +kernel, rfl⟩
theorem d_X11_gap_83 : DD prog_1_method_29_code 83 (.iload 6) 2 85 := ⟨by decide +kernel, rfl⟩
theorem d_X11_gap_85 : DD prog_1_method_29_code 85 (.invokestatic 288) 3 88 := ⟨by decide +kernel, rfl⟩
theorem d_X11_gap_88 : DD prog_1_method_29_code 88 (.ireturn) 1 89 := ⟨by decide +kernel, rfl⟩
theorem d_X11_gap_89 : DD prog_1_method_29_code 89 (.iinc 5 1) 3 92 := ⟨by decide +kernel, rfl⟩
theorem d_X11_gap_92 : DJ prog_1_method_29_code 92 (fun o => .goto o) 45 3 95 := ⟨by decide +kernel, rfl⟩
theorem d_X11_gap_95 : DD prog_1_method_29_code 95 (.bipush (-4)) 2 97 := ⟨by decide +kernel, rfl⟩
theorem d_X11_gap_97 : DD prog_1_method_29_code 97 (.ireturn) 1 98 := ⟨by decide +kernel, rfl⟩
theorem d_X11_lead_0 : DD prog_1_method_30_code 0 (.aload_n 0) 1 1 := ⟨by decide +kernel, rfl⟩
theorem d_X11_lead_1 : DD prog_1_method_30_code 1 (.iload_n 1) 1 2 := ⟨by decide +kernel, rfl⟩
theorem d_X11_lead_2 : DD prog_1_method_30_code 2 (.invokevirtual 148) 3 5 := ⟨by decide +kernel, rfl⟩
theorem d_X11_lead_5 : DJ prog_1_method_30_code 5 (fun o => .ifCond .eq o) 18 3 8 := ⟨by decide +kernel, rfl⟩
theorem d_X11_lead_8 : DD prog_1_method_30_code 8 (.iload_n 2) 1 9 := ⟨by decide +kernel, rfl⟩
theorem d_X11_lead_9 : DD prog_1_method_30_code 9 (.iconst 1) 1 10 := ⟨by decide +kernel, rfl⟩
theorem d_X11_lead_10 : DD prog_1_method_30_code 10 (.bipush 99) 2 12 := ⟨by decide +kernel, rfl⟩
theorem d_X11_lead_12 : DD prog_1_method_30_code 12 (.invokestatic 166) 3 15 := ⟨by decide +kernel, rfl⟩
theorem d_X11_lead_15 : DJ prog_1_method_30_code 15 (fun o => .ifCond .ne o) 20 3 18 := ⟨by decide +kernel, rfl⟩
theorem d_X11_lead_18 : DD prog_1_method_30_code 18 (.iconst (-1)) 1 19 := ⟨by decide +kernel, rfl⟩
theorem d_X11_lead_19 : DD prog_1_method_30_code 19 (.ireturn) 1 20 := ⟨by decide +kernel, rfl⟩
theorem d_X11_lead_20 : DD prog_1_method_30_code 20 (.aload_n 0) 1 21 := ⟨by decide +kernel, rfl⟩
theorem d_X11_lead_21 : DD prog_1_method_30_code 21 (.getfield 69) 3 24 := ⟨by decide +kernel, rfl⟩
theorem d_X11_lead_24 : DD prog_1_method_30_code 24 (.getfield 113) 3 27 := ⟨by decide +kernel, rfl⟩
theorem d_X11_lead_27 : DD prog_1_method_30_code 27 (.getfield 116) 3 30 := ⟨by decide +kernel, rfl⟩
theorem d_X11_lead_30 : DD prog_1_method_30_code 30 (.istore 4) 2 32 := ⟨by decide +kernel, rfl⟩
theorem d_X11_lead_32 : DD prog_1_method_30_code 32 (.iload_n 3) 1 33 := ⟨by decide +kernel, rfl⟩
theorem d_X11_lead_33 : DJ prog_1_method_30_code 33 (fun o => .ifCond .ne o) 67 3 36 := ⟨by decide +kernel, rfl⟩
theorem d_X11_lead_36 : DD prog_1_method_30_code 36 (.iload 4) 2 38 := ⟨by decide +kernel, rfl⟩
theorem d_X11_lead_38 : DD prog_1_method_30_code 38 (.bipush 12) 2 40 := ⟨by decide +kernel, rfl⟩
theorem d_X11_lead_40 : DJ prog_1_method_30_code 40 (fun o => .if_icmp .ne o) 46 3 43 := ⟨by decide +kernel, rfl⟩
theorem d_X11_lead_43 : DD prog_1_method_30_code 43 (.bipush (-2)) 2 45 := ⟨by decide +kernel, rfl⟩
theorem d_X11_lead_45 : DD prog_1_method_30_code 45 (.ireturn) 1 46 := ⟨by decide +kernel, rfl⟩
theorem d_X11_lead_46 : DD prog_1_method_30_code 46 (.aload_n 0) 1 47 := ⟨by decide +kernel, rfl⟩
theorem d_X11_lead_47 : DD prog_1_method_30_code 47 (.getfield 41) 3 50 := ⟨by decide +kernel, rfl⟩
theorem d_X11_lead_50 : DD prog_1_method_30_code 50 (.aload_n 0) 1 51 := ⟨by decide +kernel, rfl⟩
theorem d_X11_lead_51 : DD prog_1_method_30_code 51 (.getfield 69) 3 54 := ⟨by decide +kernel, rfl⟩
theorem d_X11_lead_54 : DD prog_1_method_30_code 54 (.invokevirtual 291) 3 57 := ⟨by decide +kernel, rfl⟩
theorem d_X11_lead_57 : DD prog_1_method_30_code 57 (.aload_n 0) 1 58 := ⟨by decide +kernel, rfl⟩
theorem d_X11_lead_58 : DD prog_1_method_30_code 58 (.getfield 41) 3 61 := ⟨by decide +kernel, rfl⟩
theorem d_X11_lead_61 : DD prog_1_method_30_code 61 (.iload_n 1) 1 62 := ⟨by decide +kernel, rfl⟩
theorem d_X11_lead_62 : DD prog_1_method_30_code 62 (.iload_n 2) 1 63 := ⟨by decide +kernel, rfl⟩
theorem d_X11_lead_63 : DD prog_1_method_30_code 63 (.invokevirtual 294) 3 66 := ⟨by decide +kernel, rfl⟩
theorem d_X11_lead_66 : DD prog_1_method_30_code 66 (.ireturn) 1 67 := ⟨by decide +kernel, rfl⟩
theorem d_X11_lead_67 : DD prog_1_method_30_code 67 (.iload_n 3) 1 68 := ⟨by decide +kernel, rfl⟩
theorem d_X11_lead_68 : DD prog_1_method_30_code 68 (.bipush 10) 2 70 := ⟨by decide +kernel, rfl⟩
theorem d_X11_lead_70 : DD prog_1_method_30_code 70 (.bipush 21) 2 72 := ⟨by decide +kernel, rfl⟩
theorem d_X11_lead_72 : DD prog_1_method_30_code 72 (.iload 4) 2 74 := ⟨by decide +kernel, rfl⟩
theorem d_X11_lead_74 : DD prog_1_method_30_code 74 (.isub) 1 75 := ⟨by decide +kernel, rfl⟩
theorem d_X11_lead_75 : DD prog_1_method_30_code 75 (.invokestatic 166) 3 78 := ⟨by decide +kernel, rfl⟩
theorem d_X11_lead_78 : DJ prog_1_method_30_code 78 (fun o => .ifCond .ne o) 83 3 81 := ⟨by decide +kernel, rfl⟩
theorem d_X11_lead_81 : DD prog_1_method_30_code 81 (.iconst (-1)) 1 82 := ⟨by decide +kernel, rfl⟩
theorem d_X11_lead_82 : DD prog_1_method_30_code 82 (.ireturn) 1 83 := ⟨by decide +kernel, rfl⟩
theorem d_X11_lead_83 : DD prog_1_method_30_code 83 (.aload_n 0) 1 84 := ⟨by decide +kernel, rfl⟩
theorem d_X11_lead_84 : DD prog_1_method_30_code 84 (.getfield 41) 3 87 := ⟨by decide +kernel, rfl⟩
theorem d_X11_lead_87 : DD prog_1_method_30_code 87 (.aload_n 0) 1 88 := ⟨by decide +kernel, rfl⟩
theorem d_X11_lead_88 : DD prog_1_method_30_code 88 (.getfield 69) 3 91 := ⟨by decide +kernel, rfl⟩
theorem d_X11_lead_91 : DD prog_1_method_30_code 91 (.invokevirtual 291) 3 94 := ⟨by decide +kernel, rfl⟩
theorem d_X11_lead_94 : DD prog_1_method_30_code 94 (.aload_n 0) 1 95 := ⟨by decide +kernel, rfl⟩
theorem d_X11_lead_95 : DD prog_1_method_30_code 95 (.getfield 41) 3 98 := ⟨by decide +kernel, rfl⟩
theorem d_X11_lead_98 : DD prog_1_method_30_code 98 (.iload_n 1) 1 99 := ⟨by decide +kernel, rfl⟩
theorem d_X11_lead_99 : DD prog_1_method_30_code 99 (.iload_n 2) 1 100 := ⟨by decide +kernel, rfl⟩
theorem d_X11_lead_100 : DD prog_1_method_30_code 100 (.iload_n 3) 1 101 := ⟨by decide +kernel, rfl⟩
theorem d_X11_lead_101 : DD prog_1_method_30_code 101 (.bipush 10) 2 103 := ⟨by decide +kernel, rfl⟩
theorem d_X11_lead_103 : DD prog_1_method_30_code 103 (.isub) 1 104 := ⟨by decide +kernel, rfl⟩
theorem d_X11_lead_104 : DD prog_1_method_30_code 104 (.invokevirtual 297) 3 107 := ⟨by decide +kernel, rfl⟩
theorem d_X11_lead_107 : DD prog_1_method_30_code 107 (.ireturn) 1 108 := ⟨by decide +kernel, rfl⟩
theorem d_X11_felt_0 : DD prog_1_method_31_code 0 (.iload_n 1) 1 1 := ⟨by decide +kernel, rfl⟩
theorem d_X11_felt_1 : DD prog_1_method_31_code 1 (.iconst 0) 1 2 := ⟨by decide +kernel, rfl⟩
theorem d_X11_felt_2 : DD prog_1_method_31_code 2 (.bipush 99) 2 4 := ⟨by decide +kernel, rfl⟩
theorem d_X11_felt_4 : DD prog_1_method_31_code 4 (.invokestatic 166) 3 7 := ⟨by decide +kernel, rfl⟩
theorem d_X11_felt_7 : DJ prog_1_method_31_code 7 (fun o => .ifCond .ne o) 12 3 10 := ⟨by decide +kernel, rfl⟩
theorem d_X11_felt_10 : DD prog_1_method_31_code 10 (.iconst (-1)) 1 11 := ⟨by decide +kernel, rfl⟩
theorem d_X11_felt_11 : DD prog_1_method_31_code 11 (.ireturn) 1 12 := ⟨by decide +kernel, rfl⟩
theorem d_X11_felt_12 : DD prog_1_method_31_code 12 (.aload_n 0) 1 13 := ⟨by decide +kernel, rfl⟩
theorem d_X11_felt_13 : DD prog_1_method_31_code 13 (.getfield 34) 3 16 := ⟨by decide +kernel, rfl⟩
theorem d_X11_felt_16 : DD prog_1_method_31_code 16 (.getfield 104) 3 19 := ⟨by decide +kernel, rfl⟩
theorem d_X11_felt_19 : DD prog_1_method_31_code 19 (.aload_n 0) 1 20 := ⟨by decide +kernel, rfl⟩
theorem d_X11_felt_20 : DD prog_1_method_31_code 20 (.getfield 69) 3 23 := ⟨by decide +kernel, rfl⟩
theorem d_X11_felt_23 : DD prog_1_method_31_code 23 (.getfield 110) 3 26 := ⟨by decide +kernel, rfl⟩
theorem d_X11_felt_26 : DJ prog_1_method_31_code 26 (fun o => .if_icmp .lt o) 32 3 29 := ⟨by decide +kernel, rfl⟩
theorem d_X11_felt_29 : DD prog_1_method_31_code 29 (.bipush (-3)) 2 31 := ⟨by decide +kernel, rfl⟩
theorem d_X11_felt_31 : DD prog_1_method_31_code 31 (.ireturn) 1 32 := ⟨by decide +kernel, rfl⟩
theorem d_X11_felt_32 : DD prog_1_method_31_code 32 (.aload_n 0) 1 33 := ⟨by decide +kernel, rfl⟩
theorem d_X11_felt_33 : DD prog_1_method_31_code 33 (.getfield 34) 3 36 := ⟨by decide +kernel, rfl⟩
theorem d_X11_felt_36 : DD prog_1_method_31_code 36 (.iload_n 1) 1 37 := ⟨by decide +kernel, rfl⟩
theorem d_X11_felt_37 : DD prog_1_method_31_code 37 (.invokevirtual 300) 3 40 := ⟨by decide +kernel, rfl⟩
theorem d_X11_felt_40 : DD prog_1_method_31_code 40 (.aload_n 0) 1 41 := ⟨by decide +kernel, rfl⟩
theorem d_X11_felt_41 : DD prog_1_method_31_code 41 (.getfield 34) 3 44 := ⟨by decide +kernel, rfl⟩
theorem d_X11_felt_44 : DD prog_1_method_31_code 44 (.getfield 104) 3 47 := ⟨by decide +kernel, rfl⟩
theorem d_X11_felt_47 : DD prog_1_method_31_code 47 (.ireturn) 1 48 := ⟨by decide +kernel, rfl⟩
theorem d_X11_forget_0 : DD prog_1_method_32_code 0 (.aload_n 0) 1 1 := ⟨by decide +kernel, rfl⟩
theorem d_X11_forget_1 : DD prog_1_method_32_code 1 (.getfield 34) 3 4 := ⟨by decide +kernel, rfl⟩
theorem d_X11_forget_4 : DD prog_1_method_32_code 4 (.getfield 104) 3 7 := ⟨by decide +kernel, rfl⟩
theorem d_X11_forget_7 : DD prog_1_method_32_code 7 (.istore_n 1) 1 8 := ⟨by decide +kernel, rfl⟩
theorem d_X11_forget_8 : DD prog_1_method_32_code 8 (.aload_n 0) 1 9 := ⟨by decide +kernel, rfl⟩
theorem d_X11_forget_9 : DD prog_1_method_32_code 9 (.getfield 34) 3 12 := ⟨by decide +kernel, rfl⟩
theorem d_X11_forget_12 : DD prog_1_method_32_code 12 (.iconst 0) 1 13 := ⟨by decide +kernel, rfl⟩
theorem d_X11_forget_13 : DD prog_1_method_32_code 13 (.putfield 104) 3 16 := ⟨by decide +kernel, rfl⟩
theorem d_X11_forget_16 : DD prog_1_method_32_code 16 (.iload_n 1) 1 17 := ⟨by decide +kernel, rfl⟩
theorem d_X11_forget_17 : DD prog_1_method_32_code 17 (.ireturn) 1 18 := ⟨by decide +kernel, rfl⟩
theorem d_X11_spy_0 : DD prog_1_method_33_code 0 (.iload_n 1) 1 1 := ⟨by decide +kernel, rfl⟩
theorem d_X11_spy_1 : DD prog_1_method_33_code 1 (.iconst 0) 1 2 := ⟨by decide +kernel, rfl⟩
theorem d_X11_spy_2 : DD prog_1_method_33_code 2 (.iconst 2) 1 3 := ⟨by decide +kernel, rfl⟩
theorem d_X11_spy_3 : DD prog_1_method_33_code 3 (.invokestatic 166) 3 6 := ⟨by decide +kernel, rfl⟩
theorem d_X11_spy_6 : DJ prog_1_method_33_code 6 (fun o => .ifCond .ne o) 11 3 9 := ⟨by decide +kernel, rfl⟩
theorem d_X11_spy_9 : DD prog_1_method_33_code 9 (.iconst (-1)) 1 10 := ⟨by decide +kernel, rfl⟩
theorem d_X11_spy_10 : DD prog_1_method_33_code 10 (.ireturn) 1 11 := ⟨by decide +kernel, rfl⟩
theorem d_X11_spy_11 : DD prog_1_method_33_code 11 (.aload_n 0) 1 12 := ⟨by decide +kernel, rfl⟩
theorem d_X11_spy_12 : DD prog_1_method_33_code 12 (.getfield 34) 3 15 := ⟨by decide +kernel, rfl⟩
theorem d_X11_spy_15 : DD prog_1_method_33_code 15 (.getfield 104) 3 18 := ⟨by decide +kernel, rfl⟩
theorem d_X11_spy_18 : DJ prog_1_method_33_code 18 (fun o => .ifCond .ne o) 24 3 21 := ⟨by decide +kernel, rfl⟩
theorem d_X11_spy_21 : DD prog_1_method_33_code 21 (.bipush (-2)) 2 23 := ⟨by decide +kernel, rfl⟩
theorem d_X11_spy_23 : DD prog_1_method_33_code 23 (.ireturn) 1 24 := ⟨by decide +kernel, rfl⟩
theorem d_X11_spy_24 : DD prog_1_method_33_code 24 (.aload_n 0) 1 25 := ⟨by decide +kernel, rfl⟩
theorem d_X11_spy_25 : DD prog_1_method_33_code 25 (.getfield 34) 3 28 := ⟨by decide +kernel, rfl⟩
theorem d_X11_spy_28 : DD prog_1_method_33_code 28 (.aload_n 0) 1 29 := ⟨by decide +kernel, rfl⟩
theorem d_X11_spy_29 : DD prog_1_method_33_code 29 (.getfield 69) 3 32 := ⟨by decide +kernel, rfl⟩
theorem d_X11_spy_32 : DD prog_1_method_33_code 32 (.getfield 110) 3 35 := ⟨by decide +kernel, rfl⟩
theorem d_X11_spy_35 : DD prog_1_method_33_code 35 (.invokevirtual 302) 3 38 := ⟨by decide +kernel, rfl⟩
theorem d_X11_spy_38 : DD prog_1_method_33_code 38 (.iload_n 1) 1 39 := ⟨by decide +kernel, rfl⟩
theorem d_X11_spy_39 : DJ prog_1_method_33_code 39 (fun o => .ifCond .ne o) 50 3 42 := ⟨by decide +kernel, rfl⟩
theorem d_X11_spy_42 : DD prog_1_method_33_code 42 (.aload_n 0) 1 43 := ⟨by decide +kernel, rfl⟩
theorem d_X11_spy_43 : DD prog_1_method_33_code 43 (.getfield 34) 3 46 := ⟨by decide +kernel, rfl⟩
theorem d_X11_spy_46 : DD prog_1_method_33_code 46 (.getfield 305) 3 49 := ⟨by decide +kernel, rfl⟩
theorem d_X11_spy_49 : DD prog_1_method_33_code 49 (.ireturn) 1 50 := ⟨by decide +kernel, rfl⟩
theorem d_X11_spy_50 : DD prog_1_method_33_code 50 (.aload_n 0) 1 51 := ⟨by decide +kernel, rfl⟩
theorem d_X11_spy_51 : DD prog_1_method_33_code 51 (.getfield 34) 3 54 := ⟨by decide +kernel, rfl⟩
theorem d_X11_spy_54 : DD prog_1_method_33_code 54 (.getfield 305) 3 57 := ⟨by decide +kernel, rfl⟩
theorem d_X11_spy_57 : DJ prog_1_method_33_code 57 (fun o => .ifCond .ne o) 63 3 60 := ⟨by decide +kernel, rfl⟩
theorem d_X11_spy_60 : DD prog_1_method_33_code 60 (.bipush (-4)) 2 62 := ⟨by decide +kernel, rfl⟩
theorem d_X11_spy_62 : DD prog_1_method_33_code 62 (.ireturn) 1 63 := ⟨by decide +kernel, rfl⟩
theorem d_X11_spy_63 : DD prog_1_method_33_code 63 (.iload_n 1) 1 64 := ⟨by decide +kernel, rfl⟩
theorem d_X11_spy_64 : DD prog_1_method_33_code 64 (.iconst 1) 1 65 := ⟨by decide +kernel, rfl⟩
theorem d_X11_spy_65 : DJ prog_1_method_33_code 65 (fun o => .if_icmp .ne o) 78 3 68 := ⟨by decide +kernel, rfl⟩
theorem d_X11_spy_68 : DD prog_1_method_33_code 68 (.aload_n 0) 1 69 := ⟨by decide +kernel, rfl⟩
theorem d_X11_spy_69 : DD prog_1_method_33_code 69 (.getfield 34) 3 72 := ⟨by decide +kernel, rfl⟩
theorem d_X11_spy_72 : DD prog_1_method_33_code 72 (.getfield 308) 3 75 := ⟨by decide +kernel, rfl⟩
theorem d_X11_spy_75 : DJ prog_1_method_33_code 75 (fun o => .goto o) 85 3 78 := ⟨by decide +kernel, rfl⟩
theorem d_X11_spy_78 : DD prog_1_method_33_code 78 (.aload_n 0) 1 79 := ⟨by decide +kernel, rfl⟩
theorem d_X11_spy_79 : DD prog_1_method_33_code 79 (.getfield 34) 3 82 := ⟨by decide +kernel, rfl⟩
theorem d_X11_spy_82 : DD prog_1_method_33_code 82 (.getfield 311) 3 85 := ⟨by decide +kernel, rfl⟩
theorem d_X11_spy_85 : DD prog_1_method_33_code 85 (.ireturn) 1 86 := ⟨by decide +kernel, rfl⟩
theorem d_X11_spies_0 : DD prog_1_method_34_code 0 (.iload_n 1) 1 1 := ⟨by decide +kernel, rfl⟩
theorem d_X11_spies_1 : DD prog_1_method_34_code 1 (.iconst 0) 1 2 := ⟨by decide +kernel, rfl⟩
theorem d_X11_spies_2 : DD prog_1_method_34_code 2 (.iconst 2) 1 3 := ⟨by decide +kernel, rfl⟩
theorem d_X11_spies_3 : DD prog_1_method_34_code 3 (.invokestatic 166) 3 6 := ⟨by decide +kernel, rfl⟩
theorem d_X11_spies_6 : DJ prog_1_method_34_code 6 (fun o => .ifCond .ne o) 11 3 9 := ⟨by decide +kernel, rfl⟩
theorem d_X11_spies_9 : DD prog_1_method_34_code 9 (.iconst (-1)) 1 10 := ⟨by decide +kernel, rfl⟩
theorem d_X11_spies_10 : DD prog_1_method_34_code 10 (.ireturn) 1 11 := ⟨by decide +kernel, rfl⟩
theorem d_X11_spies_11 : DD prog_1_method_34_code 11 (.aload_n 0) 1 12 := ⟨by decide +kernel, rfl⟩
theorem d_X11_spies_12 : DD prog_1_method_34_code 12 (.getfield 34) 3 15 := ⟨by decide +kernel, rfl⟩
theorem d_X11_spies_15 : DD prog_1_method_34_code 15 (.getfield 104) 3 18 := ⟨by decide +kernel, rfl⟩
theorem d_X11_spies_18 : DJ prog_1_method_34_code 18 (fun o => .ifCond .ne o) 24 3 21 := ⟨by decide +kernel, rfl⟩
theorem d_X11_spies_21 : DD prog_1_method_34_code 21 (.bipush (-2)) 2 23 := ⟨by decide +kernel, rfl⟩
theorem d_X11_spies_23 : DD prog_1_method_34_code 23 (.ireturn) 1 24 := ⟨by decide +kernel, rfl⟩
theorem d_X11_spies_24 : DD prog_1_method_34_code 24 (.aload_n 0) 1 25 := ⟨by decide +kernel, rfl⟩
theorem d_X11_spies_25 : DD prog_1_method_34_code 25 (.getfield 34) 3 28 := ⟨by decide +kernel, rfl⟩
theorem d_X11_spies_28 : DD prog_1_method_34_code 28 (.aload_n 0) 1 29 := ⟨by decide +kernel, rfl⟩
theorem d_X11_spies_29 : DD prog_1_method_34_code 29 (.getfield 69) 3 32 := ⟨by decide +kernel, rfl⟩
theorem d_X11_spies_32 : DD prog_1_method_34_code 32 (.getfield 110) 3 35 := ⟨by decide +kernel, rfl⟩
theorem d_X11_spies_35 : DD prog_1_method_34_code 35 (.invokevirtual 314) 3 38 := ⟨by decide +kernel, rfl⟩
theorem d_X11_spies_38 : DD prog_1_method_34_code 38 (.iload_n 1) 1 39 := ⟨by decide +kernel, rfl⟩
theorem d_X11_spies_39 : DJ prog_1_method_34_code 39 (fun o => .ifCond .ne o) 50 3 42 := ⟨by decide +kernel, rfl⟩
theorem d_X11_spies_42 : DD prog_1_method_34_code 42 (.aload_n 0) 1 43 := ⟨by decide +kernel, rfl⟩
theorem d_X11_spies_43 : DD prog_1_method_34_code 43 (.getfield 34) 3 46 := ⟨by decide +kernel, rfl⟩
theorem d_X11_spies_46 : DD prog_1_method_34_code 46 (.getfield 305) 3 49 := ⟨by decide +kernel, rfl⟩
theorem d_X11_spies_49 : DD prog_1_method_34_code 49 (.ireturn) 1 50 := ⟨by decide +kernel, rfl⟩
theorem d_X11_spies_50 : DD prog_1_method_34_code 50 (.aload_n 0) 1 51 := ⟨by decide +kernel, rfl⟩
theorem d_X11_spies_51 : DD prog_1_method_34_code 51 (.getfield 34) 3 54 := ⟨by decide +kernel, rfl⟩
theorem d_X11_spies_54 : DD prog_1_method_34_code 54 (.getfield 305) 3 57 := ⟨by decide +kernel, rfl⟩
theorem d_X11_spies_57 : DJ prog_1_method_34_code 57 (fun o => .ifCond .ne o) 63 3 60 := ⟨by decide +kernel, rfl⟩
theorem d_X11_spies_60 : DD prog_1_method_34_code 60 (.bipush (-4)) 2 62 := ⟨by decide +kernel, rfl⟩
theorem d_X11_spies_62 : DD prog_1_method_34_code 62 (.ireturn) 1 63 := ⟨by decide +kernel, rfl⟩
theorem d_X11_spies_63 : DD prog_1_method_34_code 63 (.iload_n 1) 1 64 := ⟨by decide +kernel, rfl⟩
theorem d_X11_spies_64 : DD prog_1_method_34_code 64 (.iconst 1) 1 65 := ⟨by decide +kernel, rfl⟩
theorem d_X11_spies_65 : DJ prog_1_method_34_code 65 (fun o => .if_icmp .ne o) 87 3 68 := ⟨by decide +kernel, rfl⟩
theorem d_X11_spies_68 : DD prog_1_method_34_code 68 (.bipush 10) 2 70 := ⟨by decide +kernel, rfl⟩
theorem d_X11_spies_70 : DD prog_1_method_34_code 70 (.aload_n 0) 1 71 := ⟨by decide +kernel, rfl⟩
theorem d_X11_spies_71 : DD prog_1_method_34_code 71 (.getfield 34) 3 74 := ⟨by decide +kernel, rfl⟩
theorem d_X11_spies_74 : DD prog_1_method_34_code 74 (.getfield 308) 3 77 := ⟨by decide +kernel, rfl⟩
theorem d_X11_spies_77 : DD prog_1_method_34_code 77 (.imul) 1 78 := ⟨by decide +kernel, rfl⟩
theorem d_X11_spies_78 : DD prog_1_method_34_code 78 (.aload_n 0) 1 79 := ⟨by decide +kernel, rfl⟩
theorem d_X11_spies_79 : DD prog_1_method_34_code 79 (.getfield 34) 3 82 := ⟨by decide +kernel, rfl⟩
theorem d_X11_spies_82 : DD prog_1_method_34_code 82 (.getfield 317) 3 85 := ⟨by decide +kernel, rfl⟩
theorem d_X11_spies_85 : DD prog_1_method_34_code 85 (.iadd) 1 86 := ⟨by decide +kernel, rfl⟩
theorem d_X11_spies_86 : DD prog_1_method_34_code 86 (.ireturn) 1 87 := ⟨by decide +kernel, rfl⟩
theorem d_X11_spies_87 : DD prog_1_method_34_code 87 (.bipush 100) 2 89 := ⟨by decide +kernel, rfl⟩
theorem d_X11_spies_89 : DD prog_1_method_34_code 89 (.aload_n 0) 1 90 := ⟨by decide +kernel, rfl⟩
theorem d_X11_spies_90 : DD prog_1_method_34_code 90 (.getfield 34) 3 93 := ⟨by decide +kernel, rfl⟩
theorem d_X11_spies_93 : DD prog_1_method_34_code 93 (.getfield 311) 3 96 := ⟨by decide +kernel, rfl⟩
theorem d_X11_spies_96 : DD prog_1_method_34_code 96 (.imul) 1 97 := ⟨by decide +kernel, rfl⟩
theorem d_X11_spies_97 : DD prog_1_method_34_code 97 (.aload_n 0) 1 98 := ⟨by decide +kernel, rfl⟩
theorem d_X11_spies_98 : DD prog_1_method_34_code 98 (.getfield 34) 3 101 := ⟨by decide +kernel, rfl⟩
theorem d_X11_spies_101 : DD prog_1_method_34_code 101 (.getfield 320) 3 104 := ⟨by decide +kernel, rfl⟩
theorem d_X11_spies_104 : DD prog_1_method_34_code 104 (.iadd) 1 105 := ⟨by decide +kernel, rfl⟩
theorem d_X11_spies_105 : DD prog_1_method_34_code 105 (.ireturn) 1 106 := ⟨by decide +kernel, rfl⟩
theorem d_X11_odds_0 : DD prog_1_method_35_code 0 (.iload_n 1) 1 1 := ⟨by decide +kernel, rfl⟩
theorem d_X11_odds_1 : DD prog_1_method_35_code 1 (.invokestatic 163) 3 4 := ⟨by decide +kernel, rfl⟩
theorem d_X11_odds_4 : DJ prog_1_method_35_code 4 (fun o => .ifCond .eq o) 33 3 7 := ⟨by decide +kernel, rfl⟩
theorem d_X11_odds_7 : DD prog_1_method_35_code 7 (.aload_n 0) 1 8 := ⟨by decide +kernel, rfl⟩
theorem d_X11_odds_8 : DD prog_1_method_35_code 8 (.iload_n 2) 1 9 := ⟨by decide +kernel, rfl⟩
theorem d_X11_odds_9 : DD prog_1_method_35_code 9 (.invokevirtual 148) 3 12 := ⟨by decide +kernel, rfl⟩
theorem d_X11_odds_12 : DJ prog_1_method_35_code 12 (fun o => .ifCond .eq o) 33 3 15 := ⟨by decide +kernel, rfl⟩
theorem d_X11_odds_15 : DD prog_1_method_35_code 15 (.aload_n 0) 1 16 := ⟨by decide +kernel, rfl⟩
theorem d_X11_odds_16 : DD prog_1_method_35_code 16 (.iload_n 3) 1 17 := ⟨by decide +kernel, rfl⟩
theorem d_X11_odds_17 : DD prog_1_method_35_code 17 (.invokevirtual 263) 3 20 := ⟨by decide +kernel, rfl⟩
theorem d_X11_odds_20 : DJ prog_1_method_35_code 20 (fun o => .ifCond .eq o) 33 3 23 := ⟨by decide +kernel, rfl⟩
theorem d_X11_odds_23 : DD prog_1_method_35_code 23 (.iload 4) 2 25 := ⟨by decide +kernel, rfl⟩
theorem d_X11_odds_25 : DD prog_1_method_35_code 25 (.iconst 0) 1 26 := ⟨by decide +kernel, rfl⟩
theorem d_X11_odds_26 : DD prog_1_method_35_code 26 (.iconst 1) 1 27 := ⟨by decide +kernel, rfl⟩
theorem d_X11_odds_27 : DD prog_1_method_35_code 27 (.invokestatic 166) 3 30 := ⟨by decide +kernel, rfl⟩
theorem d_X11_odds_30 : DJ prog_1_method_35_code 30 (fun o => .ifCond .ne o) 37 3 33 := ⟨by decide +kernel, rfl⟩
theorem d_X11_odds_33 : DD prog_1_method_35_code 33 (.ldc2_w 323) 3 36 := ⟨by decide +kernel, rfl⟩
theorem d_X11_odds_36 : DD prog_1_method_35_code 36 (.lreturn) 1 37 := ⟨by decide +kernel, rfl⟩
theorem d_X11_odds_37 : DD prog_1_method_35_code 37 (.aload_n 0) 1 38 := ⟨by decide +kernel, rfl⟩
theorem d_X11_odds_38 : DD prog_1_method_35_code 38 (.getfield 69) 3 41 := ⟨by decide +kernel, rfl⟩
theorem d_X11_odds_41 : DD prog_1_method_35_code 41 (.getfield 113) 3 44 := ⟨by decide +kernel, rfl⟩
theorem d_X11_odds_44 : DD prog_1_method_35_code 44 (.iload_n 1) 1 45 := ⟨by decide +kernel, rfl⟩
theorem d_X11_odds_45 : DD prog_1_method_35_code 45 (.iload_n 2) 1 46 := ⟨by decide +kernel, rfl⟩
theorem d_X11_odds_46 : DD prog_1_method_35_code 46 (.invokevirtual 170) 3 49 := ⟨by decide +kernel, rfl⟩
theorem d_X11_odds_49 : DD prog_1_method_35_code 49 (.getfield 174) 3 52 := ⟨by decide +kernel, rfl⟩
theorem d_X11_odds_52 : DJ prog_1_method_35_code 52 (fun o => .ifCond .ne o) 59 3 55 := ⟨by decide +kernel, rfl⟩
theorem d_X11_odds_55 : DD prog_1_method_35_code 55 (.ldc2_w 325) 3 58 := ⟨by decide +kernel, rfl⟩
theorem d_X11_odds_58 : DD prog_1_method_35_code 58 (.lreturn) 1 59 := ⟨by decide +kernel, rfl⟩
theorem d_X11_odds_59 : DD prog_1_method_35_code 59 (.aload_n 0) 1 60 := ⟨by decide +kernel, rfl⟩
theorem d_X11_odds_60 : DD prog_1_method_35_code 60 (.getfield 48) 3 63 := ⟨by decide +kernel, rfl⟩
theorem d_X11_odds_63 : DD prog_1_method_35_code 63 (.aload_n 0) 1 64 := ⟨by decide +kernel, rfl⟩
theorem d_X11_odds_64 : DD prog_1_method_35_code 64 (.getfield 69) 3 67 := ⟨by decide +kernel, rfl⟩
theorem d_X11_odds_67 : DD prog_1_method_35_code 67 (.iload_n 1) 1 68 := ⟨by decide +kernel, rfl⟩
theorem d_X11_odds_68 : DD prog_1_method_35_code 68 (.iload_n 2) 1 69 := ⟨by decide +kernel, rfl⟩
theorem d_X11_odds_69 : DD prog_1_method_35_code 69 (.iload_n 3) 1 70 := ⟨by decide +kernel, rfl⟩
theorem d_X11_odds_70 : DD prog_1_method_35_code 70 (.invokevirtual 327) 3 73 := ⟨by decide +kernel, rfl⟩
theorem d_X11_odds_73 : DD prog_1_method_35_code 73 (.iload 4) 2 75 := ⟨by decide +kernel, rfl⟩
theorem d_X11_odds_75 : DJ prog_1_method_35_code 75 (fun o => .ifCond .ne o) 88 3 78 := ⟨by decide +kernel, rfl⟩
theorem d_X11_odds_78 : DD prog_1_method_35_code 78 (.aload_n 0) 1 79 := ⟨by decide +kernel, rfl⟩
theorem d_X11_odds_79 : DD prog_1_method_35_code 79 (.getfield 48) 3 82 := ⟨by decide +kernel, rfl⟩
theorem d_X11_odds_82 : DD prog_1_method_35_code 82 (.getfield 329) 3 85 := ⟨by decide +kernel, rfl⟩
theorem d_X11_odds_85 : DJ prog_1_method_35_code 85 (fun o => .goto o) 95 3 88 := ⟨by decide +kernel, rfl⟩
theorem d_X11_odds_88 : DD prog_1_method_35_code 88 (.aload_n 0) 1 89 := ⟨by decide +kernel, rfl⟩
theorem d_X11_odds_89 : DD prog_1_method_35_code 89 (.getfield 48) 3 92 := ⟨by decide +kernel, rfl⟩
theorem d_X11_odds_92 : DD prog_1_method_35_code 92 (.getfield 333) 3 95 := ⟨by decide +kernel, rfl⟩
theorem d_X11_odds_95 : DD prog_1_method_35_code 95 (.lreturn) 1 96 := ⟨by decide +kernel, rfl⟩
theorem d_X11_talks_0 : DD prog_1_method_36_code 0 (.iload_n 1) 1 1 := ⟨by decide +kernel, rfl⟩
theorem d_X11_talks_1 : DD prog_1_method_36_code 1 (.iconst 0) 1 2 := ⟨by decide +kernel, rfl⟩
theorem d_X11_talks_2 : DD prog_1_method_36_code 2 (.iconst 1) 1 3 := ⟨by decide +kernel, rfl⟩
theorem d_X11_talks_3 : DD prog_1_method_36_code 3 (.invokestatic 166) 3 6 := ⟨by decide +kernel, rfl⟩
theorem d_X11_talks_6 : DJ prog_1_method_36_code 6 (fun o => .ifCond .ne o) 11 3 9 := ⟨by decide +kernel, rfl⟩
theorem d_X11_talks_9 : DD prog_1_method_36_code 9 (.iconst (-1)) 1 10 := ⟨by decide +kernel, rfl⟩
theorem d_X11_talks_10 : DD prog_1_method_36_code 10 (.ireturn) 1 11 := ⟨by decide +kernel, rfl⟩
theorem d_X11_talks_11 : DD prog_1_method_36_code 11 (.iconst 1) 1 12 := ⟨by decide +kernel, rfl⟩
theorem d_X11_talks_12 : DD prog_1_method_36_code 12 (.istore_n 2) 1 13 := ⟨by decide +kernel, rfl⟩
theorem d_X11_talks_13 : DD prog_1_method_36_code 13 (.iload_n 2) 1 14 := ⟨by decide +kernel, rfl⟩
theorem d_X11_talks_14 : DD prog_1_method_36_code 14 (.bipush 99) 2 16 := ⟨by decide +kernel, rfl⟩
theorem d_X11_talks_16 : DJ prog_1_method_36_code 16 (fun o => .if_icmp .gt o) 58 3 19 := ⟨by decide +kernel, rfl⟩
theorem d_X11_talks_19 : DD prog_1_method_36_code 19 (.aload_n 0) 1 20 := ⟨by decide +kernel, rfl⟩
theorem d_X11_talks_20 : DD prog_1_method_36_code 20 (.getfield 69) 3 23 := ⟨by decide +kernel, rfl⟩
theorem d_X11_talks_23 : DD prog_1_method_36_code 23 (.iconst 0) 1 24 := ⟨by decide +kernel, rfl⟩
theorem d_X11_talks_24 : DD prog_1_method_36_code 24 (.iload_n 2) 1 25 := ⟨by decide +kernel, rfl⟩
theorem d_X11_talks_25 : DD prog_1_method_36_code 25 (.invokevirtual 336) 3 28 := ⟨by decide +kernel, rfl⟩
theorem d_X11_talks_28 : DD prog_1_method_36_code 28 (.istore_n 3) 1 29 := ⟨by decide +kernel, rfl⟩
theorem d_X11_talks_29 : DD prog_1_method_36_code 29 (.iload_n 3) 1 30 := ⟨by decide +kernel, rfl⟩
theorem d_X11_talks_30 : DD prog_1_method_36_code 30 (.aload_n 0) 1 31 := ⟨by decide +kernel, rfl⟩
theorem d_X11_talks_31 : DD prog_1_method_36_code 31 (.getfield 69) 3 34 := ⟨by decide +kernel, rfl⟩
theorem d_X11_talks_34 : DD prog_1_method_36_code 34 (.iconst 1) 1 35 := ⟨by decide +kernel, rfl⟩
theorem d_X11_talks_35 : DD prog_1_method_36_code 35 (.iload_n 2) 1 36 := ⟨by decide +kernel, rfl⟩
theorem d_X11_talks_36 : DD prog_1_method_36_code 36 (.invokevirtual 336) 3 39 := ⟨by decide +kernel, rfl⟩
theorem d_X11_talks_39 : DJ prog_1_method_36_code 39 (fun o => .if_icmp .ne o) 52 3 42 := ⟨by decide +kernel, rfl⟩
theorem d_X11_talks_42 : DD prog_1_method_36_code 42 (.iload_n 1) 1 43 := ⟨by decide +kernel, rfl⟩
theorem d_X11_talks_43 : DJ prog_1_method_36_code 43 (fun o => .ifCond .ne o) 50 3 46 := ⟨by decide +kernel, rfl⟩
theorem d_X11_talks_46 : DD prog_1_method_36_code 46 (.iload_n 2) 1 47 := ⟨by decide +kernel, rfl⟩
theorem d_X11_talks_47 : DJ prog_1_method_36_code 47 (fun o => .goto o) 51 3 50 := ⟨by decide +kernel, rfl⟩
theorem d_X11_talks_50 : DD prog_1_method_36_code 50 (.iload_n 3) 1 51 := ⟨by decide +kernel, rfl⟩
theorem d_X11_talks_51 : DD prog_1_method_36_code 51 (.ireturn) 1 52 := ⟨by decide +kernel, rfl⟩
theorem d_X11_talks_52 : DD prog_1_method_36_code 52 (.iinc 2 1) 3 55 := ⟨by decide +kernel, rfl⟩
theorem d_X11_talks_55 : DJ prog_1_method_36_code 55 (fun o => .goto o) 13 3 58 := ⟨by decide +kernel, rfl⟩
theorem d_X11_talks_58 : DD prog_1_method_36_code 58 (.bipush (-4)) 2 60 := ⟨by decide +kernel, rfl⟩
theorem d_X11_talks_60 : DD prog_1_method_36_code 60 (.ireturn) 1 61 := ⟨by decide +kernel, rfl⟩
theorem d_X11_strength_0 : DD prog_1_method_37_code 0 (.iload_n 1) 1 1 := ⟨by decide +kernel, rfl⟩
theorem d_X11_strength_1 : DD prog_1_method_37_code 1 (.invokestatic 163) 3 4 := ⟨by decide +kernel, rfl⟩
theorem d_X11_strength_4 : DJ prog_1_method_37_code 4 (fun o => .ifCond .ne o) 9 3 7 := ⟨by decide +kernel, rfl⟩
theorem d_X11_strength_7 : DD prog_1_method_37_code 7 (.iconst (-1)) 1 8 := ⟨by decide +kernel, rfl⟩
theorem d_X11_strength_8 : DD prog_1_method_37_code 8 (.ireturn) 1 9 := ⟨by decide +kernel, rfl⟩
theorem d_X11_strength_9 : DD prog_1_method_37_code 9 (.aload_n 0) 1 10 := ⟨by decide +kernel, rfl⟩
theorem d_X11_strength_10 : DD prog_1_method_37_code 10 (.getfield 69) 3 13 := ⟨by decide +kernel, rfl⟩
theorem d_X11_strength_13 : DD prog_1_method_37_code 13 (.iload_n 1) 1 14 := ⟨by decide +kernel, rfl⟩
theorem d_X11_strength_14 : DD prog_1_method_37_code 14 (.aload_n 0) 1 15 := ⟨by decide +kernel, rfl⟩
theorem d_X11_strength_15 : DD prog_1_method_37_code 15 (.getfield 69) 3 18 := ⟨by decide +kernel, rfl⟩
theorem d_X11_strength_18 : DD prog_1_method_37_code 18 (.getfield 119) 3 21 := ⟨by decide +kernel, rfl⟩
theorem d_X11_strength_21 : DD prog_1_method_37_code 21 (.getfield 123) 3 24 := ⟨by decide +kernel, rfl⟩
theorem d_X11_strength_24 : DD prog_1_method_37_code 24 (.invokevirtual 336) 3 27 := ⟨by decide +kernel, rfl⟩
theorem d_X11_strength_27 : DD prog_1_method_37_code 27 (.ireturn) 1 28 := ⟨by decide +kernel, rfl⟩
theorem d_X11_keep_0 : DD prog_1_method_38_code 0 (.iload_n 1) 1 1 := ⟨by decide +kernel, rfl⟩
theorem d_X11_keep_1 : DD prog_1_method_38_code 1 (.iconst 0) 1 2 := ⟨by decide +kernel, rfl⟩
theorem d_X11_keep_2 : DD prog_1_method_38_code 2 (.iconst 1) 1 3 := ⟨by decide +kernel, rfl⟩
theorem d_X11_keep_3 : DD prog_1_method_38_code 3 (.invokestatic 166) 3 6 := ⟨by decide +kernel, rfl⟩
theorem d_X11_keep_6 : DJ prog_1_method_38_code 6 (fun o => .ifCond .ne o) 11 3 9 := ⟨by decide +kernel, rfl⟩
theorem d_X11_keep_9 : DD prog_1_method_38_code 9 (.iconst (-1)) 1 10 := ⟨by decide +kernel, rfl⟩
theorem d_X11_keep_10 : DD prog_1_method_38_code 10 (.ireturn) 1 11 := ⟨by decide +kernel, rfl⟩
theorem d_X11_keep_11 : DD prog_1_method_38_code 11 (.aload_n 0) 1 12 := ⟨by decide +kernel, rfl⟩
theorem d_X11_keep_12 : DD prog_1_method_38_code 12 (.getfield 27) 3 15 := ⟨by decide +kernel, rfl⟩
theorem d_X11_keep_15 : DD prog_1_method_38_code 15 (.iload_n 1) 1 16 := ⟨by decide +kernel, rfl⟩
theorem d_X11_keep_16 : DD prog_1_method_38_code 16 (.baload) 1 17 := ⟨by decide +kernel, rfl⟩
theorem d_X11_keep_17 : DJ prog_1_method_38_code 17 (fun o => .ifCond .eq o) 24 3 20 := ⟨by decide +kernel, rfl⟩
theorem d_X11_keep_20 : DD prog_1_method_38_code 20 (.iconst 1) 1 21 := ⟨by decide +kernel, rfl⟩
theorem d_X11_keep_21 : DJ prog_1_method_38_code 21 (fun o => .goto o) 25 3 24 := ⟨by decide +kernel, rfl⟩
theorem d_X11_keep_24 : DD prog_1_method_38_code 24 (.iconst 0) 1 25 := ⟨by decide +kernel, rfl⟩
theorem d_X11_keep_25 : DD prog_1_method_38_code 25 (.istore_n 2) 1 26 := ⟨by decide +kernel, rfl⟩
theorem d_X11_keep_26 : DD prog_1_method_38_code 26 (.aload_n 0) 1 27 := ⟨by decide +kernel, rfl⟩
theorem d_X11_keep_27 : DD prog_1_method_38_code 27 (.getfield 23) 3 30 := ⟨by decide +kernel, rfl⟩
theorem d_X11_keep_30 : DD prog_1_method_38_code 30 (.iload_n 1) 1 31 := ⟨by decide +kernel, rfl⟩
theorem d_X11_keep_31 : DD prog_1_method_38_code 31 (.aaload) 1 32 := ⟨by decide +kernel, rfl⟩
theorem d_X11_keep_32 : DD prog_1_method_38_code 32 (.aload_n 0) 1 33 := ⟨by decide +kernel, rfl⟩
theorem d_X11_keep_33 : DD prog_1_method_38_code 33 (.getfield 69) 3 36 := ⟨by decide +kernel, rfl⟩
theorem d_X11_keep_36 : DD prog_1_method_38_code 36 (.getfield 113) 3 39 := ⟨by decide +kernel, rfl⟩
theorem d_X11_keep_39 : DD prog_1_method_38_code 39 (.invokevirtual 339) 3 42 := ⟨by decide +kernel, rfl⟩
theorem d_X11_keep_42 : DD prog_1_method_38_code 42 (.aload_n 0) 1 43 := ⟨by decide +kernel, rfl⟩
theorem d_X11_keep_43 : DD prog_1_method_38_code 43 (.getfield 27) 3 46 := ⟨by decide +kernel, rfl⟩
theorem d_X11_keep_46 : DD prog_1_method_38_code 46 (.iload_n 1) 1 47 := ⟨by decide +kernel, rfl⟩
theorem d_X11_keep_47 : DD prog_1_method_38_code 47 (.iconst 1) 1 48 := ⟨by decide +kernel, rfl⟩
theorem d_X11_keep_48 : DD prog_1_method_38_code 48 (.bastore) 1 49 := ⟨by decide +kernel, rfl⟩
theorem d_X11_keep_49 : DD prog_1_method_38_code 49 (.iload_n 2) 1 50 := ⟨by decide +kernel, rfl⟩
theorem d_X11_keep_50 : DD prog_1_method_38_code 50 (.ireturn) 1 51 := ⟨by decide +kernel, rfl⟩
theorem d_X11_back_0 : DD prog_1_method_39_code 0 (.iload_n 1) 1 1 := ⟨by decide +kernel, rfl⟩
theorem d_X11_back_1 : DD prog_1_method_39_code 1 (.iconst 0) 1 2 := ⟨by decide +kernel, rfl⟩
theorem d_X11_back_2 : DD prog_1_method_39_code 2 (.iconst 1) 1 3 := ⟨by decide +kernel, rfl⟩
theorem d_X11_back_3 : DD prog_1_method_39_code 3 (.invokestatic 166) 3 6 := ⟨by decide +kernel, rfl⟩
theorem d_X11_back_6 : DJ prog_1_method_39_code 6 (fun o => .ifCond .ne o) 11 3 9 := ⟨by decide +kernel, rfl⟩
theorem d_X11_back_9 : DD prog_1_method_39_code 9 (.iconst (-1)) 1 10 := ⟨by decide +kernel, rfl⟩
theorem d_X11_back_10 : DD prog_1_method_39_code 10 (.ireturn) 1 11 := ⟨by decide +kernel, rfl⟩
theorem d_X11_back_11 : DD prog_1_method_39_code 11 (.aload_n 0) 1 12 := ⟨by decide +kernel, rfl⟩
theorem d_X11_back_12 : DD prog_1_method_39_code 12 (.getfield 27) 3 15 := ⟨by decide +kernel, rfl⟩
theorem d_X11_back_15 : DD prog_1_method_39_code 15 (.iload_n 1) 1 16 := ⟨by decide +kernel, rfl⟩
theorem d_X11_back_16 : DD prog_1_method_39_code 16 (.baload) 1 17 := ⟨by decide +kernel, rfl⟩
theorem d_X11_back_17 : DJ prog_1_method_39_code 17 (fun o => .ifCond .ne o) 23 3 20 := ⟨by decide +kernel, rfl⟩
theorem d_X11_back_20 : DD prog_1_method_39_code 20 (.bipush (-2)) 2 22 := ⟨by decide +kernel, rfl⟩
theorem d_X11_back_22 : DD prog_1_method_39_code 22 (.ireturn) 1 23 := ⟨by decide +kernel, rfl⟩
theorem d_X11_back_23 : DD prog_1_method_39_code 23 (.aload_n 0) 1 24 := ⟨by decide +kernel, rfl⟩
theorem d_X11_back_24 : DD prog_1_method_39_code 24 (.getfield 69) 3 27 := ⟨by decide +kernel, rfl⟩
theorem d_X11_back_27 : DD prog_1_method_39_code 27 (.getfield 113) 3 30 := ⟨by decide +kernel, rfl⟩
theorem d_X11_back_30 : DD prog_1_method_39_code 30 (.aload_n 0) 1 31 := ⟨by decide +kernel, rfl⟩
theorem d_X11_back_31 : DD prog_1_method_39_code 31 (.getfield 23) 3 34 := ⟨by decide +kernel, rfl⟩
theorem d_X11_back_34 : DD prog_1_method_39_code 34 (.iload_n 1) 1 35 := ⟨by decide +kernel, rfl⟩
theorem d_X11_back_35 : DD prog_1_method_39_code 35 (.aaload) 1 36 := ⟨by decide +kernel, rfl⟩
theorem d_X11_back_36 : DD prog_1_method_39_code 36 (.invokevirtual 339) 3 39 := ⟨by decide +kernel, rfl⟩
theorem d_X11_back_39 : DD prog_1_method_39_code 39 (.aload_n 0) 1 40 := ⟨by decide +kernel, rfl⟩
theorem d_X11_back_40 : DD prog_1_method_39_code 40 (.getfield 69) 3 43 := ⟨by decide +kernel, rfl⟩
theorem d_X11_back_43 : DD prog_1_method_39_code 43 (.getfield 113) 3 46 := ⟨by decide +kernel, rfl⟩
theorem d_X11_back_46 : DD prog_1_method_39_code 46 (.getfield 116) 3 49 := ⟨by decide +kernel, rfl⟩
theorem d_X11_back_49 : DD prog_1_method_39_code 49 (.ireturn) 1 50 := ⟨by decide +kernel, rfl⟩
theorem d_X11_isSheet_0 : DD prog_1_method_48_code 0 (.iload_n 0) 1 1 := ⟨by decide +kernel, rfl⟩
theorem d_X11_isSheet_1 : DD prog_1_method_48_code 1 (.iconst 0) 1 2 := ⟨by decide +kernel, rfl⟩
theorem d_X11_isSheet_2 : DD prog_1_method_48_code 2 (.iconst 3) 1 3 := ⟨by decide +kernel, rfl⟩
theorem d_X11_isSheet_3 : DD prog_1_method_48_code 3 (.invokestatic 166) 3 6 := ⟨by decide +kernel, rfl⟩
theorem d_X11_isSheet_6 : DD prog_1_method_48_code 6 (.ireturn) 1 7 := ⟨by decide +kernel, rfl⟩
theorem d_X11_sheet_0 : DD prog_1_method_40_code 0 (.iload_n 1) 1 1 := ⟨by decide +kernel, rfl⟩
theorem d_X11_sheet_1 : DD prog_1_method_40_code 1 (.invokestatic 343) 3 4 := ⟨by decide +kernel, rfl⟩
theorem d_X11_sheet_4 : DJ prog_1_method_40_code 4 (fun o => .ifCond .eq o) 22 3 7 := ⟨by decide +kernel, rfl⟩
theorem d_X11_sheet_7 : DD prog_1_method_40_code 7 (.iload_n 2) 1 8 := ⟨by decide +kernel, rfl⟩
theorem d_X11_sheet_8 : DD prog_1_method_40_code 8 (.iconst 0) 1 9 := ⟨by decide +kernel, rfl⟩
theorem d_X11_sheet_9 : DD prog_1_method_40_code 9 (.iconst 2) 1 10 := ⟨by decide +kernel, rfl⟩
theorem d_X11_sheet_10 : DD prog_1_method_40_code 10 (.invokestatic 166) 3 13 := ⟨by decide +kernel, rfl⟩
theorem d_X11_sheet_13 : DJ prog_1_method_40_code 13 (fun o => .ifCond .eq o) 22 3 16 := ⟨by decide +kernel, rfl⟩
theorem d_X11_sheet_16 : DD prog_1_method_40_code 16 (.iload_n 3) 1 17 := ⟨by decide +kernel, rfl⟩
theorem d_X11_sheet_17 : DD prog_1_method_40_code 17 (.bipush 40) 2 19 := ⟨by decide +kernel, rfl⟩
theorem d_X11_sheet_19 : DJ prog_1_method_40_code 19 (fun o => .if_icmp .le o) 24 3 22 := ⟨by decide +kernel, rfl⟩
theorem d_X11_sheet_22 : DD prog_1_method_40_code 22 (.iconst (-1)) 1 23 := ⟨by decide +kernel, rfl⟩
theorem d_X11_sheet_23 : DD prog_1_method_40_code 23 (.ireturn) 1 24 := ⟨by decide +kernel, rfl⟩
theorem d_X11_sheet_24 : DD prog_1_method_40_code 24 (.iload_n 3) 1 25 := ⟨by decide +kernel, rfl⟩
theorem d_X11_sheet_25 : DJ prog_1_method_40_code 25 (fun o => .ifCond .ge o) 31 3 28 := ⟨by decide +kernel, rfl⟩
theorem d_X11_sheet_28 : DD prog_1_method_40_code 28 (.bipush (-14)) 2 30 := ⟨by decide +kernel, rfl⟩
theorem d_X11_sheet_30 : DD prog_1_method_40_code 30 (.ireturn) 1 31 := ⟨by decide +kernel, rfl⟩
theorem d_X11_sheet_31 : DD prog_1_method_40_code 31 (.aload_n 0) 1 32 := ⟨by decide +kernel, rfl⟩
theorem d_X11_sheet_32 : DD prog_1_method_40_code 32 (.getfield 61) 3 35 := ⟨by decide +kernel, rfl⟩
theorem d_X11_sheet_35 : DD prog_1_method_40_code 35 (.iload_n 1) 1 36 := ⟨by decide +kernel, rfl⟩
theorem d_X11_sheet_36 : DD prog_1_method_40_code 36 (.aaload) 1 37 := ⟨by decide +kernel, rfl⟩
theorem d_X11_sheet_37 : DD prog_1_method_40_code 37 (.iload_n 2) 1 38 := ⟨by decide +kernel, rfl⟩
theorem d_X11_sheet_38 : DD prog_1_method_40_code 38 (.iload_n 3) 1 39 := ⟨by decide +kernel, rfl⟩
theorem d_X11_sheet_39 : DD prog_1_method_40_code 39 (.invokevirtual 346) 3 42 := ⟨by decide +kernel, rfl⟩
theorem d_X11_sheet_42 : DD prog_1_method_40_code 42 (.iconst 1) 1 43 := ⟨by decide +kernel, rfl⟩
theorem d_X11_sheet_43 : DD prog_1_method_40_code 43 (.ireturn) 1 44 := ⟨by decide +kernel, rfl⟩
theorem d_X11_lay_0 : DD prog_1_method_41_code 0 (.iload_n 1) 1 1 := ⟨by decide +kernel, rfl⟩
theorem d_X11_lay_1 : DD prog_1_method_41_code 1 (.invokestatic 343) 3 4 := ⟨by decide +kernel, rfl⟩
theorem d_X11_lay_4 : DJ prog_1_method_41_code 4 (fun o => .ifCond .ne o) 9 3 7 := ⟨by decide +kernel, rfl⟩
theorem d_X11_lay_7 : DD prog_1_method_41_code 7 (.iconst (-1)) 1 8 := ⟨by decide +kernel, rfl⟩
theorem d_X11_lay_8 : DD prog_1_method_41_code 8 (.ireturn) 1 9 := ⟨by decide +kernel, rfl⟩
theorem d_X11_lay_9 : DD prog_1_method_41_code 9 (.aload_n 0) 1 10 := ⟨by decide +kernel, rfl⟩
theorem d_X11_lay_10 : DD prog_1_method_41_code 10 (.getfield 61) 3 13 := ⟨by decide +kernel, rfl⟩
theorem d_X11_lay_13 : DD prog_1_method_41_code 13 (.iload_n 1) 1 14 := ⟨by decide +kernel, rfl⟩
theorem d_X11_lay_14 : DD prog_1_method_41_code 14 (.aaload) 1 15 := ⟨by decide +kernel, rfl⟩
theorem d_X11_lay_15 : DD prog_1_method_41_code 15 (.astore 4) 2 17 := ⟨by decide +kernel, rfl⟩
theorem d_X11_lay_17 : DD prog_1_method_41_code 17 (.aload 4) 2 19 := ⟨by decide +kernel, rfl⟩
theorem d_X11_lay_19 : DD prog_1_method_41_code 19 (.getfield 350) 3 22 := ⟨by decide +kernel, rfl⟩
theorem d_X11_lay_22 : DJ prog_1_method_41_code 22 (fun o => .ifCond .ne o) 28 3 25 := ⟨by decide +kernel, rfl⟩
theorem d_X11_lay_25 : DD prog_1_method_41_code 25 (.bipush (-11)) 2 27 := ⟨by decide +kernel, rfl⟩
theorem d_X11_lay_27 : DD prog_1_method_41_code 27 (.ireturn) 1 28 := ⟨by decide +kernel, rfl⟩
theorem d_X11_lay_28 : DD prog_1_method_41_code 28 (.iload_n 2) 1 29 := ⟨by decide +kernel, rfl⟩
theorem d_X11_lay_29 : DD prog_1_method_41_code 29 (.iconst 0) 1 30 := ⟨by decide +kernel, rfl⟩
theorem d_X11_lay_30 : DD prog_1_method_41_code 30 (.aload 4) 2 32 := ⟨by decide +kernel, rfl⟩
theorem d_X11_lay_32 : DD prog_1_method_41_code 32 (.getfield 351) 3 35 := ⟨by decide +kernel, rfl⟩
theorem d_X11_lay_35 : DD prog_1_method_41_code 35 (.iconst 1) 1 36 := ⟨by decide +kernel, rfl⟩
theorem d_X11_lay_36 : DD prog_1_method_41_code 36 (.isub) 1 37 := ⟨by decide +kernel, rfl⟩
theorem d_X11_lay_37 : DD prog_1_method_41_code 37 (.invokestatic 166) 3 40 := ⟨by decide +kernel, rfl⟩
theorem d_X11_lay_40 : DJ prog_1_method_41_code 40 (fun o => .ifCond .ne o) 46 3 43 := ⟨by decide +kernel, rfl⟩
theorem d_X11_lay_43 : DD prog_1_method_41_code 43 (.bipush (-12)) 2 45 := ⟨by decide +kernel, rfl⟩
theorem d_X11_lay_45 : DD prog_1_method_41_code 45 (.ireturn) 1 46 := ⟨by decide +kernel, rfl⟩
theorem d_X11_lay_46 : DD prog_1_method_41_code 46 (.aload 4) 2 48 := ⟨by decide +kernel, rfl⟩
theorem d_X11_lay_48 : DD prog_1_method_41_code 48 (.iload_n 2) 1 49 := ⟨by decide +kernel, rfl⟩
theorem d_X11_lay_49 : DD prog_1_method_41_code 49 (.iload_n 3) 1 50 := ⟨by decide +kernel, rfl⟩
theorem d_X11_lay_50 : DD prog_1_method_41_code 50 (.invokevirtual 352) 3 53 := ⟨by decide +kernel, rfl⟩
theorem d_X11_lay_53 : DD prog_1_method_41_code 53 (.iconst 1) 1 54 := ⟨by decide +kernel, rfl⟩
theorem d_X11_lay_54 : DD prog_1_method_41_code 54 (.ireturn) 1 55 := ⟨by decide +kernel, rfl⟩
theorem d_X11_read_0 : DD prog_1_method_42_code 0 (.iload_n 1) 1 1 := ⟨by decide +kernel, rfl⟩
theorem d_X11_read_1 : DD prog_1_method_42_code 1 (.invokestatic 343) 3 4 := ⟨by decide +kernel, rfl⟩
theorem d_X11_read_4 : DJ prog_1_method_42_code 4 (fun o => .ifCond .eq o) 27 3 7 := ⟨by decide +kernel, rfl⟩
theorem d_X11_read_7 : DD prog_1_method_42_code 7 (.iload_n 2) 1 8 := ⟨by decide +kernel, rfl⟩
theorem d_X11_read_8 : DD prog_1_method_42_code 8 (.iconst 0) 1 9 := ⟨by decide +kernel, rfl⟩
theorem d_X11_read_9 : DD prog_1_method_42_code 9 (.iconst 2) 1 10 := ⟨by decide +kernel, rfl⟩
theorem d_X11_read_10 : DD prog_1_method_42_code 10 (.invokestatic 166) 3 13 := ⟨by decide +kernel, rfl⟩
theorem d_X11_read_13 : DJ prog_1_method_42_code 13 (fun o => .ifCond .eq o) 27 3 16 := ⟨by decide +kernel, rfl⟩
theorem d_X11_read_16 : DD prog_1_method_42_code 16 (.iload 4) 2 18 := ⟨by decide +kernel, rfl⟩
theorem d_X11_read_18 : DD prog_1_method_42_code 18 (.iconst 0) 1 19 := ⟨by decide +kernel, rfl⟩
theorem d_X11_read_19 : DD prog_1_method_42_code 19 (.bipush 12) 2 21 := ⟨by decide +kernel, rfl⟩
theorem d_X11_read_21 : DD prog_1_method_42_code 21 (.invokestatic 166) 3 24 := ⟨by decide +kernel, rfl⟩
theorem d_X11_read_24 : DJ prog_1_method_42_code 24 (fun o => .ifCond .ne o) 29 3 27 := ⟨by decide +kernel, rfl⟩
theorem d_X11_read_27 : DD prog_1_method_42_code 27 (.iconst (-1)) 1 28 := ⟨by decide +kernel, rfl⟩
theorem d_X11_read_28 : DD prog_1_method_42_code 28 (.ireturn) 1 29 := ⟨by decide +kernel, rfl⟩
theorem d_X11_read_29 : DD prog_1_method_42_code 29 (.aload_n 0) 1 30 := ⟨by decide +kernel, rfl⟩
theorem d_X11_read_30 : DD prog_1_method_42_code 30 (.getfield 61) 3 33 := ⟨by decide +kernel, rfl⟩
theorem d_X11_read_33 : DD prog_1_method_42_code 33 (.iload_n 1) 1 34 := ⟨by decide +kernel, rfl⟩
theorem d_X11_read_34 : DD prog_1_method_42_code 34 (.aaload) 1 35 := ⟨by decide +kernel, rfl⟩
theorem d_X11_read_35 : DD prog_1_method_42_code 35 (.astore 5) 2 37 := ⟨by decide +kernel, rfl⟩
theorem d_X11_read_37 : DD prog_1_method_42_code 37 (.aload 5) 2 39 := ⟨by decide +kernel, rfl⟩
theorem d_X11_read_39 : DD prog_1_method_42_code 39 (.iload_n 2) 1 40 := ⟨by decide +kernel, rfl⟩
theorem d_X11_read_40 : DD prog_1_method_42_code 40 (.iload_n 3) 1 41 := ⟨by decide +kernel, rfl⟩
theorem d_X11_read_41 : DD prog_1_method_42_code 41 (.iload 4) 2 43 := ⟨by decide +kernel, rfl⟩
theorem d_X11_read_43 : DD prog_1_method_42_code 43 (.invokevirtual 354) 3 46 := ⟨by decide +kernel, rfl⟩
theorem d_X11_read_46 : DD prog_1_method_42_code 46 (.istore 6) 2 48 := ⟨by decide +kernel, rfl⟩
theorem d_X11_read_48 : DD prog_1_method_42_code 48 (.iconst 0) 1 49 := ⟨by decide +kernel, rfl⟩
theorem d_X11_read_49 : DD prog_1_method_42_code 49 (.istore 7) 2 51 := ⟨by decide +kernel, rfl⟩
theorem d_X11_read_51 : DD prog_1_method_42_code 51 (.iload 7) 2 53 := ⟨by decide +kernel, rfl⟩
theorem d_X11_read_53 : DD prog_1_method_42_code 53 (.iload 6) 2 55 := ⟨by decide +kernel, rfl⟩
theorem d_X11_read_55 : DJ prog_1_method_42_code 55 (fun o => .if_icmp .ge o) 89 3 58 := ⟨by decide +kernel, rfl⟩
theorem d_X11_read_58 : DD prog_1_method_42_code 58 (.aload 5) 2 60 := ⟨by decide +kernel, rfl⟩
theorem d_X11_read_60 : DD prog_1_method_42_code 60 (.getfield 357) 3 63 := ⟨by decide +kernel, rfl⟩
theorem d_X11_read_63 : DD prog_1_method_42_code 63 (.iload_n 3) 1 64 := ⟨by decide +kernel, rfl⟩
theorem d_X11_read_64 : DD prog_1_method_42_code 64 (.iload 7) 2 66 := ⟨by decide +kernel, rfl⟩
theorem d_X11_read_66 : DD prog_1_method_42_code 66 (.iadd) 1 67 := ⟨by decide +kernel, rfl⟩
theorem d_X11_read_67 : DD prog_1_method_42_code 67 (.iaload) 1 68 := ⟨by decide +kernel, rfl⟩
theorem d_X11_read_68 : DD prog_1_method_42_code 68 (.iconst 0) 1 69 := ⟨by decide +kernel, rfl⟩
theorem d_X11_read_69 : DD prog_1_method_42_code 69 (.bipush 9) 2 71 := ⟨by decide +kernel, rfl⟩
theorem d_X11_read_71 : DD prog_1_method_42_code 71 (.invokestatic 166) 3 74 := ⟨by decide +kernel, rfl⟩
theorem d_X11_read_74 : DJ prog_1_method_42_code 74 (fun o => .ifCond .ne o) 83 3 77 := ⟨by decide +kernel, rfl⟩
theorem d_X11_read_77 : DD prog_1_method_42_code 77 (.bipush (-20)) 2 79 := ⟨by decide +kernel, rfl⟩
theorem d_X11_read_79 : DD prog_1_method_42_code 79 (.iload 7) 2 81 := ⟨by decide +kernel, rfl⟩
theorem d_X11_read_81 : DD prog_1_method_42_code 81 (.isub) 1 82 := ⟨by decide +kernel, rfl⟩
theorem d_X11_read_82 : DD prog_1_method_42_code 82 (.ireturn) 1 83 := ⟨by decide +kernel, rfl⟩
theorem d_X11_read_83 : DD prog_1_method_42_code 83 (.iinc 7 1) 3 86 := ⟨by decide +kernel, rfl⟩
theorem d_X11_read_86 : DJ prog_1_method_42_code 86 (fun o => .goto o) 51 3 89 := ⟨by decide +kernel, rfl⟩
theorem d_X11_read_89 : DD prog_1_method_42_code 89 (.iconst 0) 1 90 := ⟨by decide +kernel, rfl⟩
theorem d_X11_read_90 : DD prog_1_method_42_code 90 (.istore 7) 2 92 := ⟨by decide +kernel, rfl⟩
theorem d_X11_read_92 : DD prog_1_method_42_code 92 (.iload 7) 2 94 := ⟨by decide +kernel, rfl⟩
theorem d_X11_read_94 : DD prog_1_method_42_code 94 (.iload 6) 2 96 := ⟨by decide +kernel, rfl⟩
theorem d_X11_read_96 : DJ prog_1_method_42_code 96 (fun o => .if_icmp .ge o) 128 3 99 := ⟨by decide +kernel, rfl⟩
theorem d_X11_read_99 : DD prog_1_method_42_code 99 (.aload_n 0) 1 100 := ⟨by decide +kernel, rfl⟩
theorem d_X11_read_100 : DD prog_1_method_42_code 100 (.getfield 69) 3 103 := ⟨by decide +kernel, rfl⟩
theorem d_X11_read_103 : DD prog_1_method_42_code 103 (.getfield 113) 3 106 := ⟨by decide +kernel, rfl⟩
theorem d_X11_read_106 : DD prog_1_method_42_code 106 (.getfield 141) 3 109 := ⟨by decide +kernel, rfl⟩
theorem d_X11_read_109 : DD prog_1_method_42_code 109 (.iload 7) 2 111 := ⟨by decide +kernel, rfl⟩
theorem d_X11_read_111 : DD prog_1_method_42_code 111 (.aload 5) 2 113 := ⟨by decide +kernel, rfl⟩
theorem d_X11_read_113 : DD prog_1_method_42_code 113 (.getfield 357) 3 116 := ⟨by decide +kernel, rfl⟩
theorem d_X11_read_116 : DD prog_1_method_42_code 116 (.iload_n 3) 1 117 := ⟨by decide +kernel, rfl⟩
theorem d_X11_read_117 : DD prog_1_method_42_code 117 (.iload 7) 2 119 := ⟨by decide +kernel, rfl⟩
theorem d_X11_read_119 : DD prog_1_method_42_code 119 (.iadd) 1 120 := ⟨by decide +kernel, rfl⟩
theorem d_X11_read_120 : DD prog_1_method_42_code 120 (.iaload) 1 121 := ⟨by decide +kernel, rfl⟩
theorem d_X11_read_121 : DD prog_1_method_42_code 121 (.iastore) 1 122 := ⟨by decide +kernel, rfl⟩
theorem d_X11_read_122 : DD prog_1_method_42_code 122 (.iinc 7 1) 3 125 := ⟨by decide +kernel, rfl⟩
theorem d_X11_read_125 : DJ prog_1_method_42_code 125 (fun o => .goto o) 92 3 128 := ⟨by decide +kernel, rfl⟩
theorem d_X11_read_128 : DD prog_1_method_42_code 128 (.aload_n 0) 1 129 := ⟨by decide +kernel, rfl⟩
theorem d_X11_read_129 : DD prog_1_method_42_code 129 (.iload 6) 2 131 := ⟨by decide +kernel, rfl⟩
theorem d_X11_read_131 : DD prog_1_method_42_code 131 (.iload 4) 2 133 := ⟨by decide +kernel, rfl⟩
theorem d_X11_read_133 : DJ prog_1_method_42_code 133 (fun o => .if_icmp .ge o) 145 3 136 := ⟨by decide +kernel, rfl⟩
theorem d_X11_read_136 : DD prog_1_method_42_code 136 (.aload 5) 2 138 := ⟨by decide +kernel, rfl⟩
theorem d_X11_read_138 : DD prog_1_method_42_code 138 (.iload_n 2) 1 139 := ⟨by decide +kernel, rfl⟩
theorem d_X11_read_139 : DD prog_1_method_42_code 139 (.invokevirtual 360) 3 142 := ⟨by decide +kernel, rfl⟩
theorem d_X11_read_142 : DJ prog_1_method_42_code 142 (fun o => .goto o) 146 3 145 := ⟨by decide +kernel, rfl⟩
theorem d_X11_read_145 : DD prog_1_method_42_code 145 (.iconst 0) 1 146 := ⟨by decide +kernel, rfl⟩
theorem d_X11_read_146 : DD prog_1_method_42_code 146 (.putfield 76) 3 149 := ⟨by decide +kernel, rfl⟩
theorem d_X11_read_149 : DD prog_1_method_42_code 149 (.iload 6) 2 151 := ⟨by decide +kernel, rfl⟩
theorem d_X11_read_151 : DD prog_1_method_42_code 151 (.ireturn) 1 152 := ⟨by decide +kernel, rfl⟩
theorem d_X11_torn_0 : DD prog_1_method_43_code 0 (.aload_n 0) 1 1 := ⟨by decide +kernel, rfl⟩
theorem d_X11_torn_1 : DD prog_1_method_43_code 1 (.getfield 76) 3 4 := ⟨by decide +kernel, rfl⟩
theorem d_X11_torn_4 : DD prog_1_method_43_code 4 (.ireturn) 1 5 := ⟨by decide +kernel, rfl⟩
theorem d_X11_count_0 : DD prog_1_method_44_code 0 (.iload_n 1) 1 1 := ⟨by decide +kernel, rfl⟩
theorem d_X11_count_1 : DD prog_1_method_44_code 1 (.tableswitch 149 0 6 #[43, 54, 68, 76, 84, 114, 122]) 43 44 := ⟨by decide +kernel, rfl⟩
theorem d_X11_count_44 : DD prog_1_method_44_code 44 (.aload_n 0) 1 45 := ⟨by decide +kernel, rfl⟩
theorem d_X11_count_45 : DD prog_1_method_44_code 45 (.getfield 69) 3 48 := ⟨by decide +kernel, rfl⟩
theorem d_X11_count_48 : DD prog_1_method_44_code 48 (.getfield 113) 3 51 := ⟨by decide +kernel, rfl⟩
theorem d_X11_count_51 : DD prog_1_method_44_code 51 (.invokevirtual 363) 3 54 := ⟨by decide +kernel, rfl⟩
theorem d_X11_count_54 : DD prog_1_method_44_code 54 (.ireturn) 1 55 := ⟨by decide +kernel, rfl⟩
theorem d_X11_count_55 : DD prog_1_method_44_code 55 (.aload_n 0) 1 56 := ⟨by decide +kernel, rfl⟩
theorem d_X11_count_56 : DD prog_1_method_44_code 56 (.getfield 69) 3 59 := ⟨by decide +kernel, rfl⟩
theorem d_X11_count_59 : DD prog_1_method_44_code 59 (.getfield 113) 3 62 := ⟨by decide +kernel, rfl⟩
theorem d_X11_count_62 : DD prog_1_method_44_code 62 (.getfield 193) 3 65 := ⟨by decide +kernel, rfl⟩
theorem d_X11_count_65 : DD prog_1_method_44_code 65 (.getfield 239) 3 68 := ⟨by decide +kernel, rfl⟩
theorem d_X11_count_68 : DD prog_1_method_44_code 68 (.ireturn) 1 69 := ⟨by decide +kernel, rfl⟩
theorem d_X11_count_69 : DD prog_1_method_44_code 69 (.aload_n 0) 1 70 := ⟨by decide +kernel, rfl⟩
theorem d_X11_count_70 : DD prog_1_method_44_code 70 (.getfield 69) 3 73 := ⟨by decide +kernel, rfl⟩
theorem d_X11_count_73 : DD prog_1_method_44_code 73 (.getfield 214) 3 76 := ⟨by decide +kernel, rfl⟩
theorem d_X11_count_76 : DD prog_1_method_44_code 76 (.ireturn) 1 77 := ⟨by decide +kernel, rfl⟩
theorem d_X11_count_77 : DD prog_1_method_44_code 77 (.aload_n 0) 1 78 := ⟨by decide +kernel, rfl⟩
theorem d_X11_count_78 : DD prog_1_method_44_code 78 (.getfield 34) 3 81 := ⟨by decide +kernel, rfl⟩
theorem d_X11_count_81 : DD prog_1_method_44_code 81 (.getfield 104) 3 84 := ⟨by decide +kernel, rfl⟩
theorem d_X11_count_84 : DD prog_1_method_44_code 84 (.ireturn) 1 85 := ⟨by decide +kernel, rfl⟩
theorem d_X11_count_85 : DD prog_1_method_44_code 85 (.aload_n 0) 1 86 := ⟨by decide +kernel, rfl⟩
theorem d_X11_count_86 : DD prog_1_method_44_code 86 (.getfield 27) 3 89 := ⟨by decide +kernel, rfl⟩
theorem d_X11_count_89 : DD prog_1_method_44_code 89 (.iconst 0) 1 90 := ⟨by decide +kernel, rfl⟩
theorem d_X11_count_90 : DD prog_1_method_44_code 90 (.baload) 1 91 := ⟨by decide +kernel, rfl⟩
theorem d_X11_count_91 : DJ prog_1_method_44_code 91 (fun o => .ifCond .eq o) 98 3 94 := ⟨by decide +kernel, rfl⟩
theorem d_X11_count_94 : DD prog_1_method_44_code 94 (.iconst 1) 1 95 := ⟨by decide +kernel, rfl⟩
theorem d_X11_count_95 : DJ prog_1_method_44_code 95 (fun o => .goto o) 99 3 98 := ⟨by decide +kernel, rfl⟩
theorem d_X11_count_98 : DD prog_1_method_44_code 98 (.iconst 0) 1 99 := ⟨by decide +kernel, rfl⟩
theorem d_X11_count_99 : DD prog_1_method_44_code 99 (.aload_n 0) 1 100 := ⟨by decide +kernel, rfl⟩
theorem d_X11_count_100 : DD prog_1_method_44_code 100 (.getfield 27) 3 103 := ⟨by decide +kernel, rfl⟩
theorem d_X11_count_103 : DD prog_1_method_44_code 103 (.iconst 1) 1 104 := ⟨by decide +kernel, rfl⟩
theorem d_X11_count_104 : DD prog_1_method_44_code 104 (.baload) 1 105 := ⟨by decide +kernel, rfl⟩
theorem d_X11_count_105 : DJ prog_1_method_44_code 105 (fun o => .ifCond .eq o) 112 3 108 := ⟨by decide +kernel, rfl⟩
theorem d_X11_count_108 : DD prog_1_method_44_code 108 (.iconst 1) 1 109 := ⟨by decide +kernel, rfl⟩
theorem d_X11_count_109 : DJ prog_1_method_44_code 109 (fun o => .goto o) 113 3 112 := ⟨by decide +kernel, rfl⟩
theorem d_X11_count_112 : DD prog_1_method_44_code 112 (.iconst 0) 1 113 := ⟨by decide +kernel, rfl⟩
theorem d_X11_count_113 : DD prog_1_method_44_code 113 (.iadd) 1 114 := ⟨by decide +kernel, rfl⟩
theorem d_X11_count_114 : DD prog_1_method_44_code 114 (.ireturn) 1 115 := ⟨by decide +kernel, rfl⟩
theorem d_X11_count_115 : DD prog_1_method_44_code 115 (.aload_n 0) 1 116 := ⟨by decide +kernel, rfl⟩
theorem d_X11_count_116 : DD prog_1_method_44_code 116 (.getfield 10) 3 119 := ⟨by decide +kernel, rfl⟩
theorem d_X11_count_119 : DD prog_1_method_44_code 119 (.getfield 95) 3 122 := ⟨by decide +kernel, rfl⟩
theorem d_X11_count_122 : DD prog_1_method_44_code 122 (.ireturn) 1 123 := ⟨by decide +kernel, rfl⟩
theorem d_X11_count_123 : DD prog_1_method_44_code 123 (.aload_n 0) 1 124 := ⟨by decide +kernel, rfl⟩
theorem d_X11_count_124 : DD prog_1_method_44_code 124 (.getfield 61) 3 127 := ⟨by decide +kernel, rfl⟩
theorem d_X11_count_127 : DD prog_1_method_44_code 127 (.iconst 0) 1 128 := ⟨by decide +kernel, rfl⟩
theorem d_X11_count_128 : DD prog_1_method_44_code 128 (.aaload) 1 129 := ⟨by decide +kernel, rfl⟩
theorem d_X11_count_129 : DD prog_1_method_44_code 129 (.getfield 350) 3 132 := ⟨by decide +kernel, rfl⟩
theorem d_X11_count_132 : DJ prog_1_method_44_code 132 (fun o => .ifCond .eq o) 147 3 135 := ⟨by decide +kernel, rfl⟩
theorem d_X11_count_135 : DD prog_1_method_44_code 135 (.aload_n 0) 1 136 := ⟨by decide +kernel, rfl⟩
theorem d_X11_count_136 : DD prog_1_method_44_code 136 (.getfield 61) 3 139 := ⟨by decide +kernel, rfl⟩
theorem d_X11_count_139 : DD prog_1_method_44_code 139 (.iconst 0) 1 140 := ⟨by decide +kernel, rfl⟩
theorem d_X11_count_140 : DD prog_1_method_44_code 140 (.aaload) 1 141 := ⟨by decide +kernel, rfl⟩
theorem d_X11_count_141 : DD prog_1_method_44_code 141 (.getfield 351) 3 144 := ⟨by decide +kernel, rfl⟩
theorem d_X11_count_144 : DJ prog_1_method_44_code 144 (fun o => .goto o) 149 3 147 := ⟨by decide +kernel, rfl⟩
theorem d_X11_count_147 : DD prog_1_method_44_code 147 (.bipush (-4)) 2 149 := ⟨by decide +kernel, rfl⟩
theorem d_X11_count_149 : DD prog_1_method_44_code 149 (.ireturn) 1 150 := ⟨by decide +kernel, rfl⟩
theorem d_X11_count_150 : DD prog_1_method_44_code 150 (.iconst (-1)) 1 151 := ⟨by decide +kernel, rfl⟩
theorem d_X11_count_151 : DD prog_1_method_44_code 151 (.ireturn) 1 152 := ⟨by decide +kernel, rfl⟩
def f_X11_feed (M : Mm) (j1 : Int64) : Option (Int32 × Mm) :=
bd (f_X9_append M j1) fun p2 =>
some (p2.1, p2.2)
def f_X11_end (M : Mm) (x1 : Int32) : Option (Int32 × Mm) :=
bd (f_X9_cut M x1) fun p2 =>
some (p2.1, p2.2)
def f_X11_land (M : Mm) : Option (Int32 × Mm) :=
bd (f_X4_wipe M (ld (M.1 0 10))) fun p2 =>
bd (f_X9_tell p2 (ld (p2.1 0 10))) fun p4 =>
wr (wI p4 1 1 (0 : Int32)) fun M5 =>
if (M5.1 1 3) = 0 then
(wr (wI M5 0 9 (M5.1 0 10)) fun M8 =>
wr (wI M8 0 10 (M5.1 0 9)) fun M10 =>
wr (wI M10 98 0 (0 : Int32)) fun M12 =>
wr (wI M12 35 (0 : Int32).toNatClampNeg (vp_nar .boolean (0 : Int32))) fun M14 =>
wr (wI M14 35 (1 : Int32).toNatClampNeg (vp_nar .boolean (0 : Int32))) fun M16 =>
some ((M16.1 1 2), M16))
else
(some (((-10 : Int32) - (M5.1 1 4)), M5))
def f_X11_fault (M : Mm) : Option Int32 :=
some (M.1 1 3)
def f_X11_rule (M : Mm) (x1 : Int32) : Option Int32 :=
if x1 = (0 : Int32) then
(some (M.1 (ld (M.1 0 9)) 0))
else
if x1 = (1 : Int32) then
(some (M.1 (ld (M.1 0 9) + 5) 0))
else
if x1 = (2 : Int32) then
(some (M.1 (ld (M.1 0 9) + 2) 0))
else
if x1 = (3 : Int32) then
(some (M.1 (ld (M.1 0 9) + 2) 1))
else
if x1 = (4 : Int32) then
(some (M.1 (ld (M.1 0 9) + 2) 2))
else
if x1 = (5 : Int32) then
(some (M.1 (ld (M.1 0 9)) 1))
else
(some (-1 : Int32))
def f_X11_isHour (x0 : Int32) : Option Int32 :=
bd (f_X11_isAmong x0 (0 : Int32) (11 : Int32)) fun p2 =>
ck (isB p2) <|
some p2
def f_X11_hour (M : Mm) (x1 : Int32) (x2 : Int32) : Option Int32 :=
bd (f_X11_isHour x1) fun p2 =>
if p2 = 0 then
(some (-1 : Int32))
else
(if x2 = (0 : Int32) then
(ck (inn x1 12) <|
some (M.1 ((ld (M.1 0 9) + 5) + 5) x1.toNatClampNeg))
else
if x2 = (1 : Int32) then
(ck (inn x1 12) <|
some (M.1 (ld (M.1 0 9) + 1) x1.toNatClampNeg))
else
(some (-1 : Int32)))
def f_X11_isFurlong (M : Mm) (x1 : Int32) : Option Int32 :=
bd (f_X11_isAmong x1 (0 : Int32) ((M.1 (ld (M.1 0 9)) 0) - (1 : Int32))) fun p2 =>
ck (isB p2) <|
some p2
def f_X11_furlong (M : Mm) (x1 : Int32) (x2 : Int32) : Option Int32 :=
bd (f_X11_isFurlong M x1) fun p2 =>
if p2 = 0 then
(some (-1 : Int32))
else
(nm ((ld (M.1 0 9) + 5)) fun b4 =>
if x2 = (0 : Int32) then
(ck (inn x1 10) <|
some (M.1 (b4 + 2) x1.toNatClampNeg))
else
if x2 = (1 : Int32) then
(ck (inn x1 10) <|
some (M.1 (b4 + 3) x1.toNatClampNeg))
else
if x2 = (2 : Int32) then
(ck (inn x1 10) <|
some ((M.1 (b4 + 4) x1.toNatClampNeg) + (100 : Int32)))
else
if x2 = (3 : Int32) then
(bd (f_X4_counting M (ld (M.1 0 9)) b4 x1) fun p15 =>
some p15)
else
(some (-1 : Int32)))
def f_X11_isSide (x0 : Int32) : Option Int32 :=
bd (f_X11_isAmong x0 (0 : Int32) (1 : Int32)) fun p2 =>
ck (isB p2) <|
some p2
def f_X11_man_24 (M : Mm) : Option Int32 :=
some (-1 : Int32)
def f_X11_man_131 (M : Mm) (s_0 : Int32) : Option Int32 :=
some s_0
def f_X11_man (M : Mm) (x1 : Int32) (x2 : Int32) (x3 : Int32) : Option Int32 :=
bd (f_X11_isSide x1) fun p2 =>
if p2 = 0 then
(f_X11_man_24 M)
else
(bd (f_X11_isFurlong M x2) fun p5 =>
if p5 = 0 then
(f_X11_man_24 M)
else
(bd (f_X11_isAmong x3 (0 : Int32) (5 : Int32)) fun p8 =>
if p8 = 0 then
(f_X11_man_24 M)
else
(bd (f_X7_manOf M (ld (M.1 0 9) + 5) x1 x2) fun p11 =>
if (M.1 p11 0) = 0 then
(some (-4 : Int32))
else
(if x3 = (0 : Int32) then
(some (M.1 p11 1))
else
if x3 = (1 : Int32) then
(some (M.1 p11 2))
else
if x3 = (2 : Int32) then
(some (M.1 p11 3))
else
if x3 = (3 : Int32) then
(some (M.1 p11 4))
else
if x3 = (4 : Int32) then
(some (M.1 p11 5))
else
(if (M.1 p11 6) = 0 then
(f_X11_man_131 M (0 : Int32))
else
(f_X11_man_131 M (1 : Int32)))))))
def f_X11_isBrazier (M : Mm) (x1 : Int32) : Option Int32 :=
bd (f_X11_isAmong x1 (0 : Int32) ((M.1 ((ld (M.1 0 9) + 5) + 6) 0) - (1 : Int32))) fun p2 =>
ck (isB p2) <|
some p2
def f_X11_brazier (M : Mm) (x1 : Int32) (x2 : Int32) : Option Int32 :=
nm (((ld (M.1 0 9) + 5) + 6)) fun b1 =>
bd (f_X11_isBrazier M x1) fun p5 =>
if p5 = 0 then
(some (-1 : Int32))
else
(if x2 = (0 : Int32) then
(ck (inn x1 6) <|
some (M.1 (b1 + 1) x1.toNatClampNeg))
else
if x2 = (1 : Int32) then
(ck (inn x1 6) <|
some (M.1 (b1 + 2) x1.toNatClampNeg))
else
if x2 = (2 : Int32) then
(ck (inn x1 6) <|
some (M.1 (b1 + 3) x1.toNatClampNeg))
else
if x2 = (3 : Int32) then
(ck (inn x1 6) <|
some (M.1 (b1 + 4) x1.toNatClampNeg))
else
(some (-1 : Int32)))
def f_X11_house (M : Mm) (x1 : Int32) (x2 : Int32) : Option Int32 :=
bd (f_X11_isAmong x1 (0 : Int32) ((M.1 (ld (M.1 0 9)) 4) - (1 : Int32))) fun p2 =>
if p2 = 0 then
(some (-1 : Int32))
else
(if x2 = (0 : Int32) then
(ck (inn x1 8) <|
some (M.1 (ld (M.1 0 9) + 3) x1.toNatClampNeg))
else
if x2 = (1 : Int32) then
(ck (inn x1 8) <|
some ((M.1 (ld (M.1 0 9) + 4) x1.toNatClampNeg) + (100 : Int32)))
else
if x2 = (2 : Int32) then
(bd (f_X4_ownerOf M (ld (M.1 0 9)) x1 (ld (M.1 0 9) + 5)) fun p10 =>
some p10)
else
(some (-1 : Int32)))
def f_X11_shine_17 (M : Mm) : Option (Int32 × Mm) :=
some ((-1 : Int32), M)
def f_X11_shine (M : Mm) (x1 : Int32) (x2 : Int32) : Option (Int32 × Mm) :=
bd (f_X11_isHour x1) fun p2 =>
if p2 = 0 then
(f_X11_shine_17 M)
else
(bd (f_X11_isAmong x2 (0 : Int32) (9 : Int32)) fun p5 =>
if p5 = 0 then
(f_X11_shine_17 M)
else
(ck (inn x1 12) <|
nm ((M.1 ((ld (M.1 0 9) + 5) + 5) x1.toNatClampNeg)) fun v8 =>
wr (wI M ((ld (M.1 0 9) + 5) + 5) x1.toNatClampNeg x2) fun M10 =>
some (v8, M10)))
def f_X11_treaty (M : Mm) (x1 : Int32) (x2 : Int32) : Option (Int32 × Mm) :=
bd (f_X5_change M (ld (M.1 0 9) + 2) x1 x2) fun p2 =>
some (p2.1, p2.2)
def f_X11_chance (M : Mm) (x1 : Int32) : Option (Int32 × Mm) :=
bd (f_X11_isAmong x1 (0 : Int32) (10 : Int32)) fun p2 =>
if p2 = 0 then
(some ((-1 : Int32), M))
else
(nm ((M.1 (ld (M.1 0 9)) 1)) fun v4 =>
wr (wI M (ld (M.1 0 9)) 1 x1) fun M6 =>
some (v4, M6))
def f_X11_light_18 (M : Mm) : Option (Int32 × Mm) :=
some ((-1 : Int32), M)
def f_X11_light_41 (M : Mm) : Option (Int32 × Mm) :=
some ((-1 : Int32), M)
def f_X11_light (M : Mm) (x1 : Int32) (x2 : Int32) (x3 : Int32) (x4 : Int32) : Option (Int32 × Mm) :=
bd (f_X11_isFurlong M x1) fun p2 =>
if p2 = 0 then
(f_X11_light_18 M)
else
(bd (f_X11_isAmong x2 (1 : Int32) (20 : Int32)) fun p5 =>
if p5 = 0 then
(f_X11_light_18 M)
else
(bd (f_X11_isHour x3) fun p8 =>
if p8 = 0 then
(f_X11_light_41 M)
else
(bd (f_X11_isHour x4) fun p11 =>
if p11 = 0 then
(f_X11_light_41 M)
else
(if x3 ≤ x4 then
(nm (((ld (M.1 0 9) + 5) + 6)) fun b14 =>
bd (f_X0_isFull M b14) fun p18 =>
if p18 = 0 then
(bd (f_X0_put M b14 x1 x2 x3 x4) fun p21 =>
some ((p21.1 b14 0), p21))
else
(some ((-3 : Int32), M)))
else
(f_X11_light_41 M)))))
def f_X11_quench (M : Mm) (x1 : Int32) : Option (Int32 × Mm) :=
bd (f_X11_isBrazier M x1) fun p2 =>
if p2 = 0 then
(some ((-1 : Int32), M))
else
(bd (f_X0_takeAway M ((ld (M.1 0 9) + 5) + 6) x1) fun p5 =>
some ((p5.1 ((ld (p5.1 0 9) + 5) + 6) 0), p5))
def f_X11_mend_25 (M : Mm) : Option (Int32 × Mm) :=
some ((-1 : Int32), M)
def f_X11_mend (M : Mm) (x1 : Int32) (x2 : Int32) (x3 : Int32) : Option (Int32 × Mm) :=
bd (f_X11_isSide x1) fun p2 =>
if p2 = 0 then
(f_X11_mend_25 M)
else
(bd (f_X11_isFurlong M x2) fun p5 =>
if p5 = 0 then
(f_X11_mend_25 M)
else
(bd (f_X11_isAmong x3 (0 : Int32) (99 : Int32)) fun p8 =>
if p8 = 0 then
(f_X11_mend_25 M)
else
(nm ((ld (M.1 0 9) + 5)) fun b10 =>
bd (f_X7_manOf M b10 x1 x2) fun p14 =>
if (M.1 p14 0) = 0 then
(some ((-4 : Int32), M))
else
(ck (inn x2 10) <|
if x3 ≤ (M.1 (b10 + 2) x2.toNatClampNeg) then
(if ((M.1 p14 4) + x3) ≤ (99 : Int32) then
(wr (wI M (b10 + 2) x2.toNatClampNeg ((M.1 (b10 + 2) x2.toNatClampNeg) - x3)) fun M19 =>
wr (wI M19 p14 4 ((M19.1 p14 4) + x3)) fun M21 =>
some ((M21.1 p14 4), M21))
else
(some ((-3 : Int32), M)))
else
(some ((-2 : Int32), M))))))
def f_X11_carry_30 (M : Mm) : Option (Int32 × Mm) :=
some ((-1 : Int32), M)
def f_X11_carry (M : Mm) (x1 : Int32) (x2 : Int32) (x3 : Int32) : Option (Int32 × Mm) :=
bd (f_X11_isFurlong M x1) fun p2 =>
if p2 = 0 then
(f_X11_carry_30 M)
else
(bd (f_X11_isFurlong M x2) fun p5 =>
if p5 = 0 then
(f_X11_carry_30 M)
else
(if (iAbs (x1 - x2)) = (1 : Int32) then
(if 0 ≤ x3 then
(nm (((ld (M.1 0 9) + 5) + 2)) fun b9 =>
ck (inn x1 10) <|
if x3 ≤ (M.1 b9 x1.toNatClampNeg) then
(wr (wI M b9 x1.toNatClampNeg ((M.1 b9 x1.toNatClampNeg) - x3)) fun M14 =>
ck (inn x2 10) <|
wr (wI M14 b9 x2.toNatClampNeg ((M14.1 b9 x2.toNatClampNeg) + x3)) fun M17 =>
some ((M17.1 b9 x2.toNatClampNeg), M17))
else
(some ((-2 : Int32), M)))
else
(f_X11_carry_30 M))
else
(f_X11_carry_30 M)))
def f_X11_heat_15 (M : Mm) : Option Int32 :=
some (-1 : Int32)
def f_X11_heat_51 (M : Mm) (s_0 : Int32) : Option Int32 :=
some s_0
def f_X11_heat (M : Mm) (x1 : Int32) (x2 : Int32) (x3 : Int32) : Option Int32 :=
bd (f_X11_isFurlong M x1) fun p2 =>
if p2 = 0 then
(f_X11_heat_15 M)
else
(bd (f_X11_isHour x2) fun p5 =>
if p5 = 0 then
(f_X11_heat_15 M)
else
(if x3 = 0 then
(bd (f_X0_warmthOn M ((ld (M.1 0 9) + 5) + 6) x1 x2) fun p9 =>
f_X11_heat_51 M p9)
else
(bd (f_X7_heatOn M (ld (M.1 0 9) + 5) x1 x2) fun p11 =>
f_X11_heat_51 M p11)))
def f_X11_go (M : Mm) (x1 : Int32) : Option (Int32 × Mm) :=
bd (f_X11_isAmong x1 (1 : Int32) (12 : Int32)) fun p2 =>
if p2 = 0 then
(some ((-1 : Int32), M))
else
(nm (((M.1 (ld (M.1 0 9) + 5) 0) + x1)) fun v4 =>
if v4 ≤ (12 : Int32) then
(bd (f_X4_passTill M (ld (M.1 0 9)) (ld (M.1 0 9) + 5) v4) fun p8 =>
some ((p8.1 (ld (p8.1 0 9) + 5) 0), p8))
else
(some ((-2 : Int32), M)))
def f_X11_dawn (M : Mm) : Option (Int32 × Mm) :=
nm ((M.1 (ld (M.1 0 9) + 5) 0)) fun v1 =>
wr (wI M (ld (M.1 0 9) + 5) 0 (0 : Int32)) fun M3 =>
some (v1, M3)
def f_X11_all (M : Mm) : Option Int32 :=
bd (f_X7_snowInAll M (ld (M.1 0 9) + 5)) fun p2 =>
some p2
def f_X11_isFromNow (M : Mm) (x1 : Int32) : Option Int32 :=
bd (f_X11_isAmong x1 (M.1 (ld (M.1 0 9) + 5) 0) (12 : Int32)) fun p2 =>
ck (isB p2) <|
some p2
def f_X11_lookAhead (M : Mm) (x1 : Int32) : Option Mm :=
bd (f_X7_become M 3 (ld (M.1 0 9) + 5)) fun p2 =>
bd (f_X4_passTill p2 (ld (p2.1 0 9)) 3 x1) fun p4 =>
some p4
def f_X11_later_23 (M : Mm) : Option (Int32 × Mm) :=
some ((-1 : Int32), M)
def f_X11_later_59 (M : Mm) (s_0 : Int32) : Option (Int32 × Mm) :=
some (s_0, M)
def f_X11_later (M : Mm) (x1 : Int32) (x2 : Int32) (x3 : Int32) : Option (Int32 × Mm) :=
bd (f_X11_isSide x1) fun p2 =>
if p2 = 0 then
(f_X11_later_23 M)
else
(bd (f_X11_isFurlong M x2) fun p5 =>
if p5 = 0 then
(f_X11_later_23 M)
else
(bd (f_X11_isFromNow M x3) fun p8 =>
if p8 = 0 then
(f_X11_later_23 M)
else
(bd (f_X11_lookAhead M x3) fun p11 =>
bd (f_X7_manOf p11 3 x1 x2) fun p13 =>
if (p11.1 p13 0) = 0 then
(f_X11_later_59 p11 (-4 : Int32))
else
(f_X11_later_59 p11 (p11.1 p13 4)))))
def f_X11_line_16 (M : Mm) : Option (Int32 × Mm) :=
some ((-1 : Int32), M)
def f_X11_line (M : Mm) (x1 : Int32) (x2 : Int32) : Option (Int32 × Mm) :=
bd (f_X11_isFurlong M x1) fun p2 =>
if p2 = 0 then
(f_X11_line_16 M)
else
(bd (f_X11_isFromNow M x2) fun p5 =>
if p5 = 0 then
(f_X11_line_16 M)
else
(bd (f_X11_lookAhead M x2) fun p8 =>
ck (inn x1 10) <|
some (((p8.1 7 x1.toNatClampNeg) + (100 : Int32)), p8)))
def f_X11_houses_15 (M : Mm) : Option (Int32 × Mm) :=
some ((-1 : Int32), M)
def f_X11_houses_63 (k27 : Int32 → Int32 → Option (Int32 × Mm)) (M : Mm) (x1 : Int32) (x3 : Int32) (x4 : Int32) : Option (Int32 × Mm) :=
k27 x3 (x4 + (1 : Int32))
def b_X11_houses_27 (k27 : Int32 → Int32 → Option (Int32 × Mm)) (M : Mm) (x1 : Int32) (x3 : Int32) (x4 : Int32) : Option (Int32 × Mm) :=
if (M.1 (ld (M.1 0 9)) 4) ≤ x4 then
(some (x3, M))
else
(bd (f_X4_ownerOf M (ld (M.1 0 9)) x4 3) fun p3 =>
if p3 = x1 then
(nm ((x3 ||| ((1 : Int32) <<< (x4 &&& 31)))) fun v5 =>
f_X11_houses_63 k27 M x1 v5 x4)
else
(f_X11_houses_63 k27 M x1 x3 x4))
def f_X11_houses_27 (M : Mm) (x1 : Int32) : Nat → Int32 → Int32 → Option (Int32 × Mm)
  | 0, _, _ => none
  | n + 1, x3, x4 => b_X11_houses_27 (fun x3 x4 => f_X11_houses_27 M x1 n x3 x4) M x1 x3 x4
def f_X11_houses (M : Mm) (x1 : Int32) (x2 : Int32) : Option (Int32 × Mm) :=
bd (f_X11_isSide x1) fun p2 =>
if p2 = 0 then
(f_X11_houses_15 M)
else
(bd (f_X11_isFromNow M x2) fun p5 =>
if p5 = 0 then
(f_X11_houses_15 M)
else
(bd (f_X11_lookAhead M x2) fun p8 =>
f_X11_houses_27 p8 x1 FU (0 : Int32) (0 : Int32)))
def f_X11_holds_15 (M : Mm) : Option Int32 :=
some (-1 : Int32)
def f_X11_holds (M : Mm) (x1 : Int32) (x2 : Int32) : Option Int32 :=
bd (f_X11_isSide x1) fun p2 =>
if p2 = 0 then
(f_X11_holds_15 M)
else
(bd (f_X11_isFromNow M x2) fun p5 =>
if p5 = 0 then
(f_X11_holds_15 M)
else
(bd (f_X4_holders M (ld (M.1 0 9)) x1 x2) fun p8 =>
some p8))
def f_X11_need_23 (M : Mm) : Option Int32 :=
some (-1 : Int32)
def f_X11_need (M : Mm) (x1 : Int32) (x2 : Int32) (x3 : Int32) : Option Int32 :=
bd (f_X11_isSide x1) fun p2 =>
if p2 = 0 then
(f_X11_need_23 M)
else
(bd (f_X11_isFurlong M x2) fun p5 =>
if p5 = 0 then
(f_X11_need_23 M)
else
(bd (f_X11_isFromNow M x3) fun p8 =>
if p8 = 0 then
(f_X11_need_23 M)
else
(bd (f_X4_needOf M (ld (M.1 0 9)) x1 x2 x3) fun p11 =>
some p11)))
def f_X11_crews_35 (M : Mm) : Option (Int32 × Mm) :=
some ((-1 : Int32), M)
def f_X11_crews (M : Mm) (x1 : Int32) (x2 : Int32) (x3 : Int32) (x4 : Int32) : Option (Int32 × Mm) :=
bd (f_X11_isSide x1) fun p2 =>
if p2 = 0 then
(f_X11_crews_35 M)
else
(bd (f_X11_isFromNow M x2) fun p5 =>
if p5 = 0 then
(f_X11_crews_35 M)
else
(bd (f_X11_isAmong x3 (0 : Int32) (10 : Int32)) fun p8 =>
if p8 = 0 then
(f_X11_crews_35 M)
else
(bd (f_X11_isAmong x4 (0 : Int32) (2 : Int32)) fun p11 =>
if p11 = 0 then
(f_X11_crews_35 M)
else
(bd (f_X1_send M (ld (M.1 0 9)) x1 x2 x3) fun p14 =>
if x4 = (0 : Int32) then
(some ((p14.1 130 0), p14))
else
if x4 = (1 : Int32) then
(some ((p14.1 130 1), p14))
else
(some ((p14.1 130 2), p14))))))
def f_X11_lowestBit_22 (x1 : Int32) : Option Int32 :=
some x1
def b_X11_lowestBit_2 (k2 : Int32 → Option Int32) (x0 : Int32) (x1 : Int32) : Option Int32 :=
if (31 : Int32) ≤ x1 then
(f_X11_lowestBit_22 x1)
else
(if ((x0 >>> (x1 &&& 31)) &&& (1 : Int32)) = 0 then
(k2 (x1 + (1 : Int32)))
else
(f_X11_lowestBit_22 x1))
def f_X11_lowestBit_2 (x0 : Int32) : Nat → Int32 → Option Int32
  | 0, _ => none
  | n + 1, x1 => b_X11_lowestBit_2 (fun x1 => f_X11_lowestBit_2 x0 n x1) x0 x1
def f_X11_lowestBit (x0 : Int32) : Option Int32 :=
f_X11_lowestBit_2 x0 FU (0 : Int32)
def f_X11_gap_16 (M : Mm) : Option Int32 :=
some (-1 : Int32)
def f_X11_gap_88 (M : Mm) (s_0 : Int32) : Option Int32 :=
some s_0
def f_X11_gap_74 (M : Mm) (x2 : Int32) (x5 : Int32) (x6 : Int32) : Option Int32 :=
if x2 = 0 then
(f_X11_gap_88 M x5)
else
(bd (f_X11_lowestBit x6) fun p3 =>
f_X11_gap_88 M p3)
def b_X11_gap_45 (k45 : Int32 → Option Int32) (M : Mm) (x1 : Int32) (x2 : Int32) (x4 : Int32) (x5 : Int32) : Option Int32 :=
if (12 : Int32) < x5 then
(some (-4 : Int32))
else
(bd (f_X4_holders M (ld (M.1 0 9)) x1 x5) fun p3 =>
nm ((x4 &&& (p3 ^^^ (-1 : Int32)))) fun v4 =>
if v4 = 0 then
(k45 (x5 + (1 : Int32)))
else
(f_X11_gap_74 M x2 x5 v4))
def f_X11_gap_45 (M : Mm) (x1 : Int32) (x2 : Int32) (x4 : Int32) : Nat → Int32 → Option Int32
  | 0, _ => none
  | n + 1, x5 => b_X11_gap_45 (fun x5 => f_X11_gap_45 M x1 x2 x4 n x5) M x1 x2 x4 x5
def f_X11_gap (M : Mm) (x1 : Int32) (x2 : Int32) : Option Int32 :=
bd (f_X11_isSide x1) fun p2 =>
if p2 = 0 then
(f_X11_gap_16 M)
else
(bd (f_X11_isAmong x2 (0 : Int32) (1 : Int32)) fun p5 =>
if p5 = 0 then
(f_X11_gap_16 M)
else
(nm ((M.1 (ld (M.1 0 9) + 5) 0)) fun v7 =>
bd (f_X4_holders M (ld (M.1 0 9)) x1 v7) fun p10 =>
nm ((v7 + (1 : Int32))) fun v11 =>
f_X11_gap_45 M x1 x2 p10 FU v11))
def f_X11_lead_18 (M : Mm) : Option (Int32 × Mm) :=
some ((-1 : Int32), M)
def f_X11_lead (M : Mm) (x1 : Int32) (x2 : Int32) (x3 : Int32) : Option (Int32 × Mm) :=
bd (f_X11_isFurlong M x1) fun p2 =>
if p2 = 0 then
(f_X11_lead_18 M)
else
(bd (f_X11_isAmong x2 (1 : Int32) (99 : Int32)) fun p5 =>
if p5 = 0 then
(f_X11_lead_18 M)
else
(nm ((M.1 (ld (M.1 0 9) + 5) 0)) fun v7 =>
if x3 = 0 then
(if v7 = (12 : Int32) then
(some ((-2 : Int32), M))
else
(bd (f_X10_weigh M (ld (M.1 0 9))) fun p19 =>
bd (f_X10_lastOf p19 x1 x2) fun p21 =>
some (p21, p19)))
else
(bd (f_X11_isAmong x3 (10 : Int32) ((21 : Int32) - v7)) fun p11 =>
if p11 = 0 then
(some ((-1 : Int32), M))
else
(bd (f_X10_weigh M (ld (M.1 0 9))) fun p14 =>
bd (f_X10_placeOn p14 x1 x2 (x3 - (10 : Int32))) fun p16 =>
some (p16, p14)))))
def f_X11_felt (M : Mm) (x1 : Int32) : Option (Int32 × Mm) :=
bd (f_X11_isAmong x1 (0 : Int32) (99 : Int32)) fun p2 =>
if p2 = 0 then
(some ((-1 : Int32), M))
else
(if (M.1 98 0) < (M.1 (ld (M.1 0 9)) 0) then
(bd (f_X2_put M x1) fun p6 =>
some ((p6.1 98 0), p6))
else
(some ((-3 : Int32), M)))
def f_X11_forget (M : Mm) : Option (Int32 × Mm) :=
nm ((M.1 98 0)) fun v1 =>
wr (wI M 98 0 (0 : Int32)) fun M3 =>
some (v1, M3)
def f_X11_spy_85 (M : Mm) (s_0 : Int32) : Option (Int32 × Mm) :=
some (s_0, M)
def f_X11_spy (M : Mm) (x1 : Int32) : Option (Int32 × Mm) :=
bd (f_X11_isAmong x1 (0 : Int32) (2 : Int32)) fun p2 =>
if p2 = 0 then
(some ((-1 : Int32), M))
else
(if (M.1 98 0) = 0 then
(some ((-2 : Int32), M))
else
(bd (f_X2_seekOne M (M.1 (ld (M.1 0 9)) 0)) fun p6 =>
if x1 = 0 then
(some ((p6.1 98 1), p6))
else
(if (p6.1 98 1) = 0 then
(some ((-4 : Int32), p6))
else
(if x1 = (1 : Int32) then
(f_X11_spy_85 p6 (p6.1 98 2))
else
(f_X11_spy_85 p6 (p6.1 98 4))))))
def f_X11_spies (M : Mm) (x1 : Int32) : Option (Int32 × Mm) :=
bd (f_X11_isAmong x1 (0 : Int32) (2 : Int32)) fun p2 =>
if p2 = 0 then
(some ((-1 : Int32), M))
else
(if (M.1 98 0) = 0 then
(some ((-2 : Int32), M))
else
(bd (f_X2_seekTwo M (M.1 (ld (M.1 0 9)) 0)) fun p6 =>
if x1 = 0 then
(some ((p6.1 98 1), p6))
else
(if (p6.1 98 1) = 0 then
(some ((-4 : Int32), p6))
else
(if x1 = (1 : Int32) then
(some ((((10 : Int32) * (p6.1 98 2)) + (p6.1 98 3)), p6))
else
(some ((((100 : Int32) * (p6.1 98 4)) + (p6.1 98 5)), p6))))))
def f_X11_odds_33 (M : Mm) : Option (Int64 × Mm) :=
some ((-1 : Int64), M)
def f_X11_odds_95 (M : Mm) (t_0 : Int64) : Option (Int64 × Mm) :=
some (t_0, M)
def f_X11_odds (M : Mm) (x1 : Int32) (x2 : Int32) (x3 : Int32) (x4 : Int32) : Option (Int64 × Mm) :=
bd (f_X11_isSide x1) fun p2 =>
if p2 = 0 then
(f_X11_odds_33 M)
else
(bd (f_X11_isFurlong M x2) fun p5 =>
if p5 = 0 then
(f_X11_odds_33 M)
else
(bd (f_X11_isFromNow M x3) fun p8 =>
if p8 = 0 then
(f_X11_odds_33 M)
else
(bd (f_X11_isAmong x4 (0 : Int32) (1 : Int32)) fun p11 =>
if p11 = 0 then
(f_X11_odds_33 M)
else
(bd (f_X7_manOf M (ld (M.1 0 9) + 5) x1 x2) fun p14 =>
if (M.1 p14 0) = 0 then
(some ((-4 : Int64), M))
else
(bd (f_X3_weigh M (ld (M.1 0 9)) x1 x2 x3) fun p17 =>
if x4 = 0 then
(f_X11_odds_95 p17 (p17.2 128 0))
else
(f_X11_odds_95 p17 (p17.2 128 1)))))))
def f_X11_talks_51 (M : Mm) (s_0 : Int32) : Option Int32 :=
some s_0
def f_X11_talks_42 (M : Mm) (x1 : Int32) (x2 : Int32) (x3 : Int32) : Option Int32 :=
if x1 = 0 then
(f_X11_talks_51 M x2)
else
(f_X11_talks_51 M x3)
def b_X11_talks_13 (k13 : Int32 → Option Int32) (M : Mm) (x1 : Int32) (x2 : Int32) : Option Int32 :=
if (99 : Int32) < x2 then
(some (-4 : Int32))
else
(bd (f_X4_strengthBy M (ld (M.1 0 9)) (0 : Int32) x2) fun p3 =>
bd (f_X4_strengthBy M (ld (M.1 0 9)) (1 : Int32) x2) fun p5 =>
if p3 = p5 then
(f_X11_talks_42 M x1 x2 p3)
else
(k13 (x2 + (1 : Int32))))
def f_X11_talks_13 (M : Mm) (x1 : Int32) : Nat → Int32 → Option Int32
  | 0, _ => none
  | n + 1, x2 => b_X11_talks_13 (fun x2 => f_X11_talks_13 M x1 n x2) M x1 x2
def f_X11_talks (M : Mm) (x1 : Int32) : Option Int32 :=
bd (f_X11_isAmong x1 (0 : Int32) (1 : Int32)) fun p2 =>
if p2 = 0 then
(some (-1 : Int32))
else
(f_X11_talks_13 M x1 FU (1 : Int32))
def f_X11_strength (M : Mm) (x1 : Int32) : Option Int32 :=
bd (f_X11_isSide x1) fun p2 =>
if p2 = 0 then
(some (-1 : Int32))
else
(bd (f_X4_strengthBy M (ld (M.1 0 9)) x1 (M.1 (ld (M.1 0 9) + 2) 0)) fun p5 =>
some p5)
def f_X11_keep_25 (M : Mm) (x1 : Int32) (s_0 : Int32) : Option (Int32 × Mm) :=
ck (inn x1 2) <|
bd (f_X7_become M (34 + 2 + 31 * x1.toNatClampNeg) (ld (M.1 0 9) + 5)) fun p3 =>
wr (wI p3 35 x1.toNatClampNeg (vp_nar .boolean (1 : Int32))) fun M4 =>
some (s_0, M4)
def f_X11_keep (M : Mm) (x1 : Int32) : Option (Int32 × Mm) :=
bd (f_X11_isAmong x1 (0 : Int32) (1 : Int32)) fun p2 =>
if p2 = 0 then
(some ((-1 : Int32), M))
else
(ck (inn x1 2) <|
if (M.1 35 x1.toNatClampNeg) = 0 then
(f_X11_keep_25 M x1 (0 : Int32))
else
(f_X11_keep_25 M x1 (1 : Int32)))
def f_X11_back (M : Mm) (x1 : Int32) : Option (Int32 × Mm) :=
bd (f_X11_isAmong x1 (0 : Int32) (1 : Int32)) fun p2 =>
if p2 = 0 then
(some ((-1 : Int32), M))
else
(ck (inn x1 2) <|
if (M.1 35 x1.toNatClampNeg) = 0 then
(some ((-2 : Int32), M))
else
(bd (f_X7_become M (ld (M.1 0 9) + 5) (34 + 2 + 31 * x1.toNatClampNeg)) fun p7 =>
some ((p7.1 (ld (p7.1 0 9) + 5) 0), p7)))
def f_X11_isSheet (x0 : Int32) : Option Int32 :=
bd (f_X11_isAmong x0 (0 : Int32) (3 : Int32)) fun p2 =>
ck (isB p2) <|
some p2
def f_X11_sheet_22 (M : Mm) : Option (Int32 × Mm) :=
some ((-1 : Int32), M)
def f_X11_sheet (M : Mm) (x1 : Int32) (x2 : Int32) (x3 : Int32) : Option (Int32 × Mm) :=
bd (f_X11_isSheet x1) fun p2 =>
if p2 = 0 then
(f_X11_sheet_22 M)
else
(bd (f_X11_isAmong x2 (0 : Int32) (2 : Int32)) fun p5 =>
if p5 = 0 then
(f_X11_sheet_22 M)
else
(if x3 ≤ (40 : Int32) then
(if 0 ≤ x3 then
(ck (inn x1 4) <|
bd (f_X8_renew M (132 + 1 + 2 * x1.toNatClampNeg) x2 x3) fun p11 =>
some ((1 : Int32), p11))
else
(some ((-14 : Int32), M)))
else
(f_X11_sheet_22 M)))
def f_X11_lay (M : Mm) (x1 : Int32) (x2 : Int32) (x3 : Int32) : Option (Int32 × Mm) :=
bd (f_X11_isSheet x1) fun p2 =>
if p2 = 0 then
(some ((-1 : Int32), M))
else
(ck (inn x1 4) <|
nm ((132 + 1 + 2 * x1.toNatClampNeg)) fun b5 =>
if (M.1 b5 0) = 0 then
(some ((-11 : Int32), M))
else
(bd (f_X11_isAmong x2 (0 : Int32) ((M.1 b5 1) - (1 : Int32))) fun p10 =>
if p10 = 0 then
(some ((-12 : Int32), M))
else
(bd (f_X8_put M b5 x2 x3) fun p13 =>
some ((1 : Int32), p13))))
def f_X11_read_27 (M : Mm) : Option (Int32 × Mm) :=
some ((-1 : Int32), M)
def f_X11_read_146 (M : Mm) (x6 : Int32) (s_1 : Int32) : Option (Int32 × Mm) :=
wr (wI M 0 11 s_1) fun M1 =>
some (x6, M1)
def f_X11_read_128 (M : Mm) (x2 : Int32) (x4 : Int32) (a5 : Nat) (x6 : Int32) : Option (Int32 × Mm) :=
if x4 ≤ x6 then
(f_X11_read_146 M x6 (0 : Int32))
else
(bd (f_X8_faultFor M a5 x2) fun p3 =>
f_X11_read_146 M x6 p3)
def b_X11_read_92 (k92 : Mm → Int32 → Option (Int32 × Mm)) (x2 : Int32) (x3 : Int32) (x4 : Int32) (a5 : Nat) (x6 : Int32) (M : Mm) (x7 : Int32) : Option (Int32 × Mm) :=
if x6 ≤ x7 then
(f_X11_read_128 M x2 x4 a5 x6)
else
(ck (inn (x3 + x7) 40) <|
ck (inn x7 12) <|
wr (wI M ((ld (M.1 0 9) + 5) + 5) x7.toNatClampNeg (M.1 (a5 + 1) (x3 + x7).toNatClampNeg)) fun M3 =>
k92 M3 (x7 + (1 : Int32)))
def f_X11_read_92 (x2 : Int32) (x3 : Int32) (x4 : Int32) (a5 : Nat) (x6 : Int32) : Nat → Mm → Int32 → Option (Int32 × Mm)
  | 0, _, _ => none
  | n + 1, M, x7 => b_X11_read_92 (fun M x7 => f_X11_read_92 x2 x3 x4 a5 x6 n M x7) x2 x3 x4 a5 x6 M x7
def f_X11_read_89 (M : Mm) (x2 : Int32) (x3 : Int32) (x4 : Int32) (a5 : Nat) (x6 : Int32) : Option (Int32 × Mm) :=
f_X11_read_92 x2 x3 x4 a5 x6 FU M (0 : Int32)
def b_X11_read_51 (k51 : Int32 → Option (Int32 × Mm)) (M : Mm) (x2 : Int32) (x3 : Int32) (x4 : Int32) (a5 : Nat) (x6 : Int32) (x7 : Int32) : Option (Int32 × Mm) :=
if x6 ≤ x7 then
(f_X11_read_89 M x2 x3 x4 a5 x6)
else
(ck (inn (x3 + x7) 40) <|
bd (f_X11_isAmong (M.1 (a5 + 1) (x3 + x7).toNatClampNeg) (0 : Int32) (9 : Int32)) fun p4 =>
if p4 = 0 then
(some (((-20 : Int32) - x7), M))
else
(k51 (x7 + (1 : Int32))))
def f_X11_read_51 (M : Mm) (x2 : Int32) (x3 : Int32) (x4 : Int32) (a5 : Nat) (x6 : Int32) : Nat → Int32 → Option (Int32 × Mm)
  | 0, _ => none
  | n + 1, x7 => b_X11_read_51 (fun x7 => f_X11_read_51 M x2 x3 x4 a5 x6 n x7) M x2 x3 x4 a5 x6 x7
def f_X11_read (M : Mm) (x1 : Int32) (x2 : Int32) (x3 : Int32) (x4 : Int32) : Option (Int32 × Mm) :=
bd (f_X11_isSheet x1) fun p2 =>
if p2 = 0 then
(f_X11_read_27 M)
else
(bd (f_X11_isAmong x2 (0 : Int32) (2 : Int32)) fun p5 =>
if p5 = 0 then
(f_X11_read_27 M)
else
(bd (f_X11_isAmong x4 (0 : Int32) (12 : Int32)) fun p8 =>
if p8 = 0 then
(f_X11_read_27 M)
else
(ck (inn x1 4) <|
nm ((132 + 1 + 2 * x1.toNatClampNeg)) fun b11 =>
bd (f_X8_readable M b11 x2 x3 x4) fun p15 =>
f_X11_read_51 M x2 x3 x4 b11 p15 FU (0 : Int32))))
def f_X11_torn (M : Mm) : Option Int32 :=
some (M.1 0 11)
def f_X11_count_113 (M : Mm) (s_0 : Int32) (s_1 : Int32) : Option Int32 :=
some (s_0 + s_1)
def f_X11_count_99 (M : Mm) (s_0 : Int32) : Option Int32 :=
if (M.1 35 (1 : Int32).toNatClampNeg) = 0 then
(f_X11_count_113 M s_0 (0 : Int32))
else
(f_X11_count_113 M s_0 (1 : Int32))
def f_X11_count_149 (M : Mm) (s_0 : Int32) : Option Int32 :=
some s_0
def f_X11_count (M : Mm) (x1 : Int32) : Option Int32 :=
if x1 = (0 : Int32) then
(bd (f_X7_menInAll M (ld (M.1 0 9) + 5)) fun p3 =>
some p3)
else
if x1 = (1 : Int32) then
(some (M.1 ((ld (M.1 0 9) + 5) + 6) 0))
else
if x1 = (2 : Int32) then
(some (M.1 (ld (M.1 0 9)) 4))
else
if x1 = (3 : Int32) then
(some (M.1 98 0))
else
if x1 = (4 : Int32) then
(if (M.1 35 (0 : Int32).toNatClampNeg) = 0 then
(f_X11_count_99 M (0 : Int32))
else
(f_X11_count_99 M (1 : Int32)))
else
if x1 = (5 : Int32) then
(some (M.1 1 1))
else
if x1 = (6 : Int32) then
(if (M.1 (132 + 1 + 2 * (0 : Int32).toNatClampNeg) 0) = 0 then
(f_X11_count_149 M (-4 : Int32))
else
(f_X11_count_149 M (M.1 (132 + 1 + 2 * (0 : Int32).toNatClampNeg) 1)))
else
(some (-1 : Int32))
-- SnowSentries.feed(J)I
set_option maxRecDepth 4000 in
theorem k_X11_feed_0 {p : Program} {l : Launch} {e : Env} {s : State} {m : MethodId} {args : Array Value} {below : List Frame} {meth : Method} {c : Code} {G : GG} {M : Mm} {j1 : Int64} {r : Int32} {M2 : Mm} (C : CX p s m args c prog_1_method_2_code 3 "SnowSentries" 0 G) (hlk : meth.locks = false) (hr : meth.sig.returnType = (some .int)) : f_X11_feed M j1 = some (r, M2) → Z p l e { frames := 1, cells := 0, slots := 0, locals := 23 } s m args below meth c 0 G 3 (MQ below (QC 0 G (some (.int r)) M2) args s 0 0 (AU 0 G)) 0 [(0, .ref (gB G + 0)), (1, .long j1)] [] M := by
  intro h
  unfold f_X11_feed at h
  refine z_aload_n 0 C d_X11_feed_0 rfl rfl ?_
  refine z_get (k := 0) (v := .ref (gB G + 1)) C ((E_11 kx_0 G) _ _) (kU_in kx_0 (by decide)) rfl inX11 (by decide) wf_X11_10 rfl d_X11_feed_1 ?_
  refine z_lload_n 1 C d_X11_feed_4 rfl rfl ?_
  obtain ⟨p2, e1, h⟩ := o_bd h
  refine z_V (S := []) (As := [.long j1]) C (c_X9_append l G e1) ((E_9 kx_1 G) _ _) (kU_in kx_1 (by decide)) rfl wc_X9_append wm_X11_80 ws_X9_append wl_X9_append wi_X9 hy_X9_append ⟨Nat.le_of_ble_eq_true rfl, Nat.le_of_ble_eq_true rfl⟩ rfl rfl (Nat.le_of_ble_eq_true rfl) d_X11_feed_5 ?_
  obtain ⟨rfl, rfl⟩ := o_pair h
  exact z_iret C hlk hr d_X11_feed_8
theorem c_X11_feed (l : Launch) (G : GG) {M : Mm} {j1 : Int64} {r : Int32} {M2 : Mm} (h : f_X11_feed M j1 = some (r, M2)) : CT l 0 G y_X11_feed prog_1_method_2_code 3 (some .int) 1 23 [.ref (gB G + 0), .long j1] M (some (.int r)) M2 :=
  CT.of (by decide +kernel) (Nat.le_of_ble_eq_true rfl) rfl (fun p e s m args below meth c C hlk hr => k_X11_feed_0 C hlk hr h)
-- SnowSentries.end(I)I
set_option maxRecDepth 4000 in
theorem k_X11_end_0 {p : Program} {l : Launch} {e : Env} {s : State} {m : MethodId} {args : Array Value} {below : List Frame} {meth : Method} {c : Code} {G : GG} {M : Mm} {x1 : Int32} {r : Int32} {M2 : Mm} (C : CX p s m args c prog_1_method_3_code 2 "SnowSentries" 0 G) (hlk : meth.locks = false) (hr : meth.sig.returnType = (some .int)) : f_X11_end M x1 = some (r, M2) → Z p l e { frames := 2, cells := 0, slots := 0, locals := 44 } s m args below meth c 0 G 2 (MQ below (QC 0 G (some (.int r)) M2) args s 0 0 (AU 0 G)) 0 [(0, .ref (gB G + 0)), (1, .int x1)] [] M := by
  intro h
  unfold f_X11_end at h
  refine z_aload_n 0 C d_X11_end_0 rfl rfl ?_
  refine z_get (k := 0) (v := .ref (gB G + 1)) C ((E_11 kx_0 G) _ _) (kU_in kx_0 (by decide)) rfl inX11 (by decide) wf_X11_10 rfl d_X11_end_1 ?_
  refine z_iload_n 1 C d_X11_end_4 rfl rfl ?_
  obtain ⟨p2, e1, h⟩ := o_bd h
  refine z_V (S := []) (As := [.int x1]) C (c_X9_cut l G e1) ((E_9 kx_1 G) _ _) (kU_in kx_1 (by decide)) rfl wc_X9_cut wm_X11_84 ws_X9_cut wl_X9_cut wi_X9 hy_X9_cut ⟨Nat.le_of_ble_eq_true rfl, Nat.le_of_ble_eq_true rfl⟩ rfl rfl (Nat.le_of_ble_eq_true rfl) d_X11_end_5 ?_
  obtain ⟨rfl, rfl⟩ := o_pair h
  exact z_iret C hlk hr d_X11_end_8
theorem c_X11_end (l : Launch) (G : GG) {M : Mm} {x1 : Int32} {r : Int32} {M2 : Mm} (h : f_X11_end M x1 = some (r, M2)) : CT l 0 G y_X11_end prog_1_method_3_code 2 (some .int) 2 44 [.ref (gB G + 0), .int x1] M (some (.int r)) M2 :=
  CT.of (by decide +kernel) (Nat.le_of_ble_eq_true rfl) rfl (fun p e s m args below meth c C hlk hr => k_X11_end_0 C hlk hr h)
-- SnowSentries.land()I
set_option maxRecDepth 4000 in
theorem k_X11_land_0 {p : Program} {l : Launch} {e : Env} {s : State} {m : MethodId} {args : Array Value} {below : List Frame} {meth : Method} {c : Code} {G : GG} {M : Mm} {r : Int32} {M2 : Mm} (C : CX p s m args c prog_1_method_4_code 2 "SnowSentries" 0 G) (hlk : meth.locks = false) (hr : meth.sig.returnType = (some .int)) : f_X11_land M = some (r, M2) → Z p l e { frames := 10, cells := 0, slots := 0, locals := 250 } s m args below meth c 0 G 2 (MQ below (QC 0 G (some (.int r)) M2) args s 0 0 (AU 0 G)) 0 [(0, .ref (gB G + 0))] [] M := by
  intro h
  unfold f_X11_land at h
  refine z_aload_n 0 C d_X11_land_0 rfl rfl ?_
  refine z_get (k := 10) (v := .ref (gB G + (ld (M.1 0 10)))) C ((E_11 kx_0 G) _ _) (kU_in kx_0 (by decide)) rfl inX11 (by decide) wf_X11_73 rfl d_X11_land_1 ?_
  obtain ⟨p2, e1, h⟩ := o_bd h
  refine z_V (S := []) (As := []) C (c_X4_wipe l G (k_ld _) e1) ((E_4 (k_ld _) G) _ _) (kU_in (k_ld _) (by decide)) rfl wc_X4_wipe wm_X11_88 ws_X4_wipe wl_X4_wipe wi_X4 hy_X4_wipe ⟨Nat.le_of_ble_eq_true rfl, Nat.le_of_ble_eq_true rfl⟩ rfl rfl (Nat.le_of_ble_eq_true rfl) d_X11_land_4 ?_
  refine z_aload_n 0 C d_X11_land_7 rfl rfl ?_
  refine z_get (k := 0) (v := .ref (gB G + 1)) C ((E_11 kx_0 G) _ _) (kU_in kx_0 (by decide)) rfl inX11 (by decide) wf_X11_10 rfl d_X11_land_8 ?_
  refine z_aload_n 0 C d_X11_land_11 rfl rfl ?_
  refine z_get (k := 10) (v := .ref (gB G + (ld (p2.1 0 10)))) C ((E_11 kx_0 G) _ _) (kU_in kx_0 (by decide)) rfl inX11 (by decide) wf_X11_73 rfl d_X11_land_12 ?_
  obtain ⟨p4, e3, h⟩ := o_bd h
  refine z_V (S := []) (As := [.ref (gB G + (ld (p2.1 0 10)))]) C (c_X9_tell l G (k_ld _) e3) ((E_9 kx_1 G) _ _) (kU_in kx_1 (by decide)) rfl wc_X9_tell wm_X11_91 ws_X9_tell wl_X9_tell wi_X9 hy_X9_tell ⟨Nat.le_of_ble_eq_true rfl, Nat.le_of_ble_eq_true rfl⟩ rfl rfl (Nat.le_of_ble_eq_true rfl) d_X11_land_15 ?_
  refine z_aload_n 0 C d_X11_land_18 rfl rfl ?_
  refine z_get (k := 0) (v := .ref (gB G + 1)) C ((E_11 kx_0 G) _ _) (kU_in kx_0 (by decide)) rfl inX11 (by decide) wf_X11_10 rfl d_X11_land_19 ?_
  refine z_iconst (v := (0 : Int32)) C d_X11_land_22 (by decide) ?_
  obtain ⟨M5, e6, h⟩ := o_wr h
  refine z_pI (k := 1) (ty := .int) C (fun r q => (E_9 kx_1 G) r q) (fun _ _ => rfl) (kU_in kx_1 (by decide)) rfl inX9 tyX9 tyX9_ok nmX9 (by decide) wf_X11_95 rfl (by decide +kernel) rfl rfl (Nat.le_of_ble_eq_true rfl) d_X11_land_23 ?_
  refine z_nM e6 ?_
  refine z_aload_n 0 C d_X11_land_26 rfl rfl ?_
  refine z_get (k := 0) (v := .ref (gB G + 1)) C ((E_11 kx_0 G) _ _) (kU_in kx_0 (by decide)) rfl inX11 (by decide) wf_X11_10 rfl d_X11_land_27 ?_
  refine z_get (k := 3) (v := .int (M5.1 1 3)) C ((E_9 kx_1 G) _ _) (kU_in kx_1 (by decide)) rfl inX9 (by decide) wf_X11_98 rfl d_X11_land_30 ?_
  refine z_if_eq C d_X11_land_33 (fun q7 => ?_) (fun q7 => ?_)
  · have h := o_t q7 h
    refine z_aload_n 0 C d_X11_land_47 rfl rfl ?_
    refine z_get (k := 9) (v := .ref (gB G + (ld (M5.1 0 9)))) C ((E_11 kx_0 G) _ _) (kU_in kx_0 (by decide)) rfl inX11 (by decide) wf_X11_69 rfl d_X11_land_48 ?_
    refine z_astore_n (L' := [(1, .ref (gB G + (ld (M5.1 0 9)))), (0, .ref (gB G + 0))]) C d_X11_land_51 rfl (by decide) rfl ?_
    refine z_aload_n 1 C d_X11_land_52 rfl rfl ?_
    refine z_aload_n 1 C d_X11_land_53 rfl rfl ?_
    refine z_get (k := 10) (v := .ref (gB G + (ld (M5.1 0 10)))) C ((E_11 kx_0 G) _ _) (kU_in kx_0 (by decide)) rfl inX11 (by decide) wf_X11_73 rfl d_X11_land_54 ?_
    obtain ⟨M8, e9, h⟩ := o_wr h
    refine z_pI (k := 9) (ty := .object "SnowSentries$Land") (x := (M5.1 0 10)) C (fun r q => (E_11 kx_0 G) r q) (fun _ _ => rfl) (kU_in kx_0 (by decide)) rfl inX11 tyX11 tyX11_ok nmX11 (by decide) wf_X11_69 rfl (by decide +kernel) rfl rfl (Nat.le_of_ble_eq_true rfl) d_X11_land_57 ?_
    refine z_nM e9 ?_
    refine z_aload_n 1 C d_X11_land_60 rfl rfl ?_
    refine z_aload_n 0 C d_X11_land_61 rfl rfl ?_
    obtain ⟨M10, e11, h⟩ := o_wr h
    refine z_pI (k := 10) (ty := .object "SnowSentries$Land") (x := (M5.1 0 9)) C (fun r q => (E_11 kx_0 G) r q) (fun _ _ => rfl) (kU_in kx_0 (by decide)) rfl inX11 tyX11 tyX11_ok nmX11 (by decide) wf_X11_73 rfl (by decide +kernel) rfl rfl (Nat.le_of_ble_eq_true rfl) d_X11_land_62 ?_
    refine z_nM e11 ?_
    refine z_aload_n 1 C d_X11_land_65 rfl rfl ?_
    refine z_get (k := 4) (v := .ref (gB G + 98)) C ((E_11 kx_0 G) _ _) (kU_in kx_0 (by decide)) rfl inX11 (by decide) wf_X11_34 rfl d_X11_land_66 ?_
    refine z_iconst (v := (0 : Int32)) C d_X11_land_69 (by decide) ?_
    obtain ⟨M12, e13, h⟩ := o_wr h
    refine z_pI (k := 0) (ty := .int) C (fun r q => (E_2 kx_98 G) r q) (fun _ _ => rfl) (kU_in kx_98 (by decide)) rfl inX2 tyX2 tyX2_ok nmX2 (by decide) wf_X11_104 rfl (by decide +kernel) rfl rfl (Nat.le_of_ble_eq_true rfl) d_X11_land_70 ?_
    refine z_nM e13 ?_
    refine z_aload_n 1 C d_X11_land_73 rfl rfl ?_
    refine z_get (k := 3) (v := .ref (gB G + 35)) C ((E_11 kx_0 G) _ _) (kU_in kx_0 (by decide)) rfl inX11 (by decide) wf_X11_27 rfl d_X11_land_74 ?_
    refine z_iconst (v := (0 : Int32)) C d_X11_land_77 (by decide) ?_
    refine z_iconst (v := (0 : Int32)) C d_X11_land_78 (by decide) ?_
    obtain ⟨M14, e15, h⟩ := o_wr h
    refine z_zst (fun r q => (E_26 kx_35 G) r q) C (kU_in kx_35 (by decide)) (show inn (0 : Int32) 2 from by decide) d_X11_land_79 ?_
    refine z_nM e15 ?_
    refine z_aload_n 1 C d_X11_land_80 rfl rfl ?_
    refine z_get (k := 3) (v := .ref (gB G + 35)) C ((E_11 kx_0 G) _ _) (kU_in kx_0 (by decide)) rfl inX11 (by decide) wf_X11_27 rfl d_X11_land_81 ?_
    refine z_iconst (v := (1 : Int32)) C d_X11_land_84 (by decide) ?_
    refine z_iconst (v := (0 : Int32)) C d_X11_land_85 (by decide) ?_
    obtain ⟨M16, e17, h⟩ := o_wr h
    refine z_zst (fun r q => (E_26 kx_35 G) r q) C (kU_in kx_35 (by decide)) (show inn (1 : Int32) 2 from by decide) d_X11_land_86 ?_
    refine z_nM e17 ?_
    refine z_aload_n 1 C d_X11_land_87 rfl rfl ?_
    refine z_get (k := 0) (v := .ref (gB G + 1)) C ((E_11 kx_0 G) _ _) (kU_in kx_0 (by decide)) rfl inX11 (by decide) wf_X11_10 rfl d_X11_land_88 ?_
    refine z_get (k := 2) (v := .int (M16.1 1 2)) C ((E_9 kx_1 G) _ _) (kU_in kx_1 (by decide)) rfl inX9 (by decide) wf_X11_107 rfl d_X11_land_91 ?_
    obtain ⟨rfl, rfl⟩ := o_pair h
    exact z_iret C hlk hr d_X11_land_94
  · have h := o_f q7 h
    refine z_bipush (v := (-10 : Int32)) C d_X11_land_36 (by decide) ?_
    refine z_aload_n 0 C d_X11_land_38 rfl rfl ?_
    refine z_get (k := 0) (v := .ref (gB G + 1)) C ((E_11 kx_0 G) _ _) (kU_in kx_0 (by decide)) rfl inX11 (by decide) wf_X11_10 rfl d_X11_land_39 ?_
    refine z_get (k := 4) (v := .int (M5.1 1 4)) C ((E_9 kx_1 G) _ _) (kU_in kx_1 (by decide)) rfl inX9 (by decide) wf_X11_101 rfl d_X11_land_42 ?_
    refine z_isub C d_X11_land_45 ?_
    obtain ⟨rfl, rfl⟩ := o_pair h
    exact z_iret C hlk hr d_X11_land_46
theorem c_X11_land (l : Launch) (G : GG) {M : Mm} {r : Int32} {M2 : Mm} (h : f_X11_land M = some (r, M2)) : CT l 0 G y_X11_land prog_1_method_4_code 2 (some .int) 10 250 [.ref (gB G + 0)] M (some (.int r)) M2 :=
  CT.of (by decide +kernel) (Nat.le_of_ble_eq_true rfl) rfl (fun p e s m args below meth c C hlk hr => k_X11_land_0 C hlk hr h)
-- SnowSentries.fault()I
set_option maxRecDepth 4000 in
theorem k_X11_fault_0 {p : Program} {l : Launch} {e : Env} {s : State} {m : MethodId} {args : Array Value} {below : List Frame} {meth : Method} {c : Code} {G : GG} {M : Mm} {r : Int32} (C : CX p s m args c prog_1_method_5_code 1 "SnowSentries" 0 G) (hlk : meth.locks = false) (hr : meth.sig.returnType = (some .int)) : f_X11_fault M = some r → Z p l e { frames := 0, cells := 0, slots := 0, locals := 0 } s m args below meth c 0 G 1 (MQ below (QC 0 G (some (.int r)) M) args s 0 0 (AU 0 G)) 0 [(0, .ref (gB G + 0))] [] M := by
  intro h
  unfold f_X11_fault at h
  refine z_aload_n 0 C d_X11_fault_0 rfl rfl ?_
  refine z_get (k := 0) (v := .ref (gB G + 1)) C ((E_11 kx_0 G) _ _) (kU_in kx_0 (by decide)) rfl inX11 (by decide) wf_X11_10 rfl d_X11_fault_1 ?_
  refine z_get (k := 3) (v := .int (M.1 1 3)) C ((E_9 kx_1 G) _ _) (kU_in kx_1 (by decide)) rfl inX9 (by decide) wf_X11_98 rfl d_X11_fault_4 ?_
  obtain rfl := o_some h
  exact z_iret C hlk hr d_X11_fault_7
theorem c_X11_fault (l : Launch) (G : GG) {M : Mm} {r : Int32} (h : f_X11_fault M = some r) : CT l 0 G y_X11_fault prog_1_method_5_code 1 (some .int) 0 0 [.ref (gB G + 0)] M (some (.int r)) M :=
  CT.of (by decide +kernel) (Nat.le_of_ble_eq_true rfl) rfl (fun p e s m args below meth c C hlk hr => k_X11_fault_0 C hlk hr h)
-- SnowSentries.rule(I)I
set_option maxRecDepth 4000 in
theorem k_X11_rule_0 {p : Program} {l : Launch} {e : Env} {s : State} {m : MethodId} {args : Array Value} {below : List Frame} {meth : Method} {c : Code} {G : GG} {M : Mm} {x1 : Int32} {r : Int32} (C : CX p s m args c prog_1_method_6_code 2 "SnowSentries" 0 G) (hlk : meth.locks = false) (hr : meth.sig.returnType = (some .int)) : f_X11_rule M x1 = some r → Z p l e { frames := 0, cells := 0, slots := 0, locals := 0 } s m args below meth c 0 G 2 (MQ below (QC 0 G (some (.int r)) M) args s 0 0 (AU 0 G)) 0 [(0, .ref (gB G + 0)), (1, .int x1)] [] M := by
  intro h
  unfold f_X11_rule at h
  refine z_iload_n 1 C d_X11_rule_0 rfl rfl ?_
  rcases Decidable.em (x1 = (0 : Int32)) with q1 | q1
  · have h := o_t q1 h
    refine z_tsw (tgt := 40) C d_X11_rule_1 (Or.inr ⟨39, by rw [q1]; decide, by rw [q1]; decide, by rw [q1]; decide, by decide⟩) ?_
    refine z_aload_n 0 C d_X11_rule_40 rfl rfl ?_
    refine z_get (k := 9) (v := .ref (gB G + (ld (M.1 0 9)))) C ((E_11 kx_0 G) _ _) (kU_in kx_0 (by decide)) rfl inX11 (by decide) wf_X11_69 rfl d_X11_rule_41 ?_
    refine z_get (k := 0) (v := .int (M.1 (ld (M.1 0 9)) 0)) C ((E_4 (k_ld _) G) _ _) (kU_in (k_ld _) (by decide)) rfl inX4 (by decide) wf_X11_110 rfl d_X11_rule_44 ?_
    obtain rfl := o_some h
    exact z_iret C hlk hr d_X11_rule_47
  · have h := o_f q1 h
    rcases Decidable.em (x1 = (1 : Int32)) with q2 | q2
    · have h := o_t q2 h
      refine z_tsw (tgt := 48) C d_X11_rule_1 (Or.inr ⟨47, by rw [q2]; decide, by rw [q2]; decide, by rw [q2]; decide, by decide⟩) ?_
      refine z_aload_n 0 C d_X11_rule_48 rfl rfl ?_
      refine z_get (k := 9) (v := .ref (gB G + (ld (M.1 0 9)))) C ((E_11 kx_0 G) _ _) (kU_in kx_0 (by decide)) rfl inX11 (by decide) wf_X11_69 rfl d_X11_rule_49 ?_
      refine z_get (k := 7) (v := .ref (gB G + (ld (M.1 0 9) + 5))) C ((E_4 (k_ld _) G) _ _) (kU_in (k_ld _) (by decide)) rfl inX4 (by decide) wf_X11_113 rfl d_X11_rule_52 ?_
      refine z_get (k := 0) (v := .int (M.1 (ld (M.1 0 9) + 5) 0)) C ((E_7 (k_4_7 (k_ld _)) G) _ _) (kU_in (k_4_7 (k_ld _)) (by decide)) rfl inX7 (by decide) wf_X11_116 rfl d_X11_rule_55 ?_
      obtain rfl := o_some h
      exact z_iret C hlk hr d_X11_rule_58
    · have h := o_f q2 h
      rcases Decidable.em (x1 = (2 : Int32)) with q3 | q3
      · have h := o_t q3 h
        refine z_tsw (tgt := 59) C d_X11_rule_1 (Or.inr ⟨58, by rw [q3]; decide, by rw [q3]; decide, by rw [q3]; decide, by decide⟩) ?_
        refine z_aload_n 0 C d_X11_rule_59 rfl rfl ?_
        refine z_get (k := 9) (v := .ref (gB G + (ld (M.1 0 9)))) C ((E_11 kx_0 G) _ _) (kU_in kx_0 (by decide)) rfl inX11 (by decide) wf_X11_69 rfl d_X11_rule_60 ?_
        refine z_get (k := 3) (v := .ref (gB G + (ld (M.1 0 9) + 2))) C ((E_4 (k_ld _) G) _ _) (kU_in (k_ld _) (by decide)) rfl inX4 (by decide) wf_X11_119 rfl d_X11_rule_63 ?_
        refine z_get (k := 0) (v := .int (M.1 (ld (M.1 0 9) + 2) 0)) C ((E_5 (k_4_3 (k_ld _)) G) _ _) (kU_in (k_4_3 (k_ld _)) (by decide)) rfl inX5 (by decide) wf_X11_123 rfl d_X11_rule_66 ?_
        obtain rfl := o_some h
        exact z_iret C hlk hr d_X11_rule_69
      · have h := o_f q3 h
        rcases Decidable.em (x1 = (3 : Int32)) with q4 | q4
        · have h := o_t q4 h
          refine z_tsw (tgt := 70) C d_X11_rule_1 (Or.inr ⟨69, by rw [q4]; decide, by rw [q4]; decide, by rw [q4]; decide, by decide⟩) ?_
          refine z_aload_n 0 C d_X11_rule_70 rfl rfl ?_
          refine z_get (k := 9) (v := .ref (gB G + (ld (M.1 0 9)))) C ((E_11 kx_0 G) _ _) (kU_in kx_0 (by decide)) rfl inX11 (by decide) wf_X11_69 rfl d_X11_rule_71 ?_
          refine z_get (k := 3) (v := .ref (gB G + (ld (M.1 0 9) + 2))) C ((E_4 (k_ld _) G) _ _) (kU_in (k_ld _) (by decide)) rfl inX4 (by decide) wf_X11_119 rfl d_X11_rule_74 ?_
          refine z_get (k := 1) (v := .int (M.1 (ld (M.1 0 9) + 2) 1)) C ((E_5 (k_4_3 (k_ld _)) G) _ _) (kU_in (k_4_3 (k_ld _)) (by decide)) rfl inX5 (by decide) wf_X11_128 rfl d_X11_rule_77 ?_
          obtain rfl := o_some h
          exact z_iret C hlk hr d_X11_rule_80
        · have h := o_f q4 h
          rcases Decidable.em (x1 = (4 : Int32)) with q5 | q5
          · have h := o_t q5 h
            refine z_tsw (tgt := 81) C d_X11_rule_1 (Or.inr ⟨80, by rw [q5]; decide, by rw [q5]; decide, by rw [q5]; decide, by decide⟩) ?_
            refine z_aload_n 0 C d_X11_rule_81 rfl rfl ?_
            refine z_get (k := 9) (v := .ref (gB G + (ld (M.1 0 9)))) C ((E_11 kx_0 G) _ _) (kU_in kx_0 (by decide)) rfl inX11 (by decide) wf_X11_69 rfl d_X11_rule_82 ?_
            refine z_get (k := 3) (v := .ref (gB G + (ld (M.1 0 9) + 2))) C ((E_4 (k_ld _) G) _ _) (kU_in (k_ld _) (by decide)) rfl inX4 (by decide) wf_X11_119 rfl d_X11_rule_85 ?_
            refine z_get (k := 2) (v := .int (M.1 (ld (M.1 0 9) + 2) 2)) C ((E_5 (k_4_3 (k_ld _)) G) _ _) (kU_in (k_4_3 (k_ld _)) (by decide)) rfl inX5 (by decide) wf_X11_131 rfl d_X11_rule_88 ?_
            obtain rfl := o_some h
            exact z_iret C hlk hr d_X11_rule_91
          · have h := o_f q5 h
            rcases Decidable.em (x1 = (5 : Int32)) with q6 | q6
            · have h := o_t q6 h
              refine z_tsw (tgt := 92) C d_X11_rule_1 (Or.inr ⟨91, by rw [q6]; decide, by rw [q6]; decide, by rw [q6]; decide, by decide⟩) ?_
              refine z_aload_n 0 C d_X11_rule_92 rfl rfl ?_
              refine z_get (k := 9) (v := .ref (gB G + (ld (M.1 0 9)))) C ((E_11 kx_0 G) _ _) (kU_in kx_0 (by decide)) rfl inX11 (by decide) wf_X11_69 rfl d_X11_rule_93 ?_
              refine z_get (k := 1) (v := .int (M.1 (ld (M.1 0 9)) 1)) C ((E_4 (k_ld _) G) _ _) (kU_in (k_ld _) (by decide)) rfl inX4 (by decide) wf_X11_134 rfl d_X11_rule_96 ?_
              obtain rfl := o_some h
              exact z_iret C hlk hr d_X11_rule_99
            · have h := o_f q6 h
              have nq1 := lv_neT (a := 0) q1 (by decide)
              have nq2 := lv_neT (a := 1) q2 (by decide)
              have nq3 := lv_neT (a := 2) q3 (by decide)
              have nq4 := lv_neT (a := 3) q4 (by decide)
              have nq5 := lv_neT (a := 4) q5 (by decide)
              have nq6 := lv_neT (a := 5) q6 (by decide)
              refine z_tsw (tgt := 100) C d_X11_rule_1 (Or.inl ⟨by omega, by decide⟩) ?_
              refine z_iconst (v := (-1 : Int32)) C d_X11_rule_100 (by decide) ?_
              obtain rfl := o_some h
              exact z_iret C hlk hr d_X11_rule_101
theorem c_X11_rule (l : Launch) (G : GG) {M : Mm} {x1 : Int32} {r : Int32} (h : f_X11_rule M x1 = some r) : CT l 0 G y_X11_rule prog_1_method_6_code 2 (some .int) 0 0 [.ref (gB G + 0), .int x1] M (some (.int r)) M :=
  CT.of (by decide +kernel) (Nat.le_of_ble_eq_true rfl) rfl (fun p e s m args below meth c C hlk hr => k_X11_rule_0 C hlk hr h)
-- SnowSentries.isHour(I)Z
set_option maxRecDepth 4000 in
theorem k_X11_isHour_0 {p : Program} {l : Launch} {e : Env} {s : State} {m : MethodId} {args : Array Value} {below : List Frame} {meth : Method} {c : Code} {G : GG} {x0 : Int32} {M : Mm}  {r : Int32} (C : CX p s m args c prog_1_method_47_code 1 "SnowSentries" 0 G) (hlk : meth.locks = false) (hr : meth.sig.returnType = (some .boolean)) : f_X11_isHour x0 = some r → Z p l e { frames := 1, cells := 0, slots := 0, locals := 22 } s m args below meth c 0 G 1 (MQ below (QC 0 G (some (.int r)) M) args s 0 0 (AU 0 G)) 0 [(0, .int x0)] [] M := by
  intro h
  unfold f_X11_isHour at h
  refine z_iload_n 0 C d_X11_isHour_0 rfl rfl ?_
  refine z_iconst (v := (0 : Int32)) C d_X11_isHour_1 (by decide) ?_
  refine z_bipush (v := (11 : Int32)) C d_X11_isHour_2 (by decide) ?_
  obtain ⟨p2, e1, h⟩ := o_bd h
  refine z_S (S := []) (As := [.int x0, .int (0 : Int32), .int (11 : Int32)]) C (c_X11_isAmong l G (M := M) e1) wc_X11_isAmong wm_X11_166 ws_X11_isAmong wi_X11 hy_X11_isAmong ⟨Nat.le_of_ble_eq_true rfl, Nat.le_of_ble_eq_true rfl⟩ rfl rfl (Nat.le_of_ble_eq_true rfl) d_X11_isHour_4 ?_
  obtain ⟨q3, h⟩ := o_ck h
  obtain rfl := o_some h
  exact z_zret C hlk hr (isB_nar q3) d_X11_isHour_7
theorem c_X11_isHour (l : Launch) (G : GG) {x0 : Int32} {M : Mm} {r : Int32} (h : f_X11_isHour x0 = some r) : CT l 0 G y_X11_isHour prog_1_method_47_code 1 (some .boolean) 1 22 [.int x0] M (some (.int r)) M :=
  CT.of (by decide +kernel) (Nat.le_of_ble_eq_true rfl) rfl (fun p e s m args below meth c C hlk hr => k_X11_isHour_0 C hlk hr h)
-- SnowSentries.hour(II)I
set_option maxRecDepth 4000 in
theorem k_X11_hour_0 {p : Program} {l : Launch} {e : Env} {s : State} {m : MethodId} {args : Array Value} {below : List Frame} {meth : Method} {c : Code} {G : GG} {M : Mm} {x1 : Int32} {x2 : Int32} {r : Int32} (C : CX p s m args c prog_1_method_7_code 3 "SnowSentries" 0 G) (hlk : meth.locks = false) (hr : meth.sig.returnType = (some .int)) : f_X11_hour M x1 x2 = some r → Z p l e { frames := 2, cells := 0, slots := 0, locals := 42 } s m args below meth c 0 G 3 (MQ below (QC 0 G (some (.int r)) M) args s 0 0 (AU 0 G)) 0 [(0, .ref (gB G + 0)), (1, .int x1), (2, .int x2)] [] M := by
  intro h
  unfold f_X11_hour at h
  refine z_iload_n 1 C d_X11_hour_0 rfl rfl ?_
  obtain ⟨p2, e1, h⟩ := o_bd h
  refine z_S (S := []) (As := [.int x1]) C (c_X11_isHour l G (M := M) e1) wc_X11_isHour wm_X11_137 ws_X11_isHour wi_X11 hy_X11_isHour ⟨Nat.le_of_ble_eq_true rfl, Nat.le_of_ble_eq_true rfl⟩ rfl rfl (Nat.le_of_ble_eq_true rfl) d_X11_hour_1 ?_
  refine z_if_ne C d_X11_hour_4 (fun q3 => ?_) (fun q3 => ?_)
  · have h := o_f q3 h
    refine z_iload_n 2 C d_X11_hour_9 rfl rfl ?_
    rcases Decidable.em (x2 = (0 : Int32)) with q4 | q4
    · have h := o_t q4 h
      refine z_lsw (tgt := 36) (off := 26) C d_X11_hour_10 (by decide) (by rw [q4]; decide) (by decide) ?_
      refine z_aload_n 0 C d_X11_hour_36 rfl rfl ?_
      refine z_get (k := 9) (v := .ref (gB G + (ld (M.1 0 9)))) C ((E_11 kx_0 G) _ _) (kU_in kx_0 (by decide)) rfl inX11 (by decide) wf_X11_69 rfl d_X11_hour_37 ?_
      refine z_get (k := 7) (v := .ref (gB G + (ld (M.1 0 9) + 5))) C ((E_4 (k_ld _) G) _ _) (kU_in (k_ld _) (by decide)) rfl inX4 (by decide) wf_X11_113 rfl d_X11_hour_40 ?_
      refine z_get (k := 5) (v := .ref (gB G + ((ld (M.1 0 9) + 5) + 5))) C ((E_7 (k_4_7 (k_ld _)) G) _ _) (kU_in (k_4_7 (k_ld _)) (by decide)) rfl inX7 (by decide) wf_X11_141 rfl d_X11_hour_43 ?_
      refine z_iload_n 1 C d_X11_hour_46 rfl rfl ?_
      obtain ⟨q5, h⟩ := o_ck h
      refine z_ald ((E_22 (k_7_5 (k_4_7 (k_ld _))) G) _ _) C (kU_in (k_7_5 (k_4_7 (k_ld _))) (by decide)) q5 d_X11_hour_47 ?_
      obtain rfl := o_some h
      exact z_iret C hlk hr d_X11_hour_48
    · have h := o_f q4 h
      rcases Decidable.em (x2 = (1 : Int32)) with q6 | q6
      · have h := o_t q6 h
        refine z_lsw (tgt := 49) (off := 39) C d_X11_hour_10 (by decide) (by rw [q6]; decide) (by decide) ?_
        refine z_aload_n 0 C d_X11_hour_49 rfl rfl ?_
        refine z_get (k := 9) (v := .ref (gB G + (ld (M.1 0 9)))) C ((E_11 kx_0 G) _ _) (kU_in kx_0 (by decide)) rfl inX11 (by decide) wf_X11_69 rfl d_X11_hour_50 ?_
        refine z_get (k := 2) (v := .ref (gB G + (ld (M.1 0 9) + 1))) C ((E_4 (k_ld _) G) _ _) (kU_in (k_ld _) (by decide)) rfl inX4 (by decide) wf_X11_145 rfl d_X11_hour_53 ?_
        refine z_iload_n 1 C d_X11_hour_56 rfl rfl ?_
        obtain ⟨q7, h⟩ := o_ck h
        refine z_ald ((E_22 (k_4_2 (k_ld _)) G) _ _) C (kU_in (k_4_2 (k_ld _)) (by decide)) q7 d_X11_hour_57 ?_
        obtain rfl := o_some h
        exact z_iret C hlk hr d_X11_hour_58
      · have h := o_f q6 h
        refine z_lsw (tgt := 59) (off := 49) C d_X11_hour_10 (by decide) (by rw [lv_osw q4 (by decide), lv_osw q6 (by decide)]; rfl) (by decide) ?_
        refine z_iconst (v := (-1 : Int32)) C d_X11_hour_59 (by decide) ?_
        obtain rfl := o_some h
        exact z_iret C hlk hr d_X11_hour_60
  · have h := o_t q3 h
    refine z_iconst (v := (-1 : Int32)) C d_X11_hour_7 (by decide) ?_
    obtain rfl := o_some h
    exact z_iret C hlk hr d_X11_hour_8
theorem c_X11_hour (l : Launch) (G : GG) {M : Mm} {x1 : Int32} {x2 : Int32} {r : Int32} (h : f_X11_hour M x1 x2 = some r) : CT l 0 G y_X11_hour prog_1_method_7_code 3 (some .int) 2 42 [.ref (gB G + 0), .int x1, .int x2] M (some (.int r)) M :=
  CT.of (by decide +kernel) (Nat.le_of_ble_eq_true rfl) rfl (fun p e s m args below meth c C hlk hr => k_X11_hour_0 C hlk hr h)
-- SnowSentries.isFurlong(I)Z
set_option maxRecDepth 4000 in
theorem k_X11_isFurlong_0 {p : Program} {l : Launch} {e : Env} {s : State} {m : MethodId} {args : Array Value} {below : List Frame} {meth : Method} {c : Code} {G : GG} {M : Mm} {x1 : Int32} {r : Int32} (C : CX p s m args c prog_1_method_49_code 2 "SnowSentries" 0 G) (hlk : meth.locks = false) (hr : meth.sig.returnType = (some .boolean)) : f_X11_isFurlong M x1 = some r → Z p l e { frames := 1, cells := 0, slots := 0, locals := 22 } s m args below meth c 0 G 2 (MQ below (QC 0 G (some (.int r)) M) args s 0 0 (AU 0 G)) 0 [(0, .ref (gB G + 0)), (1, .int x1)] [] M := by
  intro h
  unfold f_X11_isFurlong at h
  refine z_iload_n 1 C d_X11_isFurlong_0 rfl rfl ?_
  refine z_iconst (v := (0 : Int32)) C d_X11_isFurlong_1 (by decide) ?_
  refine z_aload_n 0 C d_X11_isFurlong_2 rfl rfl ?_
  refine z_get (k := 9) (v := .ref (gB G + (ld (M.1 0 9)))) C ((E_11 kx_0 G) _ _) (kU_in kx_0 (by decide)) rfl inX11 (by decide) wf_X11_69 rfl d_X11_isFurlong_3 ?_
  refine z_get (k := 0) (v := .int (M.1 (ld (M.1 0 9)) 0)) C ((E_4 (k_ld _) G) _ _) (kU_in (k_ld _) (by decide)) rfl inX4 (by decide) wf_X11_110 rfl d_X11_isFurlong_6 ?_
  refine z_iconst (v := (1 : Int32)) C d_X11_isFurlong_9 (by decide) ?_
  refine z_isub C d_X11_isFurlong_10 ?_
  obtain ⟨p2, e1, h⟩ := o_bd h
  refine z_S (S := []) (As := [.int x1, .int (0 : Int32), .int ((M.1 (ld (M.1 0 9)) 0) - (1 : Int32))]) C (c_X11_isAmong l G (M := M) e1) wc_X11_isAmong wm_X11_166 ws_X11_isAmong wi_X11 hy_X11_isAmong ⟨Nat.le_of_ble_eq_true rfl, Nat.le_of_ble_eq_true rfl⟩ rfl rfl (Nat.le_of_ble_eq_true rfl) d_X11_isFurlong_11 ?_
  obtain ⟨q3, h⟩ := o_ck h
  obtain rfl := o_some h
  exact z_zret C hlk hr (isB_nar q3) d_X11_isFurlong_14
theorem c_X11_isFurlong (l : Launch) (G : GG) {M : Mm} {x1 : Int32} {r : Int32} (h : f_X11_isFurlong M x1 = some r) : CT l 0 G y_X11_isFurlong prog_1_method_49_code 2 (some .boolean) 1 22 [.ref (gB G + 0), .int x1] M (some (.int r)) M :=
  CT.of (by decide +kernel) (Nat.le_of_ble_eq_true rfl) rfl (fun p e s m args below meth c C hlk hr => k_X11_isFurlong_0 C hlk hr h)
-- SnowSentries.furlong(II)I
set_option maxRecDepth 4000 in
theorem k_X11_furlong_0 {p : Program} {l : Launch} {e : Env} {s : State} {m : MethodId} {args : Array Value} {below : List Frame} {meth : Method} {c : Code} {G : GG} {M : Mm} {x1 : Int32} {x2 : Int32} {r : Int32} (C : CX p s m args c prog_1_method_8_code 4 "SnowSentries" 0 G) (hlk : meth.locks = false) (hr : meth.sig.returnType = (some .int)) : f_X11_furlong M x1 x2 = some r → Z p l e { frames := 2, cells := 0, slots := 0, locals := 47 } s m args below meth c 0 G 4 (MQ below (QC 0 G (some (.int r)) M) args s 0 0 (AU 0 G)) 0 [(0, .ref (gB G + 0)), (1, .int x1), (2, .int x2)] [] M := by
  intro h
  unfold f_X11_furlong at h
  refine z_aload_n 0 C d_X11_furlong_0 rfl rfl ?_
  refine z_iload_n 1 C d_X11_furlong_1 rfl rfl ?_
  obtain ⟨p2, e1, h⟩ := o_bd h
  refine z_V (S := []) (As := [.int x1]) C (c_X11_isFurlong l G e1) ((E_11 kx_0 G) _ _) (kU_in kx_0 (by decide)) rfl wc_X11_isFurlong wm_X11_148 ws_X11_isFurlong wl_X11_isFurlong wi_X11 hy_X11_isFurlong ⟨Nat.le_of_ble_eq_true rfl, Nat.le_of_ble_eq_true rfl⟩ rfl rfl (Nat.le_of_ble_eq_true rfl) d_X11_furlong_2 ?_
  refine z_if_ne C d_X11_furlong_5 (fun q3 => ?_) (fun q3 => ?_)
  · have h := o_f q3 h
    refine z_aload_n 0 C d_X11_furlong_10 rfl rfl ?_
    refine z_get (k := 9) (v := .ref (gB G + (ld (M.1 0 9)))) C ((E_11 kx_0 G) _ _) (kU_in kx_0 (by decide)) rfl inX11 (by decide) wf_X11_69 rfl d_X11_furlong_11 ?_
    refine z_get (k := 7) (v := .ref (gB G + (ld (M.1 0 9) + 5))) C ((E_4 (k_ld _) G) _ _) (kU_in (k_ld _) (by decide)) rfl inX4 (by decide) wf_X11_113 rfl d_X11_furlong_14 ?_
    obtain ⟨b4, e5, h⟩ := o_nm h
    have hb6 : kU 0 b4 = 7 := by rw [e5]; exact (k_4_7 (k_ld _))
    refine z_nA e5 ?_
    refine z_astore_n (L' := [(3, .ref (gB G + b4)), (0, .ref (gB G + 0)), (1, .int x1), (2, .int x2)]) C d_X11_furlong_17 rfl (by decide) rfl ?_
    refine z_iload_n 3 C d_X11_furlong_18 rfl rfl ?_
    rcases Decidable.em (x2 = (0 : Int32)) with q7 | q7
    · have h := o_t q7 h
      refine z_tsw (tgt := 48) C d_X11_furlong_19 (Or.inr ⟨29, by rw [q7]; decide, by rw [q7]; decide, by rw [q7]; decide, by decide⟩) ?_
      refine z_aload_n 0 C d_X11_furlong_48 rfl rfl ?_
      refine z_get (k := 2) (v := .ref (gB G + (b4 + 2))) C ((E_7 hb6 G) _ _) (kU_in hb6 (by decide)) rfl inX7 (by decide) wf_X11_151 rfl d_X11_furlong_49 ?_
      refine z_iload_n 2 C d_X11_furlong_52 rfl rfl ?_
      obtain ⟨q8, h⟩ := o_ck h
      refine z_ald ((E_21 (k_7_2 hb6) G) _ _) C (kU_in (k_7_2 hb6) (by decide)) q8 d_X11_furlong_53 ?_
      obtain rfl := o_some h
      exact z_iret C hlk hr d_X11_furlong_54
    · have h := o_f q7 h
      rcases Decidable.em (x2 = (1 : Int32)) with q9 | q9
      · have h := o_t q9 h
        refine z_tsw (tgt := 55) C d_X11_furlong_19 (Or.inr ⟨36, by rw [q9]; decide, by rw [q9]; decide, by rw [q9]; decide, by decide⟩) ?_
        refine z_aload_n 0 C d_X11_furlong_55 rfl rfl ?_
        refine z_get (k := 3) (v := .ref (gB G + (b4 + 3))) C ((E_7 hb6 G) _ _) (kU_in hb6 (by decide)) rfl inX7 (by decide) wf_X11_154 rfl d_X11_furlong_56 ?_
        refine z_iload_n 2 C d_X11_furlong_59 rfl rfl ?_
        obtain ⟨q10, h⟩ := o_ck h
        refine z_ald ((E_21 (k_7_3 hb6) G) _ _) C (kU_in (k_7_3 hb6) (by decide)) q10 d_X11_furlong_60 ?_
        obtain rfl := o_some h
        exact z_iret C hlk hr d_X11_furlong_61
      · have h := o_f q9 h
        rcases Decidable.em (x2 = (2 : Int32)) with q11 | q11
        · have h := o_t q11 h
          refine z_tsw (tgt := 62) C d_X11_furlong_19 (Or.inr ⟨43, by rw [q11]; decide, by rw [q11]; decide, by rw [q11]; decide, by decide⟩) ?_
          refine z_aload_n 0 C d_X11_furlong_62 rfl rfl ?_
          refine z_get (k := 4) (v := .ref (gB G + (b4 + 4))) C ((E_7 hb6 G) _ _) (kU_in hb6 (by decide)) rfl inX7 (by decide) wf_X11_157 rfl d_X11_furlong_63 ?_
          refine z_iload_n 2 C d_X11_furlong_66 rfl rfl ?_
          obtain ⟨q12, h⟩ := o_ck h
          refine z_ald ((E_21 (k_7_4 hb6) G) _ _) C (kU_in (k_7_4 hb6) (by decide)) q12 d_X11_furlong_67 ?_
          refine z_bipush (v := (100 : Int32)) C d_X11_furlong_68 (by decide) ?_
          refine z_iadd C d_X11_furlong_70 ?_
          obtain rfl := o_some h
          exact z_iret C hlk hr d_X11_furlong_71
        · have h := o_f q11 h
          rcases Decidable.em (x2 = (3 : Int32)) with q13 | q13
          · have h := o_t q13 h
            refine z_tsw (tgt := 72) C d_X11_furlong_19 (Or.inr ⟨53, by rw [q13]; decide, by rw [q13]; decide, by rw [q13]; decide, by decide⟩) ?_
            refine z_aload_n 1 C d_X11_furlong_72 rfl rfl ?_
            refine z_get (k := 9) (v := .ref (gB G + (ld (M.1 0 9)))) C ((E_11 kx_0 G) _ _) (kU_in kx_0 (by decide)) rfl inX11 (by decide) wf_X11_69 rfl d_X11_furlong_73 ?_
            refine z_aload_n 0 C d_X11_furlong_76 rfl rfl ?_
            refine z_iload_n 2 C d_X11_furlong_77 rfl rfl ?_
            obtain ⟨p15, e14, h⟩ := o_bd h
            refine z_V (S := []) (As := [.ref (gB G + b4), .int x1]) C (c_X4_counting l G (k_ld _) hb6 e14) ((E_4 (k_ld _) G) _ _) (kU_in (k_ld _) (by decide)) rfl wc_X4_counting wm_X11_159 ws_X4_counting wl_X4_counting wi_X4 hy_X4_counting ⟨Nat.le_of_ble_eq_true rfl, Nat.le_of_ble_eq_true rfl⟩ rfl rfl (Nat.le_of_ble_eq_true rfl) d_X11_furlong_78 ?_
            obtain rfl := o_some h
            exact z_iret C hlk hr d_X11_furlong_81
          · have h := o_f q13 h
            have nq7 := lv_neT (a := 0) q7 (by decide)
            have nq9 := lv_neT (a := 1) q9 (by decide)
            have nq11 := lv_neT (a := 2) q11 (by decide)
            have nq13 := lv_neT (a := 3) q13 (by decide)
            refine z_tsw (tgt := 82) C d_X11_furlong_19 (Or.inl ⟨by omega, by decide⟩) ?_
            refine z_iconst (v := (-1 : Int32)) C d_X11_furlong_82 (by decide) ?_
            obtain rfl := o_some h
            exact z_iret C hlk hr d_X11_furlong_83
  · have h := o_t q3 h
    refine z_iconst (v := (-1 : Int32)) C d_X11_furlong_8 (by decide) ?_
    obtain rfl := o_some h
    exact z_iret C hlk hr d_X11_furlong_9
theorem c_X11_furlong (l : Launch) (G : GG) {M : Mm} {x1 : Int32} {x2 : Int32} {r : Int32} (h : f_X11_furlong M x1 x2 = some r) : CT l 0 G y_X11_furlong prog_1_method_8_code 4 (some .int) 2 47 [.ref (gB G + 0), .int x1, .int x2] M (some (.int r)) M :=
  CT.of (by decide +kernel) (Nat.le_of_ble_eq_true rfl) rfl (fun p e s m args below meth c C hlk hr => k_X11_furlong_0 C hlk hr h)
-- SnowSentries.isSide(I)Z
set_option maxRecDepth 4000 in
theorem k_X11_isSide_0 {p : Program} {l : Launch} {e : Env} {s : State} {m : MethodId} {args : Array Value} {below : List Frame} {meth : Method} {c : Code} {G : GG} {x0 : Int32} {M : Mm}  {r : Int32} (C : CX p s m args c prog_1_method_46_code 1 "SnowSentries" 0 G) (hlk : meth.locks = false) (hr : meth.sig.returnType = (some .boolean)) : f_X11_isSide x0 = some r → Z p l e { frames := 1, cells := 0, slots := 0, locals := 22 } s m args below meth c 0 G 1 (MQ below (QC 0 G (some (.int r)) M) args s 0 0 (AU 0 G)) 0 [(0, .int x0)] [] M := by
  intro h
  unfold f_X11_isSide at h
  refine z_iload_n 0 C d_X11_isSide_0 rfl rfl ?_
  refine z_iconst (v := (0 : Int32)) C d_X11_isSide_1 (by decide) ?_
  refine z_iconst (v := (1 : Int32)) C d_X11_isSide_2 (by decide) ?_
  obtain ⟨p2, e1, h⟩ := o_bd h
  refine z_S (S := []) (As := [.int x0, .int (0 : Int32), .int (1 : Int32)]) C (c_X11_isAmong l G (M := M) e1) wc_X11_isAmong wm_X11_166 ws_X11_isAmong wi_X11 hy_X11_isAmong ⟨Nat.le_of_ble_eq_true rfl, Nat.le_of_ble_eq_true rfl⟩ rfl rfl (Nat.le_of_ble_eq_true rfl) d_X11_isSide_3 ?_
  obtain ⟨q3, h⟩ := o_ck h
  obtain rfl := o_some h
  exact z_zret C hlk hr (isB_nar q3) d_X11_isSide_6
theorem c_X11_isSide (l : Launch) (G : GG) {x0 : Int32} {M : Mm} {r : Int32} (h : f_X11_isSide x0 = some r) : CT l 0 G y_X11_isSide prog_1_method_46_code 1 (some .boolean) 1 22 [.int x0] M (some (.int r)) M :=
  CT.of (by decide +kernel) (Nat.le_of_ble_eq_true rfl) rfl (fun p e s m args below meth c C hlk hr => k_X11_isSide_0 C hlk hr h)
-- SnowSentries.man(III)I
set_option maxRecDepth 4000 in
theorem k_X11_man_24 {p : Program} {l : Launch} {e : Env} {s : State} {m : MethodId} {args : Array Value} {below : List Frame} {meth : Method} {c : Code} {G : GG} {M : Mm} {r : Int32} (C : CX p s m args c prog_1_method_9_code 5 "SnowSentries" 0 G) (hlk : meth.locks = false) (hr : meth.sig.returnType = (some .int)) : f_X11_man_24 M = some r → Z p l e { frames := 2, cells := 0, slots := 0, locals := 43 } s m args below meth c 0 G 5 (MQ below (QC 0 G (some (.int r)) M) args s 0 0 (AU 0 G)) 24 [] [] M := by
  intro h
  unfold f_X11_man_24 at h
  refine z_iconst (v := (-1 : Int32)) C d_X11_man_24 (by decide) ?_
  obtain rfl := o_some h
  exact z_iret C hlk hr d_X11_man_25
set_option maxRecDepth 4000 in
theorem k_X11_man_131 {p : Program} {l : Launch} {e : Env} {s : State} {m : MethodId} {args : Array Value} {below : List Frame} {meth : Method} {c : Code} {G : GG} {M : Mm} {s_0 : Int32} {r : Int32} (C : CX p s m args c prog_1_method_9_code 5 "SnowSentries" 0 G) (hlk : meth.locks = false) (hr : meth.sig.returnType = (some .int)) : f_X11_man_131 M s_0 = some r → Z p l e { frames := 2, cells := 0, slots := 0, locals := 43 } s m args below meth c 0 G 5 (MQ below (QC 0 G (some (.int r)) M) args s 0 0 (AU 0 G)) 131 [] [.int s_0] M := by
  intro h
  unfold f_X11_man_131 at h
  obtain rfl := o_some h
  exact z_iret C hlk hr d_X11_man_131
set_option maxRecDepth 4000 in
theorem k_X11_man_0 {p : Program} {l : Launch} {e : Env} {s : State} {m : MethodId} {args : Array Value} {below : List Frame} {meth : Method} {c : Code} {G : GG} {M : Mm} {x1 : Int32} {x2 : Int32} {x3 : Int32} {r : Int32} (C : CX p s m args c prog_1_method_9_code 5 "SnowSentries" 0 G) (hlk : meth.locks = false) (hr : meth.sig.returnType = (some .int)) : f_X11_man M x1 x2 x3 = some r → Z p l e { frames := 2, cells := 0, slots := 0, locals := 43 } s m args below meth c 0 G 5 (MQ below (QC 0 G (some (.int r)) M) args s 0 0 (AU 0 G)) 0 [(0, .ref (gB G + 0)), (1, .int x1), (2, .int x2), (3, .int x3)] [] M := by
  intro h
  unfold f_X11_man at h
  refine z_iload_n 1 C d_X11_man_0 rfl rfl ?_
  obtain ⟨p2, e1, h⟩ := o_bd h
  refine z_S (S := []) (As := [.int x1]) C (c_X11_isSide l G (M := M) e1) wc_X11_isSide wm_X11_163 ws_X11_isSide wi_X11 hy_X11_isSide ⟨Nat.le_of_ble_eq_true rfl, Nat.le_of_ble_eq_true rfl⟩ rfl rfl (Nat.le_of_ble_eq_true rfl) d_X11_man_1 ?_
  refine z_if_eq C d_X11_man_4 (fun q3 => ?_) (fun q3 => ?_)
  · have h := o_t q3 h
    exact z_sub [] rfl (k_X11_man_24 C hlk hr h)
  · have h := o_f q3 h
    refine z_aload_n 0 C d_X11_man_7 rfl rfl ?_
    refine z_iload_n 2 C d_X11_man_8 rfl rfl ?_
    obtain ⟨p5, e4, h⟩ := o_bd h
    refine z_V (S := []) (As := [.int x2]) C (c_X11_isFurlong l G e4) ((E_11 kx_0 G) _ _) (kU_in kx_0 (by decide)) rfl wc_X11_isFurlong wm_X11_148 ws_X11_isFurlong wl_X11_isFurlong wi_X11 hy_X11_isFurlong ⟨Nat.le_of_ble_eq_true rfl, Nat.le_of_ble_eq_true rfl⟩ rfl rfl (Nat.le_of_ble_eq_true rfl) d_X11_man_9 ?_
    refine z_if_eq C d_X11_man_12 (fun q6 => ?_) (fun q6 => ?_)
    · have h := o_t q6 h
      exact z_sub [] rfl (k_X11_man_24 C hlk hr h)
    · have h := o_f q6 h
      refine z_iload_n 3 C d_X11_man_15 rfl rfl ?_
      refine z_iconst (v := (0 : Int32)) C d_X11_man_16 (by decide) ?_
      refine z_iconst (v := (5 : Int32)) C d_X11_man_17 (by decide) ?_
      obtain ⟨p8, e7, h⟩ := o_bd h
      refine z_S (S := []) (As := [.int x3, .int (0 : Int32), .int (5 : Int32)]) C (c_X11_isAmong l G (M := M) e7) wc_X11_isAmong wm_X11_166 ws_X11_isAmong wi_X11 hy_X11_isAmong ⟨Nat.le_of_ble_eq_true rfl, Nat.le_of_ble_eq_true rfl⟩ rfl rfl (Nat.le_of_ble_eq_true rfl) d_X11_man_18 ?_
      refine z_if_ne C d_X11_man_21 (fun q9 => ?_) (fun q9 => ?_)
      · have h := o_f q9 h
        refine z_aload_n 0 C d_X11_man_26 rfl rfl ?_
        refine z_get (k := 9) (v := .ref (gB G + (ld (M.1 0 9)))) C ((E_11 kx_0 G) _ _) (kU_in kx_0 (by decide)) rfl inX11 (by decide) wf_X11_69 rfl d_X11_man_27 ?_
        refine z_get (k := 7) (v := .ref (gB G + (ld (M.1 0 9) + 5))) C ((E_4 (k_ld _) G) _ _) (kU_in (k_ld _) (by decide)) rfl inX4 (by decide) wf_X11_113 rfl d_X11_man_30 ?_
        refine z_iload_n 1 C d_X11_man_33 rfl rfl ?_
        refine z_iload_n 2 C d_X11_man_34 rfl rfl ?_
        obtain ⟨p11, e10, h⟩ := o_bd h
        refine z_V (S := []) (As := [.int x1, .int x2]) C (c_X7_manOf l G (k_4_7 (k_ld _)) e10) ((E_7 (k_4_7 (k_ld _)) G) _ _) (kU_in (k_4_7 (k_ld _)) (by decide)) rfl wc_X7_manOf wm_X11_170 ws_X7_manOf wl_X7_manOf wi_X7 hy_X7_manOf ⟨Nat.le_of_ble_eq_true rfl, Nat.le_of_ble_eq_true rfl⟩ rfl rfl (Nat.le_of_ble_eq_true rfl) d_X11_man_35 ?_
        refine z_astore (L' := [(4, .ref (gB G + p11)), (0, .ref (gB G + 0)), (1, .int x1), (2, .int x2), (3, .int x3)]) C d_X11_man_38 (by decide) rfl ?_
        refine z_aload 0 C d_X11_man_40 rfl ?_
        refine z_get (k := 0) (v := .int (M.1 p11 0)) C ((E_6 (kr_X7_manOf (k_4_7 (k_ld _)) e10) G) _ _) (kU_in (kr_X7_manOf (k_4_7 (k_ld _)) e10) (by decide)) rfl inX6 (by decide) wf_X11_174 rfl d_X11_man_42 ?_
        refine z_if_ne C d_X11_man_45 (fun q12 => ?_) (fun q12 => ?_)
        · have h := o_f q12 h
          refine z_iload_n 4 C d_X11_man_51 rfl rfl ?_
          rcases Decidable.em (x3 = (0 : Int32)) with q13 | q13
          · have h := o_t q13 h
            refine z_tsw (tgt := 88) C d_X11_man_52 (Or.inr ⟨36, by rw [q13]; decide, by rw [q13]; decide, by rw [q13]; decide, by decide⟩) ?_
            refine z_aload 0 C d_X11_man_88 rfl ?_
            refine z_get (k := 1) (v := .int (M.1 p11 1)) C ((E_6 (kr_X7_manOf (k_4_7 (k_ld _)) e10) G) _ _) (kU_in (kr_X7_manOf (k_4_7 (k_ld _)) e10) (by decide)) rfl inX6 (by decide) wf_X11_180 rfl d_X11_man_90 ?_
            obtain rfl := o_some h
            exact z_iret C hlk hr d_X11_man_93
          · have h := o_f q13 h
            rcases Decidable.em (x3 = (1 : Int32)) with q14 | q14
            · have h := o_t q14 h
              refine z_tsw (tgt := 94) C d_X11_man_52 (Or.inr ⟨42, by rw [q14]; decide, by rw [q14]; decide, by rw [q14]; decide, by decide⟩) ?_
              refine z_aload 0 C d_X11_man_94 rfl ?_
              refine z_get (k := 2) (v := .int (M.1 p11 2)) C ((E_6 (kr_X7_manOf (k_4_7 (k_ld _)) e10) G) _ _) (kU_in (kr_X7_manOf (k_4_7 (k_ld _)) e10) (by decide)) rfl inX6 (by decide) wf_X11_183 rfl d_X11_man_96 ?_
              obtain rfl := o_some h
              exact z_iret C hlk hr d_X11_man_99
            · have h := o_f q14 h
              rcases Decidable.em (x3 = (2 : Int32)) with q15 | q15
              · have h := o_t q15 h
                refine z_tsw (tgt := 100) C d_X11_man_52 (Or.inr ⟨48, by rw [q15]; decide, by rw [q15]; decide, by rw [q15]; decide, by decide⟩) ?_
                refine z_aload 0 C d_X11_man_100 rfl ?_
                refine z_get (k := 3) (v := .int (M.1 p11 3)) C ((E_6 (kr_X7_manOf (k_4_7 (k_ld _)) e10) G) _ _) (kU_in (kr_X7_manOf (k_4_7 (k_ld _)) e10) (by decide)) rfl inX6 (by decide) wf_X11_186 rfl d_X11_man_102 ?_
                obtain rfl := o_some h
                exact z_iret C hlk hr d_X11_man_105
              · have h := o_f q15 h
                rcases Decidable.em (x3 = (3 : Int32)) with q16 | q16
                · have h := o_t q16 h
                  refine z_tsw (tgt := 106) C d_X11_man_52 (Or.inr ⟨54, by rw [q16]; decide, by rw [q16]; decide, by rw [q16]; decide, by decide⟩) ?_
                  refine z_aload 0 C d_X11_man_106 rfl ?_
                  refine z_get (k := 4) (v := .int (M.1 p11 4)) C ((E_6 (kr_X7_manOf (k_4_7 (k_ld _)) e10) G) _ _) (kU_in (kr_X7_manOf (k_4_7 (k_ld _)) e10) (by decide)) rfl inX6 (by decide) wf_X11_189 rfl d_X11_man_108 ?_
                  obtain rfl := o_some h
                  exact z_iret C hlk hr d_X11_man_111
                · have h := o_f q16 h
                  rcases Decidable.em (x3 = (4 : Int32)) with q17 | q17
                  · have h := o_t q17 h
                    refine z_tsw (tgt := 112) C d_X11_man_52 (Or.inr ⟨60, by rw [q17]; decide, by rw [q17]; decide, by rw [q17]; decide, by decide⟩) ?_
                    refine z_aload 0 C d_X11_man_112 rfl ?_
                    refine z_get (k := 5) (v := .int (M.1 p11 5)) C ((E_6 (kr_X7_manOf (k_4_7 (k_ld _)) e10) G) _ _) (kU_in (kr_X7_manOf (k_4_7 (k_ld _)) e10) (by decide)) rfl inX6 (by decide) wf_X11_190 rfl d_X11_man_114 ?_
                    obtain rfl := o_some h
                    exact z_iret C hlk hr d_X11_man_117
                  · have h := o_f q17 h
                    have nq13 := lv_neT (a := 0) q13 (by decide)
                    have nq14 := lv_neT (a := 1) q14 (by decide)
                    have nq15 := lv_neT (a := 2) q15 (by decide)
                    have nq16 := lv_neT (a := 3) q16 (by decide)
                    have nq17 := lv_neT (a := 4) q17 (by decide)
                    refine z_tsw (tgt := 118) C d_X11_man_52 (Or.inl ⟨by omega, by decide⟩) ?_
                    refine z_aload 0 C d_X11_man_118 rfl ?_
                    refine z_get (k := 6) (v := .int (M.1 p11 6)) C ((E_6 (kr_X7_manOf (k_4_7 (k_ld _)) e10) G) _ _) (kU_in (kr_X7_manOf (k_4_7 (k_ld _)) e10) (by decide)) rfl inX6 (by decide) wf_X11_191 rfl d_X11_man_120 ?_
                    refine z_if_eq C d_X11_man_123 (fun q18 => ?_) (fun q18 => ?_)
                    · have h := o_t q18 h
                      refine z_iconst (v := (0 : Int32)) C d_X11_man_130 (by decide) ?_
                      exact z_sub [] rfl (k_X11_man_131 C hlk hr h)
                    · have h := o_f q18 h
                      refine z_iconst (v := (1 : Int32)) C d_X11_man_126 (by decide) ?_
                      refine z_goto C d_X11_man_127 ?_
                      exact z_sub [] rfl (k_X11_man_131 C hlk hr h)
        · have h := o_t q12 h
          refine z_bipush (v := (-4 : Int32)) C d_X11_man_48 (by decide) ?_
          obtain rfl := o_some h
          exact z_iret C hlk hr d_X11_man_50
      · have h := o_t q9 h
        exact z_sub [] rfl (k_X11_man_24 C hlk hr h)
theorem c_X11_man (l : Launch) (G : GG) {M : Mm} {x1 : Int32} {x2 : Int32} {x3 : Int32} {r : Int32} (h : f_X11_man M x1 x2 x3 = some r) : CT l 0 G y_X11_man prog_1_method_9_code 5 (some .int) 2 43 [.ref (gB G + 0), .int x1, .int x2, .int x3] M (some (.int r)) M :=
  CT.of (by decide +kernel) (Nat.le_of_ble_eq_true rfl) rfl (fun p e s m args below meth c C hlk hr => k_X11_man_0 C hlk hr h)
-- SnowSentries.isBrazier(I)Z
set_option maxRecDepth 4000 in
theorem k_X11_isBrazier_0 {p : Program} {l : Launch} {e : Env} {s : State} {m : MethodId} {args : Array Value} {below : List Frame} {meth : Method} {c : Code} {G : GG} {M : Mm} {x1 : Int32} {r : Int32} (C : CX p s m args c prog_1_method_50_code 2 "SnowSentries" 0 G) (hlk : meth.locks = false) (hr : meth.sig.returnType = (some .boolean)) : f_X11_isBrazier M x1 = some r → Z p l e { frames := 1, cells := 0, slots := 0, locals := 22 } s m args below meth c 0 G 2 (MQ below (QC 0 G (some (.int r)) M) args s 0 0 (AU 0 G)) 0 [(0, .ref (gB G + 0)), (1, .int x1)] [] M := by
  intro h
  unfold f_X11_isBrazier at h
  refine z_iload_n 1 C d_X11_isBrazier_0 rfl rfl ?_
  refine z_iconst (v := (0 : Int32)) C d_X11_isBrazier_1 (by decide) ?_
  refine z_aload_n 0 C d_X11_isBrazier_2 rfl rfl ?_
  refine z_get (k := 9) (v := .ref (gB G + (ld (M.1 0 9)))) C ((E_11 kx_0 G) _ _) (kU_in kx_0 (by decide)) rfl inX11 (by decide) wf_X11_69 rfl d_X11_isBrazier_3 ?_
  refine z_get (k := 7) (v := .ref (gB G + (ld (M.1 0 9) + 5))) C ((E_4 (k_ld _) G) _ _) (kU_in (k_ld _) (by decide)) rfl inX4 (by decide) wf_X11_113 rfl d_X11_isBrazier_6 ?_
  refine z_get (k := 6) (v := .ref (gB G + ((ld (M.1 0 9) + 5) + 6))) C ((E_7 (k_4_7 (k_ld _)) G) _ _) (kU_in (k_4_7 (k_ld _)) (by decide)) rfl inX7 (by decide) wf_X11_193 rfl d_X11_isBrazier_9 ?_
  refine z_get (k := 0) (v := .int (M.1 ((ld (M.1 0 9) + 5) + 6) 0)) C ((E_0 (k_7_6 (k_4_7 (k_ld _))) G) _ _) (kU_in (k_7_6 (k_4_7 (k_ld _))) (by decide)) rfl inX0 (by decide) wf_X11_239 rfl d_X11_isBrazier_12 ?_
  refine z_iconst (v := (1 : Int32)) C d_X11_isBrazier_15 (by decide) ?_
  refine z_isub C d_X11_isBrazier_16 ?_
  obtain ⟨p2, e1, h⟩ := o_bd h
  refine z_S (S := []) (As := [.int x1, .int (0 : Int32), .int ((M.1 ((ld (M.1 0 9) + 5) + 6) 0) - (1 : Int32))]) C (c_X11_isAmong l G (M := M) e1) wc_X11_isAmong wm_X11_166 ws_X11_isAmong wi_X11 hy_X11_isAmong ⟨Nat.le_of_ble_eq_true rfl, Nat.le_of_ble_eq_true rfl⟩ rfl rfl (Nat.le_of_ble_eq_true rfl) d_X11_isBrazier_17 ?_
  obtain ⟨q3, h⟩ := o_ck h
  obtain rfl := o_some h
  exact z_zret C hlk hr (isB_nar q3) d_X11_isBrazier_20
theorem c_X11_isBrazier (l : Launch) (G : GG) {M : Mm} {x1 : Int32} {r : Int32} (h : f_X11_isBrazier M x1 = some r) : CT l 0 G y_X11_isBrazier prog_1_method_50_code 2 (some .boolean) 1 22 [.ref (gB G + 0), .int x1] M (some (.int r)) M :=
  CT.of (by decide +kernel) (Nat.le_of_ble_eq_true rfl) rfl (fun p e s m args below meth c C hlk hr => k_X11_isBrazier_0 C hlk hr h)
-- SnowSentries.brazier(II)I
set_option maxRecDepth 4000 in
theorem k_X11_brazier_0 {p : Program} {l : Launch} {e : Env} {s : State} {m : MethodId} {args : Array Value} {below : List Frame} {meth : Method} {c : Code} {G : GG} {M : Mm} {x1 : Int32} {x2 : Int32} {r : Int32} (C : CX p s m args c prog_1_method_10_code 4 "SnowSentries" 0 G) (hlk : meth.locks = false) (hr : meth.sig.returnType = (some .int)) : f_X11_brazier M x1 x2 = some r → Z p l e { frames := 2, cells := 0, slots := 0, locals := 43 } s m args below meth c 0 G 4 (MQ below (QC 0 G (some (.int r)) M) args s 0 0 (AU 0 G)) 0 [(0, .ref (gB G + 0)), (1, .int x1), (2, .int x2)] [] M := by
  intro h
  unfold f_X11_brazier at h
  refine z_aload_n 0 C d_X11_brazier_0 rfl rfl ?_
  refine z_get (k := 9) (v := .ref (gB G + (ld (M.1 0 9)))) C ((E_11 kx_0 G) _ _) (kU_in kx_0 (by decide)) rfl inX11 (by decide) wf_X11_69 rfl d_X11_brazier_1 ?_
  refine z_get (k := 7) (v := .ref (gB G + (ld (M.1 0 9) + 5))) C ((E_4 (k_ld _) G) _ _) (kU_in (k_ld _) (by decide)) rfl inX4 (by decide) wf_X11_113 rfl d_X11_brazier_4 ?_
  refine z_get (k := 6) (v := .ref (gB G + ((ld (M.1 0 9) + 5) + 6))) C ((E_7 (k_4_7 (k_ld _)) G) _ _) (kU_in (k_4_7 (k_ld _)) (by decide)) rfl inX7 (by decide) wf_X11_193 rfl d_X11_brazier_7 ?_
  obtain ⟨b1, e2, h⟩ := o_nm h
  have hb3 : kU 0 b1 = 0 := by rw [e2]; exact (k_7_6 (k_4_7 (k_ld _)))
  refine z_nA e2 ?_
  refine z_astore_n (L' := [(3, .ref (gB G + b1)), (0, .ref (gB G + 0)), (1, .int x1), (2, .int x2)]) C d_X11_brazier_10 rfl (by decide) rfl ?_
  refine z_aload_n 1 C d_X11_brazier_11 rfl rfl ?_
  refine z_iload_n 2 C d_X11_brazier_12 rfl rfl ?_
  obtain ⟨p5, e4, h⟩ := o_bd h
  refine z_V (S := []) (As := [.int x1]) C (c_X11_isBrazier l G e4) ((E_11 kx_0 G) _ _) (kU_in kx_0 (by decide)) rfl wc_X11_isBrazier wm_X11_197 ws_X11_isBrazier wl_X11_isBrazier wi_X11 hy_X11_isBrazier ⟨Nat.le_of_ble_eq_true rfl, Nat.le_of_ble_eq_true rfl⟩ rfl rfl (Nat.le_of_ble_eq_true rfl) d_X11_brazier_13 ?_
  refine z_if_ne C d_X11_brazier_16 (fun q6 => ?_) (fun q6 => ?_)
  · have h := o_f q6 h
    refine z_iload_n 3 C d_X11_brazier_21 rfl rfl ?_
    rcases Decidable.em (x2 = (0 : Int32)) with q7 | q7
    · have h := o_t q7 h
      refine z_tsw (tgt := 52) C d_X11_brazier_22 (Or.inr ⟨30, by rw [q7]; decide, by rw [q7]; decide, by rw [q7]; decide, by decide⟩) ?_
      refine z_aload_n 0 C d_X11_brazier_52 rfl rfl ?_
      refine z_get (k := 1) (v := .ref (gB G + (b1 + 1))) C ((E_0 hb3 G) _ _) (kU_in hb3 (by decide)) rfl inX0 (by decide) wf_X11_200 rfl d_X11_brazier_53 ?_
      refine z_iload_n 2 C d_X11_brazier_56 rfl rfl ?_
      obtain ⟨q8, h⟩ := o_ck h
      refine z_ald ((E_20 (k_0_1 hb3) G) _ _) C (kU_in (k_0_1 hb3) (by decide)) q8 d_X11_brazier_57 ?_
      obtain rfl := o_some h
      exact z_iret C hlk hr d_X11_brazier_58
    · have h := o_f q7 h
      rcases Decidable.em (x2 = (1 : Int32)) with q9 | q9
      · have h := o_t q9 h
        refine z_tsw (tgt := 59) C d_X11_brazier_22 (Or.inr ⟨37, by rw [q9]; decide, by rw [q9]; decide, by rw [q9]; decide, by decide⟩) ?_
        refine z_aload_n 0 C d_X11_brazier_59 rfl rfl ?_
        refine z_get (k := 2) (v := .ref (gB G + (b1 + 2))) C ((E_0 hb3 G) _ _) (kU_in hb3 (by decide)) rfl inX0 (by decide) wf_X11_205 rfl d_X11_brazier_60 ?_
        refine z_iload_n 2 C d_X11_brazier_63 rfl rfl ?_
        obtain ⟨q10, h⟩ := o_ck h
        refine z_ald ((E_20 (k_0_2 hb3) G) _ _) C (kU_in (k_0_2 hb3) (by decide)) q10 d_X11_brazier_64 ?_
        obtain rfl := o_some h
        exact z_iret C hlk hr d_X11_brazier_65
      · have h := o_f q9 h
        rcases Decidable.em (x2 = (2 : Int32)) with q11 | q11
        · have h := o_t q11 h
          refine z_tsw (tgt := 66) C d_X11_brazier_22 (Or.inr ⟨44, by rw [q11]; decide, by rw [q11]; decide, by rw [q11]; decide, by decide⟩) ?_
          refine z_aload_n 0 C d_X11_brazier_66 rfl rfl ?_
          refine z_get (k := 3) (v := .ref (gB G + (b1 + 3))) C ((E_0 hb3 G) _ _) (kU_in hb3 (by decide)) rfl inX0 (by decide) wf_X11_208 rfl d_X11_brazier_67 ?_
          refine z_iload_n 2 C d_X11_brazier_70 rfl rfl ?_
          obtain ⟨q12, h⟩ := o_ck h
          refine z_ald ((E_20 (k_0_3 hb3) G) _ _) C (kU_in (k_0_3 hb3) (by decide)) q12 d_X11_brazier_71 ?_
          obtain rfl := o_some h
          exact z_iret C hlk hr d_X11_brazier_72
        · have h := o_f q11 h
          rcases Decidable.em (x2 = (3 : Int32)) with q13 | q13
          · have h := o_t q13 h
            refine z_tsw (tgt := 73) C d_X11_brazier_22 (Or.inr ⟨51, by rw [q13]; decide, by rw [q13]; decide, by rw [q13]; decide, by decide⟩) ?_
            refine z_aload_n 0 C d_X11_brazier_73 rfl rfl ?_
            refine z_get (k := 4) (v := .ref (gB G + (b1 + 4))) C ((E_0 hb3 G) _ _) (kU_in hb3 (by decide)) rfl inX0 (by decide) wf_X11_211 rfl d_X11_brazier_74 ?_
            refine z_iload_n 2 C d_X11_brazier_77 rfl rfl ?_
            obtain ⟨q14, h⟩ := o_ck h
            refine z_ald ((E_20 (k_0_4 hb3) G) _ _) C (kU_in (k_0_4 hb3) (by decide)) q14 d_X11_brazier_78 ?_
            obtain rfl := o_some h
            exact z_iret C hlk hr d_X11_brazier_79
          · have h := o_f q13 h
            have nq7 := lv_neT (a := 0) q7 (by decide)
            have nq9 := lv_neT (a := 1) q9 (by decide)
            have nq11 := lv_neT (a := 2) q11 (by decide)
            have nq13 := lv_neT (a := 3) q13 (by decide)
            refine z_tsw (tgt := 80) C d_X11_brazier_22 (Or.inl ⟨by omega, by decide⟩) ?_
            refine z_iconst (v := (-1 : Int32)) C d_X11_brazier_80 (by decide) ?_
            obtain rfl := o_some h
            exact z_iret C hlk hr d_X11_brazier_81
  · have h := o_t q6 h
    refine z_iconst (v := (-1 : Int32)) C d_X11_brazier_19 (by decide) ?_
    obtain rfl := o_some h
    exact z_iret C hlk hr d_X11_brazier_20
theorem c_X11_brazier (l : Launch) (G : GG) {M : Mm} {x1 : Int32} {x2 : Int32} {r : Int32} (h : f_X11_brazier M x1 x2 = some r) : CT l 0 G y_X11_brazier prog_1_method_10_code 4 (some .int) 2 43 [.ref (gB G + 0), .int x1, .int x2] M (some (.int r)) M :=
  CT.of (by decide +kernel) (Nat.le_of_ble_eq_true rfl) rfl (fun p e s m args below meth c C hlk hr => k_X11_brazier_0 C hlk hr h)
-- SnowSentries.house(II)I
set_option maxRecDepth 4000 in
theorem k_X11_house_0 {p : Program} {l : Launch} {e : Env} {s : State} {m : MethodId} {args : Array Value} {below : List Frame} {meth : Method} {c : Code} {G : GG} {M : Mm} {x1 : Int32} {x2 : Int32} {r : Int32} (C : CX p s m args c prog_1_method_11_code 3 "SnowSentries" 0 G) (hlk : meth.locks = false) (hr : meth.sig.returnType = (some .int)) : f_X11_house M x1 x2 = some r → Z p l e { frames := 1, cells := 0, slots := 0, locals := 23 } s m args below meth c 0 G 3 (MQ below (QC 0 G (some (.int r)) M) args s 0 0 (AU 0 G)) 0 [(0, .ref (gB G + 0)), (1, .int x1), (2, .int x2)] [] M := by
  intro h
  unfold f_X11_house at h
  refine z_iload_n 1 C d_X11_house_0 rfl rfl ?_
  refine z_iconst (v := (0 : Int32)) C d_X11_house_1 (by decide) ?_
  refine z_aload_n 0 C d_X11_house_2 rfl rfl ?_
  refine z_get (k := 9) (v := .ref (gB G + (ld (M.1 0 9)))) C ((E_11 kx_0 G) _ _) (kU_in kx_0 (by decide)) rfl inX11 (by decide) wf_X11_69 rfl d_X11_house_3 ?_
  refine z_get (k := 4) (v := .int (M.1 (ld (M.1 0 9)) 4)) C ((E_4 (k_ld _) G) _ _) (kU_in (k_ld _) (by decide)) rfl inX4 (by decide) wf_X11_214 rfl d_X11_house_6 ?_
  refine z_iconst (v := (1 : Int32)) C d_X11_house_9 (by decide) ?_
  refine z_isub C d_X11_house_10 ?_
  obtain ⟨p2, e1, h⟩ := o_bd h
  refine z_S (S := []) (As := [.int x1, .int (0 : Int32), .int ((M.1 (ld (M.1 0 9)) 4) - (1 : Int32))]) C (c_X11_isAmong l G (M := M) e1) wc_X11_isAmong wm_X11_166 ws_X11_isAmong wi_X11 hy_X11_isAmong ⟨Nat.le_of_ble_eq_true rfl, Nat.le_of_ble_eq_true rfl⟩ rfl rfl (Nat.le_of_ble_eq_true rfl) d_X11_house_11 ?_
  refine z_if_ne C d_X11_house_14 (fun q3 => ?_) (fun q3 => ?_)
  · have h := o_f q3 h
    refine z_iload_n 2 C d_X11_house_19 rfl rfl ?_
    rcases Decidable.em (x2 = (0 : Int32)) with q4 | q4
    · have h := o_t q4 h
      refine z_tsw (tgt := 48) C d_X11_house_20 (Or.inr ⟨28, by rw [q4]; decide, by rw [q4]; decide, by rw [q4]; decide, by decide⟩) ?_
      refine z_aload_n 0 C d_X11_house_48 rfl rfl ?_
      refine z_get (k := 9) (v := .ref (gB G + (ld (M.1 0 9)))) C ((E_11 kx_0 G) _ _) (kU_in kx_0 (by decide)) rfl inX11 (by decide) wf_X11_69 rfl d_X11_house_49 ?_
      refine z_get (k := 5) (v := .ref (gB G + (ld (M.1 0 9) + 3))) C ((E_4 (k_ld _) G) _ _) (kU_in (k_ld _) (by decide)) rfl inX4 (by decide) wf_X11_217 rfl d_X11_house_52 ?_
      refine z_iload_n 1 C d_X11_house_55 rfl rfl ?_
      obtain ⟨q5, h⟩ := o_ck h
      refine z_ald ((E_23 (k_4_5 (k_ld _)) G) _ _) C (kU_in (k_4_5 (k_ld _)) (by decide)) q5 d_X11_house_56 ?_
      obtain rfl := o_some h
      exact z_iret C hlk hr d_X11_house_57
    · have h := o_f q4 h
      rcases Decidable.em (x2 = (1 : Int32)) with q6 | q6
      · have h := o_t q6 h
        refine z_tsw (tgt := 58) C d_X11_house_20 (Or.inr ⟨38, by rw [q6]; decide, by rw [q6]; decide, by rw [q6]; decide, by decide⟩) ?_
        refine z_aload_n 0 C d_X11_house_58 rfl rfl ?_
        refine z_get (k := 9) (v := .ref (gB G + (ld (M.1 0 9)))) C ((E_11 kx_0 G) _ _) (kU_in kx_0 (by decide)) rfl inX11 (by decide) wf_X11_69 rfl d_X11_house_59 ?_
        refine z_get (k := 6) (v := .ref (gB G + (ld (M.1 0 9) + 4))) C ((E_4 (k_ld _) G) _ _) (kU_in (k_ld _) (by decide)) rfl inX4 (by decide) wf_X11_220 rfl d_X11_house_62 ?_
        refine z_iload_n 1 C d_X11_house_65 rfl rfl ?_
        obtain ⟨q7, h⟩ := o_ck h
        refine z_ald ((E_23 (k_4_6 (k_ld _)) G) _ _) C (kU_in (k_4_6 (k_ld _)) (by decide)) q7 d_X11_house_66 ?_
        refine z_bipush (v := (100 : Int32)) C d_X11_house_67 (by decide) ?_
        refine z_iadd C d_X11_house_69 ?_
        obtain rfl := o_some h
        exact z_iret C hlk hr d_X11_house_70
      · have h := o_f q6 h
        rcases Decidable.em (x2 = (2 : Int32)) with q8 | q8
        · have h := o_t q8 h
          refine z_tsw (tgt := 71) C d_X11_house_20 (Or.inr ⟨51, by rw [q8]; decide, by rw [q8]; decide, by rw [q8]; decide, by decide⟩) ?_
          refine z_aload_n 0 C d_X11_house_71 rfl rfl ?_
          refine z_get (k := 9) (v := .ref (gB G + (ld (M.1 0 9)))) C ((E_11 kx_0 G) _ _) (kU_in kx_0 (by decide)) rfl inX11 (by decide) wf_X11_69 rfl d_X11_house_72 ?_
          refine z_iload_n 1 C d_X11_house_75 rfl rfl ?_
          refine z_aload_n 0 C d_X11_house_76 rfl rfl ?_
          refine z_get (k := 9) (v := .ref (gB G + (ld (M.1 0 9)))) C ((E_11 kx_0 G) _ _) (kU_in kx_0 (by decide)) rfl inX11 (by decide) wf_X11_69 rfl d_X11_house_77 ?_
          refine z_get (k := 7) (v := .ref (gB G + (ld (M.1 0 9) + 5))) C ((E_4 (k_ld _) G) _ _) (kU_in (k_ld _) (by decide)) rfl inX4 (by decide) wf_X11_113 rfl d_X11_house_80 ?_
          obtain ⟨p10, e9, h⟩ := o_bd h
          refine z_V (S := []) (As := [.int x1, .ref (gB G + (ld (M.1 0 9) + 5))]) C (c_X4_ownerOf l G (k_ld _) (k_4_7 (k_ld _)) e9) ((E_4 (k_ld _) G) _ _) (kU_in (k_ld _) (by decide)) rfl wc_X4_ownerOf wm_X11_223 ws_X4_ownerOf wl_X4_ownerOf wi_X4 hy_X4_ownerOf ⟨Nat.le_of_ble_eq_true rfl, Nat.le_of_ble_eq_true rfl⟩ rfl rfl (Nat.le_of_ble_eq_true rfl) d_X11_house_83 ?_
          obtain rfl := o_some h
          exact z_iret C hlk hr d_X11_house_86
        · have h := o_f q8 h
          have nq4 := lv_neT (a := 0) q4 (by decide)
          have nq6 := lv_neT (a := 1) q6 (by decide)
          have nq8 := lv_neT (a := 2) q8 (by decide)
          refine z_tsw (tgt := 87) C d_X11_house_20 (Or.inl ⟨by omega, by decide⟩) ?_
          refine z_iconst (v := (-1 : Int32)) C d_X11_house_87 (by decide) ?_
          obtain rfl := o_some h
          exact z_iret C hlk hr d_X11_house_88
  · have h := o_t q3 h
    refine z_iconst (v := (-1 : Int32)) C d_X11_house_17 (by decide) ?_
    obtain rfl := o_some h
    exact z_iret C hlk hr d_X11_house_18
theorem c_X11_house (l : Launch) (G : GG) {M : Mm} {x1 : Int32} {x2 : Int32} {r : Int32} (h : f_X11_house M x1 x2 = some r) : CT l 0 G y_X11_house prog_1_method_11_code 3 (some .int) 1 23 [.ref (gB G + 0), .int x1, .int x2] M (some (.int r)) M :=
  CT.of (by decide +kernel) (Nat.le_of_ble_eq_true rfl) rfl (fun p e s m args below meth c C hlk hr => k_X11_house_0 C hlk hr h)
-- SnowSentries.shine(II)I
set_option maxRecDepth 4000 in
theorem k_X11_shine_17 {p : Program} {l : Launch} {e : Env} {s : State} {m : MethodId} {args : Array Value} {below : List Frame} {meth : Method} {c : Code} {G : GG} {M : Mm} {r : Int32} {M2 : Mm} (C : CX p s m args c prog_1_method_12_code 4 "SnowSentries" 0 G) (hlk : meth.locks = false) (hr : meth.sig.returnType = (some .int)) : f_X11_shine_17 M = some (r, M2) → Z p l e { frames := 2, cells := 0, slots := 0, locals := 42 } s m args below meth c 0 G 4 (MQ below (QC 0 G (some (.int r)) M2) args s 0 0 (AU 0 G)) 17 [] [] M := by
  intro h
  unfold f_X11_shine_17 at h
  refine z_iconst (v := (-1 : Int32)) C d_X11_shine_17 (by decide) ?_
  obtain ⟨rfl, rfl⟩ := o_pair h
  exact z_iret C hlk hr d_X11_shine_18
set_option maxRecDepth 4000 in
theorem k_X11_shine_0 {p : Program} {l : Launch} {e : Env} {s : State} {m : MethodId} {args : Array Value} {below : List Frame} {meth : Method} {c : Code} {G : GG} {M : Mm} {x1 : Int32} {x2 : Int32} {r : Int32} {M2 : Mm} (C : CX p s m args c prog_1_method_12_code 4 "SnowSentries" 0 G) (hlk : meth.locks = false) (hr : meth.sig.returnType = (some .int)) : f_X11_shine M x1 x2 = some (r, M2) → Z p l e { frames := 2, cells := 0, slots := 0, locals := 42 } s m args below meth c 0 G 4 (MQ below (QC 0 G (some (.int r)) M2) args s 0 0 (AU 0 G)) 0 [(0, .ref (gB G + 0)), (1, .int x1), (2, .int x2)] [] M := by
  intro h
  unfold f_X11_shine at h
  refine z_iload_n 1 C d_X11_shine_0 rfl rfl ?_
  obtain ⟨p2, e1, h⟩ := o_bd h
  refine z_S (S := []) (As := [.int x1]) C (c_X11_isHour l G (M := M) e1) wc_X11_isHour wm_X11_137 ws_X11_isHour wi_X11 hy_X11_isHour ⟨Nat.le_of_ble_eq_true rfl, Nat.le_of_ble_eq_true rfl⟩ rfl rfl (Nat.le_of_ble_eq_true rfl) d_X11_shine_1 ?_
  refine z_if_eq C d_X11_shine_4 (fun q3 => ?_) (fun q3 => ?_)
  · have h := o_t q3 h
    exact z_sub [] rfl (k_X11_shine_17 C hlk hr h)
  · have h := o_f q3 h
    refine z_iload_n 2 C d_X11_shine_7 rfl rfl ?_
    refine z_iconst (v := (0 : Int32)) C d_X11_shine_8 (by decide) ?_
    refine z_bipush (v := (9 : Int32)) C d_X11_shine_9 (by decide) ?_
    obtain ⟨p5, e4, h⟩ := o_bd h
    refine z_S (S := []) (As := [.int x2, .int (0 : Int32), .int (9 : Int32)]) C (c_X11_isAmong l G (M := M) e4) wc_X11_isAmong wm_X11_166 ws_X11_isAmong wi_X11 hy_X11_isAmong ⟨Nat.le_of_ble_eq_true rfl, Nat.le_of_ble_eq_true rfl⟩ rfl rfl (Nat.le_of_ble_eq_true rfl) d_X11_shine_11 ?_
    refine z_if_ne C d_X11_shine_14 (fun q6 => ?_) (fun q6 => ?_)
    · have h := o_f q6 h
      refine z_aload_n 0 C d_X11_shine_19 rfl rfl ?_
      refine z_get (k := 9) (v := .ref (gB G + (ld (M.1 0 9)))) C ((E_11 kx_0 G) _ _) (kU_in kx_0 (by decide)) rfl inX11 (by decide) wf_X11_69 rfl d_X11_shine_20 ?_
      refine z_get (k := 7) (v := .ref (gB G + (ld (M.1 0 9) + 5))) C ((E_4 (k_ld _) G) _ _) (kU_in (k_ld _) (by decide)) rfl inX4 (by decide) wf_X11_113 rfl d_X11_shine_23 ?_
      refine z_get (k := 5) (v := .ref (gB G + ((ld (M.1 0 9) + 5) + 5))) C ((E_7 (k_4_7 (k_ld _)) G) _ _) (kU_in (k_4_7 (k_ld _)) (by decide)) rfl inX7 (by decide) wf_X11_141 rfl d_X11_shine_26 ?_
      refine z_iload_n 1 C d_X11_shine_29 rfl rfl ?_
      obtain ⟨q7, h⟩ := o_ck h
      refine z_ald ((E_22 (k_7_5 (k_4_7 (k_ld _))) G) _ _) C (kU_in (k_7_5 (k_4_7 (k_ld _))) (by decide)) q7 d_X11_shine_30 ?_
      obtain ⟨v8, e9, h⟩ := o_nm h
      refine z_nI e9 ?_
      refine z_istore_n (L' := [(3, .int v8), (0, .ref (gB G + 0)), (1, .int x1), (2, .int x2)]) C d_X11_shine_31 rfl (by decide) rfl ?_
      refine z_aload_n 1 C d_X11_shine_32 rfl rfl ?_
      refine z_get (k := 9) (v := .ref (gB G + (ld (M.1 0 9)))) C ((E_11 kx_0 G) _ _) (kU_in kx_0 (by decide)) rfl inX11 (by decide) wf_X11_69 rfl d_X11_shine_33 ?_
      refine z_get (k := 7) (v := .ref (gB G + (ld (M.1 0 9) + 5))) C ((E_4 (k_ld _) G) _ _) (kU_in (k_ld _) (by decide)) rfl inX4 (by decide) wf_X11_113 rfl d_X11_shine_36 ?_
      refine z_get (k := 5) (v := .ref (gB G + ((ld (M.1 0 9) + 5) + 5))) C ((E_7 (k_4_7 (k_ld _)) G) _ _) (kU_in (k_4_7 (k_ld _)) (by decide)) rfl inX7 (by decide) wf_X11_141 rfl d_X11_shine_39 ?_
      refine z_iload_n 2 C d_X11_shine_42 rfl rfl ?_
      refine z_iload_n 3 C d_X11_shine_43 rfl rfl ?_
      obtain ⟨M10, e11, h⟩ := o_wr h
      refine z_ast (fun r q => (E_22 (k_7_5 (k_4_7 (k_ld _))) G) r q) C (kU_in (k_7_5 (k_4_7 (k_ld _))) (by decide)) q7 d_X11_shine_44 ?_
      refine z_nM e11 ?_
      refine z_iload_n 0 C d_X11_shine_45 rfl rfl ?_
      obtain ⟨rfl, rfl⟩ := o_pair h
      exact z_iret C hlk hr d_X11_shine_46
    · have h := o_t q6 h
      exact z_sub [] rfl (k_X11_shine_17 C hlk hr h)
theorem c_X11_shine (l : Launch) (G : GG) {M : Mm} {x1 : Int32} {x2 : Int32} {r : Int32} {M2 : Mm} (h : f_X11_shine M x1 x2 = some (r, M2)) : CT l 0 G y_X11_shine prog_1_method_12_code 4 (some .int) 2 42 [.ref (gB G + 0), .int x1, .int x2] M (some (.int r)) M2 :=
  CT.of (by decide +kernel) (Nat.le_of_ble_eq_true rfl) rfl (fun p e s m args below meth c C hlk hr => k_X11_shine_0 C hlk hr h)
-- SnowSentries.treaty(II)I
set_option maxRecDepth 4000 in
theorem k_X11_treaty_0 {p : Program} {l : Launch} {e : Env} {s : State} {m : MethodId} {args : Array Value} {below : List Frame} {meth : Method} {c : Code} {G : GG} {M : Mm} {x1 : Int32} {x2 : Int32} {r : Int32} {M2 : Mm} (C : CX p s m args c prog_1_method_13_code 3 "SnowSentries" 0 G) (hlk : meth.locks = false) (hr : meth.sig.returnType = (some .int)) : f_X11_treaty M x1 x2 = some (r, M2) → Z p l e { frames := 2, cells := 0, slots := 0, locals := 45 } s m args below meth c 0 G 3 (MQ below (QC 0 G (some (.int r)) M2) args s 0 0 (AU 0 G)) 0 [(0, .ref (gB G + 0)), (1, .int x1), (2, .int x2)] [] M := by
  intro h
  unfold f_X11_treaty at h
  refine z_aload_n 0 C d_X11_treaty_0 rfl rfl ?_
  refine z_get (k := 9) (v := .ref (gB G + (ld (M.1 0 9)))) C ((E_11 kx_0 G) _ _) (kU_in kx_0 (by decide)) rfl inX11 (by decide) wf_X11_69 rfl d_X11_treaty_1 ?_
  refine z_get (k := 3) (v := .ref (gB G + (ld (M.1 0 9) + 2))) C ((E_4 (k_ld _) G) _ _) (kU_in (k_ld _) (by decide)) rfl inX4 (by decide) wf_X11_119 rfl d_X11_treaty_4 ?_
  refine z_iload_n 1 C d_X11_treaty_7 rfl rfl ?_
  refine z_iload_n 2 C d_X11_treaty_8 rfl rfl ?_
  obtain ⟨p2, e1, h⟩ := o_bd h
  refine z_V (S := []) (As := [.int x1, .int x2]) C (c_X5_change l G (k_4_3 (k_ld _)) e1) ((E_5 (k_4_3 (k_ld _)) G) _ _) (kU_in (k_4_3 (k_ld _)) (by decide)) rfl wc_X5_change wm_X11_227 ws_X5_change wl_X5_change wi_X5 hy_X5_change ⟨Nat.le_of_ble_eq_true rfl, Nat.le_of_ble_eq_true rfl⟩ rfl rfl (Nat.le_of_ble_eq_true rfl) d_X11_treaty_9 ?_
  obtain ⟨rfl, rfl⟩ := o_pair h
  exact z_iret C hlk hr d_X11_treaty_12
theorem c_X11_treaty (l : Launch) (G : GG) {M : Mm} {x1 : Int32} {x2 : Int32} {r : Int32} {M2 : Mm} (h : f_X11_treaty M x1 x2 = some (r, M2)) : CT l 0 G y_X11_treaty prog_1_method_13_code 3 (some .int) 2 45 [.ref (gB G + 0), .int x1, .int x2] M (some (.int r)) M2 :=
  CT.of (by decide +kernel) (Nat.le_of_ble_eq_true rfl) rfl (fun p e s m args below meth c C hlk hr => k_X11_treaty_0 C hlk hr h)
-- SnowSentries.chance(I)I
set_option maxRecDepth 4000 in
theorem k_X11_chance_0 {p : Program} {l : Launch} {e : Env} {s : State} {m : MethodId} {args : Array Value} {below : List Frame} {meth : Method} {c : Code} {G : GG} {M : Mm} {x1 : Int32} {r : Int32} {M2 : Mm} (C : CX p s m args c prog_1_method_14_code 3 "SnowSentries" 0 G) (hlk : meth.locks = false) (hr : meth.sig.returnType = (some .int)) : f_X11_chance M x1 = some (r, M2) → Z p l e { frames := 1, cells := 0, slots := 0, locals := 22 } s m args below meth c 0 G 3 (MQ below (QC 0 G (some (.int r)) M2) args s 0 0 (AU 0 G)) 0 [(0, .ref (gB G + 0)), (1, .int x1)] [] M := by
  intro h
  unfold f_X11_chance at h
  refine z_iload_n 1 C d_X11_chance_0 rfl rfl ?_
  refine z_iconst (v := (0 : Int32)) C d_X11_chance_1 (by decide) ?_
  refine z_bipush (v := (10 : Int32)) C d_X11_chance_2 (by decide) ?_
  obtain ⟨p2, e1, h⟩ := o_bd h
  refine z_S (S := []) (As := [.int x1, .int (0 : Int32), .int (10 : Int32)]) C (c_X11_isAmong l G (M := M) e1) wc_X11_isAmong wm_X11_166 ws_X11_isAmong wi_X11 hy_X11_isAmong ⟨Nat.le_of_ble_eq_true rfl, Nat.le_of_ble_eq_true rfl⟩ rfl rfl (Nat.le_of_ble_eq_true rfl) d_X11_chance_4 ?_
  refine z_if_ne C d_X11_chance_7 (fun q3 => ?_) (fun q3 => ?_)
  · have h := o_f q3 h
    refine z_aload_n 0 C d_X11_chance_12 rfl rfl ?_
    refine z_get (k := 9) (v := .ref (gB G + (ld (M.1 0 9)))) C ((E_11 kx_0 G) _ _) (kU_in kx_0 (by decide)) rfl inX11 (by decide) wf_X11_69 rfl d_X11_chance_13 ?_
    refine z_get (k := 1) (v := .int (M.1 (ld (M.1 0 9)) 1)) C ((E_4 (k_ld _) G) _ _) (kU_in (k_ld _) (by decide)) rfl inX4 (by decide) wf_X11_134 rfl d_X11_chance_16 ?_
    obtain ⟨v4, e5, h⟩ := o_nm h
    refine z_nI e5 ?_
    refine z_istore_n (L' := [(2, .int v4), (0, .ref (gB G + 0)), (1, .int x1)]) C d_X11_chance_19 rfl (by decide) rfl ?_
    refine z_aload_n 1 C d_X11_chance_20 rfl rfl ?_
    refine z_get (k := 9) (v := .ref (gB G + (ld (M.1 0 9)))) C ((E_11 kx_0 G) _ _) (kU_in kx_0 (by decide)) rfl inX11 (by decide) wf_X11_69 rfl d_X11_chance_21 ?_
    refine z_iload_n 2 C d_X11_chance_24 rfl rfl ?_
    obtain ⟨M6, e7, h⟩ := o_wr h
    refine z_pI (k := 1) (ty := .int) C (fun r q => (E_4 (k_ld _) G) r q) (fun _ _ => rfl) (kU_in (k_ld _) (by decide)) rfl inX4 tyX4 tyX4_ok nmX4 (by decide) wf_X11_134 rfl (by decide +kernel) rfl rfl (Nat.le_of_ble_eq_true rfl) d_X11_chance_25 ?_
    refine z_nM e7 ?_
    refine z_iload_n 0 C d_X11_chance_28 rfl rfl ?_
    obtain ⟨rfl, rfl⟩ := o_pair h
    exact z_iret C hlk hr d_X11_chance_29
  · have h := o_t q3 h
    refine z_iconst (v := (-1 : Int32)) C d_X11_chance_10 (by decide) ?_
    obtain ⟨rfl, rfl⟩ := o_pair h
    exact z_iret C hlk hr d_X11_chance_11
theorem c_X11_chance (l : Launch) (G : GG) {M : Mm} {x1 : Int32} {r : Int32} {M2 : Mm} (h : f_X11_chance M x1 = some (r, M2)) : CT l 0 G y_X11_chance prog_1_method_14_code 3 (some .int) 1 22 [.ref (gB G + 0), .int x1] M (some (.int r)) M2 :=
  CT.of (by decide +kernel) (Nat.le_of_ble_eq_true rfl) rfl (fun p e s m args below meth c C hlk hr => k_X11_chance_0 C hlk hr h)
-- SnowSentries.light(IIII)I
set_option maxRecDepth 4000 in
theorem k_X11_light_18 {p : Program} {l : Launch} {e : Env} {s : State} {m : MethodId} {args : Array Value} {below : List Frame} {meth : Method} {c : Code} {G : GG} {M : Mm} {r : Int32} {M2 : Mm} (C : CX p s m args c prog_1_method_15_code 6 "SnowSentries" 0 G) (hlk : meth.locks = false) (hr : meth.sig.returnType = (some .int)) : f_X11_light_18 M = some (r, M2) → Z p l e { frames := 2, cells := 0, slots := 0, locals := 44 } s m args below meth c 0 G 6 (MQ below (QC 0 G (some (.int r)) M2) args s 0 0 (AU 0 G)) 18 [] [] M := by
  intro h
  unfold f_X11_light_18 at h
  refine z_iconst (v := (-1 : Int32)) C d_X11_light_18 (by decide) ?_
  obtain ⟨rfl, rfl⟩ := o_pair h
  exact z_iret C hlk hr d_X11_light_19
set_option maxRecDepth 4000 in
theorem k_X11_light_41 {p : Program} {l : Launch} {e : Env} {s : State} {m : MethodId} {args : Array Value} {below : List Frame} {meth : Method} {c : Code} {G : GG} {M : Mm} {r : Int32} {M2 : Mm} (C : CX p s m args c prog_1_method_15_code 6 "SnowSentries" 0 G) (hlk : meth.locks = false) (hr : meth.sig.returnType = (some .int)) : f_X11_light_41 M = some (r, M2) → Z p l e { frames := 2, cells := 0, slots := 0, locals := 44 } s m args below meth c 0 G 6 (MQ below (QC 0 G (some (.int r)) M2) args s 0 0 (AU 0 G)) 41 [] [] M := by
  intro h
  unfold f_X11_light_41 at h
  refine z_iconst (v := (-1 : Int32)) C d_X11_light_41 (by decide) ?_
  obtain ⟨rfl, rfl⟩ := o_pair h
  exact z_iret C hlk hr d_X11_light_42
set_option maxRecDepth 4000 in
theorem k_X11_light_0 {p : Program} {l : Launch} {e : Env} {s : State} {m : MethodId} {args : Array Value} {below : List Frame} {meth : Method} {c : Code} {G : GG} {M : Mm} {x1 : Int32} {x2 : Int32} {x3 : Int32} {x4 : Int32} {r : Int32} {M2 : Mm} (C : CX p s m args c prog_1_method_15_code 6 "SnowSentries" 0 G) (hlk : meth.locks = false) (hr : meth.sig.returnType = (some .int)) : f_X11_light M x1 x2 x3 x4 = some (r, M2) → Z p l e { frames := 2, cells := 0, slots := 0, locals := 44 } s m args below meth c 0 G 6 (MQ below (QC 0 G (some (.int r)) M2) args s 0 0 (AU 0 G)) 0 [(0, .ref (gB G + 0)), (1, .int x1), (2, .int x2), (3, .int x3), (4, .int x4)] [] M := by
  intro h
  unfold f_X11_light at h
  refine z_aload_n 0 C d_X11_light_0 rfl rfl ?_
  refine z_iload_n 1 C d_X11_light_1 rfl rfl ?_
  obtain ⟨p2, e1, h⟩ := o_bd h
  refine z_V (S := []) (As := [.int x1]) C (c_X11_isFurlong l G e1) ((E_11 kx_0 G) _ _) (kU_in kx_0 (by decide)) rfl wc_X11_isFurlong wm_X11_148 ws_X11_isFurlong wl_X11_isFurlong wi_X11 hy_X11_isFurlong ⟨Nat.le_of_ble_eq_true rfl, Nat.le_of_ble_eq_true rfl⟩ rfl rfl (Nat.le_of_ble_eq_true rfl) d_X11_light_2 ?_
  refine z_if_eq C d_X11_light_5 (fun q3 => ?_) (fun q3 => ?_)
  · have h := o_t q3 h
    exact z_sub [] rfl (k_X11_light_18 C hlk hr h)
  · have h := o_f q3 h
    refine z_iload_n 2 C d_X11_light_8 rfl rfl ?_
    refine z_iconst (v := (1 : Int32)) C d_X11_light_9 (by decide) ?_
    refine z_bipush (v := (20 : Int32)) C d_X11_light_10 (by decide) ?_
    obtain ⟨p5, e4, h⟩ := o_bd h
    refine z_S (S := []) (As := [.int x2, .int (1 : Int32), .int (20 : Int32)]) C (c_X11_isAmong l G (M := M) e4) wc_X11_isAmong wm_X11_166 ws_X11_isAmong wi_X11 hy_X11_isAmong ⟨Nat.le_of_ble_eq_true rfl, Nat.le_of_ble_eq_true rfl⟩ rfl rfl (Nat.le_of_ble_eq_true rfl) d_X11_light_12 ?_
    refine z_if_ne C d_X11_light_15 (fun q6 => ?_) (fun q6 => ?_)
    · have h := o_f q6 h
      refine z_iload_n 3 C d_X11_light_20 rfl rfl ?_
      obtain ⟨p8, e7, h⟩ := o_bd h
      refine z_S (S := []) (As := [.int x3]) C (c_X11_isHour l G (M := M) e7) wc_X11_isHour wm_X11_137 ws_X11_isHour wi_X11 hy_X11_isHour ⟨Nat.le_of_ble_eq_true rfl, Nat.le_of_ble_eq_true rfl⟩ rfl rfl (Nat.le_of_ble_eq_true rfl) d_X11_light_21 ?_
      refine z_if_eq C d_X11_light_24 (fun q9 => ?_) (fun q9 => ?_)
      · have h := o_t q9 h
        exact z_sub [] rfl (k_X11_light_41 C hlk hr h)
      · have h := o_f q9 h
        refine z_iload 4 C d_X11_light_27 rfl ?_
        obtain ⟨p11, e10, h⟩ := o_bd h
        refine z_S (S := []) (As := [.int x4]) C (c_X11_isHour l G (M := M) e10) wc_X11_isHour wm_X11_137 ws_X11_isHour wi_X11 hy_X11_isHour ⟨Nat.le_of_ble_eq_true rfl, Nat.le_of_ble_eq_true rfl⟩ rfl rfl (Nat.le_of_ble_eq_true rfl) d_X11_light_29 ?_
        refine z_if_eq C d_X11_light_32 (fun q12 => ?_) (fun q12 => ?_)
        · have h := o_t q12 h
          exact z_sub [] rfl (k_X11_light_41 C hlk hr h)
        · have h := o_f q12 h
          refine z_iload 4 C d_X11_light_35 rfl ?_
          refine z_iload_n 3 C d_X11_light_37 rfl rfl ?_
          refine z_icmp_ge C d_X11_light_38 (fun q13 => ?_) (fun q13 => ?_)
          · have h := o_t q13 h
            refine z_aload_n 0 C d_X11_light_43 rfl rfl ?_
            refine z_get (k := 9) (v := .ref (gB G + (ld (M.1 0 9)))) C ((E_11 kx_0 G) _ _) (kU_in kx_0 (by decide)) rfl inX11 (by decide) wf_X11_69 rfl d_X11_light_44 ?_
            refine z_get (k := 7) (v := .ref (gB G + (ld (M.1 0 9) + 5))) C ((E_4 (k_ld _) G) _ _) (kU_in (k_ld _) (by decide)) rfl inX4 (by decide) wf_X11_113 rfl d_X11_light_47 ?_
            refine z_get (k := 6) (v := .ref (gB G + ((ld (M.1 0 9) + 5) + 6))) C ((E_7 (k_4_7 (k_ld _)) G) _ _) (kU_in (k_4_7 (k_ld _)) (by decide)) rfl inX7 (by decide) wf_X11_193 rfl d_X11_light_50 ?_
            obtain ⟨b14, e15, h⟩ := o_nm h
            have hb16 : kU 0 b14 = 0 := by rw [e15]; exact (k_7_6 (k_4_7 (k_ld _)))
            refine z_nA e15 ?_
            refine z_astore (L' := [(5, .ref (gB G + b14)), (0, .ref (gB G + 0)), (1, .int x1), (2, .int x2), (3, .int x3), (4, .int x4)]) C d_X11_light_53 (by decide) rfl ?_
            refine z_aload 0 C d_X11_light_55 rfl ?_
            obtain ⟨p18, e17, h⟩ := o_bd h
            refine z_V (S := []) (As := []) C (c_X0_isFull l G hb16 e17) ((E_0 hb16 G) _ _) (kU_in hb16 (by decide)) rfl wc_X0_isFull wm_X11_231 ws_X0_isFull wl_X0_isFull wi_X0 hy_X0_isFull ⟨Nat.le_of_ble_eq_true rfl, Nat.le_of_ble_eq_true rfl⟩ rfl rfl (Nat.le_of_ble_eq_true rfl) d_X11_light_57 ?_
            refine z_if_eq C d_X11_light_60 (fun q19 => ?_) (fun q19 => ?_)
            · have h := o_t q19 h
              refine z_aload 0 C d_X11_light_66 rfl ?_
              refine z_iload_n 2 C d_X11_light_68 rfl rfl ?_
              refine z_iload_n 3 C d_X11_light_69 rfl rfl ?_
              refine z_iload_n 4 C d_X11_light_70 rfl rfl ?_
              refine z_iload 5 C d_X11_light_71 rfl ?_
              obtain ⟨p21, e20, h⟩ := o_bd h
              refine z_V (S := []) (As := [.int x1, .int x2, .int x3, .int x4]) C (c_X0_put l G hb16 e20) ((E_0 hb16 G) _ _) (kU_in hb16 (by decide)) rfl wc_X0_put wm_X11_235 ws_X0_put wl_X0_put wi_X0 hy_X0_put ⟨Nat.le_of_ble_eq_true rfl, Nat.le_of_ble_eq_true rfl⟩ rfl rfl (Nat.le_of_ble_eq_true rfl) d_X11_light_73 ?_
              refine z_aload 0 C d_X11_light_76 rfl ?_
              refine z_get (k := 0) (v := .int (p21.1 b14 0)) C ((E_0 hb16 G) _ _) (kU_in hb16 (by decide)) rfl inX0 (by decide) wf_X11_239 rfl d_X11_light_78 ?_
              obtain ⟨rfl, rfl⟩ := o_pair h
              exact z_iret C hlk hr d_X11_light_81
            · have h := o_f q19 h
              refine z_bipush (v := (-3 : Int32)) C d_X11_light_63 (by decide) ?_
              obtain ⟨rfl, rfl⟩ := o_pair h
              exact z_iret C hlk hr d_X11_light_65
          · have h := o_f q13 h
            exact z_sub [] rfl (k_X11_light_41 C hlk hr h)
    · have h := o_t q6 h
      exact z_sub [] rfl (k_X11_light_18 C hlk hr h)
theorem c_X11_light (l : Launch) (G : GG) {M : Mm} {x1 : Int32} {x2 : Int32} {x3 : Int32} {x4 : Int32} {r : Int32} {M2 : Mm} (h : f_X11_light M x1 x2 x3 x4 = some (r, M2)) : CT l 0 G y_X11_light prog_1_method_15_code 6 (some .int) 2 44 [.ref (gB G + 0), .int x1, .int x2, .int x3, .int x4] M (some (.int r)) M2 :=
  CT.of (by decide +kernel) (Nat.le_of_ble_eq_true rfl) rfl (fun p e s m args below meth c C hlk hr => k_X11_light_0 C hlk hr h)
-- SnowSentries.quench(I)I
set_option maxRecDepth 4000 in
theorem k_X11_quench_0 {p : Program} {l : Launch} {e : Env} {s : State} {m : MethodId} {args : Array Value} {below : List Frame} {meth : Method} {c : Code} {G : GG} {M : Mm} {x1 : Int32} {r : Int32} {M2 : Mm} (C : CX p s m args c prog_1_method_16_code 2 "SnowSentries" 0 G) (hlk : meth.locks = false) (hr : meth.sig.returnType = (some .int)) : f_X11_quench M x1 = some (r, M2) → Z p l e { frames := 2, cells := 0, slots := 0, locals := 43 } s m args below meth c 0 G 2 (MQ below (QC 0 G (some (.int r)) M2) args s 0 0 (AU 0 G)) 0 [(0, .ref (gB G + 0)), (1, .int x1)] [] M := by
  intro h
  unfold f_X11_quench at h
  refine z_aload_n 0 C d_X11_quench_0 rfl rfl ?_
  refine z_iload_n 1 C d_X11_quench_1 rfl rfl ?_
  obtain ⟨p2, e1, h⟩ := o_bd h
  refine z_V (S := []) (As := [.int x1]) C (c_X11_isBrazier l G e1) ((E_11 kx_0 G) _ _) (kU_in kx_0 (by decide)) rfl wc_X11_isBrazier wm_X11_197 ws_X11_isBrazier wl_X11_isBrazier wi_X11 hy_X11_isBrazier ⟨Nat.le_of_ble_eq_true rfl, Nat.le_of_ble_eq_true rfl⟩ rfl rfl (Nat.le_of_ble_eq_true rfl) d_X11_quench_2 ?_
  refine z_if_ne C d_X11_quench_5 (fun q3 => ?_) (fun q3 => ?_)
  · have h := o_f q3 h
    refine z_aload_n 0 C d_X11_quench_10 rfl rfl ?_
    refine z_get (k := 9) (v := .ref (gB G + (ld (M.1 0 9)))) C ((E_11 kx_0 G) _ _) (kU_in kx_0 (by decide)) rfl inX11 (by decide) wf_X11_69 rfl d_X11_quench_11 ?_
    refine z_get (k := 7) (v := .ref (gB G + (ld (M.1 0 9) + 5))) C ((E_4 (k_ld _) G) _ _) (kU_in (k_ld _) (by decide)) rfl inX4 (by decide) wf_X11_113 rfl d_X11_quench_14 ?_
    refine z_get (k := 6) (v := .ref (gB G + ((ld (M.1 0 9) + 5) + 6))) C ((E_7 (k_4_7 (k_ld _)) G) _ _) (kU_in (k_4_7 (k_ld _)) (by decide)) rfl inX7 (by decide) wf_X11_193 rfl d_X11_quench_17 ?_
    refine z_iload_n 1 C d_X11_quench_20 rfl rfl ?_
    obtain ⟨p5, e4, h⟩ := o_bd h
    refine z_V (S := []) (As := [.int x1]) C (c_X0_takeAway l G (k_7_6 (k_4_7 (k_ld _))) e4) ((E_0 (k_7_6 (k_4_7 (k_ld _))) G) _ _) (kU_in (k_7_6 (k_4_7 (k_ld _))) (by decide)) rfl wc_X0_takeAway wm_X11_240 ws_X0_takeAway wl_X0_takeAway wi_X0 hy_X0_takeAway ⟨Nat.le_of_ble_eq_true rfl, Nat.le_of_ble_eq_true rfl⟩ rfl rfl (Nat.le_of_ble_eq_true rfl) d_X11_quench_21 ?_
    refine z_aload_n 0 C d_X11_quench_24 rfl rfl ?_
    refine z_get (k := 9) (v := .ref (gB G + (ld (p5.1 0 9)))) C ((E_11 kx_0 G) _ _) (kU_in kx_0 (by decide)) rfl inX11 (by decide) wf_X11_69 rfl d_X11_quench_25 ?_
    refine z_get (k := 7) (v := .ref (gB G + (ld (p5.1 0 9) + 5))) C ((E_4 (k_ld _) G) _ _) (kU_in (k_ld _) (by decide)) rfl inX4 (by decide) wf_X11_113 rfl d_X11_quench_28 ?_
    refine z_get (k := 6) (v := .ref (gB G + ((ld (p5.1 0 9) + 5) + 6))) C ((E_7 (k_4_7 (k_ld _)) G) _ _) (kU_in (k_4_7 (k_ld _)) (by decide)) rfl inX7 (by decide) wf_X11_193 rfl d_X11_quench_31 ?_
    refine z_get (k := 0) (v := .int (p5.1 ((ld (p5.1 0 9) + 5) + 6) 0)) C ((E_0 (k_7_6 (k_4_7 (k_ld _))) G) _ _) (kU_in (k_7_6 (k_4_7 (k_ld _))) (by decide)) rfl inX0 (by decide) wf_X11_239 rfl d_X11_quench_34 ?_
    obtain ⟨rfl, rfl⟩ := o_pair h
    exact z_iret C hlk hr d_X11_quench_37
  · have h := o_t q3 h
    refine z_iconst (v := (-1 : Int32)) C d_X11_quench_8 (by decide) ?_
    obtain ⟨rfl, rfl⟩ := o_pair h
    exact z_iret C hlk hr d_X11_quench_9
theorem c_X11_quench (l : Launch) (G : GG) {M : Mm} {x1 : Int32} {r : Int32} {M2 : Mm} (h : f_X11_quench M x1 = some (r, M2)) : CT l 0 G y_X11_quench prog_1_method_16_code 2 (some .int) 2 43 [.ref (gB G + 0), .int x1] M (some (.int r)) M2 :=
  CT.of (by decide +kernel) (Nat.le_of_ble_eq_true rfl) rfl (fun p e s m args below meth c C hlk hr => k_X11_quench_0 C hlk hr h)
-- SnowSentries.mend(III)I
set_option maxRecDepth 4000 in
theorem k_X11_mend_25 {p : Program} {l : Launch} {e : Env} {s : State} {m : MethodId} {args : Array Value} {below : List Frame} {meth : Method} {c : Code} {G : GG} {M : Mm} {r : Int32} {M2 : Mm} (C : CX p s m args c prog_1_method_17_code 6 "SnowSentries" 0 G) (hlk : meth.locks = false) (hr : meth.sig.returnType = (some .int)) : f_X11_mend_25 M = some (r, M2) → Z p l e { frames := 2, cells := 0, slots := 0, locals := 43 } s m args below meth c 0 G 6 (MQ below (QC 0 G (some (.int r)) M2) args s 0 0 (AU 0 G)) 25 [] [] M := by
  intro h
  unfold f_X11_mend_25 at h
  refine z_iconst (v := (-1 : Int32)) C d_X11_mend_25 (by decide) ?_
  obtain ⟨rfl, rfl⟩ := o_pair h
  exact z_iret C hlk hr d_X11_mend_26
set_option maxRecDepth 4000 in
theorem k_X11_mend_0 {p : Program} {l : Launch} {e : Env} {s : State} {m : MethodId} {args : Array Value} {below : List Frame} {meth : Method} {c : Code} {G : GG} {M : Mm} {x1 : Int32} {x2 : Int32} {x3 : Int32} {r : Int32} {M2 : Mm} (C : CX p s m args c prog_1_method_17_code 6 "SnowSentries" 0 G) (hlk : meth.locks = false) (hr : meth.sig.returnType = (some .int)) : f_X11_mend M x1 x2 x3 = some (r, M2) → Z p l e { frames := 2, cells := 0, slots := 0, locals := 43 } s m args below meth c 0 G 6 (MQ below (QC 0 G (some (.int r)) M2) args s 0 0 (AU 0 G)) 0 [(0, .ref (gB G + 0)), (1, .int x1), (2, .int x2), (3, .int x3)] [] M := by
  intro h
  unfold f_X11_mend at h
  refine z_iload_n 1 C d_X11_mend_0 rfl rfl ?_
  obtain ⟨p2, e1, h⟩ := o_bd h
  refine z_S (S := []) (As := [.int x1]) C (c_X11_isSide l G (M := M) e1) wc_X11_isSide wm_X11_163 ws_X11_isSide wi_X11 hy_X11_isSide ⟨Nat.le_of_ble_eq_true rfl, Nat.le_of_ble_eq_true rfl⟩ rfl rfl (Nat.le_of_ble_eq_true rfl) d_X11_mend_1 ?_
  refine z_if_eq C d_X11_mend_4 (fun q3 => ?_) (fun q3 => ?_)
  · have h := o_t q3 h
    exact z_sub [] rfl (k_X11_mend_25 C hlk hr h)
  · have h := o_f q3 h
    refine z_aload_n 0 C d_X11_mend_7 rfl rfl ?_
    refine z_iload_n 2 C d_X11_mend_8 rfl rfl ?_
    obtain ⟨p5, e4, h⟩ := o_bd h
    refine z_V (S := []) (As := [.int x2]) C (c_X11_isFurlong l G e4) ((E_11 kx_0 G) _ _) (kU_in kx_0 (by decide)) rfl wc_X11_isFurlong wm_X11_148 ws_X11_isFurlong wl_X11_isFurlong wi_X11 hy_X11_isFurlong ⟨Nat.le_of_ble_eq_true rfl, Nat.le_of_ble_eq_true rfl⟩ rfl rfl (Nat.le_of_ble_eq_true rfl) d_X11_mend_9 ?_
    refine z_if_eq C d_X11_mend_12 (fun q6 => ?_) (fun q6 => ?_)
    · have h := o_t q6 h
      exact z_sub [] rfl (k_X11_mend_25 C hlk hr h)
    · have h := o_f q6 h
      refine z_iload_n 3 C d_X11_mend_15 rfl rfl ?_
      refine z_iconst (v := (0 : Int32)) C d_X11_mend_16 (by decide) ?_
      refine z_bipush (v := (99 : Int32)) C d_X11_mend_17 (by decide) ?_
      obtain ⟨p8, e7, h⟩ := o_bd h
      refine z_S (S := []) (As := [.int x3, .int (0 : Int32), .int (99 : Int32)]) C (c_X11_isAmong l G (M := M) e7) wc_X11_isAmong wm_X11_166 ws_X11_isAmong wi_X11 hy_X11_isAmong ⟨Nat.le_of_ble_eq_true rfl, Nat.le_of_ble_eq_true rfl⟩ rfl rfl (Nat.le_of_ble_eq_true rfl) d_X11_mend_19 ?_
      refine z_if_ne C d_X11_mend_22 (fun q9 => ?_) (fun q9 => ?_)
      · have h := o_f q9 h
        refine z_aload_n 0 C d_X11_mend_27 rfl rfl ?_
        refine z_get (k := 9) (v := .ref (gB G + (ld (M.1 0 9)))) C ((E_11 kx_0 G) _ _) (kU_in kx_0 (by decide)) rfl inX11 (by decide) wf_X11_69 rfl d_X11_mend_28 ?_
        refine z_get (k := 7) (v := .ref (gB G + (ld (M.1 0 9) + 5))) C ((E_4 (k_ld _) G) _ _) (kU_in (k_ld _) (by decide)) rfl inX4 (by decide) wf_X11_113 rfl d_X11_mend_31 ?_
        obtain ⟨b10, e11, h⟩ := o_nm h
        have hb12 : kU 0 b10 = 7 := by rw [e11]; exact (k_4_7 (k_ld _))
        refine z_nA e11 ?_
        refine z_astore (L' := [(4, .ref (gB G + b10)), (0, .ref (gB G + 0)), (1, .int x1), (2, .int x2), (3, .int x3)]) C d_X11_mend_34 (by decide) rfl ?_
        refine z_aload 0 C d_X11_mend_36 rfl ?_
        refine z_iload_n 2 C d_X11_mend_38 rfl rfl ?_
        refine z_iload_n 3 C d_X11_mend_39 rfl rfl ?_
        obtain ⟨p14, e13, h⟩ := o_bd h
        refine z_V (S := []) (As := [.int x1, .int x2]) C (c_X7_manOf l G hb12 e13) ((E_7 hb12 G) _ _) (kU_in hb12 (by decide)) rfl wc_X7_manOf wm_X11_170 ws_X7_manOf wl_X7_manOf wi_X7 hy_X7_manOf ⟨Nat.le_of_ble_eq_true rfl, Nat.le_of_ble_eq_true rfl⟩ rfl rfl (Nat.le_of_ble_eq_true rfl) d_X11_mend_40 ?_
        refine z_astore (L' := [(5, .ref (gB G + p14)), (4, .ref (gB G + b10)), (0, .ref (gB G + 0)), (1, .int x1), (2, .int x2), (3, .int x3)]) C d_X11_mend_43 (by decide) rfl ?_
        refine z_aload 0 C d_X11_mend_45 rfl ?_
        refine z_get (k := 0) (v := .int (M.1 p14 0)) C ((E_6 (kr_X7_manOf hb12 e13) G) _ _) (kU_in (kr_X7_manOf hb12 e13) (by decide)) rfl inX6 (by decide) wf_X11_174 rfl d_X11_mend_47 ?_
        refine z_if_ne C d_X11_mend_50 (fun q15 => ?_) (fun q15 => ?_)
        · have h := o_f q15 h
          refine z_iload_n 5 C d_X11_mend_56 rfl rfl ?_
          refine z_aload 1 C d_X11_mend_57 rfl ?_
          refine z_get (k := 2) (v := .ref (gB G + (b10 + 2))) C ((E_7 hb12 G) _ _) (kU_in hb12 (by decide)) rfl inX7 (by decide) wf_X11_151 rfl d_X11_mend_59 ?_
          refine z_iload_n 4 C d_X11_mend_62 rfl rfl ?_
          obtain ⟨q16, h⟩ := o_ck h
          refine z_ald ((E_21 (k_7_2 hb12) G) _ _) C (kU_in (k_7_2 hb12) (by decide)) q16 d_X11_mend_63 ?_
          refine z_icmp_le C d_X11_mend_64 (fun q17 => ?_) (fun q17 => ?_)
          · have h := o_t q17 h
            refine z_aload 0 C d_X11_mend_70 rfl ?_
            refine z_get (k := 4) (v := .int (M.1 p14 4)) C ((E_6 (kr_X7_manOf hb12 e13) G) _ _) (kU_in (kr_X7_manOf hb12 e13) (by decide)) rfl inX6 (by decide) wf_X11_189 rfl d_X11_mend_72 ?_
            refine z_iload_n 5 C d_X11_mend_75 rfl rfl ?_
            refine z_iadd C d_X11_mend_76 ?_
            refine z_bipush (v := (99 : Int32)) C d_X11_mend_77 (by decide) ?_
            refine z_icmp_le C d_X11_mend_79 (fun q18 => ?_) (fun q18 => ?_)
            · have h := o_t q18 h
              refine z_aload 1 C d_X11_mend_85 rfl ?_
              refine z_get (k := 2) (v := .ref (gB G + (b10 + 2))) C ((E_7 hb12 G) _ _) (kU_in hb12 (by decide)) rfl inX7 (by decide) wf_X11_151 rfl d_X11_mend_87 ?_
              refine z_iload_n 4 C d_X11_mend_90 rfl rfl ?_
              refine z_dup2 C d_X11_mend_91 rfl rfl ?_
              refine z_ald ((E_21 (k_7_2 hb12) G) _ _) C (kU_in (k_7_2 hb12) (by decide)) q16 d_X11_mend_92 ?_
              refine z_iload_n 5 C d_X11_mend_93 rfl rfl ?_
              refine z_isub C d_X11_mend_94 ?_
              obtain ⟨M19, e20, h⟩ := o_wr h
              refine z_ast (fun r q => (E_21 (k_7_2 hb12) G) r q) C (kU_in (k_7_2 hb12) (by decide)) q16 d_X11_mend_95 ?_
              refine z_nM e20 ?_
              refine z_aload 0 C d_X11_mend_96 rfl ?_
              refine z_dup C d_X11_mend_98 rfl ?_
              refine z_get (k := 4) (v := .int (M19.1 p14 4)) C ((E_6 (kr_X7_manOf hb12 e13) G) _ _) (kU_in (kr_X7_manOf hb12 e13) (by decide)) rfl inX6 (by decide) wf_X11_189 rfl d_X11_mend_99 ?_
              refine z_iload_n 5 C d_X11_mend_102 rfl rfl ?_
              refine z_iadd C d_X11_mend_103 ?_
              obtain ⟨M21, e22, h⟩ := o_wr h
              refine z_pI (k := 4) (ty := .int) C (fun r q => (E_6 (kr_X7_manOf hb12 e13) G) r q) (fun _ _ => rfl) (kU_in (kr_X7_manOf hb12 e13) (by decide)) rfl inX6 tyX6 tyX6_ok nmX6 (by decide) wf_X11_189 rfl (by decide +kernel) rfl rfl (Nat.le_of_ble_eq_true rfl) d_X11_mend_104 ?_
              refine z_nM e22 ?_
              refine z_aload 0 C d_X11_mend_107 rfl ?_
              refine z_get (k := 4) (v := .int (M21.1 p14 4)) C ((E_6 (kr_X7_manOf hb12 e13) G) _ _) (kU_in (kr_X7_manOf hb12 e13) (by decide)) rfl inX6 (by decide) wf_X11_189 rfl d_X11_mend_109 ?_
              obtain ⟨rfl, rfl⟩ := o_pair h
              exact z_iret C hlk hr d_X11_mend_112
            · have h := o_f q18 h
              refine z_bipush (v := (-3 : Int32)) C d_X11_mend_82 (by decide) ?_
              obtain ⟨rfl, rfl⟩ := o_pair h
              exact z_iret C hlk hr d_X11_mend_84
          · have h := o_f q17 h
            refine z_bipush (v := (-2 : Int32)) C d_X11_mend_67 (by decide) ?_
            obtain ⟨rfl, rfl⟩ := o_pair h
            exact z_iret C hlk hr d_X11_mend_69
        · have h := o_t q15 h
          refine z_bipush (v := (-4 : Int32)) C d_X11_mend_53 (by decide) ?_
          obtain ⟨rfl, rfl⟩ := o_pair h
          exact z_iret C hlk hr d_X11_mend_55
      · have h := o_t q9 h
        exact z_sub [] rfl (k_X11_mend_25 C hlk hr h)
theorem c_X11_mend (l : Launch) (G : GG) {M : Mm} {x1 : Int32} {x2 : Int32} {x3 : Int32} {r : Int32} {M2 : Mm} (h : f_X11_mend M x1 x2 x3 = some (r, M2)) : CT l 0 G y_X11_mend prog_1_method_17_code 6 (some .int) 2 43 [.ref (gB G + 0), .int x1, .int x2, .int x3] M (some (.int r)) M2 :=
  CT.of (by decide +kernel) (Nat.le_of_ble_eq_true rfl) rfl (fun p e s m args below meth c C hlk hr => k_X11_mend_0 C hlk hr h)
-- SnowSentries.carry(III)I
set_option maxRecDepth 4000 in
theorem k_X11_carry_30 {p : Program} {l : Launch} {e : Env} {s : State} {m : MethodId} {args : Array Value} {below : List Frame} {meth : Method} {c : Code} {G : GG} {M : Mm} {r : Int32} {M2 : Mm} (C : CX p s m args c prog_1_method_18_code 5 "SnowSentries" 0 G) (hlk : meth.locks = false) (hr : meth.sig.returnType = (some .int)) : f_X11_carry_30 M = some (r, M2) → Z p l e { frames := 2, cells := 0, slots := 0, locals := 43 } s m args below meth c 0 G 5 (MQ below (QC 0 G (some (.int r)) M2) args s 0 0 (AU 0 G)) 30 [] [] M := by
  intro h
  unfold f_X11_carry_30 at h
  refine z_iconst (v := (-1 : Int32)) C d_X11_carry_30 (by decide) ?_
  obtain ⟨rfl, rfl⟩ := o_pair h
  exact z_iret C hlk hr d_X11_carry_31
set_option maxRecDepth 4000 in
theorem k_X11_carry_0 {p : Program} {l : Launch} {e : Env} {s : State} {m : MethodId} {args : Array Value} {below : List Frame} {meth : Method} {c : Code} {G : GG} {M : Mm} {x1 : Int32} {x2 : Int32} {x3 : Int32} {r : Int32} {M2 : Mm} (C : CX p s m args c prog_1_method_18_code 5 "SnowSentries" 0 G) (hlk : meth.locks = false) (hr : meth.sig.returnType = (some .int)) : f_X11_carry M x1 x2 x3 = some (r, M2) → Z p l e { frames := 2, cells := 0, slots := 0, locals := 43 } s m args below meth c 0 G 5 (MQ below (QC 0 G (some (.int r)) M2) args s 0 0 (AU 0 G)) 0 [(0, .ref (gB G + 0)), (1, .int x1), (2, .int x2), (3, .int x3)] [] M := by
  intro h
  unfold f_X11_carry at h
  refine z_aload_n 0 C d_X11_carry_0 rfl rfl ?_
  refine z_iload_n 1 C d_X11_carry_1 rfl rfl ?_
  obtain ⟨p2, e1, h⟩ := o_bd h
  refine z_V (S := []) (As := [.int x1]) C (c_X11_isFurlong l G e1) ((E_11 kx_0 G) _ _) (kU_in kx_0 (by decide)) rfl wc_X11_isFurlong wm_X11_148 ws_X11_isFurlong wl_X11_isFurlong wi_X11 hy_X11_isFurlong ⟨Nat.le_of_ble_eq_true rfl, Nat.le_of_ble_eq_true rfl⟩ rfl rfl (Nat.le_of_ble_eq_true rfl) d_X11_carry_2 ?_
  refine z_if_eq C d_X11_carry_5 (fun q3 => ?_) (fun q3 => ?_)
  · have h := o_t q3 h
    exact z_sub [] rfl (k_X11_carry_30 C hlk hr h)
  · have h := o_f q3 h
    refine z_aload_n 0 C d_X11_carry_8 rfl rfl ?_
    refine z_iload_n 2 C d_X11_carry_9 rfl rfl ?_
    obtain ⟨p5, e4, h⟩ := o_bd h
    refine z_V (S := []) (As := [.int x2]) C (c_X11_isFurlong l G e4) ((E_11 kx_0 G) _ _) (kU_in kx_0 (by decide)) rfl wc_X11_isFurlong wm_X11_148 ws_X11_isFurlong wl_X11_isFurlong wi_X11 hy_X11_isFurlong ⟨Nat.le_of_ble_eq_true rfl, Nat.le_of_ble_eq_true rfl⟩ rfl rfl (Nat.le_of_ble_eq_true rfl) d_X11_carry_10 ?_
    refine z_if_eq C d_X11_carry_13 (fun q6 => ?_) (fun q6 => ?_)
    · have h := o_t q6 h
      exact z_sub [] rfl (k_X11_carry_30 C hlk hr h)
    · have h := o_f q6 h
      refine z_iload_n 1 C d_X11_carry_16 rfl rfl ?_
      refine z_iload_n 2 C d_X11_carry_17 rfl rfl ?_
      refine z_isub C d_X11_carry_18 ?_
      refine z_mabs C wm_X11_244 wMs_abs wMi wMc_abs (Nat.le_of_ble_eq_true rfl) (Nat.le_of_ble_eq_true rfl) d_X11_carry_19 ?_
      refine z_iconst (v := (1 : Int32)) C d_X11_carry_22 (by decide) ?_
      refine z_icmp_ne C d_X11_carry_23 (fun q7 => ?_) (fun q7 => ?_)
      · have h := o_f q7 h
        exact z_sub [] rfl (k_X11_carry_30 C hlk hr h)
      · have h := o_t q7 h
        refine z_iload_n 3 C d_X11_carry_26 rfl rfl ?_
        refine z_if_ge C d_X11_carry_27 (fun q8 => ?_) (fun q8 => ?_)
        · have h := o_t q8 h
          refine z_aload_n 0 C d_X11_carry_32 rfl rfl ?_
          refine z_get (k := 9) (v := .ref (gB G + (ld (M.1 0 9)))) C ((E_11 kx_0 G) _ _) (kU_in kx_0 (by decide)) rfl inX11 (by decide) wf_X11_69 rfl d_X11_carry_33 ?_
          refine z_get (k := 7) (v := .ref (gB G + (ld (M.1 0 9) + 5))) C ((E_4 (k_ld _) G) _ _) (kU_in (k_ld _) (by decide)) rfl inX4 (by decide) wf_X11_113 rfl d_X11_carry_36 ?_
          refine z_get (k := 2) (v := .ref (gB G + ((ld (M.1 0 9) + 5) + 2))) C ((E_7 (k_4_7 (k_ld _)) G) _ _) (kU_in (k_4_7 (k_ld _)) (by decide)) rfl inX7 (by decide) wf_X11_151 rfl d_X11_carry_39 ?_
          obtain ⟨b9, e10, h⟩ := o_nm h
          have hb11 : kU 0 b9 = 21 := by rw [e10]; exact (k_7_2 (k_4_7 (k_ld _)))
          refine z_nA e10 ?_
          refine z_astore (L' := [(4, .ref (gB G + b9)), (0, .ref (gB G + 0)), (1, .int x1), (2, .int x2), (3, .int x3)]) C d_X11_carry_42 (by decide) rfl ?_
          refine z_iload_n 4 C d_X11_carry_44 rfl rfl ?_
          refine z_aload 0 C d_X11_carry_45 rfl ?_
          refine z_iload_n 2 C d_X11_carry_47 rfl rfl ?_
          obtain ⟨q12, h⟩ := o_ck h
          refine z_ald ((E_21 hb11 G) _ _) C (kU_in hb11 (by decide)) q12 d_X11_carry_48 ?_
          refine z_icmp_le C d_X11_carry_49 (fun q13 => ?_) (fun q13 => ?_)
          · have h := o_t q13 h
            refine z_aload 0 C d_X11_carry_55 rfl ?_
            refine z_iload_n 2 C d_X11_carry_57 rfl rfl ?_
            refine z_dup2 C d_X11_carry_58 rfl rfl ?_
            refine z_ald ((E_21 hb11 G) _ _) C (kU_in hb11 (by decide)) q12 d_X11_carry_59 ?_
            refine z_iload_n 4 C d_X11_carry_60 rfl rfl ?_
            refine z_isub C d_X11_carry_61 ?_
            obtain ⟨M14, e15, h⟩ := o_wr h
            refine z_ast (fun r q => (E_21 hb11 G) r q) C (kU_in hb11 (by decide)) q12 d_X11_carry_62 ?_
            refine z_nM e15 ?_
            refine z_aload 0 C d_X11_carry_63 rfl ?_
            refine z_iload_n 3 C d_X11_carry_65 rfl rfl ?_
            refine z_dup2 C d_X11_carry_66 rfl rfl ?_
            obtain ⟨q16, h⟩ := o_ck h
            refine z_ald ((E_21 hb11 G) _ _) C (kU_in hb11 (by decide)) q16 d_X11_carry_67 ?_
            refine z_iload_n 4 C d_X11_carry_68 rfl rfl ?_
            refine z_iadd C d_X11_carry_69 ?_
            obtain ⟨M17, e18, h⟩ := o_wr h
            refine z_ast (fun r q => (E_21 hb11 G) r q) C (kU_in hb11 (by decide)) q16 d_X11_carry_70 ?_
            refine z_nM e18 ?_
            refine z_aload 0 C d_X11_carry_71 rfl ?_
            refine z_iload_n 3 C d_X11_carry_73 rfl rfl ?_
            refine z_ald ((E_21 hb11 G) _ _) C (kU_in hb11 (by decide)) q16 d_X11_carry_74 ?_
            obtain ⟨rfl, rfl⟩ := o_pair h
            exact z_iret C hlk hr d_X11_carry_75
          · have h := o_f q13 h
            refine z_bipush (v := (-2 : Int32)) C d_X11_carry_52 (by decide) ?_
            obtain ⟨rfl, rfl⟩ := o_pair h
            exact z_iret C hlk hr d_X11_carry_54
        · have h := o_f q8 h
          exact z_sub [] rfl (k_X11_carry_30 C hlk hr h)
theorem c_X11_carry (l : Launch) (G : GG) {M : Mm} {x1 : Int32} {x2 : Int32} {x3 : Int32} {r : Int32} {M2 : Mm} (h : f_X11_carry M x1 x2 x3 = some (r, M2)) : CT l 0 G y_X11_carry prog_1_method_18_code 5 (some .int) 2 43 [.ref (gB G + 0), .int x1, .int x2, .int x3] M (some (.int r)) M2 :=
  CT.of (by decide +kernel) (Nat.le_of_ble_eq_true rfl) rfl (fun p e s m args below meth c C hlk hr => k_X11_carry_0 C hlk hr h)
-- SnowSentries.heat(IIZ)I
set_option maxRecDepth 4000 in
theorem k_X11_heat_15 {p : Program} {l : Launch} {e : Env} {s : State} {m : MethodId} {args : Array Value} {below : List Frame} {meth : Method} {c : Code} {G : GG} {M : Mm} {r : Int32} (C : CX p s m args c prog_1_method_19_code 4 "SnowSentries" 0 G) (hlk : meth.locks = false) (hr : meth.sig.returnType = (some .int)) : f_X11_heat_15 M = some r → Z p l e { frames := 4, cells := 0, slots := 0, locals := 89 } s m args below meth c 0 G 4 (MQ below (QC 0 G (some (.int r)) M) args s 0 0 (AU 0 G)) 15 [] [] M := by
  intro h
  unfold f_X11_heat_15 at h
  refine z_iconst (v := (-1 : Int32)) C d_X11_heat_15 (by decide) ?_
  obtain rfl := o_some h
  exact z_iret C hlk hr d_X11_heat_16
set_option maxRecDepth 4000 in
theorem k_X11_heat_51 {p : Program} {l : Launch} {e : Env} {s : State} {m : MethodId} {args : Array Value} {below : List Frame} {meth : Method} {c : Code} {G : GG} {M : Mm} {s_0 : Int32} {r : Int32} (C : CX p s m args c prog_1_method_19_code 4 "SnowSentries" 0 G) (hlk : meth.locks = false) (hr : meth.sig.returnType = (some .int)) : f_X11_heat_51 M s_0 = some r → Z p l e { frames := 4, cells := 0, slots := 0, locals := 89 } s m args below meth c 0 G 4 (MQ below (QC 0 G (some (.int r)) M) args s 0 0 (AU 0 G)) 51 [] [.int s_0] M := by
  intro h
  unfold f_X11_heat_51 at h
  obtain rfl := o_some h
  exact z_iret C hlk hr d_X11_heat_51
set_option maxRecDepth 4000 in
theorem k_X11_heat_0 {p : Program} {l : Launch} {e : Env} {s : State} {m : MethodId} {args : Array Value} {below : List Frame} {meth : Method} {c : Code} {G : GG} {M : Mm} {x1 : Int32} {x2 : Int32} {x3 : Int32} {r : Int32} (C : CX p s m args c prog_1_method_19_code 4 "SnowSentries" 0 G) (hlk : meth.locks = false) (hr : meth.sig.returnType = (some .int)) : f_X11_heat M x1 x2 x3 = some r → Z p l e { frames := 4, cells := 0, slots := 0, locals := 89 } s m args below meth c 0 G 4 (MQ below (QC 0 G (some (.int r)) M) args s 0 0 (AU 0 G)) 0 [(0, .ref (gB G + 0)), (1, .int x1), (2, .int x2), (3, .int x3)] [] M := by
  intro h
  unfold f_X11_heat at h
  refine z_aload_n 0 C d_X11_heat_0 rfl rfl ?_
  refine z_iload_n 1 C d_X11_heat_1 rfl rfl ?_
  obtain ⟨p2, e1, h⟩ := o_bd h
  refine z_V (S := []) (As := [.int x1]) C (c_X11_isFurlong l G e1) ((E_11 kx_0 G) _ _) (kU_in kx_0 (by decide)) rfl wc_X11_isFurlong wm_X11_148 ws_X11_isFurlong wl_X11_isFurlong wi_X11 hy_X11_isFurlong ⟨Nat.le_of_ble_eq_true rfl, Nat.le_of_ble_eq_true rfl⟩ rfl rfl (Nat.le_of_ble_eq_true rfl) d_X11_heat_2 ?_
  refine z_if_eq C d_X11_heat_5 (fun q3 => ?_) (fun q3 => ?_)
  · have h := o_t q3 h
    exact z_sub [] rfl (k_X11_heat_15 C hlk hr h)
  · have h := o_f q3 h
    refine z_iload_n 2 C d_X11_heat_8 rfl rfl ?_
    obtain ⟨p5, e4, h⟩ := o_bd h
    refine z_S (S := []) (As := [.int x2]) C (c_X11_isHour l G (M := M) e4) wc_X11_isHour wm_X11_137 ws_X11_isHour wi_X11 hy_X11_isHour ⟨Nat.le_of_ble_eq_true rfl, Nat.le_of_ble_eq_true rfl⟩ rfl rfl (Nat.le_of_ble_eq_true rfl) d_X11_heat_9 ?_
    refine z_if_ne C d_X11_heat_12 (fun q6 => ?_) (fun q6 => ?_)
    · have h := o_f q6 h
      refine z_iload_n 3 C d_X11_heat_17 rfl rfl ?_
      refine z_if_eq C d_X11_heat_18 (fun q7 => ?_) (fun q7 => ?_)
      · have h := o_t q7 h
        refine z_aload_n 0 C d_X11_heat_36 rfl rfl ?_
        refine z_get (k := 9) (v := .ref (gB G + (ld (M.1 0 9)))) C ((E_11 kx_0 G) _ _) (kU_in kx_0 (by decide)) rfl inX11 (by decide) wf_X11_69 rfl d_X11_heat_37 ?_
        refine z_get (k := 7) (v := .ref (gB G + (ld (M.1 0 9) + 5))) C ((E_4 (k_ld _) G) _ _) (kU_in (k_ld _) (by decide)) rfl inX4 (by decide) wf_X11_113 rfl d_X11_heat_40 ?_
        refine z_get (k := 6) (v := .ref (gB G + ((ld (M.1 0 9) + 5) + 6))) C ((E_7 (k_4_7 (k_ld _)) G) _ _) (kU_in (k_4_7 (k_ld _)) (by decide)) rfl inX7 (by decide) wf_X11_193 rfl d_X11_heat_43 ?_
        refine z_iload_n 1 C d_X11_heat_46 rfl rfl ?_
        refine z_iload_n 2 C d_X11_heat_47 rfl rfl ?_
        obtain ⟨p9, e8, h⟩ := o_bd h
        refine z_V (S := []) (As := [.int x1, .int x2]) C (c_X0_warmthOn l G (k_7_6 (k_4_7 (k_ld _))) e8) ((E_0 (k_7_6 (k_4_7 (k_ld _))) G) _ _) (kU_in (k_7_6 (k_4_7 (k_ld _))) (by decide)) rfl wc_X0_warmthOn wm_X11_252 ws_X0_warmthOn wl_X0_warmthOn wi_X0 hy_X0_warmthOn ⟨Nat.le_of_ble_eq_true rfl, Nat.le_of_ble_eq_true rfl⟩ rfl rfl (Nat.le_of_ble_eq_true rfl) d_X11_heat_48 ?_
        exact z_sub [] rfl (k_X11_heat_51 C hlk hr h)
      · have h := o_f q7 h
        refine z_aload_n 0 C d_X11_heat_21 rfl rfl ?_
        refine z_get (k := 9) (v := .ref (gB G + (ld (M.1 0 9)))) C ((E_11 kx_0 G) _ _) (kU_in kx_0 (by decide)) rfl inX11 (by decide) wf_X11_69 rfl d_X11_heat_22 ?_
        refine z_get (k := 7) (v := .ref (gB G + (ld (M.1 0 9) + 5))) C ((E_4 (k_ld _) G) _ _) (kU_in (k_ld _) (by decide)) rfl inX4 (by decide) wf_X11_113 rfl d_X11_heat_25 ?_
        refine z_iload_n 1 C d_X11_heat_28 rfl rfl ?_
        refine z_iload_n 2 C d_X11_heat_29 rfl rfl ?_
        obtain ⟨p11, e10, h⟩ := o_bd h
        refine z_V (S := []) (As := [.int x1, .int x2]) C (c_X7_heatOn l G (k_4_7 (k_ld _)) e10) ((E_7 (k_4_7 (k_ld _)) G) _ _) (kU_in (k_4_7 (k_ld _)) (by decide)) rfl wc_X7_heatOn wm_X11_249 ws_X7_heatOn wl_X7_heatOn wi_X7 hy_X7_heatOn ⟨Nat.le_of_ble_eq_true rfl, Nat.le_of_ble_eq_true rfl⟩ rfl rfl (Nat.le_of_ble_eq_true rfl) d_X11_heat_30 ?_
        refine z_goto C d_X11_heat_33 ?_
        exact z_sub [] rfl (k_X11_heat_51 C hlk hr h)
    · have h := o_t q6 h
      exact z_sub [] rfl (k_X11_heat_15 C hlk hr h)
theorem c_X11_heat (l : Launch) (G : GG) {M : Mm} {x1 : Int32} {x2 : Int32} {x3 : Int32} {r : Int32} (h : f_X11_heat M x1 x2 x3 = some r) : CT l 0 G y_X11_heat prog_1_method_19_code 4 (some .int) 4 89 [.ref (gB G + 0), .int x1, .int x2, .int x3] M (some (.int r)) M :=
  CT.of (by decide +kernel) (Nat.le_of_ble_eq_true rfl) rfl (fun p e s m args below meth c C hlk hr => k_X11_heat_0 C hlk hr h)
-- SnowSentries.go(I)I
set_option maxRecDepth 4000 in
theorem k_X11_go_0 {p : Program} {l : Launch} {e : Env} {s : State} {m : MethodId} {args : Array Value} {below : List Frame} {meth : Method} {c : Code} {G : GG} {M : Mm} {x1 : Int32} {r : Int32} {M2 : Mm} (C : CX p s m args c prog_1_method_20_code 3 "SnowSentries" 0 G) (hlk : meth.locks = false) (hr : meth.sig.returnType = (some .int)) : f_X11_go M x1 = some (r, M2) → Z p l e { frames := 5, cells := 0, slots := 0, locals := 118 } s m args below meth c 0 G 3 (MQ below (QC 0 G (some (.int r)) M2) args s 0 0 (AU 0 G)) 0 [(0, .ref (gB G + 0)), (1, .int x1)] [] M := by
  intro h
  unfold f_X11_go at h
  refine z_iload_n 1 C d_X11_go_0 rfl rfl ?_
  refine z_iconst (v := (1 : Int32)) C d_X11_go_1 (by decide) ?_
  refine z_bipush (v := (12 : Int32)) C d_X11_go_2 (by decide) ?_
  obtain ⟨p2, e1, h⟩ := o_bd h
  refine z_S (S := []) (As := [.int x1, .int (1 : Int32), .int (12 : Int32)]) C (c_X11_isAmong l G (M := M) e1) wc_X11_isAmong wm_X11_166 ws_X11_isAmong wi_X11 hy_X11_isAmong ⟨Nat.le_of_ble_eq_true rfl, Nat.le_of_ble_eq_true rfl⟩ rfl rfl (Nat.le_of_ble_eq_true rfl) d_X11_go_4 ?_
  refine z_if_ne C d_X11_go_7 (fun q3 => ?_) (fun q3 => ?_)
  · have h := o_f q3 h
    refine z_aload_n 0 C d_X11_go_12 rfl rfl ?_
    refine z_get (k := 9) (v := .ref (gB G + (ld (M.1 0 9)))) C ((E_11 kx_0 G) _ _) (kU_in kx_0 (by decide)) rfl inX11 (by decide) wf_X11_69 rfl d_X11_go_13 ?_
    refine z_get (k := 7) (v := .ref (gB G + (ld (M.1 0 9) + 5))) C ((E_4 (k_ld _) G) _ _) (kU_in (k_ld _) (by decide)) rfl inX4 (by decide) wf_X11_113 rfl d_X11_go_16 ?_
    refine z_get (k := 0) (v := .int (M.1 (ld (M.1 0 9) + 5) 0)) C ((E_7 (k_4_7 (k_ld _)) G) _ _) (kU_in (k_4_7 (k_ld _)) (by decide)) rfl inX7 (by decide) wf_X11_116 rfl d_X11_go_19 ?_
    refine z_iload_n 1 C d_X11_go_22 rfl rfl ?_
    refine z_iadd C d_X11_go_23 ?_
    obtain ⟨v4, e5, h⟩ := o_nm h
    refine z_nI e5 ?_
    refine z_istore_n (L' := [(2, .int v4), (0, .ref (gB G + 0)), (1, .int x1)]) C d_X11_go_24 rfl (by decide) rfl ?_
    refine z_iload_n 0 C d_X11_go_25 rfl rfl ?_
    refine z_bipush (v := (12 : Int32)) C d_X11_go_26 (by decide) ?_
    refine z_icmp_le C d_X11_go_28 (fun q6 => ?_) (fun q6 => ?_)
    · have h := o_t q6 h
      refine z_aload_n 1 C d_X11_go_34 rfl rfl ?_
      refine z_get (k := 9) (v := .ref (gB G + (ld (M.1 0 9)))) C ((E_11 kx_0 G) _ _) (kU_in kx_0 (by decide)) rfl inX11 (by decide) wf_X11_69 rfl d_X11_go_35 ?_
      refine z_aload_n 1 C d_X11_go_38 rfl rfl ?_
      refine z_get (k := 9) (v := .ref (gB G + (ld (M.1 0 9)))) C ((E_11 kx_0 G) _ _) (kU_in kx_0 (by decide)) rfl inX11 (by decide) wf_X11_69 rfl d_X11_go_39 ?_
      refine z_get (k := 7) (v := .ref (gB G + (ld (M.1 0 9) + 5))) C ((E_4 (k_ld _) G) _ _) (kU_in (k_ld _) (by decide)) rfl inX4 (by decide) wf_X11_113 rfl d_X11_go_42 ?_
      refine z_iload_n 0 C d_X11_go_45 rfl rfl ?_
      obtain ⟨p8, e7, h⟩ := o_bd h
      refine z_V (S := []) (As := [.ref (gB G + (ld (M.1 0 9) + 5)), .int v4]) C (c_X4_passTill l G (k_ld _) (k_4_7 (k_ld _)) e7) ((E_4 (k_ld _) G) _ _) (kU_in (k_ld _) (by decide)) rfl wc_X4_passTill wm_X11_255 ws_X4_passTill wl_X4_passTill wi_X4 hy_X4_passTill ⟨Nat.le_of_ble_eq_true rfl, Nat.le_of_ble_eq_true rfl⟩ rfl rfl (Nat.le_of_ble_eq_true rfl) d_X11_go_46 ?_
      refine z_aload_n 1 C d_X11_go_49 rfl rfl ?_
      refine z_get (k := 9) (v := .ref (gB G + (ld (p8.1 0 9)))) C ((E_11 kx_0 G) _ _) (kU_in kx_0 (by decide)) rfl inX11 (by decide) wf_X11_69 rfl d_X11_go_50 ?_
      refine z_get (k := 7) (v := .ref (gB G + (ld (p8.1 0 9) + 5))) C ((E_4 (k_ld _) G) _ _) (kU_in (k_ld _) (by decide)) rfl inX4 (by decide) wf_X11_113 rfl d_X11_go_53 ?_
      refine z_get (k := 0) (v := .int (p8.1 (ld (p8.1 0 9) + 5) 0)) C ((E_7 (k_4_7 (k_ld _)) G) _ _) (kU_in (k_4_7 (k_ld _)) (by decide)) rfl inX7 (by decide) wf_X11_116 rfl d_X11_go_56 ?_
      obtain ⟨rfl, rfl⟩ := o_pair h
      exact z_iret C hlk hr d_X11_go_59
    · have h := o_f q6 h
      refine z_bipush (v := (-2 : Int32)) C d_X11_go_31 (by decide) ?_
      obtain ⟨rfl, rfl⟩ := o_pair h
      exact z_iret C hlk hr d_X11_go_33
  · have h := o_t q3 h
    refine z_iconst (v := (-1 : Int32)) C d_X11_go_10 (by decide) ?_
    obtain ⟨rfl, rfl⟩ := o_pair h
    exact z_iret C hlk hr d_X11_go_11
theorem c_X11_go (l : Launch) (G : GG) {M : Mm} {x1 : Int32} {r : Int32} {M2 : Mm} (h : f_X11_go M x1 = some (r, M2)) : CT l 0 G y_X11_go prog_1_method_20_code 3 (some .int) 5 118 [.ref (gB G + 0), .int x1] M (some (.int r)) M2 :=
  CT.of (by decide +kernel) (Nat.le_of_ble_eq_true rfl) rfl (fun p e s m args below meth c C hlk hr => k_X11_go_0 C hlk hr h)
-- SnowSentries.dawn()I
set_option maxRecDepth 4000 in
theorem k_X11_dawn_0 {p : Program} {l : Launch} {e : Env} {s : State} {m : MethodId} {args : Array Value} {below : List Frame} {meth : Method} {c : Code} {G : GG} {M : Mm} {r : Int32} {M2 : Mm} (C : CX p s m args c prog_1_method_21_code 2 "SnowSentries" 0 G) (hlk : meth.locks = false) (hr : meth.sig.returnType = (some .int)) : f_X11_dawn M = some (r, M2) → Z p l e { frames := 0, cells := 0, slots := 0, locals := 0 } s m args below meth c 0 G 2 (MQ below (QC 0 G (some (.int r)) M2) args s 0 0 (AU 0 G)) 0 [(0, .ref (gB G + 0))] [] M := by
  intro h
  unfold f_X11_dawn at h
  refine z_aload_n 0 C d_X11_dawn_0 rfl rfl ?_
  refine z_get (k := 9) (v := .ref (gB G + (ld (M.1 0 9)))) C ((E_11 kx_0 G) _ _) (kU_in kx_0 (by decide)) rfl inX11 (by decide) wf_X11_69 rfl d_X11_dawn_1 ?_
  refine z_get (k := 7) (v := .ref (gB G + (ld (M.1 0 9) + 5))) C ((E_4 (k_ld _) G) _ _) (kU_in (k_ld _) (by decide)) rfl inX4 (by decide) wf_X11_113 rfl d_X11_dawn_4 ?_
  refine z_get (k := 0) (v := .int (M.1 (ld (M.1 0 9) + 5) 0)) C ((E_7 (k_4_7 (k_ld _)) G) _ _) (kU_in (k_4_7 (k_ld _)) (by decide)) rfl inX7 (by decide) wf_X11_116 rfl d_X11_dawn_7 ?_
  obtain ⟨v1, e2, h⟩ := o_nm h
  refine z_nI e2 ?_
  refine z_istore_n (L' := [(1, .int v1), (0, .ref (gB G + 0))]) C d_X11_dawn_10 rfl (by decide) rfl ?_
  refine z_aload_n 1 C d_X11_dawn_11 rfl rfl ?_
  refine z_get (k := 9) (v := .ref (gB G + (ld (M.1 0 9)))) C ((E_11 kx_0 G) _ _) (kU_in kx_0 (by decide)) rfl inX11 (by decide) wf_X11_69 rfl d_X11_dawn_12 ?_
  refine z_get (k := 7) (v := .ref (gB G + (ld (M.1 0 9) + 5))) C ((E_4 (k_ld _) G) _ _) (kU_in (k_ld _) (by decide)) rfl inX4 (by decide) wf_X11_113 rfl d_X11_dawn_15 ?_
  refine z_iconst (v := (0 : Int32)) C d_X11_dawn_18 (by decide) ?_
  obtain ⟨M3, e4, h⟩ := o_wr h
  refine z_pI (k := 0) (ty := .int) C (fun r q => (E_7 (k_4_7 (k_ld _)) G) r q) (fun _ _ => rfl) (kU_in (k_4_7 (k_ld _)) (by decide)) rfl inX7 tyX7 tyX7_ok nmX7 (by decide) wf_X11_116 rfl (by decide +kernel) rfl rfl (Nat.le_of_ble_eq_true rfl) d_X11_dawn_19 ?_
  refine z_nM e4 ?_
  refine z_iload_n 0 C d_X11_dawn_22 rfl rfl ?_
  obtain ⟨rfl, rfl⟩ := o_pair h
  exact z_iret C hlk hr d_X11_dawn_23
theorem c_X11_dawn (l : Launch) (G : GG) {M : Mm} {r : Int32} {M2 : Mm} (h : f_X11_dawn M = some (r, M2)) : CT l 0 G y_X11_dawn prog_1_method_21_code 2 (some .int) 0 0 [.ref (gB G + 0)] M (some (.int r)) M2 :=
  CT.of (by decide +kernel) (Nat.le_of_ble_eq_true rfl) rfl (fun p e s m args below meth c C hlk hr => k_X11_dawn_0 C hlk hr h)
-- SnowSentries.all()I
set_option maxRecDepth 4000 in
theorem k_X11_all_0 {p : Program} {l : Launch} {e : Env} {s : State} {m : MethodId} {args : Array Value} {below : List Frame} {meth : Method} {c : Code} {G : GG} {M : Mm} {r : Int32} (C : CX p s m args c prog_1_method_22_code 1 "SnowSentries" 0 G) (hlk : meth.locks = false) (hr : meth.sig.returnType = (some .int)) : f_X11_all M = some r → Z p l e { frames := 2, cells := 0, slots := 0, locals := 42 } s m args below meth c 0 G 1 (MQ below (QC 0 G (some (.int r)) M) args s 0 0 (AU 0 G)) 0 [(0, .ref (gB G + 0))] [] M := by
  intro h
  unfold f_X11_all at h
  refine z_aload_n 0 C d_X11_all_0 rfl rfl ?_
  refine z_get (k := 9) (v := .ref (gB G + (ld (M.1 0 9)))) C ((E_11 kx_0 G) _ _) (kU_in kx_0 (by decide)) rfl inX11 (by decide) wf_X11_69 rfl d_X11_all_1 ?_
  refine z_get (k := 7) (v := .ref (gB G + (ld (M.1 0 9) + 5))) C ((E_4 (k_ld _) G) _ _) (kU_in (k_ld _) (by decide)) rfl inX4 (by decide) wf_X11_113 rfl d_X11_all_4 ?_
  obtain ⟨p2, e1, h⟩ := o_bd h
  refine z_V (S := []) (As := []) C (c_X7_snowInAll l G (k_4_7 (k_ld _)) e1) ((E_7 (k_4_7 (k_ld _)) G) _ _) (kU_in (k_4_7 (k_ld _)) (by decide)) rfl wc_X7_snowInAll wm_X11_259 ws_X7_snowInAll wl_X7_snowInAll wi_X7 hy_X7_snowInAll ⟨Nat.le_of_ble_eq_true rfl, Nat.le_of_ble_eq_true rfl⟩ rfl rfl (Nat.le_of_ble_eq_true rfl) d_X11_all_7 ?_
  obtain rfl := o_some h
  exact z_iret C hlk hr d_X11_all_10
theorem c_X11_all (l : Launch) (G : GG) {M : Mm} {r : Int32} (h : f_X11_all M = some r) : CT l 0 G y_X11_all prog_1_method_22_code 1 (some .int) 2 42 [.ref (gB G + 0)] M (some (.int r)) M :=
  CT.of (by decide +kernel) (Nat.le_of_ble_eq_true rfl) rfl (fun p e s m args below meth c C hlk hr => k_X11_all_0 C hlk hr h)
-- SnowSentries.isFromNow(I)Z
set_option maxRecDepth 4000 in
theorem k_X11_isFromNow_0 {p : Program} {l : Launch} {e : Env} {s : State} {m : MethodId} {args : Array Value} {below : List Frame} {meth : Method} {c : Code} {G : GG} {M : Mm} {x1 : Int32} {r : Int32} (C : CX p s m args c prog_1_method_51_code 2 "SnowSentries" 0 G) (hlk : meth.locks = false) (hr : meth.sig.returnType = (some .boolean)) : f_X11_isFromNow M x1 = some r → Z p l e { frames := 1, cells := 0, slots := 0, locals := 22 } s m args below meth c 0 G 2 (MQ below (QC 0 G (some (.int r)) M) args s 0 0 (AU 0 G)) 0 [(0, .ref (gB G + 0)), (1, .int x1)] [] M := by
  intro h
  unfold f_X11_isFromNow at h
  refine z_iload_n 1 C d_X11_isFromNow_0 rfl rfl ?_
  refine z_aload_n 0 C d_X11_isFromNow_1 rfl rfl ?_
  refine z_get (k := 9) (v := .ref (gB G + (ld (M.1 0 9)))) C ((E_11 kx_0 G) _ _) (kU_in kx_0 (by decide)) rfl inX11 (by decide) wf_X11_69 rfl d_X11_isFromNow_2 ?_
  refine z_get (k := 7) (v := .ref (gB G + (ld (M.1 0 9) + 5))) C ((E_4 (k_ld _) G) _ _) (kU_in (k_ld _) (by decide)) rfl inX4 (by decide) wf_X11_113 rfl d_X11_isFromNow_5 ?_
  refine z_get (k := 0) (v := .int (M.1 (ld (M.1 0 9) + 5) 0)) C ((E_7 (k_4_7 (k_ld _)) G) _ _) (kU_in (k_4_7 (k_ld _)) (by decide)) rfl inX7 (by decide) wf_X11_116 rfl d_X11_isFromNow_8 ?_
  refine z_bipush (v := (12 : Int32)) C d_X11_isFromNow_11 (by decide) ?_
  obtain ⟨p2, e1, h⟩ := o_bd h
  refine z_S (S := []) (As := [.int x1, .int (M.1 (ld (M.1 0 9) + 5) 0), .int (12 : Int32)]) C (c_X11_isAmong l G (M := M) e1) wc_X11_isAmong wm_X11_166 ws_X11_isAmong wi_X11 hy_X11_isAmong ⟨Nat.le_of_ble_eq_true rfl, Nat.le_of_ble_eq_true rfl⟩ rfl rfl (Nat.le_of_ble_eq_true rfl) d_X11_isFromNow_13 ?_
  obtain ⟨q3, h⟩ := o_ck h
  obtain rfl := o_some h
  exact z_zret C hlk hr (isB_nar q3) d_X11_isFromNow_16
theorem c_X11_isFromNow (l : Launch) (G : GG) {M : Mm} {x1 : Int32} {r : Int32} (h : f_X11_isFromNow M x1 = some r) : CT l 0 G y_X11_isFromNow prog_1_method_51_code 2 (some .boolean) 1 22 [.ref (gB G + 0), .int x1] M (some (.int r)) M :=
  CT.of (by decide +kernel) (Nat.le_of_ble_eq_true rfl) rfl (fun p e s m args below meth c C hlk hr => k_X11_isFromNow_0 C hlk hr h)
-- SnowSentries.lookAhead(I)V
set_option maxRecDepth 4000 in
theorem k_X11_lookAhead_0 {p : Program} {l : Launch} {e : Env} {s : State} {m : MethodId} {args : Array Value} {below : List Frame} {meth : Method} {c : Code} {G : GG} {M : Mm} {x1 : Int32} {M2 : Mm} (C : CX p s m args c prog_1_method_52_code 2 "SnowSentries" 0 G) (hlk : meth.locks = false) (hr : meth.sig.returnType = none) : f_X11_lookAhead M x1 = some M2 → Z p l e { frames := 5, cells := 0, slots := 0, locals := 118 } s m args below meth c 0 G 2 (MQ below (QC 0 G none M2) args s 0 0 (AU 0 G)) 0 [(0, .ref (gB G + 0)), (1, .int x1)] [] M := by
  intro h
  unfold f_X11_lookAhead at h
  refine z_aload_n 0 C d_X11_lookAhead_0 rfl rfl ?_
  refine z_get (k := 1) (v := .ref (gB G + 3)) C ((E_11 kx_0 G) _ _) (kU_in kx_0 (by decide)) rfl inX11 (by decide) wf_X11_19 rfl d_X11_lookAhead_1 ?_
  refine z_aload_n 0 C d_X11_lookAhead_4 rfl rfl ?_
  refine z_get (k := 9) (v := .ref (gB G + (ld (M.1 0 9)))) C ((E_11 kx_0 G) _ _) (kU_in kx_0 (by decide)) rfl inX11 (by decide) wf_X11_69 rfl d_X11_lookAhead_5 ?_
  refine z_get (k := 7) (v := .ref (gB G + (ld (M.1 0 9) + 5))) C ((E_4 (k_ld _) G) _ _) (kU_in (k_ld _) (by decide)) rfl inX4 (by decide) wf_X11_113 rfl d_X11_lookAhead_8 ?_
  obtain ⟨p2, e1, h⟩ := o_bd h
  refine z_V (S := []) (As := [.ref (gB G + (ld (M.1 0 9) + 5))]) C (c_X7_become l G kx_3 (k_4_7 (k_ld _)) e1) ((E_7 kx_3 G) _ _) (kU_in kx_3 (by decide)) rfl wc_X7_become wm_X11_339 ws_X7_become wl_X7_become wi_X7 hy_X7_become ⟨Nat.le_of_ble_eq_true rfl, Nat.le_of_ble_eq_true rfl⟩ rfl rfl (Nat.le_of_ble_eq_true rfl) d_X11_lookAhead_11 ?_
  refine z_aload_n 0 C d_X11_lookAhead_14 rfl rfl ?_
  refine z_get (k := 9) (v := .ref (gB G + (ld (p2.1 0 9)))) C ((E_11 kx_0 G) _ _) (kU_in kx_0 (by decide)) rfl inX11 (by decide) wf_X11_69 rfl d_X11_lookAhead_15 ?_
  refine z_aload_n 0 C d_X11_lookAhead_18 rfl rfl ?_
  refine z_get (k := 1) (v := .ref (gB G + 3)) C ((E_11 kx_0 G) _ _) (kU_in kx_0 (by decide)) rfl inX11 (by decide) wf_X11_19 rfl d_X11_lookAhead_19 ?_
  refine z_iload_n 1 C d_X11_lookAhead_22 rfl rfl ?_
  obtain ⟨p4, e3, h⟩ := o_bd h
  refine z_V (S := []) (As := [.ref (gB G + 3), .int x1]) C (c_X4_passTill l G (k_ld _) kx_3 e3) ((E_4 (k_ld _) G) _ _) (kU_in (k_ld _) (by decide)) rfl wc_X4_passTill wm_X11_255 ws_X4_passTill wl_X4_passTill wi_X4 hy_X4_passTill ⟨Nat.le_of_ble_eq_true rfl, Nat.le_of_ble_eq_true rfl⟩ rfl rfl (Nat.le_of_ble_eq_true rfl) d_X11_lookAhead_23 ?_
  obtain rfl := o_some h
  exact z_vret C hlk hr d_X11_lookAhead_26
theorem c_X11_lookAhead (l : Launch) (G : GG) {M : Mm} {x1 : Int32} {M2 : Mm} (h : f_X11_lookAhead M x1 = some M2) : CT l 0 G y_X11_lookAhead prog_1_method_52_code 2 none 5 118 [.ref (gB G + 0), .int x1] M none M2 :=
  CT.of (by decide +kernel) (Nat.le_of_ble_eq_true rfl) rfl (fun p e s m args below meth c C hlk hr => k_X11_lookAhead_0 C hlk hr h)
-- SnowSentries.later(III)I
set_option maxRecDepth 4000 in
theorem k_X11_later_23 {p : Program} {l : Launch} {e : Env} {s : State} {m : MethodId} {args : Array Value} {below : List Frame} {meth : Method} {c : Code} {G : GG} {M : Mm} {r : Int32} {M2 : Mm} (C : CX p s m args c prog_1_method_23_code 5 "SnowSentries" 0 G) (hlk : meth.locks = false) (hr : meth.sig.returnType = (some .int)) : f_X11_later_23 M = some (r, M2) → Z p l e { frames := 6, cells := 0, slots := 0, locals := 139 } s m args below meth c 0 G 5 (MQ below (QC 0 G (some (.int r)) M2) args s 0 0 (AU 0 G)) 23 [] [] M := by
  intro h
  unfold f_X11_later_23 at h
  refine z_iconst (v := (-1 : Int32)) C d_X11_later_23 (by decide) ?_
  obtain ⟨rfl, rfl⟩ := o_pair h
  exact z_iret C hlk hr d_X11_later_24
set_option maxRecDepth 4000 in
theorem k_X11_later_59 {p : Program} {l : Launch} {e : Env} {s : State} {m : MethodId} {args : Array Value} {below : List Frame} {meth : Method} {c : Code} {G : GG} {M : Mm} {s_0 : Int32} {r : Int32} {M2 : Mm} (C : CX p s m args c prog_1_method_23_code 5 "SnowSentries" 0 G) (hlk : meth.locks = false) (hr : meth.sig.returnType = (some .int)) : f_X11_later_59 M s_0 = some (r, M2) → Z p l e { frames := 6, cells := 0, slots := 0, locals := 139 } s m args below meth c 0 G 5 (MQ below (QC 0 G (some (.int r)) M2) args s 0 0 (AU 0 G)) 59 [] [.int s_0] M := by
  intro h
  unfold f_X11_later_59 at h
  obtain ⟨rfl, rfl⟩ := o_pair h
  exact z_iret C hlk hr d_X11_later_59
set_option maxRecDepth 4000 in
theorem k_X11_later_0 {p : Program} {l : Launch} {e : Env} {s : State} {m : MethodId} {args : Array Value} {below : List Frame} {meth : Method} {c : Code} {G : GG} {M : Mm} {x1 : Int32} {x2 : Int32} {x3 : Int32} {r : Int32} {M2 : Mm} (C : CX p s m args c prog_1_method_23_code 5 "SnowSentries" 0 G) (hlk : meth.locks = false) (hr : meth.sig.returnType = (some .int)) : f_X11_later M x1 x2 x3 = some (r, M2) → Z p l e { frames := 6, cells := 0, slots := 0, locals := 139 } s m args below meth c 0 G 5 (MQ below (QC 0 G (some (.int r)) M2) args s 0 0 (AU 0 G)) 0 [(0, .ref (gB G + 0)), (1, .int x1), (2, .int x2), (3, .int x3)] [] M := by
  intro h
  unfold f_X11_later at h
  refine z_iload_n 1 C d_X11_later_0 rfl rfl ?_
  obtain ⟨p2, e1, h⟩ := o_bd h
  refine z_S (S := []) (As := [.int x1]) C (c_X11_isSide l G (M := M) e1) wc_X11_isSide wm_X11_163 ws_X11_isSide wi_X11 hy_X11_isSide ⟨Nat.le_of_ble_eq_true rfl, Nat.le_of_ble_eq_true rfl⟩ rfl rfl (Nat.le_of_ble_eq_true rfl) d_X11_later_1 ?_
  refine z_if_eq C d_X11_later_4 (fun q3 => ?_) (fun q3 => ?_)
  · have h := o_t q3 h
    exact z_sub [] rfl (k_X11_later_23 C hlk hr h)
  · have h := o_f q3 h
    refine z_aload_n 0 C d_X11_later_7 rfl rfl ?_
    refine z_iload_n 2 C d_X11_later_8 rfl rfl ?_
    obtain ⟨p5, e4, h⟩ := o_bd h
    refine z_V (S := []) (As := [.int x2]) C (c_X11_isFurlong l G e4) ((E_11 kx_0 G) _ _) (kU_in kx_0 (by decide)) rfl wc_X11_isFurlong wm_X11_148 ws_X11_isFurlong wl_X11_isFurlong wi_X11 hy_X11_isFurlong ⟨Nat.le_of_ble_eq_true rfl, Nat.le_of_ble_eq_true rfl⟩ rfl rfl (Nat.le_of_ble_eq_true rfl) d_X11_later_9 ?_
    refine z_if_eq C d_X11_later_12 (fun q6 => ?_) (fun q6 => ?_)
    · have h := o_t q6 h
      exact z_sub [] rfl (k_X11_later_23 C hlk hr h)
    · have h := o_f q6 h
      refine z_aload_n 0 C d_X11_later_15 rfl rfl ?_
      refine z_iload_n 3 C d_X11_later_16 rfl rfl ?_
      obtain ⟨p8, e7, h⟩ := o_bd h
      refine z_V (S := []) (As := [.int x3]) C (c_X11_isFromNow l G e7) ((E_11 kx_0 G) _ _) (kU_in kx_0 (by decide)) rfl wc_X11_isFromNow wm_X11_263 ws_X11_isFromNow wl_X11_isFromNow wi_X11 hy_X11_isFromNow ⟨Nat.le_of_ble_eq_true rfl, Nat.le_of_ble_eq_true rfl⟩ rfl rfl (Nat.le_of_ble_eq_true rfl) d_X11_later_17 ?_
      refine z_if_ne C d_X11_later_20 (fun q9 => ?_) (fun q9 => ?_)
      · have h := o_f q9 h
        refine z_aload_n 0 C d_X11_later_25 rfl rfl ?_
        refine z_iload_n 3 C d_X11_later_26 rfl rfl ?_
        obtain ⟨p11, e10, h⟩ := o_bd h
        refine z_V (S := []) (As := [.int x3]) C (c_X11_lookAhead l G e10) ((E_11 kx_0 G) _ _) (kU_in kx_0 (by decide)) rfl wc_X11_lookAhead wm_X11_266 ws_X11_lookAhead wl_X11_lookAhead wi_X11 hy_X11_lookAhead ⟨Nat.le_of_ble_eq_true rfl, Nat.le_of_ble_eq_true rfl⟩ rfl rfl (Nat.le_of_ble_eq_true rfl) d_X11_later_27 ?_
        refine z_aload_n 0 C d_X11_later_30 rfl rfl ?_
        refine z_get (k := 1) (v := .ref (gB G + 3)) C ((E_11 kx_0 G) _ _) (kU_in kx_0 (by decide)) rfl inX11 (by decide) wf_X11_19 rfl d_X11_later_31 ?_
        refine z_iload_n 1 C d_X11_later_34 rfl rfl ?_
        refine z_iload_n 2 C d_X11_later_35 rfl rfl ?_
        obtain ⟨p13, e12, h⟩ := o_bd h
        refine z_V (S := []) (As := [.int x1, .int x2]) C (c_X7_manOf l G kx_3 e12) ((E_7 kx_3 G) _ _) (kU_in kx_3 (by decide)) rfl wc_X7_manOf wm_X11_170 ws_X7_manOf wl_X7_manOf wi_X7 hy_X7_manOf ⟨Nat.le_of_ble_eq_true rfl, Nat.le_of_ble_eq_true rfl⟩ rfl rfl (Nat.le_of_ble_eq_true rfl) d_X11_later_36 ?_
        refine z_astore (L' := [(4, .ref (gB G + p13)), (0, .ref (gB G + 0)), (1, .int x1), (2, .int x2), (3, .int x3)]) C d_X11_later_39 (by decide) rfl ?_
        refine z_aload 0 C d_X11_later_41 rfl ?_
        refine z_get (k := 0) (v := .int (p11.1 p13 0)) C ((E_6 (kr_X7_manOf kx_3 e12) G) _ _) (kU_in (kr_X7_manOf kx_3 e12) (by decide)) rfl inX6 (by decide) wf_X11_174 rfl d_X11_later_43 ?_
        refine z_if_eq C d_X11_later_46 (fun q14 => ?_) (fun q14 => ?_)
        · have h := o_t q14 h
          refine z_bipush (v := (-4 : Int32)) C d_X11_later_57 (by decide) ?_
          exact z_sub [] rfl (k_X11_later_59 C hlk hr h)
        · have h := o_f q14 h
          refine z_aload 0 C d_X11_later_49 rfl ?_
          refine z_get (k := 4) (v := .int (p11.1 p13 4)) C ((E_6 (kr_X7_manOf kx_3 e12) G) _ _) (kU_in (kr_X7_manOf kx_3 e12) (by decide)) rfl inX6 (by decide) wf_X11_189 rfl d_X11_later_51 ?_
          refine z_goto C d_X11_later_54 ?_
          exact z_sub [] rfl (k_X11_later_59 C hlk hr h)
      · have h := o_t q9 h
        exact z_sub [] rfl (k_X11_later_23 C hlk hr h)
theorem c_X11_later (l : Launch) (G : GG) {M : Mm} {x1 : Int32} {x2 : Int32} {x3 : Int32} {r : Int32} {M2 : Mm} (h : f_X11_later M x1 x2 x3 = some (r, M2)) : CT l 0 G y_X11_later prog_1_method_23_code 5 (some .int) 6 139 [.ref (gB G + 0), .int x1, .int x2, .int x3] M (some (.int r)) M2 :=
  CT.of (by decide +kernel) (Nat.le_of_ble_eq_true rfl) rfl (fun p e s m args below meth c C hlk hr => k_X11_later_0 C hlk hr h)
-- SnowSentries.line(II)I
set_option maxRecDepth 4000 in
theorem k_X11_line_16 {p : Program} {l : Launch} {e : Env} {s : State} {m : MethodId} {args : Array Value} {below : List Frame} {meth : Method} {c : Code} {G : GG} {M : Mm} {r : Int32} {M2 : Mm} (C : CX p s m args c prog_1_method_24_code 3 "SnowSentries" 0 G) (hlk : meth.locks = false) (hr : meth.sig.returnType = (some .int)) : f_X11_line_16 M = some (r, M2) → Z p l e { frames := 6, cells := 0, slots := 0, locals := 139 } s m args below meth c 0 G 3 (MQ below (QC 0 G (some (.int r)) M2) args s 0 0 (AU 0 G)) 16 [] [] M := by
  intro h
  unfold f_X11_line_16 at h
  refine z_iconst (v := (-1 : Int32)) C d_X11_line_16 (by decide) ?_
  obtain ⟨rfl, rfl⟩ := o_pair h
  exact z_iret C hlk hr d_X11_line_17
set_option maxRecDepth 4000 in
theorem k_X11_line_0 {p : Program} {l : Launch} {e : Env} {s : State} {m : MethodId} {args : Array Value} {below : List Frame} {meth : Method} {c : Code} {G : GG} {M : Mm} {x1 : Int32} {x2 : Int32} {r : Int32} {M2 : Mm} (C : CX p s m args c prog_1_method_24_code 3 "SnowSentries" 0 G) (hlk : meth.locks = false) (hr : meth.sig.returnType = (some .int)) : f_X11_line M x1 x2 = some (r, M2) → Z p l e { frames := 6, cells := 0, slots := 0, locals := 139 } s m args below meth c 0 G 3 (MQ below (QC 0 G (some (.int r)) M2) args s 0 0 (AU 0 G)) 0 [(0, .ref (gB G + 0)), (1, .int x1), (2, .int x2)] [] M := by
  intro h
  unfold f_X11_line at h
  refine z_aload_n 0 C d_X11_line_0 rfl rfl ?_
  refine z_iload_n 1 C d_X11_line_1 rfl rfl ?_
  obtain ⟨p2, e1, h⟩ := o_bd h
  refine z_V (S := []) (As := [.int x1]) C (c_X11_isFurlong l G e1) ((E_11 kx_0 G) _ _) (kU_in kx_0 (by decide)) rfl wc_X11_isFurlong wm_X11_148 ws_X11_isFurlong wl_X11_isFurlong wi_X11 hy_X11_isFurlong ⟨Nat.le_of_ble_eq_true rfl, Nat.le_of_ble_eq_true rfl⟩ rfl rfl (Nat.le_of_ble_eq_true rfl) d_X11_line_2 ?_
  refine z_if_eq C d_X11_line_5 (fun q3 => ?_) (fun q3 => ?_)
  · have h := o_t q3 h
    exact z_sub [] rfl (k_X11_line_16 C hlk hr h)
  · have h := o_f q3 h
    refine z_aload_n 0 C d_X11_line_8 rfl rfl ?_
    refine z_iload_n 2 C d_X11_line_9 rfl rfl ?_
    obtain ⟨p5, e4, h⟩ := o_bd h
    refine z_V (S := []) (As := [.int x2]) C (c_X11_isFromNow l G e4) ((E_11 kx_0 G) _ _) (kU_in kx_0 (by decide)) rfl wc_X11_isFromNow wm_X11_263 ws_X11_isFromNow wl_X11_isFromNow wi_X11 hy_X11_isFromNow ⟨Nat.le_of_ble_eq_true rfl, Nat.le_of_ble_eq_true rfl⟩ rfl rfl (Nat.le_of_ble_eq_true rfl) d_X11_line_10 ?_
    refine z_if_ne C d_X11_line_13 (fun q6 => ?_) (fun q6 => ?_)
    · have h := o_f q6 h
      refine z_aload_n 0 C d_X11_line_18 rfl rfl ?_
      refine z_iload_n 2 C d_X11_line_19 rfl rfl ?_
      obtain ⟨p8, e7, h⟩ := o_bd h
      refine z_V (S := []) (As := [.int x2]) C (c_X11_lookAhead l G e7) ((E_11 kx_0 G) _ _) (kU_in kx_0 (by decide)) rfl wc_X11_lookAhead wm_X11_266 ws_X11_lookAhead wl_X11_lookAhead wi_X11 hy_X11_lookAhead ⟨Nat.le_of_ble_eq_true rfl, Nat.le_of_ble_eq_true rfl⟩ rfl rfl (Nat.le_of_ble_eq_true rfl) d_X11_line_20 ?_
      refine z_aload_n 0 C d_X11_line_23 rfl rfl ?_
      refine z_get (k := 1) (v := .ref (gB G + 3)) C ((E_11 kx_0 G) _ _) (kU_in kx_0 (by decide)) rfl inX11 (by decide) wf_X11_19 rfl d_X11_line_24 ?_
      refine z_get (k := 4) (v := .ref (gB G + 7)) C ((E_7 kx_3 G) _ _) (kU_in kx_3 (by decide)) rfl inX7 (by decide) wf_X11_157 rfl d_X11_line_27 ?_
      refine z_iload_n 1 C d_X11_line_30 rfl rfl ?_
      obtain ⟨q9, h⟩ := o_ck h
      refine z_ald ((E_21 kx_7 G) _ _) C (kU_in kx_7 (by decide)) q9 d_X11_line_31 ?_
      refine z_bipush (v := (100 : Int32)) C d_X11_line_32 (by decide) ?_
      refine z_iadd C d_X11_line_34 ?_
      obtain ⟨rfl, rfl⟩ := o_pair h
      exact z_iret C hlk hr d_X11_line_35
    · have h := o_t q6 h
      exact z_sub [] rfl (k_X11_line_16 C hlk hr h)
theorem c_X11_line (l : Launch) (G : GG) {M : Mm} {x1 : Int32} {x2 : Int32} {r : Int32} {M2 : Mm} (h : f_X11_line M x1 x2 = some (r, M2)) : CT l 0 G y_X11_line prog_1_method_24_code 3 (some .int) 6 139 [.ref (gB G + 0), .int x1, .int x2] M (some (.int r)) M2 :=
  CT.of (by decide +kernel) (Nat.le_of_ble_eq_true rfl) rfl (fun p e s m args below meth c C hlk hr => k_X11_line_0 C hlk hr h)
-- SnowSentries.houses(II)I
set_option maxRecDepth 4000 in
theorem k_X11_houses_15 {p : Program} {l : Launch} {e : Env} {s : State} {m : MethodId} {args : Array Value} {below : List Frame} {meth : Method} {c : Code} {G : GG} {M : Mm} {r : Int32} {M2 : Mm} (C : CX p s m args c prog_1_method_25_code 5 "SnowSentries" 0 G) (hlk : meth.locks = false) (hr : meth.sig.returnType = (some .int)) : f_X11_houses_15 M = some (r, M2) → Z p l e { frames := 6, cells := 0, slots := 0, locals := 139 } s m args below meth c 0 G 5 (MQ below (QC 0 G (some (.int r)) M2) args s 0 0 (AU 0 G)) 15 [] [] M := by
  intro h
  unfold f_X11_houses_15 at h
  refine z_iconst (v := (-1 : Int32)) C d_X11_houses_15 (by decide) ?_
  obtain ⟨rfl, rfl⟩ := o_pair h
  exact z_iret C hlk hr d_X11_houses_16
set_option maxRecDepth 4000 in
theorem k_X11_houses_63 {p : Program} {l : Launch} {e : Env} {s : State} {m : MethodId} {args : Array Value} {below : List Frame} {meth : Method} {c : Code} {G : GG} {k27 : Int32 → Int32 → Option (Int32 × Mm)} {M : Mm} {x1 : Int32} {x3 : Int32} {x4 : Int32} {r : Int32} {M2 : Mm} (C : CX p s m args c prog_1_method_25_code 5 "SnowSentries" 0 G) (hlk : meth.locks = false) (hr : meth.sig.returnType = (some .int)) (hk27 : ∀ (x3 : Int32) (x4 : Int32), k27 x3 x4 = some (r, M2) → Z p l e { frames := 6, cells := 0, slots := 0, locals := 139 } s m args below meth c 0 G 5 (MQ below (QC 0 G (some (.int r)) M2) args s 0 0 (AU 0 G)) 27 [(0, .ref (gB G + 0)), (1, .int x1), (3, .int x3), (4, .int x4)] [] M) : f_X11_houses_63 k27 M x1 x3 x4 = some (r, M2) → Z p l e { frames := 6, cells := 0, slots := 0, locals := 139 } s m args below meth c 0 G 5 (MQ below (QC 0 G (some (.int r)) M2) args s 0 0 (AU 0 G)) 63 [(0, .ref (gB G + 0)), (1, .int x1), (3, .int x3), (4, .int x4)] [] M := by
  intro h
  unfold f_X11_houses_63 at h
  refine z_iinc (v := (1 : Int32)) (L' := [(4, .int (x4 + (1 : Int32))), (0, .ref (gB G + 0)), (1, .int x1), (3, .int x3)]) 3 C d_X11_houses_63 rfl (by decide) (by decide) rfl ?_
  refine z_goto C d_X11_houses_66 ?_
  exact z_sub [1, 2, 3, 0] rfl (hk27 _ _  h)
set_option maxRecDepth 4000 in
theorem kb_X11_houses_27 {p : Program} {l : Launch} {e : Env} {s : State} {m : MethodId} {args : Array Value} {below : List Frame} {meth : Method} {c : Code} {G : GG} {k27 : Int32 → Int32 → Option (Int32 × Mm)} {M : Mm} {x1 : Int32} {x3 : Int32} {x4 : Int32} {r : Int32} {M2 : Mm} (C : CX p s m args c prog_1_method_25_code 5 "SnowSentries" 0 G) (hlk : meth.locks = false) (hr : meth.sig.returnType = (some .int)) (hk27 : ∀ (x3 : Int32) (x4 : Int32), k27 x3 x4 = some (r, M2) → Z p l e { frames := 6, cells := 0, slots := 0, locals := 139 } s m args below meth c 0 G 5 (MQ below (QC 0 G (some (.int r)) M2) args s 0 0 (AU 0 G)) 27 [(0, .ref (gB G + 0)), (1, .int x1), (3, .int x3), (4, .int x4)] [] M) : b_X11_houses_27 k27 M x1 x3 x4 = some (r, M2) → Z p l e { frames := 6, cells := 0, slots := 0, locals := 139 } s m args below meth c 0 G 5 (MQ below (QC 0 G (some (.int r)) M2) args s 0 0 (AU 0 G)) 27 [(0, .ref (gB G + 0)), (1, .int x1), (3, .int x3), (4, .int x4)] [] M := by
  intro h
  unfold b_X11_houses_27 at h
  refine z_iload 3 C d_X11_houses_27 rfl ?_
  refine z_aload_n 0 C d_X11_houses_29 rfl rfl ?_
  refine z_get (k := 9) (v := .ref (gB G + (ld (M.1 0 9)))) C ((E_11 kx_0 G) _ _) (kU_in kx_0 (by decide)) rfl inX11 (by decide) wf_X11_69 rfl d_X11_houses_30 ?_
  refine z_get (k := 4) (v := .int (M.1 (ld (M.1 0 9)) 4)) C ((E_4 (k_ld _) G) _ _) (kU_in (k_ld _) (by decide)) rfl inX4 (by decide) wf_X11_214 rfl d_X11_houses_33 ?_
  refine z_icmp_ge C d_X11_houses_36 (fun q1 => ?_) (fun q1 => ?_)
  · have h := o_t q1 h
    refine z_iload_n 2 C d_X11_houses_69 rfl rfl ?_
    obtain ⟨rfl, rfl⟩ := o_pair h
    exact z_iret C hlk hr d_X11_houses_70
  · have h := o_f q1 h
    refine z_aload_n 0 C d_X11_houses_39 rfl rfl ?_
    refine z_get (k := 9) (v := .ref (gB G + (ld (M.1 0 9)))) C ((E_11 kx_0 G) _ _) (kU_in kx_0 (by decide)) rfl inX11 (by decide) wf_X11_69 rfl d_X11_houses_40 ?_
    refine z_iload 3 C d_X11_houses_43 rfl ?_
    refine z_aload_n 0 C d_X11_houses_45 rfl rfl ?_
    refine z_get (k := 1) (v := .ref (gB G + 3)) C ((E_11 kx_0 G) _ _) (kU_in kx_0 (by decide)) rfl inX11 (by decide) wf_X11_19 rfl d_X11_houses_46 ?_
    obtain ⟨p3, e2, h⟩ := o_bd h
    refine z_V (S := []) (As := [.int x4, .ref (gB G + 3)]) C (c_X4_ownerOf l G (k_ld _) kx_3 e2) ((E_4 (k_ld _) G) _ _) (kU_in (k_ld _) (by decide)) rfl wc_X4_ownerOf wm_X11_223 ws_X4_ownerOf wl_X4_ownerOf wi_X4 hy_X4_ownerOf ⟨Nat.le_of_ble_eq_true rfl, Nat.le_of_ble_eq_true rfl⟩ rfl rfl (Nat.le_of_ble_eq_true rfl) d_X11_houses_49 ?_
    refine z_iload_n 1 C d_X11_houses_52 rfl rfl ?_
    refine z_icmp_ne C d_X11_houses_53 (fun q4 => ?_) (fun q4 => ?_)
    · have h := o_f q4 h
      exact z_sub [0, 1, 2, 3] rfl (k_X11_houses_63 C hlk hr hk27 h)
    · have h := o_t q4 h
      refine z_iload_n 2 C d_X11_houses_56 rfl rfl ?_
      refine z_iconst (v := (1 : Int32)) C d_X11_houses_57 (by decide) ?_
      refine z_iload 3 C d_X11_houses_58 rfl ?_
      refine z_ishl C d_X11_houses_60 ?_
      refine z_ior C d_X11_houses_61 ?_
      obtain ⟨v5, e6, h⟩ := o_nm h
      refine z_nI e6 ?_
      refine z_istore_n (L' := [(3, .int v5), (0, .ref (gB G + 0)), (1, .int x1), (4, .int x4)]) C d_X11_houses_62 rfl (by decide) rfl ?_
      exact z_sub [1, 2, 0, 3] rfl (k_X11_houses_63 C hlk hr hk27 h)
theorem k_X11_houses_27 {p : Program} {l : Launch} {e : Env} {s : State} {m : MethodId} {args : Array Value} {below : List Frame} {meth : Method} {c : Code} {G : GG} {M : Mm} {x1 : Int32} {r : Int32} {M2 : Mm} (C : CX p s m args c prog_1_method_25_code 5 "SnowSentries" 0 G) (hlk : meth.locks = false) (hr : meth.sig.returnType = (some .int)) : ∀ (n : Nat) (x3 : Int32) (x4 : Int32), f_X11_houses_27 M x1 n x3 x4 = some (r, M2) → Z p l e { frames := 6, cells := 0, slots := 0, locals := 139 } s m args below meth c 0 G 5 (MQ below (QC 0 G (some (.int r)) M2) args s 0 0 (AU 0 G)) 27 [(0, .ref (gB G + 0)), (1, .int x1), (3, .int x3), (4, .int x4)] [] M := by
  intro n
  induction n with
  | zero =>
    intro x3 x4  h
    exact absurd h (fun z => by cases z)
  | succ n ih =>
    intro x3 x4  h
    exact kb_X11_houses_27 C hlk hr  (fun x3 x4 h => ih x3 x4 h) h
set_option maxRecDepth 4000 in
theorem k_X11_houses_0 {p : Program} {l : Launch} {e : Env} {s : State} {m : MethodId} {args : Array Value} {below : List Frame} {meth : Method} {c : Code} {G : GG} {M : Mm} {x1 : Int32} {x2 : Int32} {r : Int32} {M2 : Mm} (C : CX p s m args c prog_1_method_25_code 5 "SnowSentries" 0 G) (hlk : meth.locks = false) (hr : meth.sig.returnType = (some .int)) : f_X11_houses M x1 x2 = some (r, M2) → Z p l e { frames := 6, cells := 0, slots := 0, locals := 139 } s m args below meth c 0 G 5 (MQ below (QC 0 G (some (.int r)) M2) args s 0 0 (AU 0 G)) 0 [(0, .ref (gB G + 0)), (1, .int x1), (2, .int x2)] [] M := by
  intro h
  unfold f_X11_houses at h
  refine z_iload_n 1 C d_X11_houses_0 rfl rfl ?_
  obtain ⟨p2, e1, h⟩ := o_bd h
  refine z_S (S := []) (As := [.int x1]) C (c_X11_isSide l G (M := M) e1) wc_X11_isSide wm_X11_163 ws_X11_isSide wi_X11 hy_X11_isSide ⟨Nat.le_of_ble_eq_true rfl, Nat.le_of_ble_eq_true rfl⟩ rfl rfl (Nat.le_of_ble_eq_true rfl) d_X11_houses_1 ?_
  refine z_if_eq C d_X11_houses_4 (fun q3 => ?_) (fun q3 => ?_)
  · have h := o_t q3 h
    exact z_sub [] rfl (k_X11_houses_15 C hlk hr h)
  · have h := o_f q3 h
    refine z_aload_n 0 C d_X11_houses_7 rfl rfl ?_
    refine z_iload_n 2 C d_X11_houses_8 rfl rfl ?_
    obtain ⟨p5, e4, h⟩ := o_bd h
    refine z_V (S := []) (As := [.int x2]) C (c_X11_isFromNow l G e4) ((E_11 kx_0 G) _ _) (kU_in kx_0 (by decide)) rfl wc_X11_isFromNow wm_X11_263 ws_X11_isFromNow wl_X11_isFromNow wi_X11 hy_X11_isFromNow ⟨Nat.le_of_ble_eq_true rfl, Nat.le_of_ble_eq_true rfl⟩ rfl rfl (Nat.le_of_ble_eq_true rfl) d_X11_houses_9 ?_
    refine z_if_ne C d_X11_houses_12 (fun q6 => ?_) (fun q6 => ?_)
    · have h := o_f q6 h
      refine z_aload_n 0 C d_X11_houses_17 rfl rfl ?_
      refine z_iload_n 2 C d_X11_houses_18 rfl rfl ?_
      obtain ⟨p8, e7, h⟩ := o_bd h
      refine z_V (S := []) (As := [.int x2]) C (c_X11_lookAhead l G e7) ((E_11 kx_0 G) _ _) (kU_in kx_0 (by decide)) rfl wc_X11_lookAhead wm_X11_266 ws_X11_lookAhead wl_X11_lookAhead wi_X11 hy_X11_lookAhead ⟨Nat.le_of_ble_eq_true rfl, Nat.le_of_ble_eq_true rfl⟩ rfl rfl (Nat.le_of_ble_eq_true rfl) d_X11_houses_19 ?_
      refine z_iconst (v := (0 : Int32)) C d_X11_houses_22 (by decide) ?_
      refine z_istore_n (L' := [(3, .int (0 : Int32)), (0, .ref (gB G + 0)), (1, .int x1), (2, .int x2)]) C d_X11_houses_23 rfl (by decide) rfl ?_
      refine z_iconst (v := (0 : Int32)) C d_X11_houses_24 (by decide) ?_
      refine z_istore (L' := [(4, .int (0 : Int32)), (3, .int (0 : Int32)), (0, .ref (gB G + 0)), (1, .int x1), (2, .int x2)]) C d_X11_houses_25 (by decide) rfl ?_
      exact z_sub [2, 3, 1, 0] rfl (k_X11_houses_27 C hlk hr _ _ _ h)
    · have h := o_t q6 h
      exact z_sub [] rfl (k_X11_houses_15 C hlk hr h)
theorem c_X11_houses (l : Launch) (G : GG) {M : Mm} {x1 : Int32} {x2 : Int32} {r : Int32} {M2 : Mm} (h : f_X11_houses M x1 x2 = some (r, M2)) : CT l 0 G y_X11_houses prog_1_method_25_code 5 (some .int) 6 139 [.ref (gB G + 0), .int x1, .int x2] M (some (.int r)) M2 :=
  CT.of (by decide +kernel) (Nat.le_of_ble_eq_true rfl) rfl (fun p e s m args below meth c C hlk hr => k_X11_houses_0 C hlk hr h)
-- SnowSentries.holds(II)I
set_option maxRecDepth 4000 in
theorem k_X11_holds_15 {p : Program} {l : Launch} {e : Env} {s : State} {m : MethodId} {args : Array Value} {below : List Frame} {meth : Method} {c : Code} {G : GG} {M : Mm} {r : Int32} (C : CX p s m args c prog_1_method_26_code 3 "SnowSentries" 0 G) (hlk : meth.locks = false) (hr : meth.sig.returnType = (some .int)) : f_X11_holds_15 M = some r → Z p l e { frames := 6, cells := 0, slots := 0, locals := 141 } s m args below meth c 0 G 3 (MQ below (QC 0 G (some (.int r)) M) args s 0 0 (AU 0 G)) 15 [] [] M := by
  intro h
  unfold f_X11_holds_15 at h
  refine z_iconst (v := (-1 : Int32)) C d_X11_holds_15 (by decide) ?_
  obtain rfl := o_some h
  exact z_iret C hlk hr d_X11_holds_16
set_option maxRecDepth 4000 in
theorem k_X11_holds_0 {p : Program} {l : Launch} {e : Env} {s : State} {m : MethodId} {args : Array Value} {below : List Frame} {meth : Method} {c : Code} {G : GG} {M : Mm} {x1 : Int32} {x2 : Int32} {r : Int32} (C : CX p s m args c prog_1_method_26_code 3 "SnowSentries" 0 G) (hlk : meth.locks = false) (hr : meth.sig.returnType = (some .int)) : f_X11_holds M x1 x2 = some r → Z p l e { frames := 6, cells := 0, slots := 0, locals := 141 } s m args below meth c 0 G 3 (MQ below (QC 0 G (some (.int r)) M) args s 0 0 (AU 0 G)) 0 [(0, .ref (gB G + 0)), (1, .int x1), (2, .int x2)] [] M := by
  intro h
  unfold f_X11_holds at h
  refine z_iload_n 1 C d_X11_holds_0 rfl rfl ?_
  obtain ⟨p2, e1, h⟩ := o_bd h
  refine z_S (S := []) (As := [.int x1]) C (c_X11_isSide l G (M := M) e1) wc_X11_isSide wm_X11_163 ws_X11_isSide wi_X11 hy_X11_isSide ⟨Nat.le_of_ble_eq_true rfl, Nat.le_of_ble_eq_true rfl⟩ rfl rfl (Nat.le_of_ble_eq_true rfl) d_X11_holds_1 ?_
  refine z_if_eq C d_X11_holds_4 (fun q3 => ?_) (fun q3 => ?_)
  · have h := o_t q3 h
    exact z_sub [] rfl (k_X11_holds_15 C hlk hr h)
  · have h := o_f q3 h
    refine z_aload_n 0 C d_X11_holds_7 rfl rfl ?_
    refine z_iload_n 2 C d_X11_holds_8 rfl rfl ?_
    obtain ⟨p5, e4, h⟩ := o_bd h
    refine z_V (S := []) (As := [.int x2]) C (c_X11_isFromNow l G e4) ((E_11 kx_0 G) _ _) (kU_in kx_0 (by decide)) rfl wc_X11_isFromNow wm_X11_263 ws_X11_isFromNow wl_X11_isFromNow wi_X11 hy_X11_isFromNow ⟨Nat.le_of_ble_eq_true rfl, Nat.le_of_ble_eq_true rfl⟩ rfl rfl (Nat.le_of_ble_eq_true rfl) d_X11_holds_9 ?_
    refine z_if_ne C d_X11_holds_12 (fun q6 => ?_) (fun q6 => ?_)
    · have h := o_f q6 h
      refine z_aload_n 0 C d_X11_holds_17 rfl rfl ?_
      refine z_get (k := 9) (v := .ref (gB G + (ld (M.1 0 9)))) C ((E_11 kx_0 G) _ _) (kU_in kx_0 (by decide)) rfl inX11 (by decide) wf_X11_69 rfl d_X11_holds_18 ?_
      refine z_iload_n 1 C d_X11_holds_21 rfl rfl ?_
      refine z_iload_n 2 C d_X11_holds_22 rfl rfl ?_
      obtain ⟨p8, e7, h⟩ := o_bd h
      refine z_V (S := []) (As := [.int x1, .int x2]) C (c_X4_holders l G (k_ld _) e7) ((E_4 (k_ld _) G) _ _) (kU_in (k_ld _) (by decide)) rfl wc_X4_holders wm_X11_269 ws_X4_holders wl_X4_holders wi_X4 hy_X4_holders ⟨Nat.le_of_ble_eq_true rfl, Nat.le_of_ble_eq_true rfl⟩ rfl rfl (Nat.le_of_ble_eq_true rfl) d_X11_holds_23 ?_
      obtain rfl := o_some h
      exact z_iret C hlk hr d_X11_holds_26
    · have h := o_t q6 h
      exact z_sub [] rfl (k_X11_holds_15 C hlk hr h)
theorem c_X11_holds (l : Launch) (G : GG) {M : Mm} {x1 : Int32} {x2 : Int32} {r : Int32} (h : f_X11_holds M x1 x2 = some r) : CT l 0 G y_X11_holds prog_1_method_26_code 3 (some .int) 6 141 [.ref (gB G + 0), .int x1, .int x2] M (some (.int r)) M :=
  CT.of (by decide +kernel) (Nat.le_of_ble_eq_true rfl) rfl (fun p e s m args below meth c C hlk hr => k_X11_holds_0 C hlk hr h)
-- SnowSentries.need(III)I
set_option maxRecDepth 4000 in
theorem k_X11_need_23 {p : Program} {l : Launch} {e : Env} {s : State} {m : MethodId} {args : Array Value} {below : List Frame} {meth : Method} {c : Code} {G : GG} {M : Mm} {r : Int32} (C : CX p s m args c prog_1_method_27_code 4 "SnowSentries" 0 G) (hlk : meth.locks = false) (hr : meth.sig.returnType = (some .int)) : f_X11_need_23 M = some r → Z p l e { frames := 5, cells := 0, slots := 0, locals := 117 } s m args below meth c 0 G 4 (MQ below (QC 0 G (some (.int r)) M) args s 0 0 (AU 0 G)) 23 [] [] M := by
  intro h
  unfold f_X11_need_23 at h
  refine z_iconst (v := (-1 : Int32)) C d_X11_need_23 (by decide) ?_
  obtain rfl := o_some h
  exact z_iret C hlk hr d_X11_need_24
set_option maxRecDepth 4000 in
theorem k_X11_need_0 {p : Program} {l : Launch} {e : Env} {s : State} {m : MethodId} {args : Array Value} {below : List Frame} {meth : Method} {c : Code} {G : GG} {M : Mm} {x1 : Int32} {x2 : Int32} {x3 : Int32} {r : Int32} (C : CX p s m args c prog_1_method_27_code 4 "SnowSentries" 0 G) (hlk : meth.locks = false) (hr : meth.sig.returnType = (some .int)) : f_X11_need M x1 x2 x3 = some r → Z p l e { frames := 5, cells := 0, slots := 0, locals := 117 } s m args below meth c 0 G 4 (MQ below (QC 0 G (some (.int r)) M) args s 0 0 (AU 0 G)) 0 [(0, .ref (gB G + 0)), (1, .int x1), (2, .int x2), (3, .int x3)] [] M := by
  intro h
  unfold f_X11_need at h
  refine z_iload_n 1 C d_X11_need_0 rfl rfl ?_
  obtain ⟨p2, e1, h⟩ := o_bd h
  refine z_S (S := []) (As := [.int x1]) C (c_X11_isSide l G (M := M) e1) wc_X11_isSide wm_X11_163 ws_X11_isSide wi_X11 hy_X11_isSide ⟨Nat.le_of_ble_eq_true rfl, Nat.le_of_ble_eq_true rfl⟩ rfl rfl (Nat.le_of_ble_eq_true rfl) d_X11_need_1 ?_
  refine z_if_eq C d_X11_need_4 (fun q3 => ?_) (fun q3 => ?_)
  · have h := o_t q3 h
    exact z_sub [] rfl (k_X11_need_23 C hlk hr h)
  · have h := o_f q3 h
    refine z_aload_n 0 C d_X11_need_7 rfl rfl ?_
    refine z_iload_n 2 C d_X11_need_8 rfl rfl ?_
    obtain ⟨p5, e4, h⟩ := o_bd h
    refine z_V (S := []) (As := [.int x2]) C (c_X11_isFurlong l G e4) ((E_11 kx_0 G) _ _) (kU_in kx_0 (by decide)) rfl wc_X11_isFurlong wm_X11_148 ws_X11_isFurlong wl_X11_isFurlong wi_X11 hy_X11_isFurlong ⟨Nat.le_of_ble_eq_true rfl, Nat.le_of_ble_eq_true rfl⟩ rfl rfl (Nat.le_of_ble_eq_true rfl) d_X11_need_9 ?_
    refine z_if_eq C d_X11_need_12 (fun q6 => ?_) (fun q6 => ?_)
    · have h := o_t q6 h
      exact z_sub [] rfl (k_X11_need_23 C hlk hr h)
    · have h := o_f q6 h
      refine z_aload_n 0 C d_X11_need_15 rfl rfl ?_
      refine z_iload_n 3 C d_X11_need_16 rfl rfl ?_
      obtain ⟨p8, e7, h⟩ := o_bd h
      refine z_V (S := []) (As := [.int x3]) C (c_X11_isFromNow l G e7) ((E_11 kx_0 G) _ _) (kU_in kx_0 (by decide)) rfl wc_X11_isFromNow wm_X11_263 ws_X11_isFromNow wl_X11_isFromNow wi_X11 hy_X11_isFromNow ⟨Nat.le_of_ble_eq_true rfl, Nat.le_of_ble_eq_true rfl⟩ rfl rfl (Nat.le_of_ble_eq_true rfl) d_X11_need_17 ?_
      refine z_if_ne C d_X11_need_20 (fun q9 => ?_) (fun q9 => ?_)
      · have h := o_f q9 h
        refine z_aload_n 0 C d_X11_need_25 rfl rfl ?_
        refine z_get (k := 9) (v := .ref (gB G + (ld (M.1 0 9)))) C ((E_11 kx_0 G) _ _) (kU_in kx_0 (by decide)) rfl inX11 (by decide) wf_X11_69 rfl d_X11_need_26 ?_
        refine z_iload_n 1 C d_X11_need_29 rfl rfl ?_
        refine z_iload_n 2 C d_X11_need_30 rfl rfl ?_
        refine z_iload_n 3 C d_X11_need_31 rfl rfl ?_
        obtain ⟨p11, e10, h⟩ := o_bd h
        refine z_V (S := []) (As := [.int x1, .int x2, .int x3]) C (c_X4_needOf l G (k_ld _) e10) ((E_4 (k_ld _) G) _ _) (kU_in (k_ld _) (by decide)) rfl wc_X4_needOf wm_X11_272 ws_X4_needOf wl_X4_needOf wi_X4 hy_X4_needOf ⟨Nat.le_of_ble_eq_true rfl, Nat.le_of_ble_eq_true rfl⟩ rfl rfl (Nat.le_of_ble_eq_true rfl) d_X11_need_32 ?_
        obtain rfl := o_some h
        exact z_iret C hlk hr d_X11_need_35
      · have h := o_t q9 h
        exact z_sub [] rfl (k_X11_need_23 C hlk hr h)
theorem c_X11_need (l : Launch) (G : GG) {M : Mm} {x1 : Int32} {x2 : Int32} {x3 : Int32} {r : Int32} (h : f_X11_need M x1 x2 x3 = some r) : CT l 0 G y_X11_need prog_1_method_27_code 4 (some .int) 5 117 [.ref (gB G + 0), .int x1, .int x2, .int x3] M (some (.int r)) M :=
  CT.of (by decide +kernel) (Nat.le_of_ble_eq_true rfl) rfl (fun p e s m args below meth c C hlk hr => k_X11_need_0 C hlk hr h)
-- SnowSentries.crews(IIII)I
set_option maxRecDepth 4000 in
theorem k_X11_crews_35 {p : Program} {l : Launch} {e : Env} {s : State} {m : MethodId} {args : Array Value} {below : List Frame} {meth : Method} {c : Code} {G : GG} {M : Mm} {r : Int32} {M2 : Mm} (C : CX p s m args c prog_1_method_28_code 5 "SnowSentries" 0 G) (hlk : meth.locks = false) (hr : meth.sig.returnType = (some .int)) : f_X11_crews_35 M = some (r, M2) → Z p l e { frames := 6, cells := 0, slots := 0, locals := 143 } s m args below meth c 0 G 5 (MQ below (QC 0 G (some (.int r)) M2) args s 0 0 (AU 0 G)) 35 [] [] M := by
  intro h
  unfold f_X11_crews_35 at h
  refine z_iconst (v := (-1 : Int32)) C d_X11_crews_35 (by decide) ?_
  obtain ⟨rfl, rfl⟩ := o_pair h
  exact z_iret C hlk hr d_X11_crews_36
set_option maxRecDepth 4000 in
theorem k_X11_crews_0 {p : Program} {l : Launch} {e : Env} {s : State} {m : MethodId} {args : Array Value} {below : List Frame} {meth : Method} {c : Code} {G : GG} {M : Mm} {x1 : Int32} {x2 : Int32} {x3 : Int32} {x4 : Int32} {r : Int32} {M2 : Mm} (C : CX p s m args c prog_1_method_28_code 5 "SnowSentries" 0 G) (hlk : meth.locks = false) (hr : meth.sig.returnType = (some .int)) : f_X11_crews M x1 x2 x3 x4 = some (r, M2) → Z p l e { frames := 6, cells := 0, slots := 0, locals := 143 } s m args below meth c 0 G 5 (MQ below (QC 0 G (some (.int r)) M2) args s 0 0 (AU 0 G)) 0 [(0, .ref (gB G + 0)), (1, .int x1), (2, .int x2), (3, .int x3), (4, .int x4)] [] M := by
  intro h
  unfold f_X11_crews at h
  refine z_iload_n 1 C d_X11_crews_0 rfl rfl ?_
  obtain ⟨p2, e1, h⟩ := o_bd h
  refine z_S (S := []) (As := [.int x1]) C (c_X11_isSide l G (M := M) e1) wc_X11_isSide wm_X11_163 ws_X11_isSide wi_X11 hy_X11_isSide ⟨Nat.le_of_ble_eq_true rfl, Nat.le_of_ble_eq_true rfl⟩ rfl rfl (Nat.le_of_ble_eq_true rfl) d_X11_crews_1 ?_
  refine z_if_eq C d_X11_crews_4 (fun q3 => ?_) (fun q3 => ?_)
  · have h := o_t q3 h
    exact z_sub [] rfl (k_X11_crews_35 C hlk hr h)
  · have h := o_f q3 h
    refine z_aload_n 0 C d_X11_crews_7 rfl rfl ?_
    refine z_iload_n 2 C d_X11_crews_8 rfl rfl ?_
    obtain ⟨p5, e4, h⟩ := o_bd h
    refine z_V (S := []) (As := [.int x2]) C (c_X11_isFromNow l G e4) ((E_11 kx_0 G) _ _) (kU_in kx_0 (by decide)) rfl wc_X11_isFromNow wm_X11_263 ws_X11_isFromNow wl_X11_isFromNow wi_X11 hy_X11_isFromNow ⟨Nat.le_of_ble_eq_true rfl, Nat.le_of_ble_eq_true rfl⟩ rfl rfl (Nat.le_of_ble_eq_true rfl) d_X11_crews_9 ?_
    refine z_if_eq C d_X11_crews_12 (fun q6 => ?_) (fun q6 => ?_)
    · have h := o_t q6 h
      exact z_sub [] rfl (k_X11_crews_35 C hlk hr h)
    · have h := o_f q6 h
      refine z_iload_n 3 C d_X11_crews_15 rfl rfl ?_
      refine z_iconst (v := (0 : Int32)) C d_X11_crews_16 (by decide) ?_
      refine z_bipush (v := (10 : Int32)) C d_X11_crews_17 (by decide) ?_
      obtain ⟨p8, e7, h⟩ := o_bd h
      refine z_S (S := []) (As := [.int x3, .int (0 : Int32), .int (10 : Int32)]) C (c_X11_isAmong l G (M := M) e7) wc_X11_isAmong wm_X11_166 ws_X11_isAmong wi_X11 hy_X11_isAmong ⟨Nat.le_of_ble_eq_true rfl, Nat.le_of_ble_eq_true rfl⟩ rfl rfl (Nat.le_of_ble_eq_true rfl) d_X11_crews_19 ?_
      refine z_if_eq C d_X11_crews_22 (fun q9 => ?_) (fun q9 => ?_)
      · have h := o_t q9 h
        exact z_sub [] rfl (k_X11_crews_35 C hlk hr h)
      · have h := o_f q9 h
        refine z_iload 4 C d_X11_crews_25 rfl ?_
        refine z_iconst (v := (0 : Int32)) C d_X11_crews_27 (by decide) ?_
        refine z_iconst (v := (2 : Int32)) C d_X11_crews_28 (by decide) ?_
        obtain ⟨p11, e10, h⟩ := o_bd h
        refine z_S (S := []) (As := [.int x4, .int (0 : Int32), .int (2 : Int32)]) C (c_X11_isAmong l G (M := M) e10) wc_X11_isAmong wm_X11_166 ws_X11_isAmong wi_X11 hy_X11_isAmong ⟨Nat.le_of_ble_eq_true rfl, Nat.le_of_ble_eq_true rfl⟩ rfl rfl (Nat.le_of_ble_eq_true rfl) d_X11_crews_29 ?_
        refine z_if_ne C d_X11_crews_32 (fun q12 => ?_) (fun q12 => ?_)
        · have h := o_f q12 h
          refine z_aload_n 0 C d_X11_crews_37 rfl rfl ?_
          refine z_get (k := 7) (v := .ref (gB G + 130)) C ((E_11 kx_0 G) _ _) (kU_in kx_0 (by decide)) rfl inX11 (by decide) wf_X11_55 rfl d_X11_crews_38 ?_
          refine z_aload_n 0 C d_X11_crews_41 rfl rfl ?_
          refine z_get (k := 9) (v := .ref (gB G + (ld (M.1 0 9)))) C ((E_11 kx_0 G) _ _) (kU_in kx_0 (by decide)) rfl inX11 (by decide) wf_X11_69 rfl d_X11_crews_42 ?_
          refine z_iload_n 1 C d_X11_crews_45 rfl rfl ?_
          refine z_iload_n 2 C d_X11_crews_46 rfl rfl ?_
          refine z_iload_n 3 C d_X11_crews_47 rfl rfl ?_
          obtain ⟨p14, e13, h⟩ := o_bd h
          refine z_V (S := []) (As := [.ref (gB G + (ld (M.1 0 9))), .int x1, .int x2, .int x3]) C (c_X1_send l G (k_ld _) e13) ((E_1 kx_130 G) _ _) (kU_in kx_130 (by decide)) rfl wc_X1_send wm_X11_276 ws_X1_send wl_X1_send wi_X1 hy_X1_send ⟨Nat.le_of_ble_eq_true rfl, Nat.le_of_ble_eq_true rfl⟩ rfl rfl (Nat.le_of_ble_eq_true rfl) d_X11_crews_48 ?_
          refine z_iload 4 C d_X11_crews_51 rfl ?_
          rcases Decidable.em (x4 = (0 : Int32)) with q15 | q15
          · have h := o_t q15 h
            refine z_lsw (tgt := 80) (off := 27) C d_X11_crews_53 (by decide) (by rw [q15]; decide) (by decide) ?_
            refine z_aload_n 0 C d_X11_crews_80 rfl rfl ?_
            refine z_get (k := 7) (v := .ref (gB G + 130)) C ((E_11 kx_0 G) _ _) (kU_in kx_0 (by decide)) rfl inX11 (by decide) wf_X11_55 rfl d_X11_crews_81 ?_
            refine z_get (k := 0) (v := .int (p14.1 130 0)) C ((E_1 kx_130 G) _ _) (kU_in kx_130 (by decide)) rfl inX1 (by decide) wf_X11_280 rfl d_X11_crews_84 ?_
            obtain ⟨rfl, rfl⟩ := o_pair h
            exact z_iret C hlk hr d_X11_crews_87
          · have h := o_f q15 h
            rcases Decidable.em (x4 = (1 : Int32)) with q16 | q16
            · have h := o_t q16 h
              refine z_lsw (tgt := 88) (off := 35) C d_X11_crews_53 (by decide) (by rw [q16]; decide) (by decide) ?_
              refine z_aload_n 0 C d_X11_crews_88 rfl rfl ?_
              refine z_get (k := 7) (v := .ref (gB G + 130)) C ((E_11 kx_0 G) _ _) (kU_in kx_0 (by decide)) rfl inX11 (by decide) wf_X11_55 rfl d_X11_crews_89 ?_
              refine z_get (k := 1) (v := .int (p14.1 130 1)) C ((E_1 kx_130 G) _ _) (kU_in kx_130 (by decide)) rfl inX1 (by decide) wf_X11_283 rfl d_X11_crews_92 ?_
              obtain ⟨rfl, rfl⟩ := o_pair h
              exact z_iret C hlk hr d_X11_crews_95
            · have h := o_f q16 h
              refine z_lsw (tgt := 96) (off := 43) C d_X11_crews_53 (by decide) (by rw [lv_osw q15 (by decide), lv_osw q16 (by decide)]; rfl) (by decide) ?_
              refine z_aload_n 0 C d_X11_crews_96 rfl rfl ?_
              refine z_get (k := 7) (v := .ref (gB G + 130)) C ((E_11 kx_0 G) _ _) (kU_in kx_0 (by decide)) rfl inX11 (by decide) wf_X11_55 rfl d_X11_crews_97 ?_
              refine z_get (k := 2) (v := .int (p14.1 130 2)) C ((E_1 kx_130 G) _ _) (kU_in kx_130 (by decide)) rfl inX1 (by decide) wf_X11_285 rfl d_X11_crews_100 ?_
              obtain ⟨rfl, rfl⟩ := o_pair h
              exact z_iret C hlk hr d_X11_crews_103
        · have h := o_t q12 h
          exact z_sub [] rfl (k_X11_crews_35 C hlk hr h)
theorem c_X11_crews (l : Launch) (G : GG) {M : Mm} {x1 : Int32} {x2 : Int32} {x3 : Int32} {x4 : Int32} {r : Int32} {M2 : Mm} (h : f_X11_crews M x1 x2 x3 x4 = some (r, M2)) : CT l 0 G y_X11_crews prog_1_method_28_code 5 (some .int) 6 143 [.ref (gB G + 0), .int x1, .int x2, .int x3, .int x4] M (some (.int r)) M2 :=
  CT.of (by decide +kernel) (Nat.le_of_ble_eq_true rfl) rfl (fun p e s m args below meth c C hlk hr => k_X11_crews_0 C hlk hr h)
-- SnowSentries.lowestBit(I)I
set_option maxRecDepth 4000 in
theorem k_X11_lowestBit_22 {p : Program} {l : Launch} {e : Env} {s : State} {m : MethodId} {args : Array Value} {below : List Frame} {meth : Method} {c : Code} {G : GG} {x1 : Int32} {M : Mm}  {r : Int32} (C : CX p s m args c prog_1_method_53_code 2 "SnowSentries" 0 G) (hlk : meth.locks = false) (hr : meth.sig.returnType = (some .int)) : f_X11_lowestBit_22 x1 = some r → Z p l e { frames := 0, cells := 0, slots := 0, locals := 0 } s m args below meth c 0 G 2 (MQ below (QC 0 G (some (.int r)) M) args s 0 0 (AU 0 G)) 22 [(1, .int x1)] [] M := by
  intro h
  unfold f_X11_lowestBit_22 at h
  refine z_iload_n 0 C d_X11_lowestBit_22 rfl rfl ?_
  obtain rfl := o_some h
  exact z_iret C hlk hr d_X11_lowestBit_23
set_option maxRecDepth 4000 in
theorem kb_X11_lowestBit_2 {p : Program} {l : Launch} {e : Env} {s : State} {m : MethodId} {args : Array Value} {below : List Frame} {meth : Method} {c : Code} {G : GG} {k2 : Int32 → Option Int32} {x0 : Int32} {x1 : Int32} {M : Mm}  {r : Int32} (C : CX p s m args c prog_1_method_53_code 2 "SnowSentries" 0 G) (hlk : meth.locks = false) (hr : meth.sig.returnType = (some .int)) (hk2 : ∀ (x1 : Int32), k2 x1 = some r → Z p l e { frames := 0, cells := 0, slots := 0, locals := 0 } s m args below meth c 0 G 2 (MQ below (QC 0 G (some (.int r)) M) args s 0 0 (AU 0 G)) 2 [(0, .int x0), (1, .int x1)] [] M) : b_X11_lowestBit_2 k2 x0 x1 = some r → Z p l e { frames := 0, cells := 0, slots := 0, locals := 0 } s m args below meth c 0 G 2 (MQ below (QC 0 G (some (.int r)) M) args s 0 0 (AU 0 G)) 2 [(0, .int x0), (1, .int x1)] [] M := by
  intro h
  unfold b_X11_lowestBit_2 at h
  refine z_iload_n 1 C d_X11_lowestBit_2 rfl rfl ?_
  refine z_bipush (v := (31 : Int32)) C d_X11_lowestBit_3 (by decide) ?_
  refine z_icmp_ge C d_X11_lowestBit_5 (fun q1 => ?_) (fun q1 => ?_)
  · have h := o_t q1 h
    exact z_sub [1] rfl (k_X11_lowestBit_22 C hlk hr h)
  · have h := o_f q1 h
    refine z_iload_n 0 C d_X11_lowestBit_8 rfl rfl ?_
    refine z_iload_n 1 C d_X11_lowestBit_9 rfl rfl ?_
    refine z_ishr C d_X11_lowestBit_10 ?_
    refine z_iconst (v := (1 : Int32)) C d_X11_lowestBit_11 (by decide) ?_
    refine z_iand C d_X11_lowestBit_12 ?_
    refine z_if_ne C d_X11_lowestBit_13 (fun q2 => ?_) (fun q2 => ?_)
    · have h := o_f q2 h
      exact z_sub [1] rfl (k_X11_lowestBit_22 C hlk hr h)
    · have h := o_t q2 h
      refine z_iinc (v := (1 : Int32)) (L' := [(1, .int (x1 + (1 : Int32))), (0, .int x0)]) 1 C d_X11_lowestBit_16 rfl (by decide) (by decide) rfl ?_
      refine z_goto C d_X11_lowestBit_19 ?_
      exact z_sub [1, 0] rfl (hk2 _  h)
theorem k_X11_lowestBit_2 {p : Program} {l : Launch} {e : Env} {s : State} {m : MethodId} {args : Array Value} {below : List Frame} {meth : Method} {c : Code} {G : GG} {x0 : Int32} {M : Mm}  {r : Int32} (C : CX p s m args c prog_1_method_53_code 2 "SnowSentries" 0 G) (hlk : meth.locks = false) (hr : meth.sig.returnType = (some .int)) : ∀ (n : Nat) (x1 : Int32), f_X11_lowestBit_2 x0 n x1 = some r → Z p l e { frames := 0, cells := 0, slots := 0, locals := 0 } s m args below meth c 0 G 2 (MQ below (QC 0 G (some (.int r)) M) args s 0 0 (AU 0 G)) 2 [(0, .int x0), (1, .int x1)] [] M := by
  intro n
  induction n with
  | zero =>
    intro x1  h
    exact absurd h (fun z => by cases z)
  | succ n ih =>
    intro x1  h
    exact kb_X11_lowestBit_2 C hlk hr  (fun x1 h => ih x1 h) h
set_option maxRecDepth 4000 in
theorem k_X11_lowestBit_0 {p : Program} {l : Launch} {e : Env} {s : State} {m : MethodId} {args : Array Value} {below : List Frame} {meth : Method} {c : Code} {G : GG} {x0 : Int32} {M : Mm}  {r : Int32} (C : CX p s m args c prog_1_method_53_code 2 "SnowSentries" 0 G) (hlk : meth.locks = false) (hr : meth.sig.returnType = (some .int)) : f_X11_lowestBit x0 = some r → Z p l e { frames := 0, cells := 0, slots := 0, locals := 0 } s m args below meth c 0 G 2 (MQ below (QC 0 G (some (.int r)) M) args s 0 0 (AU 0 G)) 0 [(0, .int x0)] [] M := by
  intro h
  unfold f_X11_lowestBit at h
  refine z_iconst (v := (0 : Int32)) C d_X11_lowestBit_0 (by decide) ?_
  refine z_istore_n (L' := [(1, .int (0 : Int32)), (0, .int x0)]) C d_X11_lowestBit_1 rfl (by decide) rfl ?_
  exact z_sub [1, 0] rfl (k_X11_lowestBit_2 C hlk hr _ _ h)
theorem c_X11_lowestBit (l : Launch) (G : GG) {x0 : Int32} {M : Mm} {r : Int32} (h : f_X11_lowestBit x0 = some r) : CT l 0 G y_X11_lowestBit prog_1_method_53_code 2 (some .int) 0 0 [.int x0] M (some (.int r)) M :=
  CT.of (by decide +kernel) (Nat.le_of_ble_eq_true rfl) rfl (fun p e s m args below meth c C hlk hr => k_X11_lowestBit_0 C hlk hr h)
-- SnowSentries.gap(II)I
set_option maxRecDepth 4000 in
theorem k_X11_gap_16 {p : Program} {l : Launch} {e : Env} {s : State} {m : MethodId} {args : Array Value} {below : List Frame} {meth : Method} {c : Code} {G : GG} {M : Mm} {r : Int32} (C : CX p s m args c prog_1_method_29_code 7 "SnowSentries" 0 G) (hlk : meth.locks = false) (hr : meth.sig.returnType = (some .int)) : f_X11_gap_16 M = some r → Z p l e { frames := 6, cells := 0, slots := 0, locals := 141 } s m args below meth c 0 G 7 (MQ below (QC 0 G (some (.int r)) M) args s 0 0 (AU 0 G)) 16 [] [] M := by
  intro h
  unfold f_X11_gap_16 at h
  refine z_iconst (v := (-1 : Int32)) C d_X11_gap_16 (by decide) ?_
  obtain rfl := o_some h
  exact z_iret C hlk hr d_X11_gap_17
set_option maxRecDepth 4000 in
theorem k_X11_gap_88 {p : Program} {l : Launch} {e : Env} {s : State} {m : MethodId} {args : Array Value} {below : List Frame} {meth : Method} {c : Code} {G : GG} {M : Mm} {s_0 : Int32} {r : Int32} (C : CX p s m args c prog_1_method_29_code 7 "SnowSentries" 0 G) (hlk : meth.locks = false) (hr : meth.sig.returnType = (some .int)) : f_X11_gap_88 M s_0 = some r → Z p l e { frames := 6, cells := 0, slots := 0, locals := 141 } s m args below meth c 0 G 7 (MQ below (QC 0 G (some (.int r)) M) args s 0 0 (AU 0 G)) 88 [] [.int s_0] M := by
  intro h
  unfold f_X11_gap_88 at h
  obtain rfl := o_some h
  exact z_iret C hlk hr d_X11_gap_88
set_option maxRecDepth 4000 in
theorem k_X11_gap_74 {p : Program} {l : Launch} {e : Env} {s : State} {m : MethodId} {args : Array Value} {below : List Frame} {meth : Method} {c : Code} {G : GG} {M : Mm} {x2 : Int32} {x5 : Int32} {x6 : Int32} {r : Int32} (C : CX p s m args c prog_1_method_29_code 7 "SnowSentries" 0 G) (hlk : meth.locks = false) (hr : meth.sig.returnType = (some .int)) : f_X11_gap_74 M x2 x5 x6 = some r → Z p l e { frames := 6, cells := 0, slots := 0, locals := 141 } s m args below meth c 0 G 7 (MQ below (QC 0 G (some (.int r)) M) args s 0 0 (AU 0 G)) 74 [(2, .int x2), (5, .int x5), (6, .int x6)] [] M := by
  intro h
  unfold f_X11_gap_74 at h
  refine z_iload_n 0 C d_X11_gap_74 rfl rfl ?_
  refine z_if_ne C d_X11_gap_75 (fun q1 => ?_) (fun q1 => ?_)
  · have h := o_f q1 h
    refine z_iload 2 C d_X11_gap_83 rfl ?_
    obtain ⟨p3, e2, h⟩ := o_bd h
    refine z_S (S := []) (As := [.int x6]) C (c_X11_lowestBit l G (M := M) e2) wc_X11_lowestBit wm_X11_288 ws_X11_lowestBit wi_X11 hy_X11_lowestBit ⟨Nat.le_of_ble_eq_true rfl, Nat.le_of_ble_eq_true rfl⟩ rfl rfl (Nat.le_of_ble_eq_true rfl) d_X11_gap_85 ?_
    exact z_sub [] rfl (k_X11_gap_88 C hlk hr h)
  · have h := o_t q1 h
    refine z_iload 1 C d_X11_gap_78 rfl ?_
    refine z_goto C d_X11_gap_80 ?_
    exact z_sub [] rfl (k_X11_gap_88 C hlk hr h)
set_option maxRecDepth 4000 in
theorem kb_X11_gap_45 {p : Program} {l : Launch} {e : Env} {s : State} {m : MethodId} {args : Array Value} {below : List Frame} {meth : Method} {c : Code} {G : GG} {k45 : Int32 → Option Int32} {M : Mm} {x1 : Int32} {x2 : Int32} {x4 : Int32} {x5 : Int32} {r : Int32} (C : CX p s m args c prog_1_method_29_code 7 "SnowSentries" 0 G) (hlk : meth.locks = false) (hr : meth.sig.returnType = (some .int)) (hk45 : ∀ (x5 : Int32), k45 x5 = some r → Z p l e { frames := 6, cells := 0, slots := 0, locals := 141 } s m args below meth c 0 G 7 (MQ below (QC 0 G (some (.int r)) M) args s 0 0 (AU 0 G)) 45 [(0, .ref (gB G + 0)), (1, .int x1), (2, .int x2), (4, .int x4), (5, .int x5)] [] M) : b_X11_gap_45 k45 M x1 x2 x4 x5 = some r → Z p l e { frames := 6, cells := 0, slots := 0, locals := 141 } s m args below meth c 0 G 7 (MQ below (QC 0 G (some (.int r)) M) args s 0 0 (AU 0 G)) 45 [(0, .ref (gB G + 0)), (1, .int x1), (2, .int x2), (4, .int x4), (5, .int x5)] [] M := by
  intro h
  unfold b_X11_gap_45 at h
  refine z_iload 4 C d_X11_gap_45 rfl ?_
  refine z_bipush (v := (12 : Int32)) C d_X11_gap_47 (by decide) ?_
  refine z_icmp_gt C d_X11_gap_49 (fun q1 => ?_) (fun q1 => ?_)
  · have h := o_t q1 h
    refine z_bipush (v := (-4 : Int32)) C d_X11_gap_95 (by decide) ?_
    obtain rfl := o_some h
    exact z_iret C hlk hr d_X11_gap_97
  · have h := o_f q1 h
    refine z_iload 3 C d_X11_gap_52 rfl ?_
    refine z_aload_n 0 C d_X11_gap_54 rfl rfl ?_
    refine z_get (k := 9) (v := .ref (gB G + (ld (M.1 0 9)))) C ((E_11 kx_0 G) _ _) (kU_in kx_0 (by decide)) rfl inX11 (by decide) wf_X11_69 rfl d_X11_gap_55 ?_
    refine z_iload_n 1 C d_X11_gap_58 rfl rfl ?_
    refine z_iload 4 C d_X11_gap_59 rfl ?_
    obtain ⟨p3, e2, h⟩ := o_bd h
    refine z_V (S := [.int x4]) (As := [.int x1, .int x5]) C (c_X4_holders l G (k_ld _) e2) ((E_4 (k_ld _) G) _ _) (kU_in (k_ld _) (by decide)) rfl wc_X4_holders wm_X11_269 ws_X4_holders wl_X4_holders wi_X4 hy_X4_holders ⟨Nat.le_of_ble_eq_true rfl, Nat.le_of_ble_eq_true rfl⟩ rfl rfl (Nat.le_of_ble_eq_true rfl) d_X11_gap_61 ?_
    refine z_iconst (v := (-1 : Int32)) C d_X11_gap_64 (by decide) ?_
    refine z_ixor C d_X11_gap_65 ?_
    refine z_iand C d_X11_gap_66 ?_
    obtain ⟨v4, e5, h⟩ := o_nm h
    refine z_nI e5 ?_
    refine z_istore (L' := [(6, .int v4), (0, .ref (gB G + 0)), (1, .int x1), (2, .int x2), (4, .int x4), (5, .int x5)]) C d_X11_gap_67 (by decide) rfl ?_
    refine z_iload 0 C d_X11_gap_69 rfl ?_
    refine z_if_eq C d_X11_gap_71 (fun q6 => ?_) (fun q6 => ?_)
    · have h := o_t q6 h
      refine z_iinc (v := (1 : Int32)) (L' := [(5, .int (x5 + (1 : Int32))), (6, .int v4), (0, .ref (gB G + 0)), (1, .int x1), (2, .int x2), (4, .int x4)]) 5 C d_X11_gap_89 rfl (by decide) (by decide) rfl ?_
      refine z_goto C d_X11_gap_92 ?_
      exact z_sub [2, 3, 4, 5, 0] rfl (hk45 _  h)
    · have h := o_f q6 h
      exact z_sub [3, 5, 0] rfl (k_X11_gap_74 C hlk hr h)
theorem k_X11_gap_45 {p : Program} {l : Launch} {e : Env} {s : State} {m : MethodId} {args : Array Value} {below : List Frame} {meth : Method} {c : Code} {G : GG} {M : Mm} {x1 : Int32} {x2 : Int32} {x4 : Int32} {r : Int32} (C : CX p s m args c prog_1_method_29_code 7 "SnowSentries" 0 G) (hlk : meth.locks = false) (hr : meth.sig.returnType = (some .int)) : ∀ (n : Nat) (x5 : Int32), f_X11_gap_45 M x1 x2 x4 n x5 = some r → Z p l e { frames := 6, cells := 0, slots := 0, locals := 141 } s m args below meth c 0 G 7 (MQ below (QC 0 G (some (.int r)) M) args s 0 0 (AU 0 G)) 45 [(0, .ref (gB G + 0)), (1, .int x1), (2, .int x2), (4, .int x4), (5, .int x5)] [] M := by
  intro n
  induction n with
  | zero =>
    intro x5  h
    exact absurd h (fun z => by cases z)
  | succ n ih =>
    intro x5  h
    exact kb_X11_gap_45 C hlk hr  (fun x5 h => ih x5 h) h
set_option maxRecDepth 4000 in
theorem k_X11_gap_0 {p : Program} {l : Launch} {e : Env} {s : State} {m : MethodId} {args : Array Value} {below : List Frame} {meth : Method} {c : Code} {G : GG} {M : Mm} {x1 : Int32} {x2 : Int32} {r : Int32} (C : CX p s m args c prog_1_method_29_code 7 "SnowSentries" 0 G) (hlk : meth.locks = false) (hr : meth.sig.returnType = (some .int)) : f_X11_gap M x1 x2 = some r → Z p l e { frames := 6, cells := 0, slots := 0, locals := 141 } s m args below meth c 0 G 7 (MQ below (QC 0 G (some (.int r)) M) args s 0 0 (AU 0 G)) 0 [(0, .ref (gB G + 0)), (1, .int x1), (2, .int x2)] [] M := by
  intro h
  unfold f_X11_gap at h
  refine z_iload_n 1 C d_X11_gap_0 rfl rfl ?_
  obtain ⟨p2, e1, h⟩ := o_bd h
  refine z_S (S := []) (As := [.int x1]) C (c_X11_isSide l G (M := M) e1) wc_X11_isSide wm_X11_163 ws_X11_isSide wi_X11 hy_X11_isSide ⟨Nat.le_of_ble_eq_true rfl, Nat.le_of_ble_eq_true rfl⟩ rfl rfl (Nat.le_of_ble_eq_true rfl) d_X11_gap_1 ?_
  refine z_if_eq C d_X11_gap_4 (fun q3 => ?_) (fun q3 => ?_)
  · have h := o_t q3 h
    exact z_sub [] rfl (k_X11_gap_16 C hlk hr h)
  · have h := o_f q3 h
    refine z_iload_n 2 C d_X11_gap_7 rfl rfl ?_
    refine z_iconst (v := (0 : Int32)) C d_X11_gap_8 (by decide) ?_
    refine z_iconst (v := (1 : Int32)) C d_X11_gap_9 (by decide) ?_
    obtain ⟨p5, e4, h⟩ := o_bd h
    refine z_S (S := []) (As := [.int x2, .int (0 : Int32), .int (1 : Int32)]) C (c_X11_isAmong l G (M := M) e4) wc_X11_isAmong wm_X11_166 ws_X11_isAmong wi_X11 hy_X11_isAmong ⟨Nat.le_of_ble_eq_true rfl, Nat.le_of_ble_eq_true rfl⟩ rfl rfl (Nat.le_of_ble_eq_true rfl) d_X11_gap_10 ?_
    refine z_if_ne C d_X11_gap_13 (fun q6 => ?_) (fun q6 => ?_)
    · have h := o_f q6 h
      refine z_aload_n 0 C d_X11_gap_18 rfl rfl ?_
      refine z_get (k := 9) (v := .ref (gB G + (ld (M.1 0 9)))) C ((E_11 kx_0 G) _ _) (kU_in kx_0 (by decide)) rfl inX11 (by decide) wf_X11_69 rfl d_X11_gap_19 ?_
      refine z_get (k := 7) (v := .ref (gB G + (ld (M.1 0 9) + 5))) C ((E_4 (k_ld _) G) _ _) (kU_in (k_ld _) (by decide)) rfl inX4 (by decide) wf_X11_113 rfl d_X11_gap_22 ?_
      refine z_get (k := 0) (v := .int (M.1 (ld (M.1 0 9) + 5) 0)) C ((E_7 (k_4_7 (k_ld _)) G) _ _) (kU_in (k_4_7 (k_ld _)) (by decide)) rfl inX7 (by decide) wf_X11_116 rfl d_X11_gap_25 ?_
      obtain ⟨v7, e8, h⟩ := o_nm h
      refine z_nI e8 ?_
      refine z_istore_n (L' := [(3, .int v7), (0, .ref (gB G + 0)), (1, .int x1), (2, .int x2)]) C d_X11_gap_28 rfl (by decide) rfl ?_
      refine z_aload_n 1 C d_X11_gap_29 rfl rfl ?_
      refine z_get (k := 9) (v := .ref (gB G + (ld (M.1 0 9)))) C ((E_11 kx_0 G) _ _) (kU_in kx_0 (by decide)) rfl inX11 (by decide) wf_X11_69 rfl d_X11_gap_30 ?_
      refine z_iload_n 2 C d_X11_gap_33 rfl rfl ?_
      refine z_iload_n 0 C d_X11_gap_34 rfl rfl ?_
      obtain ⟨p10, e9, h⟩ := o_bd h
      refine z_V (S := []) (As := [.int x1, .int v7]) C (c_X4_holders l G (k_ld _) e9) ((E_4 (k_ld _) G) _ _) (kU_in (k_ld _) (by decide)) rfl wc_X4_holders wm_X11_269 ws_X4_holders wl_X4_holders wi_X4 hy_X4_holders ⟨Nat.le_of_ble_eq_true rfl, Nat.le_of_ble_eq_true rfl⟩ rfl rfl (Nat.le_of_ble_eq_true rfl) d_X11_gap_35 ?_
      refine z_istore (L' := [(4, .int p10), (3, .int v7), (0, .ref (gB G + 0)), (1, .int x1), (2, .int x2)]) C d_X11_gap_38 (by decide) rfl ?_
      refine z_iload_n 1 C d_X11_gap_40 rfl rfl ?_
      refine z_iconst (v := (1 : Int32)) C d_X11_gap_41 (by decide) ?_
      refine z_iadd C d_X11_gap_42 ?_
      obtain ⟨v11, e12, h⟩ := o_nm h
      refine z_nI e12 ?_
      refine z_istore (L' := [(5, .int v11), (4, .int p10), (3, .int v7), (0, .ref (gB G + 0)), (1, .int x1), (2, .int x2)]) C d_X11_gap_43 (by decide) rfl ?_
      exact z_sub [3, 4, 5, 1, 0] rfl (k_X11_gap_45 C hlk hr _ _ h)
    · have h := o_t q6 h
      exact z_sub [] rfl (k_X11_gap_16 C hlk hr h)
theorem c_X11_gap (l : Launch) (G : GG) {M : Mm} {x1 : Int32} {x2 : Int32} {r : Int32} (h : f_X11_gap M x1 x2 = some r) : CT l 0 G y_X11_gap prog_1_method_29_code 7 (some .int) 6 141 [.ref (gB G + 0), .int x1, .int x2] M (some (.int r)) M :=
  CT.of (by decide +kernel) (Nat.le_of_ble_eq_true rfl) rfl (fun p e s m args below meth c C hlk hr => k_X11_gap_0 C hlk hr h)
-- SnowSentries.lead(III)I
set_option maxRecDepth 4000 in
theorem k_X11_lead_18 {p : Program} {l : Launch} {e : Env} {s : State} {m : MethodId} {args : Array Value} {below : List Frame} {meth : Method} {c : Code} {G : GG} {M : Mm} {r : Int32} {M2 : Mm} (C : CX p s m args c prog_1_method_30_code 5 "SnowSentries" 0 G) (hlk : meth.locks = false) (hr : meth.sig.returnType = (some .int)) : f_X11_lead_18 M = some (r, M2) → Z p l e { frames := 5, cells := 0, slots := 0, locals := 112 } s m args below meth c 0 G 5 (MQ below (QC 0 G (some (.int r)) M2) args s 0 0 (AU 0 G)) 18 [] [] M := by
  intro h
  unfold f_X11_lead_18 at h
  refine z_iconst (v := (-1 : Int32)) C d_X11_lead_18 (by decide) ?_
  obtain ⟨rfl, rfl⟩ := o_pair h
  exact z_iret C hlk hr d_X11_lead_19
set_option maxRecDepth 4000 in
theorem k_X11_lead_0 {p : Program} {l : Launch} {e : Env} {s : State} {m : MethodId} {args : Array Value} {below : List Frame} {meth : Method} {c : Code} {G : GG} {M : Mm} {x1 : Int32} {x2 : Int32} {x3 : Int32} {r : Int32} {M2 : Mm} (C : CX p s m args c prog_1_method_30_code 5 "SnowSentries" 0 G) (hlk : meth.locks = false) (hr : meth.sig.returnType = (some .int)) : f_X11_lead M x1 x2 x3 = some (r, M2) → Z p l e { frames := 5, cells := 0, slots := 0, locals := 112 } s m args below meth c 0 G 5 (MQ below (QC 0 G (some (.int r)) M2) args s 0 0 (AU 0 G)) 0 [(0, .ref (gB G + 0)), (1, .int x1), (2, .int x2), (3, .int x3)] [] M := by
  intro h
  unfold f_X11_lead at h
  refine z_aload_n 0 C d_X11_lead_0 rfl rfl ?_
  refine z_iload_n 1 C d_X11_lead_1 rfl rfl ?_
  obtain ⟨p2, e1, h⟩ := o_bd h
  refine z_V (S := []) (As := [.int x1]) C (c_X11_isFurlong l G e1) ((E_11 kx_0 G) _ _) (kU_in kx_0 (by decide)) rfl wc_X11_isFurlong wm_X11_148 ws_X11_isFurlong wl_X11_isFurlong wi_X11 hy_X11_isFurlong ⟨Nat.le_of_ble_eq_true rfl, Nat.le_of_ble_eq_true rfl⟩ rfl rfl (Nat.le_of_ble_eq_true rfl) d_X11_lead_2 ?_
  refine z_if_eq C d_X11_lead_5 (fun q3 => ?_) (fun q3 => ?_)
  · have h := o_t q3 h
    exact z_sub [] rfl (k_X11_lead_18 C hlk hr h)
  · have h := o_f q3 h
    refine z_iload_n 2 C d_X11_lead_8 rfl rfl ?_
    refine z_iconst (v := (1 : Int32)) C d_X11_lead_9 (by decide) ?_
    refine z_bipush (v := (99 : Int32)) C d_X11_lead_10 (by decide) ?_
    obtain ⟨p5, e4, h⟩ := o_bd h
    refine z_S (S := []) (As := [.int x2, .int (1 : Int32), .int (99 : Int32)]) C (c_X11_isAmong l G (M := M) e4) wc_X11_isAmong wm_X11_166 ws_X11_isAmong wi_X11 hy_X11_isAmong ⟨Nat.le_of_ble_eq_true rfl, Nat.le_of_ble_eq_true rfl⟩ rfl rfl (Nat.le_of_ble_eq_true rfl) d_X11_lead_12 ?_
    refine z_if_ne C d_X11_lead_15 (fun q6 => ?_) (fun q6 => ?_)
    · have h := o_f q6 h
      refine z_aload_n 0 C d_X11_lead_20 rfl rfl ?_
      refine z_get (k := 9) (v := .ref (gB G + (ld (M.1 0 9)))) C ((E_11 kx_0 G) _ _) (kU_in kx_0 (by decide)) rfl inX11 (by decide) wf_X11_69 rfl d_X11_lead_21 ?_
      refine z_get (k := 7) (v := .ref (gB G + (ld (M.1 0 9) + 5))) C ((E_4 (k_ld _) G) _ _) (kU_in (k_ld _) (by decide)) rfl inX4 (by decide) wf_X11_113 rfl d_X11_lead_24 ?_
      refine z_get (k := 0) (v := .int (M.1 (ld (M.1 0 9) + 5) 0)) C ((E_7 (k_4_7 (k_ld _)) G) _ _) (kU_in (k_4_7 (k_ld _)) (by decide)) rfl inX7 (by decide) wf_X11_116 rfl d_X11_lead_27 ?_
      obtain ⟨v7, e8, h⟩ := o_nm h
      refine z_nI e8 ?_
      refine z_istore (L' := [(4, .int v7), (0, .ref (gB G + 0)), (1, .int x1), (2, .int x2), (3, .int x3)]) C d_X11_lead_30 (by decide) rfl ?_
      refine z_iload_n 4 C d_X11_lead_32 rfl rfl ?_
      refine z_if_ne C d_X11_lead_33 (fun q9 => ?_) (fun q9 => ?_)
      · have h := o_f q9 h
        refine z_iload_n 4 C d_X11_lead_67 rfl rfl ?_
        refine z_bipush (v := (10 : Int32)) C d_X11_lead_68 (by decide) ?_
        refine z_bipush (v := (21 : Int32)) C d_X11_lead_70 (by decide) ?_
        refine z_iload 0 C d_X11_lead_72 rfl ?_
        refine z_isub C d_X11_lead_74 ?_
        obtain ⟨p11, e10, h⟩ := o_bd h
        refine z_S (S := []) (As := [.int x3, .int (10 : Int32), .int ((21 : Int32) - v7)]) C (c_X11_isAmong l G (M := M) e10) wc_X11_isAmong wm_X11_166 ws_X11_isAmong wi_X11 hy_X11_isAmong ⟨Nat.le_of_ble_eq_true rfl, Nat.le_of_ble_eq_true rfl⟩ rfl rfl (Nat.le_of_ble_eq_true rfl) d_X11_lead_75 ?_
        refine z_if_ne C d_X11_lead_78 (fun q12 => ?_) (fun q12 => ?_)
        · have h := o_f q12 h
          refine z_aload_n 1 C d_X11_lead_83 rfl rfl ?_
          refine z_get (k := 5) (v := .ref (gB G + 100)) C ((E_11 kx_0 G) _ _) (kU_in kx_0 (by decide)) rfl inX11 (by decide) wf_X11_41 rfl d_X11_lead_84 ?_
          refine z_aload_n 1 C d_X11_lead_87 rfl rfl ?_
          refine z_get (k := 9) (v := .ref (gB G + (ld (M.1 0 9)))) C ((E_11 kx_0 G) _ _) (kU_in kx_0 (by decide)) rfl inX11 (by decide) wf_X11_69 rfl d_X11_lead_88 ?_
          obtain ⟨p14, e13, h⟩ := o_bd h
          refine z_V (S := []) (As := [.ref (gB G + (ld (M.1 0 9)))]) C (c_X10_weigh l G (k_ld _) e13) ((E_10 kx_100 G) _ _) (kU_in kx_100 (by decide)) rfl wc_X10_weigh wm_X11_291 ws_X10_weigh wl_X10_weigh wi_X10 hy_X10_weigh ⟨Nat.le_of_ble_eq_true rfl, Nat.le_of_ble_eq_true rfl⟩ rfl rfl (Nat.le_of_ble_eq_true rfl) d_X11_lead_91 ?_
          refine z_aload_n 1 C d_X11_lead_94 rfl rfl ?_
          refine z_get (k := 5) (v := .ref (gB G + 100)) C ((E_11 kx_0 G) _ _) (kU_in kx_0 (by decide)) rfl inX11 (by decide) wf_X11_41 rfl d_X11_lead_95 ?_
          refine z_iload_n 2 C d_X11_lead_98 rfl rfl ?_
          refine z_iload_n 3 C d_X11_lead_99 rfl rfl ?_
          refine z_iload_n 4 C d_X11_lead_100 rfl rfl ?_
          refine z_bipush (v := (10 : Int32)) C d_X11_lead_101 (by decide) ?_
          refine z_isub C d_X11_lead_103 ?_
          obtain ⟨p16, e15, h⟩ := o_bd h
          refine z_V (S := []) (As := [.int x1, .int x2, .int (x3 - (10 : Int32))]) C (c_X10_placeOn l G e15) ((E_10 kx_100 G) _ _) (kU_in kx_100 (by decide)) rfl wc_X10_placeOn wm_X11_297 ws_X10_placeOn wl_X10_placeOn wi_X10 hy_X10_placeOn ⟨Nat.le_of_ble_eq_true rfl, Nat.le_of_ble_eq_true rfl⟩ rfl rfl (Nat.le_of_ble_eq_true rfl) d_X11_lead_104 ?_
          obtain ⟨rfl, rfl⟩ := o_pair h
          exact z_iret C hlk hr d_X11_lead_107
        · have h := o_t q12 h
          refine z_iconst (v := (-1 : Int32)) C d_X11_lead_81 (by decide) ?_
          obtain ⟨rfl, rfl⟩ := o_pair h
          exact z_iret C hlk hr d_X11_lead_82
      · have h := o_t q9 h
        refine z_iload 0 C d_X11_lead_36 rfl ?_
        refine z_bipush (v := (12 : Int32)) C d_X11_lead_38 (by decide) ?_
        refine z_icmp_ne C d_X11_lead_40 (fun q17 => ?_) (fun q17 => ?_)
        · have h := o_f q17 h
          refine z_aload_n 1 C d_X11_lead_46 rfl rfl ?_
          refine z_get (k := 5) (v := .ref (gB G + 100)) C ((E_11 kx_0 G) _ _) (kU_in kx_0 (by decide)) rfl inX11 (by decide) wf_X11_41 rfl d_X11_lead_47 ?_
          refine z_aload_n 1 C d_X11_lead_50 rfl rfl ?_
          refine z_get (k := 9) (v := .ref (gB G + (ld (M.1 0 9)))) C ((E_11 kx_0 G) _ _) (kU_in kx_0 (by decide)) rfl inX11 (by decide) wf_X11_69 rfl d_X11_lead_51 ?_
          obtain ⟨p19, e18, h⟩ := o_bd h
          refine z_V (S := []) (As := [.ref (gB G + (ld (M.1 0 9)))]) C (c_X10_weigh l G (k_ld _) e18) ((E_10 kx_100 G) _ _) (kU_in kx_100 (by decide)) rfl wc_X10_weigh wm_X11_291 ws_X10_weigh wl_X10_weigh wi_X10 hy_X10_weigh ⟨Nat.le_of_ble_eq_true rfl, Nat.le_of_ble_eq_true rfl⟩ rfl rfl (Nat.le_of_ble_eq_true rfl) d_X11_lead_54 ?_
          refine z_aload_n 1 C d_X11_lead_57 rfl rfl ?_
          refine z_get (k := 5) (v := .ref (gB G + 100)) C ((E_11 kx_0 G) _ _) (kU_in kx_0 (by decide)) rfl inX11 (by decide) wf_X11_41 rfl d_X11_lead_58 ?_
          refine z_iload_n 2 C d_X11_lead_61 rfl rfl ?_
          refine z_iload_n 3 C d_X11_lead_62 rfl rfl ?_
          obtain ⟨p21, e20, h⟩ := o_bd h
          refine z_V (S := []) (As := [.int x1, .int x2]) C (c_X10_lastOf l G e20) ((E_10 kx_100 G) _ _) (kU_in kx_100 (by decide)) rfl wc_X10_lastOf wm_X11_294 ws_X10_lastOf wl_X10_lastOf wi_X10 hy_X10_lastOf ⟨Nat.le_of_ble_eq_true rfl, Nat.le_of_ble_eq_true rfl⟩ rfl rfl (Nat.le_of_ble_eq_true rfl) d_X11_lead_63 ?_
          obtain ⟨rfl, rfl⟩ := o_pair h
          exact z_iret C hlk hr d_X11_lead_66
        · have h := o_t q17 h
          refine z_bipush (v := (-2 : Int32)) C d_X11_lead_43 (by decide) ?_
          obtain ⟨rfl, rfl⟩ := o_pair h
          exact z_iret C hlk hr d_X11_lead_45
    · have h := o_t q6 h
      exact z_sub [] rfl (k_X11_lead_18 C hlk hr h)
theorem c_X11_lead (l : Launch) (G : GG) {M : Mm} {x1 : Int32} {x2 : Int32} {x3 : Int32} {r : Int32} {M2 : Mm} (h : f_X11_lead M x1 x2 x3 = some (r, M2)) : CT l 0 G y_X11_lead prog_1_method_30_code 5 (some .int) 5 112 [.ref (gB G + 0), .int x1, .int x2, .int x3] M (some (.int r)) M2 :=
  CT.of (by decide +kernel) (Nat.le_of_ble_eq_true rfl) rfl (fun p e s m args below meth c C hlk hr => k_X11_lead_0 C hlk hr h)
-- SnowSentries.felt(I)I
set_option maxRecDepth 4000 in
theorem k_X11_felt_0 {p : Program} {l : Launch} {e : Env} {s : State} {m : MethodId} {args : Array Value} {below : List Frame} {meth : Method} {c : Code} {G : GG} {M : Mm} {x1 : Int32} {r : Int32} {M2 : Mm} (C : CX p s m args c prog_1_method_31_code 2 "SnowSentries" 0 G) (hlk : meth.locks = false) (hr : meth.sig.returnType = (some .int)) : f_X11_felt M x1 = some (r, M2) → Z p l e { frames := 1, cells := 0, slots := 0, locals := 22 } s m args below meth c 0 G 2 (MQ below (QC 0 G (some (.int r)) M2) args s 0 0 (AU 0 G)) 0 [(0, .ref (gB G + 0)), (1, .int x1)] [] M := by
  intro h
  unfold f_X11_felt at h
  refine z_iload_n 1 C d_X11_felt_0 rfl rfl ?_
  refine z_iconst (v := (0 : Int32)) C d_X11_felt_1 (by decide) ?_
  refine z_bipush (v := (99 : Int32)) C d_X11_felt_2 (by decide) ?_
  obtain ⟨p2, e1, h⟩ := o_bd h
  refine z_S (S := []) (As := [.int x1, .int (0 : Int32), .int (99 : Int32)]) C (c_X11_isAmong l G (M := M) e1) wc_X11_isAmong wm_X11_166 ws_X11_isAmong wi_X11 hy_X11_isAmong ⟨Nat.le_of_ble_eq_true rfl, Nat.le_of_ble_eq_true rfl⟩ rfl rfl (Nat.le_of_ble_eq_true rfl) d_X11_felt_4 ?_
  refine z_if_ne C d_X11_felt_7 (fun q3 => ?_) (fun q3 => ?_)
  · have h := o_f q3 h
    refine z_aload_n 0 C d_X11_felt_12 rfl rfl ?_
    refine z_get (k := 4) (v := .ref (gB G + 98)) C ((E_11 kx_0 G) _ _) (kU_in kx_0 (by decide)) rfl inX11 (by decide) wf_X11_34 rfl d_X11_felt_13 ?_
    refine z_get (k := 0) (v := .int (M.1 98 0)) C ((E_2 kx_98 G) _ _) (kU_in kx_98 (by decide)) rfl inX2 (by decide) wf_X11_104 rfl d_X11_felt_16 ?_
    refine z_aload_n 0 C d_X11_felt_19 rfl rfl ?_
    refine z_get (k := 9) (v := .ref (gB G + (ld (M.1 0 9)))) C ((E_11 kx_0 G) _ _) (kU_in kx_0 (by decide)) rfl inX11 (by decide) wf_X11_69 rfl d_X11_felt_20 ?_
    refine z_get (k := 0) (v := .int (M.1 (ld (M.1 0 9)) 0)) C ((E_4 (k_ld _) G) _ _) (kU_in (k_ld _) (by decide)) rfl inX4 (by decide) wf_X11_110 rfl d_X11_felt_23 ?_
    refine z_icmp_lt C d_X11_felt_26 (fun q4 => ?_) (fun q4 => ?_)
    · have h := o_t q4 h
      refine z_aload_n 0 C d_X11_felt_32 rfl rfl ?_
      refine z_get (k := 4) (v := .ref (gB G + 98)) C ((E_11 kx_0 G) _ _) (kU_in kx_0 (by decide)) rfl inX11 (by decide) wf_X11_34 rfl d_X11_felt_33 ?_
      refine z_iload_n 1 C d_X11_felt_36 rfl rfl ?_
      obtain ⟨p6, e5, h⟩ := o_bd h
      refine z_V (S := []) (As := [.int x1]) C (c_X2_put l G e5) ((E_2 kx_98 G) _ _) (kU_in kx_98 (by decide)) rfl wc_X2_put wm_X11_300 ws_X2_put wl_X2_put wi_X2 hy_X2_put ⟨Nat.le_of_ble_eq_true rfl, Nat.le_of_ble_eq_true rfl⟩ rfl rfl (Nat.le_of_ble_eq_true rfl) d_X11_felt_37 ?_
      refine z_aload_n 0 C d_X11_felt_40 rfl rfl ?_
      refine z_get (k := 4) (v := .ref (gB G + 98)) C ((E_11 kx_0 G) _ _) (kU_in kx_0 (by decide)) rfl inX11 (by decide) wf_X11_34 rfl d_X11_felt_41 ?_
      refine z_get (k := 0) (v := .int (p6.1 98 0)) C ((E_2 kx_98 G) _ _) (kU_in kx_98 (by decide)) rfl inX2 (by decide) wf_X11_104 rfl d_X11_felt_44 ?_
      obtain ⟨rfl, rfl⟩ := o_pair h
      exact z_iret C hlk hr d_X11_felt_47
    · have h := o_f q4 h
      refine z_bipush (v := (-3 : Int32)) C d_X11_felt_29 (by decide) ?_
      obtain ⟨rfl, rfl⟩ := o_pair h
      exact z_iret C hlk hr d_X11_felt_31
  · have h := o_t q3 h
    refine z_iconst (v := (-1 : Int32)) C d_X11_felt_10 (by decide) ?_
    obtain ⟨rfl, rfl⟩ := o_pair h
    exact z_iret C hlk hr d_X11_felt_11
theorem c_X11_felt (l : Launch) (G : GG) {M : Mm} {x1 : Int32} {r : Int32} {M2 : Mm} (h : f_X11_felt M x1 = some (r, M2)) : CT l 0 G y_X11_felt prog_1_method_31_code 2 (some .int) 1 22 [.ref (gB G + 0), .int x1] M (some (.int r)) M2 :=
  CT.of (by decide +kernel) (Nat.le_of_ble_eq_true rfl) rfl (fun p e s m args below meth c C hlk hr => k_X11_felt_0 C hlk hr h)
-- SnowSentries.forget()I
set_option maxRecDepth 4000 in
theorem k_X11_forget_0 {p : Program} {l : Launch} {e : Env} {s : State} {m : MethodId} {args : Array Value} {below : List Frame} {meth : Method} {c : Code} {G : GG} {M : Mm} {r : Int32} {M2 : Mm} (C : CX p s m args c prog_1_method_32_code 2 "SnowSentries" 0 G) (hlk : meth.locks = false) (hr : meth.sig.returnType = (some .int)) : f_X11_forget M = some (r, M2) → Z p l e { frames := 0, cells := 0, slots := 0, locals := 0 } s m args below meth c 0 G 2 (MQ below (QC 0 G (some (.int r)) M2) args s 0 0 (AU 0 G)) 0 [(0, .ref (gB G + 0))] [] M := by
  intro h
  unfold f_X11_forget at h
  refine z_aload_n 0 C d_X11_forget_0 rfl rfl ?_
  refine z_get (k := 4) (v := .ref (gB G + 98)) C ((E_11 kx_0 G) _ _) (kU_in kx_0 (by decide)) rfl inX11 (by decide) wf_X11_34 rfl d_X11_forget_1 ?_
  refine z_get (k := 0) (v := .int (M.1 98 0)) C ((E_2 kx_98 G) _ _) (kU_in kx_98 (by decide)) rfl inX2 (by decide) wf_X11_104 rfl d_X11_forget_4 ?_
  obtain ⟨v1, e2, h⟩ := o_nm h
  refine z_nI e2 ?_
  refine z_istore_n (L' := [(1, .int v1), (0, .ref (gB G + 0))]) C d_X11_forget_7 rfl (by decide) rfl ?_
  refine z_aload_n 1 C d_X11_forget_8 rfl rfl ?_
  refine z_get (k := 4) (v := .ref (gB G + 98)) C ((E_11 kx_0 G) _ _) (kU_in kx_0 (by decide)) rfl inX11 (by decide) wf_X11_34 rfl d_X11_forget_9 ?_
  refine z_iconst (v := (0 : Int32)) C d_X11_forget_12 (by decide) ?_
  obtain ⟨M3, e4, h⟩ := o_wr h
  refine z_pI (k := 0) (ty := .int) C (fun r q => (E_2 kx_98 G) r q) (fun _ _ => rfl) (kU_in kx_98 (by decide)) rfl inX2 tyX2 tyX2_ok nmX2 (by decide) wf_X11_104 rfl (by decide +kernel) rfl rfl (Nat.le_of_ble_eq_true rfl) d_X11_forget_13 ?_
  refine z_nM e4 ?_
  refine z_iload_n 0 C d_X11_forget_16 rfl rfl ?_
  obtain ⟨rfl, rfl⟩ := o_pair h
  exact z_iret C hlk hr d_X11_forget_17
theorem c_X11_forget (l : Launch) (G : GG) {M : Mm} {r : Int32} {M2 : Mm} (h : f_X11_forget M = some (r, M2)) : CT l 0 G y_X11_forget prog_1_method_32_code 2 (some .int) 0 0 [.ref (gB G + 0)] M (some (.int r)) M2 :=
  CT.of (by decide +kernel) (Nat.le_of_ble_eq_true rfl) rfl (fun p e s m args below meth c C hlk hr => k_X11_forget_0 C hlk hr h)
-- SnowSentries.spy(I)I
set_option maxRecDepth 4000 in
theorem k_X11_spy_85 {p : Program} {l : Launch} {e : Env} {s : State} {m : MethodId} {args : Array Value} {below : List Frame} {meth : Method} {c : Code} {G : GG} {M : Mm} {s_0 : Int32} {r : Int32} {M2 : Mm} (C : CX p s m args c prog_1_method_33_code 2 "SnowSentries" 0 G) (hlk : meth.locks = false) (hr : meth.sig.returnType = (some .int)) : f_X11_spy_85 M s_0 = some (r, M2) → Z p l e { frames := 4, cells := 0, slots := 0, locals := 91 } s m args below meth c 0 G 2 (MQ below (QC 0 G (some (.int r)) M2) args s 0 0 (AU 0 G)) 85 [] [.int s_0] M := by
  intro h
  unfold f_X11_spy_85 at h
  obtain ⟨rfl, rfl⟩ := o_pair h
  exact z_iret C hlk hr d_X11_spy_85
set_option maxRecDepth 4000 in
theorem k_X11_spy_0 {p : Program} {l : Launch} {e : Env} {s : State} {m : MethodId} {args : Array Value} {below : List Frame} {meth : Method} {c : Code} {G : GG} {M : Mm} {x1 : Int32} {r : Int32} {M2 : Mm} (C : CX p s m args c prog_1_method_33_code 2 "SnowSentries" 0 G) (hlk : meth.locks = false) (hr : meth.sig.returnType = (some .int)) : f_X11_spy M x1 = some (r, M2) → Z p l e { frames := 4, cells := 0, slots := 0, locals := 91 } s m args below meth c 0 G 2 (MQ below (QC 0 G (some (.int r)) M2) args s 0 0 (AU 0 G)) 0 [(0, .ref (gB G + 0)), (1, .int x1)] [] M := by
  intro h
  unfold f_X11_spy at h
  refine z_iload_n 1 C d_X11_spy_0 rfl rfl ?_
  refine z_iconst (v := (0 : Int32)) C d_X11_spy_1 (by decide) ?_
  refine z_iconst (v := (2 : Int32)) C d_X11_spy_2 (by decide) ?_
  obtain ⟨p2, e1, h⟩ := o_bd h
  refine z_S (S := []) (As := [.int x1, .int (0 : Int32), .int (2 : Int32)]) C (c_X11_isAmong l G (M := M) e1) wc_X11_isAmong wm_X11_166 ws_X11_isAmong wi_X11 hy_X11_isAmong ⟨Nat.le_of_ble_eq_true rfl, Nat.le_of_ble_eq_true rfl⟩ rfl rfl (Nat.le_of_ble_eq_true rfl) d_X11_spy_3 ?_
  refine z_if_ne C d_X11_spy_6 (fun q3 => ?_) (fun q3 => ?_)
  · have h := o_f q3 h
    refine z_aload_n 0 C d_X11_spy_11 rfl rfl ?_
    refine z_get (k := 4) (v := .ref (gB G + 98)) C ((E_11 kx_0 G) _ _) (kU_in kx_0 (by decide)) rfl inX11 (by decide) wf_X11_34 rfl d_X11_spy_12 ?_
    refine z_get (k := 0) (v := .int (M.1 98 0)) C ((E_2 kx_98 G) _ _) (kU_in kx_98 (by decide)) rfl inX2 (by decide) wf_X11_104 rfl d_X11_spy_15 ?_
    refine z_if_ne C d_X11_spy_18 (fun q4 => ?_) (fun q4 => ?_)
    · have h := o_f q4 h
      refine z_aload_n 0 C d_X11_spy_24 rfl rfl ?_
      refine z_get (k := 4) (v := .ref (gB G + 98)) C ((E_11 kx_0 G) _ _) (kU_in kx_0 (by decide)) rfl inX11 (by decide) wf_X11_34 rfl d_X11_spy_25 ?_
      refine z_aload_n 0 C d_X11_spy_28 rfl rfl ?_
      refine z_get (k := 9) (v := .ref (gB G + (ld (M.1 0 9)))) C ((E_11 kx_0 G) _ _) (kU_in kx_0 (by decide)) rfl inX11 (by decide) wf_X11_69 rfl d_X11_spy_29 ?_
      refine z_get (k := 0) (v := .int (M.1 (ld (M.1 0 9)) 0)) C ((E_4 (k_ld _) G) _ _) (kU_in (k_ld _) (by decide)) rfl inX4 (by decide) wf_X11_110 rfl d_X11_spy_32 ?_
      obtain ⟨p6, e5, h⟩ := o_bd h
      refine z_V (S := []) (As := [.int (M.1 (ld (M.1 0 9)) 0)]) C (c_X2_seekOne l G e5) ((E_2 kx_98 G) _ _) (kU_in kx_98 (by decide)) rfl wc_X2_seekOne wm_X11_302 ws_X2_seekOne wl_X2_seekOne wi_X2 hy_X2_seekOne ⟨Nat.le_of_ble_eq_true rfl, Nat.le_of_ble_eq_true rfl⟩ rfl rfl (Nat.le_of_ble_eq_true rfl) d_X11_spy_35 ?_
      refine z_iload_n 1 C d_X11_spy_38 rfl rfl ?_
      refine z_if_ne C d_X11_spy_39 (fun q7 => ?_) (fun q7 => ?_)
      · have h := o_f q7 h
        refine z_aload_n 0 C d_X11_spy_50 rfl rfl ?_
        refine z_get (k := 4) (v := .ref (gB G + 98)) C ((E_11 kx_0 G) _ _) (kU_in kx_0 (by decide)) rfl inX11 (by decide) wf_X11_34 rfl d_X11_spy_51 ?_
        refine z_get (k := 1) (v := .int (p6.1 98 1)) C ((E_2 kx_98 G) _ _) (kU_in kx_98 (by decide)) rfl inX2 (by decide) wf_X11_305 rfl d_X11_spy_54 ?_
        refine z_if_ne C d_X11_spy_57 (fun q8 => ?_) (fun q8 => ?_)
        · have h := o_f q8 h
          refine z_iload_n 1 C d_X11_spy_63 rfl rfl ?_
          refine z_iconst (v := (1 : Int32)) C d_X11_spy_64 (by decide) ?_
          refine z_icmp_ne C d_X11_spy_65 (fun q9 => ?_) (fun q9 => ?_)
          · have h := o_f q9 h
            refine z_aload_n 0 C d_X11_spy_78 rfl rfl ?_
            refine z_get (k := 4) (v := .ref (gB G + 98)) C ((E_11 kx_0 G) _ _) (kU_in kx_0 (by decide)) rfl inX11 (by decide) wf_X11_34 rfl d_X11_spy_79 ?_
            refine z_get (k := 4) (v := .int (p6.1 98 4)) C ((E_2 kx_98 G) _ _) (kU_in kx_98 (by decide)) rfl inX2 (by decide) wf_X11_311 rfl d_X11_spy_82 ?_
            exact z_sub [] rfl (k_X11_spy_85 C hlk hr h)
          · have h := o_t q9 h
            refine z_aload_n 0 C d_X11_spy_68 rfl rfl ?_
            refine z_get (k := 4) (v := .ref (gB G + 98)) C ((E_11 kx_0 G) _ _) (kU_in kx_0 (by decide)) rfl inX11 (by decide) wf_X11_34 rfl d_X11_spy_69 ?_
            refine z_get (k := 2) (v := .int (p6.1 98 2)) C ((E_2 kx_98 G) _ _) (kU_in kx_98 (by decide)) rfl inX2 (by decide) wf_X11_308 rfl d_X11_spy_72 ?_
            refine z_goto C d_X11_spy_75 ?_
            exact z_sub [] rfl (k_X11_spy_85 C hlk hr h)
        · have h := o_t q8 h
          refine z_bipush (v := (-4 : Int32)) C d_X11_spy_60 (by decide) ?_
          obtain ⟨rfl, rfl⟩ := o_pair h
          exact z_iret C hlk hr d_X11_spy_62
      · have h := o_t q7 h
        refine z_aload_n 0 C d_X11_spy_42 rfl rfl ?_
        refine z_get (k := 4) (v := .ref (gB G + 98)) C ((E_11 kx_0 G) _ _) (kU_in kx_0 (by decide)) rfl inX11 (by decide) wf_X11_34 rfl d_X11_spy_43 ?_
        refine z_get (k := 1) (v := .int (p6.1 98 1)) C ((E_2 kx_98 G) _ _) (kU_in kx_98 (by decide)) rfl inX2 (by decide) wf_X11_305 rfl d_X11_spy_46 ?_
        obtain ⟨rfl, rfl⟩ := o_pair h
        exact z_iret C hlk hr d_X11_spy_49
    · have h := o_t q4 h
      refine z_bipush (v := (-2 : Int32)) C d_X11_spy_21 (by decide) ?_
      obtain ⟨rfl, rfl⟩ := o_pair h
      exact z_iret C hlk hr d_X11_spy_23
  · have h := o_t q3 h
    refine z_iconst (v := (-1 : Int32)) C d_X11_spy_9 (by decide) ?_
    obtain ⟨rfl, rfl⟩ := o_pair h
    exact z_iret C hlk hr d_X11_spy_10
theorem c_X11_spy (l : Launch) (G : GG) {M : Mm} {x1 : Int32} {r : Int32} {M2 : Mm} (h : f_X11_spy M x1 = some (r, M2)) : CT l 0 G y_X11_spy prog_1_method_33_code 2 (some .int) 4 91 [.ref (gB G + 0), .int x1] M (some (.int r)) M2 :=
  CT.of (by decide +kernel) (Nat.le_of_ble_eq_true rfl) rfl (fun p e s m args below meth c C hlk hr => k_X11_spy_0 C hlk hr h)
-- SnowSentries.spies(I)I
set_option maxRecDepth 4000 in
theorem k_X11_spies_0 {p : Program} {l : Launch} {e : Env} {s : State} {m : MethodId} {args : Array Value} {below : List Frame} {meth : Method} {c : Code} {G : GG} {M : Mm} {x1 : Int32} {r : Int32} {M2 : Mm} (C : CX p s m args c prog_1_method_34_code 2 "SnowSentries" 0 G) (hlk : meth.locks = false) (hr : meth.sig.returnType = (some .int)) : f_X11_spies M x1 = some (r, M2) → Z p l e { frames := 5, cells := 0, slots := 0, locals := 115 } s m args below meth c 0 G 2 (MQ below (QC 0 G (some (.int r)) M2) args s 0 0 (AU 0 G)) 0 [(0, .ref (gB G + 0)), (1, .int x1)] [] M := by
  intro h
  unfold f_X11_spies at h
  refine z_iload_n 1 C d_X11_spies_0 rfl rfl ?_
  refine z_iconst (v := (0 : Int32)) C d_X11_spies_1 (by decide) ?_
  refine z_iconst (v := (2 : Int32)) C d_X11_spies_2 (by decide) ?_
  obtain ⟨p2, e1, h⟩ := o_bd h
  refine z_S (S := []) (As := [.int x1, .int (0 : Int32), .int (2 : Int32)]) C (c_X11_isAmong l G (M := M) e1) wc_X11_isAmong wm_X11_166 ws_X11_isAmong wi_X11 hy_X11_isAmong ⟨Nat.le_of_ble_eq_true rfl, Nat.le_of_ble_eq_true rfl⟩ rfl rfl (Nat.le_of_ble_eq_true rfl) d_X11_spies_3 ?_
  refine z_if_ne C d_X11_spies_6 (fun q3 => ?_) (fun q3 => ?_)
  · have h := o_f q3 h
    refine z_aload_n 0 C d_X11_spies_11 rfl rfl ?_
    refine z_get (k := 4) (v := .ref (gB G + 98)) C ((E_11 kx_0 G) _ _) (kU_in kx_0 (by decide)) rfl inX11 (by decide) wf_X11_34 rfl d_X11_spies_12 ?_
    refine z_get (k := 0) (v := .int (M.1 98 0)) C ((E_2 kx_98 G) _ _) (kU_in kx_98 (by decide)) rfl inX2 (by decide) wf_X11_104 rfl d_X11_spies_15 ?_
    refine z_if_ne C d_X11_spies_18 (fun q4 => ?_) (fun q4 => ?_)
    · have h := o_f q4 h
      refine z_aload_n 0 C d_X11_spies_24 rfl rfl ?_
      refine z_get (k := 4) (v := .ref (gB G + 98)) C ((E_11 kx_0 G) _ _) (kU_in kx_0 (by decide)) rfl inX11 (by decide) wf_X11_34 rfl d_X11_spies_25 ?_
      refine z_aload_n 0 C d_X11_spies_28 rfl rfl ?_
      refine z_get (k := 9) (v := .ref (gB G + (ld (M.1 0 9)))) C ((E_11 kx_0 G) _ _) (kU_in kx_0 (by decide)) rfl inX11 (by decide) wf_X11_69 rfl d_X11_spies_29 ?_
      refine z_get (k := 0) (v := .int (M.1 (ld (M.1 0 9)) 0)) C ((E_4 (k_ld _) G) _ _) (kU_in (k_ld _) (by decide)) rfl inX4 (by decide) wf_X11_110 rfl d_X11_spies_32 ?_
      obtain ⟨p6, e5, h⟩ := o_bd h
      refine z_V (S := []) (As := [.int (M.1 (ld (M.1 0 9)) 0)]) C (c_X2_seekTwo l G e5) ((E_2 kx_98 G) _ _) (kU_in kx_98 (by decide)) rfl wc_X2_seekTwo wm_X11_314 ws_X2_seekTwo wl_X2_seekTwo wi_X2 hy_X2_seekTwo ⟨Nat.le_of_ble_eq_true rfl, Nat.le_of_ble_eq_true rfl⟩ rfl rfl (Nat.le_of_ble_eq_true rfl) d_X11_spies_35 ?_
      refine z_iload_n 1 C d_X11_spies_38 rfl rfl ?_
      refine z_if_ne C d_X11_spies_39 (fun q7 => ?_) (fun q7 => ?_)
      · have h := o_f q7 h
        refine z_aload_n 0 C d_X11_spies_50 rfl rfl ?_
        refine z_get (k := 4) (v := .ref (gB G + 98)) C ((E_11 kx_0 G) _ _) (kU_in kx_0 (by decide)) rfl inX11 (by decide) wf_X11_34 rfl d_X11_spies_51 ?_
        refine z_get (k := 1) (v := .int (p6.1 98 1)) C ((E_2 kx_98 G) _ _) (kU_in kx_98 (by decide)) rfl inX2 (by decide) wf_X11_305 rfl d_X11_spies_54 ?_
        refine z_if_ne C d_X11_spies_57 (fun q8 => ?_) (fun q8 => ?_)
        · have h := o_f q8 h
          refine z_iload_n 1 C d_X11_spies_63 rfl rfl ?_
          refine z_iconst (v := (1 : Int32)) C d_X11_spies_64 (by decide) ?_
          refine z_icmp_ne C d_X11_spies_65 (fun q9 => ?_) (fun q9 => ?_)
          · have h := o_f q9 h
            refine z_bipush (v := (100 : Int32)) C d_X11_spies_87 (by decide) ?_
            refine z_aload_n 0 C d_X11_spies_89 rfl rfl ?_
            refine z_get (k := 4) (v := .ref (gB G + 98)) C ((E_11 kx_0 G) _ _) (kU_in kx_0 (by decide)) rfl inX11 (by decide) wf_X11_34 rfl d_X11_spies_90 ?_
            refine z_get (k := 4) (v := .int (p6.1 98 4)) C ((E_2 kx_98 G) _ _) (kU_in kx_98 (by decide)) rfl inX2 (by decide) wf_X11_311 rfl d_X11_spies_93 ?_
            refine z_imul C d_X11_spies_96 ?_
            refine z_aload_n 0 C d_X11_spies_97 rfl rfl ?_
            refine z_get (k := 4) (v := .ref (gB G + 98)) C ((E_11 kx_0 G) _ _) (kU_in kx_0 (by decide)) rfl inX11 (by decide) wf_X11_34 rfl d_X11_spies_98 ?_
            refine z_get (k := 5) (v := .int (p6.1 98 5)) C ((E_2 kx_98 G) _ _) (kU_in kx_98 (by decide)) rfl inX2 (by decide) wf_X11_320 rfl d_X11_spies_101 ?_
            refine z_iadd C d_X11_spies_104 ?_
            obtain ⟨rfl, rfl⟩ := o_pair h
            exact z_iret C hlk hr d_X11_spies_105
          · have h := o_t q9 h
            refine z_bipush (v := (10 : Int32)) C d_X11_spies_68 (by decide) ?_
            refine z_aload_n 0 C d_X11_spies_70 rfl rfl ?_
            refine z_get (k := 4) (v := .ref (gB G + 98)) C ((E_11 kx_0 G) _ _) (kU_in kx_0 (by decide)) rfl inX11 (by decide) wf_X11_34 rfl d_X11_spies_71 ?_
            refine z_get (k := 2) (v := .int (p6.1 98 2)) C ((E_2 kx_98 G) _ _) (kU_in kx_98 (by decide)) rfl inX2 (by decide) wf_X11_308 rfl d_X11_spies_74 ?_
            refine z_imul C d_X11_spies_77 ?_
            refine z_aload_n 0 C d_X11_spies_78 rfl rfl ?_
            refine z_get (k := 4) (v := .ref (gB G + 98)) C ((E_11 kx_0 G) _ _) (kU_in kx_0 (by decide)) rfl inX11 (by decide) wf_X11_34 rfl d_X11_spies_79 ?_
            refine z_get (k := 3) (v := .int (p6.1 98 3)) C ((E_2 kx_98 G) _ _) (kU_in kx_98 (by decide)) rfl inX2 (by decide) wf_X11_317 rfl d_X11_spies_82 ?_
            refine z_iadd C d_X11_spies_85 ?_
            obtain ⟨rfl, rfl⟩ := o_pair h
            exact z_iret C hlk hr d_X11_spies_86
        · have h := o_t q8 h
          refine z_bipush (v := (-4 : Int32)) C d_X11_spies_60 (by decide) ?_
          obtain ⟨rfl, rfl⟩ := o_pair h
          exact z_iret C hlk hr d_X11_spies_62
      · have h := o_t q7 h
        refine z_aload_n 0 C d_X11_spies_42 rfl rfl ?_
        refine z_get (k := 4) (v := .ref (gB G + 98)) C ((E_11 kx_0 G) _ _) (kU_in kx_0 (by decide)) rfl inX11 (by decide) wf_X11_34 rfl d_X11_spies_43 ?_
        refine z_get (k := 1) (v := .int (p6.1 98 1)) C ((E_2 kx_98 G) _ _) (kU_in kx_98 (by decide)) rfl inX2 (by decide) wf_X11_305 rfl d_X11_spies_46 ?_
        obtain ⟨rfl, rfl⟩ := o_pair h
        exact z_iret C hlk hr d_X11_spies_49
    · have h := o_t q4 h
      refine z_bipush (v := (-2 : Int32)) C d_X11_spies_21 (by decide) ?_
      obtain ⟨rfl, rfl⟩ := o_pair h
      exact z_iret C hlk hr d_X11_spies_23
  · have h := o_t q3 h
    refine z_iconst (v := (-1 : Int32)) C d_X11_spies_9 (by decide) ?_
    obtain ⟨rfl, rfl⟩ := o_pair h
    exact z_iret C hlk hr d_X11_spies_10
theorem c_X11_spies (l : Launch) (G : GG) {M : Mm} {x1 : Int32} {r : Int32} {M2 : Mm} (h : f_X11_spies M x1 = some (r, M2)) : CT l 0 G y_X11_spies prog_1_method_34_code 2 (some .int) 5 115 [.ref (gB G + 0), .int x1] M (some (.int r)) M2 :=
  CT.of (by decide +kernel) (Nat.le_of_ble_eq_true rfl) rfl (fun p e s m args below meth c C hlk hr => k_X11_spies_0 C hlk hr h)
-- SnowSentries.odds(IIII)J
set_option maxRecDepth 4000 in
theorem k_X11_odds_33 {p : Program} {l : Launch} {e : Env} {s : State} {m : MethodId} {args : Array Value} {below : List Frame} {meth : Method} {c : Code} {G : GG} {M : Mm} {r : Int64} {M2 : Mm} (C : CX p s m args c prog_1_method_35_code 5 "SnowSentries" 0 G) (hlk : meth.locks = false) (hr : meth.sig.returnType = (some .long)) : f_X11_odds_33 M = some (r, M2) → Z p l e { frames := 4, cells := 0, slots := 0, locals := 97 } s m args below meth c 0 G 5 (MQ below (QC 0 G (some (.long r)) M2) args s 0 0 (AU 0 G)) 33 [] [] M := by
  intro h
  unfold f_X11_odds_33 at h
  refine z_ldc2 (v := (-1 : Int64)) C wk_X11_323 d_X11_odds_33 ?_
  obtain ⟨rfl, rfl⟩ := o_pair h
  exact z_lret C hlk hr d_X11_odds_36
set_option maxRecDepth 4000 in
theorem k_X11_odds_95 {p : Program} {l : Launch} {e : Env} {s : State} {m : MethodId} {args : Array Value} {below : List Frame} {meth : Method} {c : Code} {G : GG} {M : Mm} {t_0 : Int64} {r : Int64} {M2 : Mm} (C : CX p s m args c prog_1_method_35_code 5 "SnowSentries" 0 G) (hlk : meth.locks = false) (hr : meth.sig.returnType = (some .long)) : f_X11_odds_95 M t_0 = some (r, M2) → Z p l e { frames := 4, cells := 0, slots := 0, locals := 97 } s m args below meth c 0 G 5 (MQ below (QC 0 G (some (.long r)) M2) args s 0 0 (AU 0 G)) 95 [] [.long t_0] M := by
  intro h
  unfold f_X11_odds_95 at h
  obtain ⟨rfl, rfl⟩ := o_pair h
  exact z_lret C hlk hr d_X11_odds_95
set_option maxRecDepth 4000 in
theorem k_X11_odds_0 {p : Program} {l : Launch} {e : Env} {s : State} {m : MethodId} {args : Array Value} {below : List Frame} {meth : Method} {c : Code} {G : GG} {M : Mm} {x1 : Int32} {x2 : Int32} {x3 : Int32} {x4 : Int32} {r : Int64} {M2 : Mm} (C : CX p s m args c prog_1_method_35_code 5 "SnowSentries" 0 G) (hlk : meth.locks = false) (hr : meth.sig.returnType = (some .long)) : f_X11_odds M x1 x2 x3 x4 = some (r, M2) → Z p l e { frames := 4, cells := 0, slots := 0, locals := 97 } s m args below meth c 0 G 5 (MQ below (QC 0 G (some (.long r)) M2) args s 0 0 (AU 0 G)) 0 [(0, .ref (gB G + 0)), (1, .int x1), (2, .int x2), (3, .int x3), (4, .int x4)] [] M := by
  intro h
  unfold f_X11_odds at h
  refine z_iload_n 1 C d_X11_odds_0 rfl rfl ?_
  obtain ⟨p2, e1, h⟩ := o_bd h
  refine z_S (S := []) (As := [.int x1]) C (c_X11_isSide l G (M := M) e1) wc_X11_isSide wm_X11_163 ws_X11_isSide wi_X11 hy_X11_isSide ⟨Nat.le_of_ble_eq_true rfl, Nat.le_of_ble_eq_true rfl⟩ rfl rfl (Nat.le_of_ble_eq_true rfl) d_X11_odds_1 ?_
  refine z_if_eq C d_X11_odds_4 (fun q3 => ?_) (fun q3 => ?_)
  · have h := o_t q3 h
    exact z_sub [] rfl (k_X11_odds_33 C hlk hr h)
  · have h := o_f q3 h
    refine z_aload_n 0 C d_X11_odds_7 rfl rfl ?_
    refine z_iload_n 2 C d_X11_odds_8 rfl rfl ?_
    obtain ⟨p5, e4, h⟩ := o_bd h
    refine z_V (S := []) (As := [.int x2]) C (c_X11_isFurlong l G e4) ((E_11 kx_0 G) _ _) (kU_in kx_0 (by decide)) rfl wc_X11_isFurlong wm_X11_148 ws_X11_isFurlong wl_X11_isFurlong wi_X11 hy_X11_isFurlong ⟨Nat.le_of_ble_eq_true rfl, Nat.le_of_ble_eq_true rfl⟩ rfl rfl (Nat.le_of_ble_eq_true rfl) d_X11_odds_9 ?_
    refine z_if_eq C d_X11_odds_12 (fun q6 => ?_) (fun q6 => ?_)
    · have h := o_t q6 h
      exact z_sub [] rfl (k_X11_odds_33 C hlk hr h)
    · have h := o_f q6 h
      refine z_aload_n 0 C d_X11_odds_15 rfl rfl ?_
      refine z_iload_n 3 C d_X11_odds_16 rfl rfl ?_
      obtain ⟨p8, e7, h⟩ := o_bd h
      refine z_V (S := []) (As := [.int x3]) C (c_X11_isFromNow l G e7) ((E_11 kx_0 G) _ _) (kU_in kx_0 (by decide)) rfl wc_X11_isFromNow wm_X11_263 ws_X11_isFromNow wl_X11_isFromNow wi_X11 hy_X11_isFromNow ⟨Nat.le_of_ble_eq_true rfl, Nat.le_of_ble_eq_true rfl⟩ rfl rfl (Nat.le_of_ble_eq_true rfl) d_X11_odds_17 ?_
      refine z_if_eq C d_X11_odds_20 (fun q9 => ?_) (fun q9 => ?_)
      · have h := o_t q9 h
        exact z_sub [] rfl (k_X11_odds_33 C hlk hr h)
      · have h := o_f q9 h
        refine z_iload 4 C d_X11_odds_23 rfl ?_
        refine z_iconst (v := (0 : Int32)) C d_X11_odds_25 (by decide) ?_
        refine z_iconst (v := (1 : Int32)) C d_X11_odds_26 (by decide) ?_
        obtain ⟨p11, e10, h⟩ := o_bd h
        refine z_S (S := []) (As := [.int x4, .int (0 : Int32), .int (1 : Int32)]) C (c_X11_isAmong l G (M := M) e10) wc_X11_isAmong wm_X11_166 ws_X11_isAmong wi_X11 hy_X11_isAmong ⟨Nat.le_of_ble_eq_true rfl, Nat.le_of_ble_eq_true rfl⟩ rfl rfl (Nat.le_of_ble_eq_true rfl) d_X11_odds_27 ?_
        refine z_if_ne C d_X11_odds_30 (fun q12 => ?_) (fun q12 => ?_)
        · have h := o_f q12 h
          refine z_aload_n 0 C d_X11_odds_37 rfl rfl ?_
          refine z_get (k := 9) (v := .ref (gB G + (ld (M.1 0 9)))) C ((E_11 kx_0 G) _ _) (kU_in kx_0 (by decide)) rfl inX11 (by decide) wf_X11_69 rfl d_X11_odds_38 ?_
          refine z_get (k := 7) (v := .ref (gB G + (ld (M.1 0 9) + 5))) C ((E_4 (k_ld _) G) _ _) (kU_in (k_ld _) (by decide)) rfl inX4 (by decide) wf_X11_113 rfl d_X11_odds_41 ?_
          refine z_iload_n 1 C d_X11_odds_44 rfl rfl ?_
          refine z_iload_n 2 C d_X11_odds_45 rfl rfl ?_
          obtain ⟨p14, e13, h⟩ := o_bd h
          refine z_V (S := []) (As := [.int x1, .int x2]) C (c_X7_manOf l G (k_4_7 (k_ld _)) e13) ((E_7 (k_4_7 (k_ld _)) G) _ _) (kU_in (k_4_7 (k_ld _)) (by decide)) rfl wc_X7_manOf wm_X11_170 ws_X7_manOf wl_X7_manOf wi_X7 hy_X7_manOf ⟨Nat.le_of_ble_eq_true rfl, Nat.le_of_ble_eq_true rfl⟩ rfl rfl (Nat.le_of_ble_eq_true rfl) d_X11_odds_46 ?_
          refine z_get (k := 0) (v := .int (M.1 p14 0)) C ((E_6 (kr_X7_manOf (k_4_7 (k_ld _)) e13) G) _ _) (kU_in (kr_X7_manOf (k_4_7 (k_ld _)) e13) (by decide)) rfl inX6 (by decide) wf_X11_174 rfl d_X11_odds_49 ?_
          refine z_if_ne C d_X11_odds_52 (fun q15 => ?_) (fun q15 => ?_)
          · have h := o_f q15 h
            refine z_aload_n 0 C d_X11_odds_59 rfl rfl ?_
            refine z_get (k := 6) (v := .ref (gB G + 128)) C ((E_11 kx_0 G) _ _) (kU_in kx_0 (by decide)) rfl inX11 (by decide) wf_X11_48 rfl d_X11_odds_60 ?_
            refine z_aload_n 0 C d_X11_odds_63 rfl rfl ?_
            refine z_get (k := 9) (v := .ref (gB G + (ld (M.1 0 9)))) C ((E_11 kx_0 G) _ _) (kU_in kx_0 (by decide)) rfl inX11 (by decide) wf_X11_69 rfl d_X11_odds_64 ?_
            refine z_iload_n 1 C d_X11_odds_67 rfl rfl ?_
            refine z_iload_n 2 C d_X11_odds_68 rfl rfl ?_
            refine z_iload_n 3 C d_X11_odds_69 rfl rfl ?_
            obtain ⟨p17, e16, h⟩ := o_bd h
            refine z_V (S := []) (As := [.ref (gB G + (ld (M.1 0 9))), .int x1, .int x2, .int x3]) C (c_X3_weigh l G (k_ld _) e16) ((E_3 kx_128 G) _ _) (kU_in kx_128 (by decide)) rfl wc_X3_weigh wm_X11_327 ws_X3_weigh wl_X3_weigh wi_X3 hy_X3_weigh ⟨Nat.le_of_ble_eq_true rfl, Nat.le_of_ble_eq_true rfl⟩ rfl rfl (Nat.le_of_ble_eq_true rfl) d_X11_odds_70 ?_
            refine z_iload 4 C d_X11_odds_73 rfl ?_
            refine z_if_ne C d_X11_odds_75 (fun q18 => ?_) (fun q18 => ?_)
            · have h := o_f q18 h
              refine z_aload_n 0 C d_X11_odds_88 rfl rfl ?_
              refine z_get (k := 6) (v := .ref (gB G + 128)) C ((E_11 kx_0 G) _ _) (kU_in kx_0 (by decide)) rfl inX11 (by decide) wf_X11_48 rfl d_X11_odds_89 ?_
              refine z_get (k := 1) (v := .long (p17.2 128 1)) C ((E_3 kx_128 G) _ _) (kU_in kx_128 (by decide)) rfl inX3 (by decide) wf_X11_333 rfl d_X11_odds_92 ?_
              exact z_sub [] rfl (k_X11_odds_95 C hlk hr h)
            · have h := o_t q18 h
              refine z_aload_n 0 C d_X11_odds_78 rfl rfl ?_
              refine z_get (k := 6) (v := .ref (gB G + 128)) C ((E_11 kx_0 G) _ _) (kU_in kx_0 (by decide)) rfl inX11 (by decide) wf_X11_48 rfl d_X11_odds_79 ?_
              refine z_get (k := 0) (v := .long (p17.2 128 0)) C ((E_3 kx_128 G) _ _) (kU_in kx_128 (by decide)) rfl inX3 (by decide) wf_X11_329 rfl d_X11_odds_82 ?_
              refine z_goto C d_X11_odds_85 ?_
              exact z_sub [] rfl (k_X11_odds_95 C hlk hr h)
          · have h := o_t q15 h
            refine z_ldc2 (v := (-4 : Int64)) C wk_X11_325 d_X11_odds_55 ?_
            obtain ⟨rfl, rfl⟩ := o_pair h
            exact z_lret C hlk hr d_X11_odds_58
        · have h := o_t q12 h
          exact z_sub [] rfl (k_X11_odds_33 C hlk hr h)
theorem c_X11_odds (l : Launch) (G : GG) {M : Mm} {x1 : Int32} {x2 : Int32} {x3 : Int32} {x4 : Int32} {r : Int64} {M2 : Mm} (h : f_X11_odds M x1 x2 x3 x4 = some (r, M2)) : CT l 0 G y_X11_odds prog_1_method_35_code 5 (some .long) 4 97 [.ref (gB G + 0), .int x1, .int x2, .int x3, .int x4] M (some (.long r)) M2 :=
  CT.of (by decide +kernel) (Nat.le_of_ble_eq_true rfl) rfl (fun p e s m args below meth c C hlk hr => k_X11_odds_0 C hlk hr h)
-- SnowSentries.talks(I)I
set_option maxRecDepth 4000 in
theorem k_X11_talks_51 {p : Program} {l : Launch} {e : Env} {s : State} {m : MethodId} {args : Array Value} {below : List Frame} {meth : Method} {c : Code} {G : GG} {M : Mm} {s_0 : Int32} {r : Int32} (C : CX p s m args c prog_1_method_36_code 4 "SnowSentries" 0 G) (hlk : meth.locks = false) (hr : meth.sig.returnType = (some .int)) : f_X11_talks_51 M s_0 = some r → Z p l e { frames := 2, cells := 0, slots := 0, locals := 47 } s m args below meth c 0 G 4 (MQ below (QC 0 G (some (.int r)) M) args s 0 0 (AU 0 G)) 51 [] [.int s_0] M := by
  intro h
  unfold f_X11_talks_51 at h
  obtain rfl := o_some h
  exact z_iret C hlk hr d_X11_talks_51
set_option maxRecDepth 4000 in
theorem k_X11_talks_42 {p : Program} {l : Launch} {e : Env} {s : State} {m : MethodId} {args : Array Value} {below : List Frame} {meth : Method} {c : Code} {G : GG} {M : Mm} {x1 : Int32} {x2 : Int32} {x3 : Int32} {r : Int32} (C : CX p s m args c prog_1_method_36_code 4 "SnowSentries" 0 G) (hlk : meth.locks = false) (hr : meth.sig.returnType = (some .int)) : f_X11_talks_42 M x1 x2 x3 = some r → Z p l e { frames := 2, cells := 0, slots := 0, locals := 47 } s m args below meth c 0 G 4 (MQ below (QC 0 G (some (.int r)) M) args s 0 0 (AU 0 G)) 42 [(1, .int x1), (2, .int x2), (3, .int x3)] [] M := by
  intro h
  unfold f_X11_talks_42 at h
  refine z_iload_n 0 C d_X11_talks_42 rfl rfl ?_
  refine z_if_ne C d_X11_talks_43 (fun q1 => ?_) (fun q1 => ?_)
  · have h := o_f q1 h
    refine z_iload_n 2 C d_X11_talks_50 rfl rfl ?_
    exact z_sub [] rfl (k_X11_talks_51 C hlk hr h)
  · have h := o_t q1 h
    refine z_iload_n 1 C d_X11_talks_46 rfl rfl ?_
    refine z_goto C d_X11_talks_47 ?_
    exact z_sub [] rfl (k_X11_talks_51 C hlk hr h)
set_option maxRecDepth 4000 in
theorem kb_X11_talks_13 {p : Program} {l : Launch} {e : Env} {s : State} {m : MethodId} {args : Array Value} {below : List Frame} {meth : Method} {c : Code} {G : GG} {k13 : Int32 → Option Int32} {M : Mm} {x1 : Int32} {x2 : Int32} {r : Int32} (C : CX p s m args c prog_1_method_36_code 4 "SnowSentries" 0 G) (hlk : meth.locks = false) (hr : meth.sig.returnType = (some .int)) (hk13 : ∀ (x2 : Int32), k13 x2 = some r → Z p l e { frames := 2, cells := 0, slots := 0, locals := 47 } s m args below meth c 0 G 4 (MQ below (QC 0 G (some (.int r)) M) args s 0 0 (AU 0 G)) 13 [(0, .ref (gB G + 0)), (1, .int x1), (2, .int x2)] [] M) : b_X11_talks_13 k13 M x1 x2 = some r → Z p l e { frames := 2, cells := 0, slots := 0, locals := 47 } s m args below meth c 0 G 4 (MQ below (QC 0 G (some (.int r)) M) args s 0 0 (AU 0 G)) 13 [(0, .ref (gB G + 0)), (1, .int x1), (2, .int x2)] [] M := by
  intro h
  unfold b_X11_talks_13 at h
  refine z_iload_n 2 C d_X11_talks_13 rfl rfl ?_
  refine z_bipush (v := (99 : Int32)) C d_X11_talks_14 (by decide) ?_
  refine z_icmp_gt C d_X11_talks_16 (fun q1 => ?_) (fun q1 => ?_)
  · have h := o_t q1 h
    refine z_bipush (v := (-4 : Int32)) C d_X11_talks_58 (by decide) ?_
    obtain rfl := o_some h
    exact z_iret C hlk hr d_X11_talks_60
  · have h := o_f q1 h
    refine z_aload_n 0 C d_X11_talks_19 rfl rfl ?_
    refine z_get (k := 9) (v := .ref (gB G + (ld (M.1 0 9)))) C ((E_11 kx_0 G) _ _) (kU_in kx_0 (by decide)) rfl inX11 (by decide) wf_X11_69 rfl d_X11_talks_20 ?_
    refine z_iconst (v := (0 : Int32)) C d_X11_talks_23 (by decide) ?_
    refine z_iload_n 2 C d_X11_talks_24 rfl rfl ?_
    obtain ⟨p3, e2, h⟩ := o_bd h
    refine z_V (S := []) (As := [.int (0 : Int32), .int x2]) C (c_X4_strengthBy l G (k_ld _) e2) ((E_4 (k_ld _) G) _ _) (kU_in (k_ld _) (by decide)) rfl wc_X4_strengthBy wm_X11_336 ws_X4_strengthBy wl_X4_strengthBy wi_X4 hy_X4_strengthBy ⟨Nat.le_of_ble_eq_true rfl, Nat.le_of_ble_eq_true rfl⟩ rfl rfl (Nat.le_of_ble_eq_true rfl) d_X11_talks_25 ?_
    refine z_istore_n (L' := [(3, .int p3), (0, .ref (gB G + 0)), (1, .int x1), (2, .int x2)]) C d_X11_talks_28 rfl (by decide) rfl ?_
    refine z_iload_n 0 C d_X11_talks_29 rfl rfl ?_
    refine z_aload_n 1 C d_X11_talks_30 rfl rfl ?_
    refine z_get (k := 9) (v := .ref (gB G + (ld (M.1 0 9)))) C ((E_11 kx_0 G) _ _) (kU_in kx_0 (by decide)) rfl inX11 (by decide) wf_X11_69 rfl d_X11_talks_31 ?_
    refine z_iconst (v := (1 : Int32)) C d_X11_talks_34 (by decide) ?_
    refine z_iload_n 3 C d_X11_talks_35 rfl rfl ?_
    obtain ⟨p5, e4, h⟩ := o_bd h
    refine z_V (S := [.int p3]) (As := [.int (1 : Int32), .int x2]) C (c_X4_strengthBy l G (k_ld _) e4) ((E_4 (k_ld _) G) _ _) (kU_in (k_ld _) (by decide)) rfl wc_X4_strengthBy wm_X11_336 ws_X4_strengthBy wl_X4_strengthBy wi_X4 hy_X4_strengthBy ⟨Nat.le_of_ble_eq_true rfl, Nat.le_of_ble_eq_true rfl⟩ rfl rfl (Nat.le_of_ble_eq_true rfl) d_X11_talks_36 ?_
    refine z_icmp_ne C d_X11_talks_39 (fun q6 => ?_) (fun q6 => ?_)
    · have h := o_f q6 h
      refine z_iinc (v := (1 : Int32)) (L' := [(2, .int (x2 + (1 : Int32))), (3, .int p3), (0, .ref (gB G + 0)), (1, .int x1)]) 3 C d_X11_talks_52 rfl (by decide) (by decide) rfl ?_
      refine z_goto C d_X11_talks_55 ?_
      exact z_sub [2, 3, 0] rfl (hk13 _  h)
    · have h := o_t q6 h
      exact z_sub [2, 3, 0] rfl (k_X11_talks_42 C hlk hr h)
theorem k_X11_talks_13 {p : Program} {l : Launch} {e : Env} {s : State} {m : MethodId} {args : Array Value} {below : List Frame} {meth : Method} {c : Code} {G : GG} {M : Mm} {x1 : Int32} {r : Int32} (C : CX p s m args c prog_1_method_36_code 4 "SnowSentries" 0 G) (hlk : meth.locks = false) (hr : meth.sig.returnType = (some .int)) : ∀ (n : Nat) (x2 : Int32), f_X11_talks_13 M x1 n x2 = some r → Z p l e { frames := 2, cells := 0, slots := 0, locals := 47 } s m args below meth c 0 G 4 (MQ below (QC 0 G (some (.int r)) M) args s 0 0 (AU 0 G)) 13 [(0, .ref (gB G + 0)), (1, .int x1), (2, .int x2)] [] M := by
  intro n
  induction n with
  | zero =>
    intro x2  h
    exact absurd h (fun z => by cases z)
  | succ n ih =>
    intro x2  h
    exact kb_X11_talks_13 C hlk hr  (fun x2 h => ih x2 h) h
set_option maxRecDepth 4000 in
theorem k_X11_talks_0 {p : Program} {l : Launch} {e : Env} {s : State} {m : MethodId} {args : Array Value} {below : List Frame} {meth : Method} {c : Code} {G : GG} {M : Mm} {x1 : Int32} {r : Int32} (C : CX p s m args c prog_1_method_36_code 4 "SnowSentries" 0 G) (hlk : meth.locks = false) (hr : meth.sig.returnType = (some .int)) : f_X11_talks M x1 = some r → Z p l e { frames := 2, cells := 0, slots := 0, locals := 47 } s m args below meth c 0 G 4 (MQ below (QC 0 G (some (.int r)) M) args s 0 0 (AU 0 G)) 0 [(0, .ref (gB G + 0)), (1, .int x1)] [] M := by
  intro h
  unfold f_X11_talks at h
  refine z_iload_n 1 C d_X11_talks_0 rfl rfl ?_
  refine z_iconst (v := (0 : Int32)) C d_X11_talks_1 (by decide) ?_
  refine z_iconst (v := (1 : Int32)) C d_X11_talks_2 (by decide) ?_
  obtain ⟨p2, e1, h⟩ := o_bd h
  refine z_S (S := []) (As := [.int x1, .int (0 : Int32), .int (1 : Int32)]) C (c_X11_isAmong l G (M := M) e1) wc_X11_isAmong wm_X11_166 ws_X11_isAmong wi_X11 hy_X11_isAmong ⟨Nat.le_of_ble_eq_true rfl, Nat.le_of_ble_eq_true rfl⟩ rfl rfl (Nat.le_of_ble_eq_true rfl) d_X11_talks_3 ?_
  refine z_if_ne C d_X11_talks_6 (fun q3 => ?_) (fun q3 => ?_)
  · have h := o_f q3 h
    refine z_iconst (v := (1 : Int32)) C d_X11_talks_11 (by decide) ?_
    refine z_istore_n (L' := [(2, .int (1 : Int32)), (0, .ref (gB G + 0)), (1, .int x1)]) C d_X11_talks_12 rfl (by decide) rfl ?_
    exact z_sub [1, 2, 0] rfl (k_X11_talks_13 C hlk hr _ _ h)
  · have h := o_t q3 h
    refine z_iconst (v := (-1 : Int32)) C d_X11_talks_9 (by decide) ?_
    obtain rfl := o_some h
    exact z_iret C hlk hr d_X11_talks_10
theorem c_X11_talks (l : Launch) (G : GG) {M : Mm} {x1 : Int32} {r : Int32} (h : f_X11_talks M x1 = some r) : CT l 0 G y_X11_talks prog_1_method_36_code 4 (some .int) 2 47 [.ref (gB G + 0), .int x1] M (some (.int r)) M :=
  CT.of (by decide +kernel) (Nat.le_of_ble_eq_true rfl) rfl (fun p e s m args below meth c C hlk hr => k_X11_talks_0 C hlk hr h)
-- SnowSentries.strength(I)I
set_option maxRecDepth 4000 in
theorem k_X11_strength_0 {p : Program} {l : Launch} {e : Env} {s : State} {m : MethodId} {args : Array Value} {below : List Frame} {meth : Method} {c : Code} {G : GG} {M : Mm} {x1 : Int32} {r : Int32} (C : CX p s m args c prog_1_method_37_code 2 "SnowSentries" 0 G) (hlk : meth.locks = false) (hr : meth.sig.returnType = (some .int)) : f_X11_strength M x1 = some r → Z p l e { frames := 2, cells := 0, slots := 0, locals := 47 } s m args below meth c 0 G 2 (MQ below (QC 0 G (some (.int r)) M) args s 0 0 (AU 0 G)) 0 [(0, .ref (gB G + 0)), (1, .int x1)] [] M := by
  intro h
  unfold f_X11_strength at h
  refine z_iload_n 1 C d_X11_strength_0 rfl rfl ?_
  obtain ⟨p2, e1, h⟩ := o_bd h
  refine z_S (S := []) (As := [.int x1]) C (c_X11_isSide l G (M := M) e1) wc_X11_isSide wm_X11_163 ws_X11_isSide wi_X11 hy_X11_isSide ⟨Nat.le_of_ble_eq_true rfl, Nat.le_of_ble_eq_true rfl⟩ rfl rfl (Nat.le_of_ble_eq_true rfl) d_X11_strength_1 ?_
  refine z_if_ne C d_X11_strength_4 (fun q3 => ?_) (fun q3 => ?_)
  · have h := o_f q3 h
    refine z_aload_n 0 C d_X11_strength_9 rfl rfl ?_
    refine z_get (k := 9) (v := .ref (gB G + (ld (M.1 0 9)))) C ((E_11 kx_0 G) _ _) (kU_in kx_0 (by decide)) rfl inX11 (by decide) wf_X11_69 rfl d_X11_strength_10 ?_
    refine z_iload_n 1 C d_X11_strength_13 rfl rfl ?_
    refine z_aload_n 0 C d_X11_strength_14 rfl rfl ?_
    refine z_get (k := 9) (v := .ref (gB G + (ld (M.1 0 9)))) C ((E_11 kx_0 G) _ _) (kU_in kx_0 (by decide)) rfl inX11 (by decide) wf_X11_69 rfl d_X11_strength_15 ?_
    refine z_get (k := 3) (v := .ref (gB G + (ld (M.1 0 9) + 2))) C ((E_4 (k_ld _) G) _ _) (kU_in (k_ld _) (by decide)) rfl inX4 (by decide) wf_X11_119 rfl d_X11_strength_18 ?_
    refine z_get (k := 0) (v := .int (M.1 (ld (M.1 0 9) + 2) 0)) C ((E_5 (k_4_3 (k_ld _)) G) _ _) (kU_in (k_4_3 (k_ld _)) (by decide)) rfl inX5 (by decide) wf_X11_123 rfl d_X11_strength_21 ?_
    obtain ⟨p5, e4, h⟩ := o_bd h
    refine z_V (S := []) (As := [.int x1, .int (M.1 (ld (M.1 0 9) + 2) 0)]) C (c_X4_strengthBy l G (k_ld _) e4) ((E_4 (k_ld _) G) _ _) (kU_in (k_ld _) (by decide)) rfl wc_X4_strengthBy wm_X11_336 ws_X4_strengthBy wl_X4_strengthBy wi_X4 hy_X4_strengthBy ⟨Nat.le_of_ble_eq_true rfl, Nat.le_of_ble_eq_true rfl⟩ rfl rfl (Nat.le_of_ble_eq_true rfl) d_X11_strength_24 ?_
    obtain rfl := o_some h
    exact z_iret C hlk hr d_X11_strength_27
  · have h := o_t q3 h
    refine z_iconst (v := (-1 : Int32)) C d_X11_strength_7 (by decide) ?_
    obtain rfl := o_some h
    exact z_iret C hlk hr d_X11_strength_8
theorem c_X11_strength (l : Launch) (G : GG) {M : Mm} {x1 : Int32} {r : Int32} (h : f_X11_strength M x1 = some r) : CT l 0 G y_X11_strength prog_1_method_37_code 2 (some .int) 2 47 [.ref (gB G + 0), .int x1] M (some (.int r)) M :=
  CT.of (by decide +kernel) (Nat.le_of_ble_eq_true rfl) rfl (fun p e s m args below meth c C hlk hr => k_X11_strength_0 C hlk hr h)
-- SnowSentries.keep(I)I
set_option maxRecDepth 4000 in
theorem k_X11_keep_25 {p : Program} {l : Launch} {e : Env} {s : State} {m : MethodId} {args : Array Value} {below : List Frame} {meth : Method} {c : Code} {G : GG} {M : Mm} {x1 : Int32} {s_0 : Int32} {r : Int32} {M2 : Mm} (C : CX p s m args c prog_1_method_38_code 3 "SnowSentries" 0 G) (hlk : meth.locks = false) (hr : meth.sig.returnType = (some .int)) : f_X11_keep_25 M x1 s_0 = some (r, M2) → Z p l e { frames := 3, cells := 0, slots := 0, locals := 103 } s m args below meth c 0 G 3 (MQ below (QC 0 G (some (.int r)) M2) args s 0 0 (AU 0 G)) 25 [(0, .ref (gB G + 0)), (1, .int x1)] [.int s_0] M := by
  intro h
  unfold f_X11_keep_25 at h
  refine z_istore_n (L' := [(2, .int s_0), (0, .ref (gB G + 0)), (1, .int x1)]) C d_X11_keep_25 rfl (by decide) rfl ?_
  refine z_aload_n 1 C d_X11_keep_26 rfl rfl ?_
  refine z_get (k := 2) (v := .ref (gB G + 34)) C ((E_11 kx_0 G) _ _) (kU_in kx_0 (by decide)) rfl inX11 (by decide) wf_X11_23 rfl d_X11_keep_27 ?_
  refine z_iload_n 2 C d_X11_keep_30 rfl rfl ?_
  obtain ⟨q1, h⟩ := o_ck h
  refine z_rld (t := 5) (b := (34 + 2 + 31 * x1.toNatClampNeg)) ((E_29 kx_34 G) _ _) C (kU_in kx_34 (by decide)) rfl rfl q1 (if_pos (inn_lt q1)) d_X11_keep_31 ?_
  refine z_aload_n 1 C d_X11_keep_32 rfl rfl ?_
  refine z_get (k := 9) (v := .ref (gB G + (ld (M.1 0 9)))) C ((E_11 kx_0 G) _ _) (kU_in kx_0 (by decide)) rfl inX11 (by decide) wf_X11_69 rfl d_X11_keep_33 ?_
  refine z_get (k := 7) (v := .ref (gB G + (ld (M.1 0 9) + 5))) C ((E_4 (k_ld _) G) _ _) (kU_in (k_ld _) (by decide)) rfl inX4 (by decide) wf_X11_113 rfl d_X11_keep_36 ?_
  obtain ⟨p3, e2, h⟩ := o_bd h
  refine z_V (S := []) (As := [.ref (gB G + (ld (M.1 0 9) + 5))]) C (c_X7_become l G (k_29 kx_34 (inn_lt q1)) (k_4_7 (k_ld _)) e2) ((E_7 (k_29 kx_34 (inn_lt q1)) G) _ _) (kU_in (k_29 kx_34 (inn_lt q1)) (by decide)) rfl wc_X7_become wm_X11_339 ws_X7_become wl_X7_become wi_X7 hy_X7_become ⟨Nat.le_of_ble_eq_true rfl, Nat.le_of_ble_eq_true rfl⟩ rfl rfl (Nat.le_of_ble_eq_true rfl) d_X11_keep_39 ?_
  refine z_aload_n 1 C d_X11_keep_42 rfl rfl ?_
  refine z_get (k := 3) (v := .ref (gB G + 35)) C ((E_11 kx_0 G) _ _) (kU_in kx_0 (by decide)) rfl inX11 (by decide) wf_X11_27 rfl d_X11_keep_43 ?_
  refine z_iload_n 2 C d_X11_keep_46 rfl rfl ?_
  refine z_iconst (v := (1 : Int32)) C d_X11_keep_47 (by decide) ?_
  obtain ⟨M4, e5, h⟩ := o_wr h
  refine z_zst (fun r q => (E_26 kx_35 G) r q) C (kU_in kx_35 (by decide)) q1 d_X11_keep_48 ?_
  refine z_nM e5 ?_
  refine z_iload_n 0 C d_X11_keep_49 rfl rfl ?_
  obtain ⟨rfl, rfl⟩ := o_pair h
  exact z_iret C hlk hr d_X11_keep_50
set_option maxRecDepth 4000 in
theorem k_X11_keep_0 {p : Program} {l : Launch} {e : Env} {s : State} {m : MethodId} {args : Array Value} {below : List Frame} {meth : Method} {c : Code} {G : GG} {M : Mm} {x1 : Int32} {r : Int32} {M2 : Mm} (C : CX p s m args c prog_1_method_38_code 3 "SnowSentries" 0 G) (hlk : meth.locks = false) (hr : meth.sig.returnType = (some .int)) : f_X11_keep M x1 = some (r, M2) → Z p l e { frames := 3, cells := 0, slots := 0, locals := 103 } s m args below meth c 0 G 3 (MQ below (QC 0 G (some (.int r)) M2) args s 0 0 (AU 0 G)) 0 [(0, .ref (gB G + 0)), (1, .int x1)] [] M := by
  intro h
  unfold f_X11_keep at h
  refine z_iload_n 1 C d_X11_keep_0 rfl rfl ?_
  refine z_iconst (v := (0 : Int32)) C d_X11_keep_1 (by decide) ?_
  refine z_iconst (v := (1 : Int32)) C d_X11_keep_2 (by decide) ?_
  obtain ⟨p2, e1, h⟩ := o_bd h
  refine z_S (S := []) (As := [.int x1, .int (0 : Int32), .int (1 : Int32)]) C (c_X11_isAmong l G (M := M) e1) wc_X11_isAmong wm_X11_166 ws_X11_isAmong wi_X11 hy_X11_isAmong ⟨Nat.le_of_ble_eq_true rfl, Nat.le_of_ble_eq_true rfl⟩ rfl rfl (Nat.le_of_ble_eq_true rfl) d_X11_keep_3 ?_
  refine z_if_ne C d_X11_keep_6 (fun q3 => ?_) (fun q3 => ?_)
  · have h := o_f q3 h
    refine z_aload_n 0 C d_X11_keep_11 rfl rfl ?_
    refine z_get (k := 3) (v := .ref (gB G + 35)) C ((E_11 kx_0 G) _ _) (kU_in kx_0 (by decide)) rfl inX11 (by decide) wf_X11_27 rfl d_X11_keep_12 ?_
    refine z_iload_n 1 C d_X11_keep_15 rfl rfl ?_
    obtain ⟨q4, h⟩ := o_ck h
    refine z_zld ((E_26 kx_35 G) _ _) C (kU_in kx_35 (by decide)) q4 d_X11_keep_16 ?_
    refine z_if_eq C d_X11_keep_17 (fun q5 => ?_) (fun q5 => ?_)
    · have h := o_t q5 h
      refine z_iconst (v := (0 : Int32)) C d_X11_keep_24 (by decide) ?_
      exact z_sub [0, 1] rfl (k_X11_keep_25 C hlk hr h)
    · have h := o_f q5 h
      refine z_iconst (v := (1 : Int32)) C d_X11_keep_20 (by decide) ?_
      refine z_goto C d_X11_keep_21 ?_
      exact z_sub [0, 1] rfl (k_X11_keep_25 C hlk hr h)
  · have h := o_t q3 h
    refine z_iconst (v := (-1 : Int32)) C d_X11_keep_9 (by decide) ?_
    obtain ⟨rfl, rfl⟩ := o_pair h
    exact z_iret C hlk hr d_X11_keep_10
theorem c_X11_keep (l : Launch) (G : GG) {M : Mm} {x1 : Int32} {r : Int32} {M2 : Mm} (h : f_X11_keep M x1 = some (r, M2)) : CT l 0 G y_X11_keep prog_1_method_38_code 3 (some .int) 3 103 [.ref (gB G + 0), .int x1] M (some (.int r)) M2 :=
  CT.of (by decide +kernel) (Nat.le_of_ble_eq_true rfl) rfl (fun p e s m args below meth c C hlk hr => k_X11_keep_0 C hlk hr h)
-- SnowSentries.back(I)I
set_option maxRecDepth 4000 in
theorem k_X11_back_0 {p : Program} {l : Launch} {e : Env} {s : State} {m : MethodId} {args : Array Value} {below : List Frame} {meth : Method} {c : Code} {G : GG} {M : Mm} {x1 : Int32} {r : Int32} {M2 : Mm} (C : CX p s m args c prog_1_method_39_code 2 "SnowSentries" 0 G) (hlk : meth.locks = false) (hr : meth.sig.returnType = (some .int)) : f_X11_back M x1 = some (r, M2) → Z p l e { frames := 3, cells := 0, slots := 0, locals := 103 } s m args below meth c 0 G 2 (MQ below (QC 0 G (some (.int r)) M2) args s 0 0 (AU 0 G)) 0 [(0, .ref (gB G + 0)), (1, .int x1)] [] M := by
  intro h
  unfold f_X11_back at h
  refine z_iload_n 1 C d_X11_back_0 rfl rfl ?_
  refine z_iconst (v := (0 : Int32)) C d_X11_back_1 (by decide) ?_
  refine z_iconst (v := (1 : Int32)) C d_X11_back_2 (by decide) ?_
  obtain ⟨p2, e1, h⟩ := o_bd h
  refine z_S (S := []) (As := [.int x1, .int (0 : Int32), .int (1 : Int32)]) C (c_X11_isAmong l G (M := M) e1) wc_X11_isAmong wm_X11_166 ws_X11_isAmong wi_X11 hy_X11_isAmong ⟨Nat.le_of_ble_eq_true rfl, Nat.le_of_ble_eq_true rfl⟩ rfl rfl (Nat.le_of_ble_eq_true rfl) d_X11_back_3 ?_
  refine z_if_ne C d_X11_back_6 (fun q3 => ?_) (fun q3 => ?_)
  · have h := o_f q3 h
    refine z_aload_n 0 C d_X11_back_11 rfl rfl ?_
    refine z_get (k := 3) (v := .ref (gB G + 35)) C ((E_11 kx_0 G) _ _) (kU_in kx_0 (by decide)) rfl inX11 (by decide) wf_X11_27 rfl d_X11_back_12 ?_
    refine z_iload_n 1 C d_X11_back_15 rfl rfl ?_
    obtain ⟨q4, h⟩ := o_ck h
    refine z_zld ((E_26 kx_35 G) _ _) C (kU_in kx_35 (by decide)) q4 d_X11_back_16 ?_
    refine z_if_ne C d_X11_back_17 (fun q5 => ?_) (fun q5 => ?_)
    · have h := o_f q5 h
      refine z_aload_n 0 C d_X11_back_23 rfl rfl ?_
      refine z_get (k := 9) (v := .ref (gB G + (ld (M.1 0 9)))) C ((E_11 kx_0 G) _ _) (kU_in kx_0 (by decide)) rfl inX11 (by decide) wf_X11_69 rfl d_X11_back_24 ?_
      refine z_get (k := 7) (v := .ref (gB G + (ld (M.1 0 9) + 5))) C ((E_4 (k_ld _) G) _ _) (kU_in (k_ld _) (by decide)) rfl inX4 (by decide) wf_X11_113 rfl d_X11_back_27 ?_
      refine z_aload_n 0 C d_X11_back_30 rfl rfl ?_
      refine z_get (k := 2) (v := .ref (gB G + 34)) C ((E_11 kx_0 G) _ _) (kU_in kx_0 (by decide)) rfl inX11 (by decide) wf_X11_23 rfl d_X11_back_31 ?_
      refine z_iload_n 1 C d_X11_back_34 rfl rfl ?_
      refine z_rld (t := 5) (b := (34 + 2 + 31 * x1.toNatClampNeg)) ((E_29 kx_34 G) _ _) C (kU_in kx_34 (by decide)) rfl rfl q4 (if_pos (inn_lt q4)) d_X11_back_35 ?_
      obtain ⟨p7, e6, h⟩ := o_bd h
      refine z_V (S := []) (As := [.ref (gB G + (34 + 2 + 31 * x1.toNatClampNeg))]) C (c_X7_become l G (k_4_7 (k_ld _)) (k_29 kx_34 (inn_lt q4)) e6) ((E_7 (k_4_7 (k_ld _)) G) _ _) (kU_in (k_4_7 (k_ld _)) (by decide)) rfl wc_X7_become wm_X11_339 ws_X7_become wl_X7_become wi_X7 hy_X7_become ⟨Nat.le_of_ble_eq_true rfl, Nat.le_of_ble_eq_true rfl⟩ rfl rfl (Nat.le_of_ble_eq_true rfl) d_X11_back_36 ?_
      refine z_aload_n 0 C d_X11_back_39 rfl rfl ?_
      refine z_get (k := 9) (v := .ref (gB G + (ld (p7.1 0 9)))) C ((E_11 kx_0 G) _ _) (kU_in kx_0 (by decide)) rfl inX11 (by decide) wf_X11_69 rfl d_X11_back_40 ?_
      refine z_get (k := 7) (v := .ref (gB G + (ld (p7.1 0 9) + 5))) C ((E_4 (k_ld _) G) _ _) (kU_in (k_ld _) (by decide)) rfl inX4 (by decide) wf_X11_113 rfl d_X11_back_43 ?_
      refine z_get (k := 0) (v := .int (p7.1 (ld (p7.1 0 9) + 5) 0)) C ((E_7 (k_4_7 (k_ld _)) G) _ _) (kU_in (k_4_7 (k_ld _)) (by decide)) rfl inX7 (by decide) wf_X11_116 rfl d_X11_back_46 ?_
      obtain ⟨rfl, rfl⟩ := o_pair h
      exact z_iret C hlk hr d_X11_back_49
    · have h := o_t q5 h
      refine z_bipush (v := (-2 : Int32)) C d_X11_back_20 (by decide) ?_
      obtain ⟨rfl, rfl⟩ := o_pair h
      exact z_iret C hlk hr d_X11_back_22
  · have h := o_t q3 h
    refine z_iconst (v := (-1 : Int32)) C d_X11_back_9 (by decide) ?_
    obtain ⟨rfl, rfl⟩ := o_pair h
    exact z_iret C hlk hr d_X11_back_10
theorem c_X11_back (l : Launch) (G : GG) {M : Mm} {x1 : Int32} {r : Int32} {M2 : Mm} (h : f_X11_back M x1 = some (r, M2)) : CT l 0 G y_X11_back prog_1_method_39_code 2 (some .int) 3 103 [.ref (gB G + 0), .int x1] M (some (.int r)) M2 :=
  CT.of (by decide +kernel) (Nat.le_of_ble_eq_true rfl) rfl (fun p e s m args below meth c C hlk hr => k_X11_back_0 C hlk hr h)
-- SnowSentries.isSheet(I)Z
set_option maxRecDepth 4000 in
theorem k_X11_isSheet_0 {p : Program} {l : Launch} {e : Env} {s : State} {m : MethodId} {args : Array Value} {below : List Frame} {meth : Method} {c : Code} {G : GG} {x0 : Int32} {M : Mm}  {r : Int32} (C : CX p s m args c prog_1_method_48_code 1 "SnowSentries" 0 G) (hlk : meth.locks = false) (hr : meth.sig.returnType = (some .boolean)) : f_X11_isSheet x0 = some r → Z p l e { frames := 1, cells := 0, slots := 0, locals := 22 } s m args below meth c 0 G 1 (MQ below (QC 0 G (some (.int r)) M) args s 0 0 (AU 0 G)) 0 [(0, .int x0)] [] M := by
  intro h
  unfold f_X11_isSheet at h
  refine z_iload_n 0 C d_X11_isSheet_0 rfl rfl ?_
  refine z_iconst (v := (0 : Int32)) C d_X11_isSheet_1 (by decide) ?_
  refine z_iconst (v := (3 : Int32)) C d_X11_isSheet_2 (by decide) ?_
  obtain ⟨p2, e1, h⟩ := o_bd h
  refine z_S (S := []) (As := [.int x0, .int (0 : Int32), .int (3 : Int32)]) C (c_X11_isAmong l G (M := M) e1) wc_X11_isAmong wm_X11_166 ws_X11_isAmong wi_X11 hy_X11_isAmong ⟨Nat.le_of_ble_eq_true rfl, Nat.le_of_ble_eq_true rfl⟩ rfl rfl (Nat.le_of_ble_eq_true rfl) d_X11_isSheet_3 ?_
  obtain ⟨q3, h⟩ := o_ck h
  obtain rfl := o_some h
  exact z_zret C hlk hr (isB_nar q3) d_X11_isSheet_6
theorem c_X11_isSheet (l : Launch) (G : GG) {x0 : Int32} {M : Mm} {r : Int32} (h : f_X11_isSheet x0 = some r) : CT l 0 G y_X11_isSheet prog_1_method_48_code 1 (some .boolean) 1 22 [.int x0] M (some (.int r)) M :=
  CT.of (by decide +kernel) (Nat.le_of_ble_eq_true rfl) rfl (fun p e s m args below meth c C hlk hr => k_X11_isSheet_0 C hlk hr h)
-- SnowSentries.sheet(III)I
set_option maxRecDepth 4000 in
theorem k_X11_sheet_22 {p : Program} {l : Launch} {e : Env} {s : State} {m : MethodId} {args : Array Value} {below : List Frame} {meth : Method} {c : Code} {G : GG} {M : Mm} {r : Int32} {M2 : Mm} (C : CX p s m args c prog_1_method_40_code 4 "SnowSentries" 0 G) (hlk : meth.locks = false) (hr : meth.sig.returnType = (some .int)) : f_X11_sheet_22 M = some (r, M2) → Z p l e { frames := 2, cells := 0, slots := 0, locals := 45 } s m args below meth c 0 G 4 (MQ below (QC 0 G (some (.int r)) M2) args s 0 0 (AU 0 G)) 22 [] [] M := by
  intro h
  unfold f_X11_sheet_22 at h
  refine z_iconst (v := (-1 : Int32)) C d_X11_sheet_22 (by decide) ?_
  obtain ⟨rfl, rfl⟩ := o_pair h
  exact z_iret C hlk hr d_X11_sheet_23
set_option maxRecDepth 4000 in
theorem k_X11_sheet_0 {p : Program} {l : Launch} {e : Env} {s : State} {m : MethodId} {args : Array Value} {below : List Frame} {meth : Method} {c : Code} {G : GG} {M : Mm} {x1 : Int32} {x2 : Int32} {x3 : Int32} {r : Int32} {M2 : Mm} (C : CX p s m args c prog_1_method_40_code 4 "SnowSentries" 0 G) (hlk : meth.locks = false) (hr : meth.sig.returnType = (some .int)) : f_X11_sheet M x1 x2 x3 = some (r, M2) → Z p l e { frames := 2, cells := 0, slots := 0, locals := 45 } s m args below meth c 0 G 4 (MQ below (QC 0 G (some (.int r)) M2) args s 0 0 (AU 0 G)) 0 [(0, .ref (gB G + 0)), (1, .int x1), (2, .int x2), (3, .int x3)] [] M := by
  intro h
  unfold f_X11_sheet at h
  refine z_iload_n 1 C d_X11_sheet_0 rfl rfl ?_
  obtain ⟨p2, e1, h⟩ := o_bd h
  refine z_S (S := []) (As := [.int x1]) C (c_X11_isSheet l G (M := M) e1) wc_X11_isSheet wm_X11_343 ws_X11_isSheet wi_X11 hy_X11_isSheet ⟨Nat.le_of_ble_eq_true rfl, Nat.le_of_ble_eq_true rfl⟩ rfl rfl (Nat.le_of_ble_eq_true rfl) d_X11_sheet_1 ?_
  refine z_if_eq C d_X11_sheet_4 (fun q3 => ?_) (fun q3 => ?_)
  · have h := o_t q3 h
    exact z_sub [] rfl (k_X11_sheet_22 C hlk hr h)
  · have h := o_f q3 h
    refine z_iload_n 2 C d_X11_sheet_7 rfl rfl ?_
    refine z_iconst (v := (0 : Int32)) C d_X11_sheet_8 (by decide) ?_
    refine z_iconst (v := (2 : Int32)) C d_X11_sheet_9 (by decide) ?_
    obtain ⟨p5, e4, h⟩ := o_bd h
    refine z_S (S := []) (As := [.int x2, .int (0 : Int32), .int (2 : Int32)]) C (c_X11_isAmong l G (M := M) e4) wc_X11_isAmong wm_X11_166 ws_X11_isAmong wi_X11 hy_X11_isAmong ⟨Nat.le_of_ble_eq_true rfl, Nat.le_of_ble_eq_true rfl⟩ rfl rfl (Nat.le_of_ble_eq_true rfl) d_X11_sheet_10 ?_
    refine z_if_eq C d_X11_sheet_13 (fun q6 => ?_) (fun q6 => ?_)
    · have h := o_t q6 h
      exact z_sub [] rfl (k_X11_sheet_22 C hlk hr h)
    · have h := o_f q6 h
      refine z_iload_n 3 C d_X11_sheet_16 rfl rfl ?_
      refine z_bipush (v := (40 : Int32)) C d_X11_sheet_17 (by decide) ?_
      refine z_icmp_le C d_X11_sheet_19 (fun q7 => ?_) (fun q7 => ?_)
      · have h := o_t q7 h
        refine z_iload_n 3 C d_X11_sheet_24 rfl rfl ?_
        refine z_if_ge C d_X11_sheet_25 (fun q8 => ?_) (fun q8 => ?_)
        · have h := o_t q8 h
          refine z_aload_n 0 C d_X11_sheet_31 rfl rfl ?_
          refine z_get (k := 8) (v := .ref (gB G + 132)) C ((E_11 kx_0 G) _ _) (kU_in kx_0 (by decide)) rfl inX11 (by decide) wf_X11_61 rfl d_X11_sheet_32 ?_
          refine z_iload_n 1 C d_X11_sheet_35 rfl rfl ?_
          obtain ⟨q9, h⟩ := o_ck h
          refine z_rld (t := 6) (b := (132 + 1 + 2 * x1.toNatClampNeg)) ((E_30 kx_132 G) _ _) C (kU_in kx_132 (by decide)) rfl rfl q9 (if_pos (inn_lt q9)) d_X11_sheet_36 ?_
          refine z_iload_n 2 C d_X11_sheet_37 rfl rfl ?_
          refine z_iload_n 3 C d_X11_sheet_38 rfl rfl ?_
          obtain ⟨p11, e10, h⟩ := o_bd h
          refine z_V (S := []) (As := [.int x2, .int x3]) C (c_X8_renew l G (k_30 kx_132 (inn_lt q9)) e10) ((E_8 (k_30 kx_132 (inn_lt q9)) G) _ _) (kU_in (k_30 kx_132 (inn_lt q9)) (by decide)) rfl wc_X8_renew wm_X11_346 ws_X8_renew wl_X8_renew wi_X8 hy_X8_renew ⟨Nat.le_of_ble_eq_true rfl, Nat.le_of_ble_eq_true rfl⟩ rfl rfl (Nat.le_of_ble_eq_true rfl) d_X11_sheet_39 ?_
          refine z_iconst (v := (1 : Int32)) C d_X11_sheet_42 (by decide) ?_
          obtain ⟨rfl, rfl⟩ := o_pair h
          exact z_iret C hlk hr d_X11_sheet_43
        · have h := o_f q8 h
          refine z_bipush (v := (-14 : Int32)) C d_X11_sheet_28 (by decide) ?_
          obtain ⟨rfl, rfl⟩ := o_pair h
          exact z_iret C hlk hr d_X11_sheet_30
      · have h := o_f q7 h
        exact z_sub [] rfl (k_X11_sheet_22 C hlk hr h)
theorem c_X11_sheet (l : Launch) (G : GG) {M : Mm} {x1 : Int32} {x2 : Int32} {x3 : Int32} {r : Int32} {M2 : Mm} (h : f_X11_sheet M x1 x2 x3 = some (r, M2)) : CT l 0 G y_X11_sheet prog_1_method_40_code 4 (some .int) 2 45 [.ref (gB G + 0), .int x1, .int x2, .int x3] M (some (.int r)) M2 :=
  CT.of (by decide +kernel) (Nat.le_of_ble_eq_true rfl) rfl (fun p e s m args below meth c C hlk hr => k_X11_sheet_0 C hlk hr h)
-- SnowSentries.lay(III)I
set_option maxRecDepth 4000 in
theorem k_X11_lay_0 {p : Program} {l : Launch} {e : Env} {s : State} {m : MethodId} {args : Array Value} {below : List Frame} {meth : Method} {c : Code} {G : GG} {M : Mm} {x1 : Int32} {x2 : Int32} {x3 : Int32} {r : Int32} {M2 : Mm} (C : CX p s m args c prog_1_method_41_code 5 "SnowSentries" 0 G) (hlk : meth.locks = false) (hr : meth.sig.returnType = (some .int)) : f_X11_lay M x1 x2 x3 = some (r, M2) → Z p l e { frames := 2, cells := 0, slots := 0, locals := 42 } s m args below meth c 0 G 5 (MQ below (QC 0 G (some (.int r)) M2) args s 0 0 (AU 0 G)) 0 [(0, .ref (gB G + 0)), (1, .int x1), (2, .int x2), (3, .int x3)] [] M := by
  intro h
  unfold f_X11_lay at h
  refine z_iload_n 1 C d_X11_lay_0 rfl rfl ?_
  obtain ⟨p2, e1, h⟩ := o_bd h
  refine z_S (S := []) (As := [.int x1]) C (c_X11_isSheet l G (M := M) e1) wc_X11_isSheet wm_X11_343 ws_X11_isSheet wi_X11 hy_X11_isSheet ⟨Nat.le_of_ble_eq_true rfl, Nat.le_of_ble_eq_true rfl⟩ rfl rfl (Nat.le_of_ble_eq_true rfl) d_X11_lay_1 ?_
  refine z_if_ne C d_X11_lay_4 (fun q3 => ?_) (fun q3 => ?_)
  · have h := o_f q3 h
    refine z_aload_n 0 C d_X11_lay_9 rfl rfl ?_
    refine z_get (k := 8) (v := .ref (gB G + 132)) C ((E_11 kx_0 G) _ _) (kU_in kx_0 (by decide)) rfl inX11 (by decide) wf_X11_61 rfl d_X11_lay_10 ?_
    refine z_iload_n 1 C d_X11_lay_13 rfl rfl ?_
    obtain ⟨q4, h⟩ := o_ck h
    refine z_rld (t := 6) (b := (132 + 1 + 2 * x1.toNatClampNeg)) ((E_30 kx_132 G) _ _) C (kU_in kx_132 (by decide)) rfl rfl q4 (if_pos (inn_lt q4)) d_X11_lay_14 ?_
    obtain ⟨b5, e6, h⟩ := o_nm h
    have hb7 : kU 0 b5 = 8 := by rw [e6]; exact (k_30 kx_132 (inn_lt q4))
    refine z_nA e6 ?_
    refine z_astore (L' := [(4, .ref (gB G + b5)), (0, .ref (gB G + 0)), (1, .int x1), (2, .int x2), (3, .int x3)]) C d_X11_lay_15 (by decide) rfl ?_
    refine z_aload 0 C d_X11_lay_17 rfl ?_
    refine z_get (k := 0) (v := .int (M.1 b5 0)) C ((E_8 hb7 G) _ _) (kU_in hb7 (by decide)) rfl inX8 (by decide) wf_X11_350 rfl d_X11_lay_19 ?_
    refine z_if_ne C d_X11_lay_22 (fun q8 => ?_) (fun q8 => ?_)
    · have h := o_f q8 h
      refine z_iload_n 3 C d_X11_lay_28 rfl rfl ?_
      refine z_iconst (v := (0 : Int32)) C d_X11_lay_29 (by decide) ?_
      refine z_aload 0 C d_X11_lay_30 rfl ?_
      refine z_get (k := 1) (v := .int (M.1 b5 1)) C ((E_8 hb7 G) _ _) (kU_in hb7 (by decide)) rfl inX8 (by decide) wf_X11_351 rfl d_X11_lay_32 ?_
      refine z_iconst (v := (1 : Int32)) C d_X11_lay_35 (by decide) ?_
      refine z_isub C d_X11_lay_36 ?_
      obtain ⟨p10, e9, h⟩ := o_bd h
      refine z_S (S := []) (As := [.int x2, .int (0 : Int32), .int ((M.1 b5 1) - (1 : Int32))]) C (c_X11_isAmong l G (M := M) e9) wc_X11_isAmong wm_X11_166 ws_X11_isAmong wi_X11 hy_X11_isAmong ⟨Nat.le_of_ble_eq_true rfl, Nat.le_of_ble_eq_true rfl⟩ rfl rfl (Nat.le_of_ble_eq_true rfl) d_X11_lay_37 ?_
      refine z_if_ne C d_X11_lay_40 (fun q11 => ?_) (fun q11 => ?_)
      · have h := o_f q11 h
        refine z_aload 0 C d_X11_lay_46 rfl ?_
        refine z_iload_n 3 C d_X11_lay_48 rfl rfl ?_
        refine z_iload_n 4 C d_X11_lay_49 rfl rfl ?_
        obtain ⟨p13, e12, h⟩ := o_bd h
        refine z_V (S := []) (As := [.int x2, .int x3]) C (c_X8_put l G hb7 e12) ((E_8 hb7 G) _ _) (kU_in hb7 (by decide)) rfl wc_X8_put wm_X11_352 ws_X8_put wl_X8_put wi_X8 hy_X8_put ⟨Nat.le_of_ble_eq_true rfl, Nat.le_of_ble_eq_true rfl⟩ rfl rfl (Nat.le_of_ble_eq_true rfl) d_X11_lay_50 ?_
        refine z_iconst (v := (1 : Int32)) C d_X11_lay_53 (by decide) ?_
        obtain ⟨rfl, rfl⟩ := o_pair h
        exact z_iret C hlk hr d_X11_lay_54
      · have h := o_t q11 h
        refine z_bipush (v := (-12 : Int32)) C d_X11_lay_43 (by decide) ?_
        obtain ⟨rfl, rfl⟩ := o_pair h
        exact z_iret C hlk hr d_X11_lay_45
    · have h := o_t q8 h
      refine z_bipush (v := (-11 : Int32)) C d_X11_lay_25 (by decide) ?_
      obtain ⟨rfl, rfl⟩ := o_pair h
      exact z_iret C hlk hr d_X11_lay_27
  · have h := o_t q3 h
    refine z_iconst (v := (-1 : Int32)) C d_X11_lay_7 (by decide) ?_
    obtain ⟨rfl, rfl⟩ := o_pair h
    exact z_iret C hlk hr d_X11_lay_8
theorem c_X11_lay (l : Launch) (G : GG) {M : Mm} {x1 : Int32} {x2 : Int32} {x3 : Int32} {r : Int32} {M2 : Mm} (h : f_X11_lay M x1 x2 x3 = some (r, M2)) : CT l 0 G y_X11_lay prog_1_method_41_code 5 (some .int) 2 42 [.ref (gB G + 0), .int x1, .int x2, .int x3] M (some (.int r)) M2 :=
  CT.of (by decide +kernel) (Nat.le_of_ble_eq_true rfl) rfl (fun p e s m args below meth c C hlk hr => k_X11_lay_0 C hlk hr h)
-- SnowSentries.read(IIII)I
set_option maxRecDepth 4000 in
theorem k_X11_read_27 {p : Program} {l : Launch} {e : Env} {s : State} {m : MethodId} {args : Array Value} {below : List Frame} {meth : Method} {c : Code} {G : GG} {M : Mm} {r : Int32} {M2 : Mm} (C : CX p s m args c prog_1_method_42_code 8 "SnowSentries" 0 G) (hlk : meth.locks = false) (hr : meth.sig.returnType = (some .int)) : f_X11_read_27 M = some (r, M2) → Z p l e { frames := 2, cells := 0, slots := 0, locals := 45 } s m args below meth c 0 G 8 (MQ below (QC 0 G (some (.int r)) M2) args s 0 0 (AU 0 G)) 27 [] [] M := by
  intro h
  unfold f_X11_read_27 at h
  refine z_iconst (v := (-1 : Int32)) C d_X11_read_27 (by decide) ?_
  obtain ⟨rfl, rfl⟩ := o_pair h
  exact z_iret C hlk hr d_X11_read_28
set_option maxRecDepth 4000 in
theorem k_X11_read_146 {p : Program} {l : Launch} {e : Env} {s : State} {m : MethodId} {args : Array Value} {below : List Frame} {meth : Method} {c : Code} {G : GG} {M : Mm} {x6 : Int32} {s_1 : Int32} {r : Int32} {M2 : Mm} (C : CX p s m args c prog_1_method_42_code 8 "SnowSentries" 0 G) (hlk : meth.locks = false) (hr : meth.sig.returnType = (some .int)) : f_X11_read_146 M x6 s_1 = some (r, M2) → Z p l e { frames := 2, cells := 0, slots := 0, locals := 45 } s m args below meth c 0 G 8 (MQ below (QC 0 G (some (.int r)) M2) args s 0 0 (AU 0 G)) 146 [(6, .int x6)] [.int s_1, .ref (gB G + 0)] M := by
  intro h
  unfold f_X11_read_146 at h
  obtain ⟨M1, e2, h⟩ := o_wr h
  refine z_pI (k := 11) (ty := .int) C (fun r q => (E_11 kx_0 G) r q) (fun _ _ => rfl) (kU_in kx_0 (by decide)) rfl inX11 tyX11 tyX11_ok nmX11 (by decide) wf_X11_76 rfl (by decide +kernel) rfl rfl (Nat.le_of_ble_eq_true rfl) d_X11_read_146 ?_
  refine z_nM e2 ?_
  refine z_iload 0 C d_X11_read_149 rfl ?_
  obtain ⟨rfl, rfl⟩ := o_pair h
  exact z_iret C hlk hr d_X11_read_151
set_option maxRecDepth 4000 in
theorem k_X11_read_128 {p : Program} {l : Launch} {e : Env} {s : State} {m : MethodId} {args : Array Value} {below : List Frame} {meth : Method} {c : Code} {G : GG} {M : Mm} {x2 : Int32} {x4 : Int32} {a5 : Nat} {x6 : Int32} {r : Int32} {M2 : Mm} (C : CX p s m args c prog_1_method_42_code 8 "SnowSentries" 0 G) (hlk : meth.locks = false) (hr : meth.sig.returnType = (some .int)) (ha5 : kU 0 a5 = 8) : f_X11_read_128 M x2 x4 a5 x6 = some (r, M2) → Z p l e { frames := 2, cells := 0, slots := 0, locals := 45 } s m args below meth c 0 G 8 (MQ below (QC 0 G (some (.int r)) M2) args s 0 0 (AU 0 G)) 128 [(0, .ref (gB G + 0)), (2, .int x2), (4, .int x4), (5, .ref (gB G + a5)), (6, .int x6)] [] M := by
  intro h
  unfold f_X11_read_128 at h
  refine z_aload_n 0 C d_X11_read_128 rfl rfl ?_
  refine z_iload 4 C d_X11_read_129 rfl ?_
  refine z_iload 2 C d_X11_read_131 rfl ?_
  refine z_icmp_ge C d_X11_read_133 (fun q1 => ?_) (fun q1 => ?_)
  · have h := o_t q1 h
    refine z_iconst (v := (0 : Int32)) C d_X11_read_145 (by decide) ?_
    exact z_sub [4] rfl (k_X11_read_146 C hlk hr h)
  · have h := o_f q1 h
    refine z_aload 3 C d_X11_read_136 rfl ?_
    refine z_iload_n 1 C d_X11_read_138 rfl rfl ?_
    obtain ⟨p3, e2, h⟩ := o_bd h
    refine z_V (S := [.ref (gB G + 0)]) (As := [.int x2]) C (c_X8_faultFor l G ha5 e2) ((E_8 ha5 G) _ _) (kU_in ha5 (by decide)) rfl wc_X8_faultFor wm_X11_360 ws_X8_faultFor wl_X8_faultFor wi_X8 hy_X8_faultFor ⟨Nat.le_of_ble_eq_true rfl, Nat.le_of_ble_eq_true rfl⟩ rfl rfl (Nat.le_of_ble_eq_true rfl) d_X11_read_139 ?_
    refine z_goto C d_X11_read_142 ?_
    exact z_sub [4] rfl (k_X11_read_146 C hlk hr h)
set_option maxRecDepth 4000 in
theorem kb_X11_read_92 {p : Program} {l : Launch} {e : Env} {s : State} {m : MethodId} {args : Array Value} {below : List Frame} {meth : Method} {c : Code} {G : GG} {k92 : Mm → Int32 → Option (Int32 × Mm)} {x2 : Int32} {x3 : Int32} {x4 : Int32} {a5 : Nat} {x6 : Int32} {M : Mm} {x7 : Int32} {r : Int32} {M2 : Mm} (C : CX p s m args c prog_1_method_42_code 8 "SnowSentries" 0 G) (hlk : meth.locks = false) (hr : meth.sig.returnType = (some .int)) (ha5 : kU 0 a5 = 8) (hk92 : ∀ (M : Mm) (x7 : Int32), k92 M x7 = some (r, M2) → Z p l e { frames := 2, cells := 0, slots := 0, locals := 45 } s m args below meth c 0 G 8 (MQ below (QC 0 G (some (.int r)) M2) args s 0 0 (AU 0 G)) 92 [(0, .ref (gB G + 0)), (2, .int x2), (3, .int x3), (4, .int x4), (5, .ref (gB G + a5)), (6, .int x6), (7, .int x7)] [] M) : b_X11_read_92 k92 x2 x3 x4 a5 x6 M x7 = some (r, M2) → Z p l e { frames := 2, cells := 0, slots := 0, locals := 45 } s m args below meth c 0 G 8 (MQ below (QC 0 G (some (.int r)) M2) args s 0 0 (AU 0 G)) 92 [(0, .ref (gB G + 0)), (2, .int x2), (3, .int x3), (4, .int x4), (5, .ref (gB G + a5)), (6, .int x6), (7, .int x7)] [] M := by
  intro h
  unfold b_X11_read_92 at h
  refine z_iload 6 C d_X11_read_92 rfl ?_
  refine z_iload 5 C d_X11_read_94 rfl ?_
  refine z_icmp_ge C d_X11_read_96 (fun q1 => ?_) (fun q1 => ?_)
  · have h := o_t q1 h
    exact z_sub [0, 1, 3, 4, 5] rfl (k_X11_read_128 C hlk hr ha5 h)
  · have h := o_f q1 h
    refine z_aload_n 0 C d_X11_read_99 rfl rfl ?_
    refine z_get (k := 9) (v := .ref (gB G + (ld (M.1 0 9)))) C ((E_11 kx_0 G) _ _) (kU_in kx_0 (by decide)) rfl inX11 (by decide) wf_X11_69 rfl d_X11_read_100 ?_
    refine z_get (k := 7) (v := .ref (gB G + (ld (M.1 0 9) + 5))) C ((E_4 (k_ld _) G) _ _) (kU_in (k_ld _) (by decide)) rfl inX4 (by decide) wf_X11_113 rfl d_X11_read_103 ?_
    refine z_get (k := 5) (v := .ref (gB G + ((ld (M.1 0 9) + 5) + 5))) C ((E_7 (k_4_7 (k_ld _)) G) _ _) (kU_in (k_4_7 (k_ld _)) (by decide)) rfl inX7 (by decide) wf_X11_141 rfl d_X11_read_106 ?_
    refine z_iload 6 C d_X11_read_109 rfl ?_
    refine z_aload 4 C d_X11_read_111 rfl ?_
    refine z_get (k := 2) (v := .ref (gB G + (a5 + 1))) C ((E_8 ha5 G) _ _) (kU_in ha5 (by decide)) rfl inX8 (by decide) wf_X11_357 rfl d_X11_read_113 ?_
    refine z_iload_n 2 C d_X11_read_116 rfl rfl ?_
    refine z_iload 6 C d_X11_read_117 rfl ?_
    refine z_iadd C d_X11_read_119 ?_
    obtain ⟨q2, h⟩ := o_ck h
    refine z_ald ((E_24 (k_8_2 ha5) G) _ _) C (kU_in (k_8_2 ha5) (by decide)) q2 d_X11_read_120 ?_
    obtain ⟨q5, h⟩ := o_ck h
    obtain ⟨M3, e4, h⟩ := o_wr h
    refine z_ast (fun r q => (E_22 (k_7_5 (k_4_7 (k_ld _))) G) r q) C (kU_in (k_7_5 (k_4_7 (k_ld _))) (by decide)) q5 d_X11_read_121 ?_
    refine z_nM e4 ?_
    refine z_iinc (v := (1 : Int32)) (L' := [(7, .int (x7 + (1 : Int32))), (0, .ref (gB G + 0)), (2, .int x2), (3, .int x3), (4, .int x4), (5, .ref (gB G + a5)), (6, .int x6)]) 6 C d_X11_read_122 rfl (by decide) (by decide) rfl ?_
    refine z_goto C d_X11_read_125 ?_
    exact z_sub [1, 2, 3, 4, 5, 6, 0] rfl (hk92 _ _  h)
theorem k_X11_read_92 {p : Program} {l : Launch} {e : Env} {s : State} {m : MethodId} {args : Array Value} {below : List Frame} {meth : Method} {c : Code} {G : GG} {x2 : Int32} {x3 : Int32} {x4 : Int32} {a5 : Nat} {x6 : Int32} {r : Int32} {M2 : Mm} (C : CX p s m args c prog_1_method_42_code 8 "SnowSentries" 0 G) (hlk : meth.locks = false) (hr : meth.sig.returnType = (some .int)) (ha5 : kU 0 a5 = 8) : ∀ (n : Nat) (M : Mm) (x7 : Int32), f_X11_read_92 x2 x3 x4 a5 x6 n M x7 = some (r, M2) → Z p l e { frames := 2, cells := 0, slots := 0, locals := 45 } s m args below meth c 0 G 8 (MQ below (QC 0 G (some (.int r)) M2) args s 0 0 (AU 0 G)) 92 [(0, .ref (gB G + 0)), (2, .int x2), (3, .int x3), (4, .int x4), (5, .ref (gB G + a5)), (6, .int x6), (7, .int x7)] [] M := by
  intro n
  induction n with
  | zero =>
    intro M x7  h
    exact absurd h (fun z => by cases z)
  | succ n ih =>
    intro M x7  h
    exact kb_X11_read_92 C hlk hr ha5 (fun M x7 h => ih M x7 h) h
set_option maxRecDepth 4000 in
theorem k_X11_read_89 {p : Program} {l : Launch} {e : Env} {s : State} {m : MethodId} {args : Array Value} {below : List Frame} {meth : Method} {c : Code} {G : GG} {M : Mm} {x2 : Int32} {x3 : Int32} {x4 : Int32} {a5 : Nat} {x6 : Int32} {r : Int32} {M2 : Mm} (C : CX p s m args c prog_1_method_42_code 8 "SnowSentries" 0 G) (hlk : meth.locks = false) (hr : meth.sig.returnType = (some .int)) (ha5 : kU 0 a5 = 8) : f_X11_read_89 M x2 x3 x4 a5 x6 = some (r, M2) → Z p l e { frames := 2, cells := 0, slots := 0, locals := 45 } s m args below meth c 0 G 8 (MQ below (QC 0 G (some (.int r)) M2) args s 0 0 (AU 0 G)) 89 [(0, .ref (gB G + 0)), (2, .int x2), (3, .int x3), (4, .int x4), (5, .ref (gB G + a5)), (6, .int x6)] [] M := by
  intro h
  unfold f_X11_read_89 at h
  refine z_iconst (v := (0 : Int32)) C d_X11_read_89 (by decide) ?_
  refine z_istore (L' := [(7, .int (0 : Int32)), (0, .ref (gB G + 0)), (2, .int x2), (3, .int x3), (4, .int x4), (5, .ref (gB G + a5)), (6, .int x6)]) C d_X11_read_90 (by decide) rfl ?_
  exact z_sub [1, 2, 3, 4, 5, 6, 0] rfl (k_X11_read_92 C hlk hr ha5 _ _ _ h)
set_option maxRecDepth 4000 in
theorem kb_X11_read_51 {p : Program} {l : Launch} {e : Env} {s : State} {m : MethodId} {args : Array Value} {below : List Frame} {meth : Method} {c : Code} {G : GG} {k51 : Int32 → Option (Int32 × Mm)} {M : Mm} {x2 : Int32} {x3 : Int32} {x4 : Int32} {a5 : Nat} {x6 : Int32} {x7 : Int32} {r : Int32} {M2 : Mm} (C : CX p s m args c prog_1_method_42_code 8 "SnowSentries" 0 G) (hlk : meth.locks = false) (hr : meth.sig.returnType = (some .int)) (ha5 : kU 0 a5 = 8) (hk51 : ∀ (x7 : Int32), k51 x7 = some (r, M2) → Z p l e { frames := 2, cells := 0, slots := 0, locals := 45 } s m args below meth c 0 G 8 (MQ below (QC 0 G (some (.int r)) M2) args s 0 0 (AU 0 G)) 51 [(0, .ref (gB G + 0)), (2, .int x2), (3, .int x3), (4, .int x4), (5, .ref (gB G + a5)), (6, .int x6), (7, .int x7)] [] M) : b_X11_read_51 k51 M x2 x3 x4 a5 x6 x7 = some (r, M2) → Z p l e { frames := 2, cells := 0, slots := 0, locals := 45 } s m args below meth c 0 G 8 (MQ below (QC 0 G (some (.int r)) M2) args s 0 0 (AU 0 G)) 51 [(0, .ref (gB G + 0)), (2, .int x2), (3, .int x3), (4, .int x4), (5, .ref (gB G + a5)), (6, .int x6), (7, .int x7)] [] M := by
  intro h
  unfold b_X11_read_51 at h
  refine z_iload 6 C d_X11_read_51 rfl ?_
  refine z_iload 5 C d_X11_read_53 rfl ?_
  refine z_icmp_ge C d_X11_read_55 (fun q1 => ?_) (fun q1 => ?_)
  · have h := o_t q1 h
    exact z_sub [0, 1, 2, 3, 4, 5] rfl (k_X11_read_89 C hlk hr ha5 h)
  · have h := o_f q1 h
    refine z_aload 4 C d_X11_read_58 rfl ?_
    refine z_get (k := 2) (v := .ref (gB G + (a5 + 1))) C ((E_8 ha5 G) _ _) (kU_in ha5 (by decide)) rfl inX8 (by decide) wf_X11_357 rfl d_X11_read_60 ?_
    refine z_iload_n 2 C d_X11_read_63 rfl rfl ?_
    refine z_iload 6 C d_X11_read_64 rfl ?_
    refine z_iadd C d_X11_read_66 ?_
    obtain ⟨q2, h⟩ := o_ck h
    refine z_ald ((E_24 (k_8_2 ha5) G) _ _) C (kU_in (k_8_2 ha5) (by decide)) q2 d_X11_read_67 ?_
    refine z_iconst (v := (0 : Int32)) C d_X11_read_68 (by decide) ?_
    refine z_bipush (v := (9 : Int32)) C d_X11_read_69 (by decide) ?_
    obtain ⟨p4, e3, h⟩ := o_bd h
    refine z_S (S := []) (As := [.int (M.1 (a5 + 1) (x3 + x7).toNatClampNeg), .int (0 : Int32), .int (9 : Int32)]) C (c_X11_isAmong l G (M := M) e3) wc_X11_isAmong wm_X11_166 ws_X11_isAmong wi_X11 hy_X11_isAmong ⟨Nat.le_of_ble_eq_true rfl, Nat.le_of_ble_eq_true rfl⟩ rfl rfl (Nat.le_of_ble_eq_true rfl) d_X11_read_71 ?_
    refine z_if_ne C d_X11_read_74 (fun q5 => ?_) (fun q5 => ?_)
    · have h := o_f q5 h
      refine z_iinc (v := (1 : Int32)) (L' := [(7, .int (x7 + (1 : Int32))), (0, .ref (gB G + 0)), (2, .int x2), (3, .int x3), (4, .int x4), (5, .ref (gB G + a5)), (6, .int x6)]) 6 C d_X11_read_83 rfl (by decide) (by decide) rfl ?_
      refine z_goto C d_X11_read_86 ?_
      exact z_sub [1, 2, 3, 4, 5, 6, 0] rfl (hk51 _  h)
    · have h := o_t q5 h
      refine z_bipush (v := (-20 : Int32)) C d_X11_read_77 (by decide) ?_
      refine z_iload 6 C d_X11_read_79 rfl ?_
      refine z_isub C d_X11_read_81 ?_
      obtain ⟨rfl, rfl⟩ := o_pair h
      exact z_iret C hlk hr d_X11_read_82
theorem k_X11_read_51 {p : Program} {l : Launch} {e : Env} {s : State} {m : MethodId} {args : Array Value} {below : List Frame} {meth : Method} {c : Code} {G : GG} {M : Mm} {x2 : Int32} {x3 : Int32} {x4 : Int32} {a5 : Nat} {x6 : Int32} {r : Int32} {M2 : Mm} (C : CX p s m args c prog_1_method_42_code 8 "SnowSentries" 0 G) (hlk : meth.locks = false) (hr : meth.sig.returnType = (some .int)) (ha5 : kU 0 a5 = 8) : ∀ (n : Nat) (x7 : Int32), f_X11_read_51 M x2 x3 x4 a5 x6 n x7 = some (r, M2) → Z p l e { frames := 2, cells := 0, slots := 0, locals := 45 } s m args below meth c 0 G 8 (MQ below (QC 0 G (some (.int r)) M2) args s 0 0 (AU 0 G)) 51 [(0, .ref (gB G + 0)), (2, .int x2), (3, .int x3), (4, .int x4), (5, .ref (gB G + a5)), (6, .int x6), (7, .int x7)] [] M := by
  intro n
  induction n with
  | zero =>
    intro x7  h
    exact absurd h (fun z => by cases z)
  | succ n ih =>
    intro x7  h
    exact kb_X11_read_51 C hlk hr ha5 (fun x7 h => ih x7 h) h
set_option maxRecDepth 4000 in
theorem k_X11_read_0 {p : Program} {l : Launch} {e : Env} {s : State} {m : MethodId} {args : Array Value} {below : List Frame} {meth : Method} {c : Code} {G : GG} {M : Mm} {x1 : Int32} {x2 : Int32} {x3 : Int32} {x4 : Int32} {r : Int32} {M2 : Mm} (C : CX p s m args c prog_1_method_42_code 8 "SnowSentries" 0 G) (hlk : meth.locks = false) (hr : meth.sig.returnType = (some .int)) : f_X11_read M x1 x2 x3 x4 = some (r, M2) → Z p l e { frames := 2, cells := 0, slots := 0, locals := 45 } s m args below meth c 0 G 8 (MQ below (QC 0 G (some (.int r)) M2) args s 0 0 (AU 0 G)) 0 [(0, .ref (gB G + 0)), (1, .int x1), (2, .int x2), (3, .int x3), (4, .int x4)] [] M := by
  intro h
  unfold f_X11_read at h
  refine z_iload_n 1 C d_X11_read_0 rfl rfl ?_
  obtain ⟨p2, e1, h⟩ := o_bd h
  refine z_S (S := []) (As := [.int x1]) C (c_X11_isSheet l G (M := M) e1) wc_X11_isSheet wm_X11_343 ws_X11_isSheet wi_X11 hy_X11_isSheet ⟨Nat.le_of_ble_eq_true rfl, Nat.le_of_ble_eq_true rfl⟩ rfl rfl (Nat.le_of_ble_eq_true rfl) d_X11_read_1 ?_
  refine z_if_eq C d_X11_read_4 (fun q3 => ?_) (fun q3 => ?_)
  · have h := o_t q3 h
    exact z_sub [] rfl (k_X11_read_27 C hlk hr h)
  · have h := o_f q3 h
    refine z_iload_n 2 C d_X11_read_7 rfl rfl ?_
    refine z_iconst (v := (0 : Int32)) C d_X11_read_8 (by decide) ?_
    refine z_iconst (v := (2 : Int32)) C d_X11_read_9 (by decide) ?_
    obtain ⟨p5, e4, h⟩ := o_bd h
    refine z_S (S := []) (As := [.int x2, .int (0 : Int32), .int (2 : Int32)]) C (c_X11_isAmong l G (M := M) e4) wc_X11_isAmong wm_X11_166 ws_X11_isAmong wi_X11 hy_X11_isAmong ⟨Nat.le_of_ble_eq_true rfl, Nat.le_of_ble_eq_true rfl⟩ rfl rfl (Nat.le_of_ble_eq_true rfl) d_X11_read_10 ?_
    refine z_if_eq C d_X11_read_13 (fun q6 => ?_) (fun q6 => ?_)
    · have h := o_t q6 h
      exact z_sub [] rfl (k_X11_read_27 C hlk hr h)
    · have h := o_f q6 h
      refine z_iload 4 C d_X11_read_16 rfl ?_
      refine z_iconst (v := (0 : Int32)) C d_X11_read_18 (by decide) ?_
      refine z_bipush (v := (12 : Int32)) C d_X11_read_19 (by decide) ?_
      obtain ⟨p8, e7, h⟩ := o_bd h
      refine z_S (S := []) (As := [.int x4, .int (0 : Int32), .int (12 : Int32)]) C (c_X11_isAmong l G (M := M) e7) wc_X11_isAmong wm_X11_166 ws_X11_isAmong wi_X11 hy_X11_isAmong ⟨Nat.le_of_ble_eq_true rfl, Nat.le_of_ble_eq_true rfl⟩ rfl rfl (Nat.le_of_ble_eq_true rfl) d_X11_read_21 ?_
      refine z_if_ne C d_X11_read_24 (fun q9 => ?_) (fun q9 => ?_)
      · have h := o_f q9 h
        refine z_aload_n 0 C d_X11_read_29 rfl rfl ?_
        refine z_get (k := 8) (v := .ref (gB G + 132)) C ((E_11 kx_0 G) _ _) (kU_in kx_0 (by decide)) rfl inX11 (by decide) wf_X11_61 rfl d_X11_read_30 ?_
        refine z_iload_n 1 C d_X11_read_33 rfl rfl ?_
        obtain ⟨q10, h⟩ := o_ck h
        refine z_rld (t := 6) (b := (132 + 1 + 2 * x1.toNatClampNeg)) ((E_30 kx_132 G) _ _) C (kU_in kx_132 (by decide)) rfl rfl q10 (if_pos (inn_lt q10)) d_X11_read_34 ?_
        obtain ⟨b11, e12, h⟩ := o_nm h
        have hb13 : kU 0 b11 = 8 := by rw [e12]; exact (k_30 kx_132 (inn_lt q10))
        refine z_nA e12 ?_
        refine z_astore (L' := [(5, .ref (gB G + b11)), (0, .ref (gB G + 0)), (1, .int x1), (2, .int x2), (3, .int x3), (4, .int x4)]) C d_X11_read_35 (by decide) rfl ?_
        refine z_aload 0 C d_X11_read_37 rfl ?_
        refine z_iload_n 3 C d_X11_read_39 rfl rfl ?_
        refine z_iload_n 4 C d_X11_read_40 rfl rfl ?_
        refine z_iload 5 C d_X11_read_41 rfl ?_
        obtain ⟨p15, e14, h⟩ := o_bd h
        refine z_V (S := []) (As := [.int x2, .int x3, .int x4]) C (c_X8_readable l G hb13 e14) ((E_8 hb13 G) _ _) (kU_in hb13 (by decide)) rfl wc_X8_readable wm_X11_354 ws_X8_readable wl_X8_readable wi_X8 hy_X8_readable ⟨Nat.le_of_ble_eq_true rfl, Nat.le_of_ble_eq_true rfl⟩ rfl rfl (Nat.le_of_ble_eq_true rfl) d_X11_read_43 ?_
        refine z_istore (L' := [(6, .int p15), (5, .ref (gB G + b11)), (0, .ref (gB G + 0)), (1, .int x1), (2, .int x2), (3, .int x3), (4, .int x4)]) C d_X11_read_46 (by decide) rfl ?_
        refine z_iconst (v := (0 : Int32)) C d_X11_read_48 (by decide) ?_
        refine z_istore (L' := [(7, .int (0 : Int32)), (6, .int p15), (5, .ref (gB G + b11)), (0, .ref (gB G + 0)), (1, .int x1), (2, .int x2), (3, .int x3), (4, .int x4)]) C d_X11_read_49 (by decide) rfl ?_
        exact z_sub [3, 5, 6, 7, 2, 1, 0] rfl (k_X11_read_51 C hlk hr hb13 _ _ h)
      · have h := o_t q9 h
        exact z_sub [] rfl (k_X11_read_27 C hlk hr h)
theorem c_X11_read (l : Launch) (G : GG) {M : Mm} {x1 : Int32} {x2 : Int32} {x3 : Int32} {x4 : Int32} {r : Int32} {M2 : Mm} (h : f_X11_read M x1 x2 x3 x4 = some (r, M2)) : CT l 0 G y_X11_read prog_1_method_42_code 8 (some .int) 2 45 [.ref (gB G + 0), .int x1, .int x2, .int x3, .int x4] M (some (.int r)) M2 :=
  CT.of (by decide +kernel) (Nat.le_of_ble_eq_true rfl) rfl (fun p e s m args below meth c C hlk hr => k_X11_read_0 C hlk hr h)
-- SnowSentries.torn()I
set_option maxRecDepth 4000 in
theorem k_X11_torn_0 {p : Program} {l : Launch} {e : Env} {s : State} {m : MethodId} {args : Array Value} {below : List Frame} {meth : Method} {c : Code} {G : GG} {M : Mm} {r : Int32} (C : CX p s m args c prog_1_method_43_code 1 "SnowSentries" 0 G) (hlk : meth.locks = false) (hr : meth.sig.returnType = (some .int)) : f_X11_torn M = some r → Z p l e { frames := 0, cells := 0, slots := 0, locals := 0 } s m args below meth c 0 G 1 (MQ below (QC 0 G (some (.int r)) M) args s 0 0 (AU 0 G)) 0 [(0, .ref (gB G + 0))] [] M := by
  intro h
  unfold f_X11_torn at h
  refine z_aload_n 0 C d_X11_torn_0 rfl rfl ?_
  refine z_get (k := 11) (v := .int (M.1 0 11)) C ((E_11 kx_0 G) _ _) (kU_in kx_0 (by decide)) rfl inX11 (by decide) wf_X11_76 rfl d_X11_torn_1 ?_
  obtain rfl := o_some h
  exact z_iret C hlk hr d_X11_torn_4
theorem c_X11_torn (l : Launch) (G : GG) {M : Mm} {r : Int32} (h : f_X11_torn M = some r) : CT l 0 G y_X11_torn prog_1_method_43_code 1 (some .int) 0 0 [.ref (gB G + 0)] M (some (.int r)) M :=
  CT.of (by decide +kernel) (Nat.le_of_ble_eq_true rfl) rfl (fun p e s m args below meth c C hlk hr => k_X11_torn_0 C hlk hr h)
-- SnowSentries.count(I)I
set_option maxRecDepth 4000 in
theorem k_X11_count_113 {p : Program} {l : Launch} {e : Env} {s : State} {m : MethodId} {args : Array Value} {below : List Frame} {meth : Method} {c : Code} {G : GG} {M : Mm} {s_0 : Int32} {s_1 : Int32} {r : Int32} (C : CX p s m args c prog_1_method_44_code 2 "SnowSentries" 0 G) (hlk : meth.locks = false) (hr : meth.sig.returnType = (some .int)) : f_X11_count_113 M s_0 s_1 = some r → Z p l e { frames := 1, cells := 0, slots := 0, locals := 22 } s m args below meth c 0 G 2 (MQ below (QC 0 G (some (.int r)) M) args s 0 0 (AU 0 G)) 113 [] [.int s_1, .int s_0] M := by
  intro h
  unfold f_X11_count_113 at h
  refine z_iadd C d_X11_count_113 ?_
  obtain rfl := o_some h
  exact z_iret C hlk hr d_X11_count_114
set_option maxRecDepth 4000 in
theorem k_X11_count_99 {p : Program} {l : Launch} {e : Env} {s : State} {m : MethodId} {args : Array Value} {below : List Frame} {meth : Method} {c : Code} {G : GG} {M : Mm} {s_0 : Int32} {r : Int32} (C : CX p s m args c prog_1_method_44_code 2 "SnowSentries" 0 G) (hlk : meth.locks = false) (hr : meth.sig.returnType = (some .int)) : f_X11_count_99 M s_0 = some r → Z p l e { frames := 1, cells := 0, slots := 0, locals := 22 } s m args below meth c 0 G 2 (MQ below (QC 0 G (some (.int r)) M) args s 0 0 (AU 0 G)) 99 [(0, .ref (gB G + 0))] [.int s_0] M := by
  intro h
  unfold f_X11_count_99 at h
  refine z_aload_n 0 C d_X11_count_99 rfl rfl ?_
  refine z_get (k := 3) (v := .ref (gB G + 35)) C ((E_11 kx_0 G) _ _) (kU_in kx_0 (by decide)) rfl inX11 (by decide) wf_X11_27 rfl d_X11_count_100 ?_
  refine z_iconst (v := (1 : Int32)) C d_X11_count_103 (by decide) ?_
  refine z_zld ((E_26 kx_35 G) _ _) C (kU_in kx_35 (by decide)) (show inn (1 : Int32) 2 from by decide) d_X11_count_104 ?_
  refine z_if_eq C d_X11_count_105 (fun q1 => ?_) (fun q1 => ?_)
  · have h := o_t q1 h
    refine z_iconst (v := (0 : Int32)) C d_X11_count_112 (by decide) ?_
    exact z_sub [] rfl (k_X11_count_113 C hlk hr h)
  · have h := o_f q1 h
    refine z_iconst (v := (1 : Int32)) C d_X11_count_108 (by decide) ?_
    refine z_goto C d_X11_count_109 ?_
    exact z_sub [] rfl (k_X11_count_113 C hlk hr h)
set_option maxRecDepth 4000 in
theorem k_X11_count_149 {p : Program} {l : Launch} {e : Env} {s : State} {m : MethodId} {args : Array Value} {below : List Frame} {meth : Method} {c : Code} {G : GG} {M : Mm} {s_0 : Int32} {r : Int32} (C : CX p s m args c prog_1_method_44_code 2 "SnowSentries" 0 G) (hlk : meth.locks = false) (hr : meth.sig.returnType = (some .int)) : f_X11_count_149 M s_0 = some r → Z p l e { frames := 1, cells := 0, slots := 0, locals := 22 } s m args below meth c 0 G 2 (MQ below (QC 0 G (some (.int r)) M) args s 0 0 (AU 0 G)) 149 [] [.int s_0] M := by
  intro h
  unfold f_X11_count_149 at h
  obtain rfl := o_some h
  exact z_iret C hlk hr d_X11_count_149
set_option maxRecDepth 4000 in
theorem k_X11_count_0 {p : Program} {l : Launch} {e : Env} {s : State} {m : MethodId} {args : Array Value} {below : List Frame} {meth : Method} {c : Code} {G : GG} {M : Mm} {x1 : Int32} {r : Int32} (C : CX p s m args c prog_1_method_44_code 2 "SnowSentries" 0 G) (hlk : meth.locks = false) (hr : meth.sig.returnType = (some .int)) : f_X11_count M x1 = some r → Z p l e { frames := 1, cells := 0, slots := 0, locals := 22 } s m args below meth c 0 G 2 (MQ below (QC 0 G (some (.int r)) M) args s 0 0 (AU 0 G)) 0 [(0, .ref (gB G + 0)), (1, .int x1)] [] M := by
  intro h
  unfold f_X11_count at h
  refine z_iload_n 1 C d_X11_count_0 rfl rfl ?_
  rcases Decidable.em (x1 = (0 : Int32)) with q1 | q1
  · have h := o_t q1 h
    refine z_tsw (tgt := 44) C d_X11_count_1 (Or.inr ⟨43, by rw [q1]; decide, by rw [q1]; decide, by rw [q1]; decide, by decide⟩) ?_
    refine z_aload_n 0 C d_X11_count_44 rfl rfl ?_
    refine z_get (k := 9) (v := .ref (gB G + (ld (M.1 0 9)))) C ((E_11 kx_0 G) _ _) (kU_in kx_0 (by decide)) rfl inX11 (by decide) wf_X11_69 rfl d_X11_count_45 ?_
    refine z_get (k := 7) (v := .ref (gB G + (ld (M.1 0 9) + 5))) C ((E_4 (k_ld _) G) _ _) (kU_in (k_ld _) (by decide)) rfl inX4 (by decide) wf_X11_113 rfl d_X11_count_48 ?_
    obtain ⟨p3, e2, h⟩ := o_bd h
    refine z_V (S := []) (As := []) C (c_X7_menInAll l G (k_4_7 (k_ld _)) e2) ((E_7 (k_4_7 (k_ld _)) G) _ _) (kU_in (k_4_7 (k_ld _)) (by decide)) rfl wc_X7_menInAll wm_X11_363 ws_X7_menInAll wl_X7_menInAll wi_X7 hy_X7_menInAll ⟨Nat.le_of_ble_eq_true rfl, Nat.le_of_ble_eq_true rfl⟩ rfl rfl (Nat.le_of_ble_eq_true rfl) d_X11_count_51 ?_
    obtain rfl := o_some h
    exact z_iret C hlk hr d_X11_count_54
  · have h := o_f q1 h
    rcases Decidable.em (x1 = (1 : Int32)) with q4 | q4
    · have h := o_t q4 h
      refine z_tsw (tgt := 55) C d_X11_count_1 (Or.inr ⟨54, by rw [q4]; decide, by rw [q4]; decide, by rw [q4]; decide, by decide⟩) ?_
      refine z_aload_n 0 C d_X11_count_55 rfl rfl ?_
      refine z_get (k := 9) (v := .ref (gB G + (ld (M.1 0 9)))) C ((E_11 kx_0 G) _ _) (kU_in kx_0 (by decide)) rfl inX11 (by decide) wf_X11_69 rfl d_X11_count_56 ?_
      refine z_get (k := 7) (v := .ref (gB G + (ld (M.1 0 9) + 5))) C ((E_4 (k_ld _) G) _ _) (kU_in (k_ld _) (by decide)) rfl inX4 (by decide) wf_X11_113 rfl d_X11_count_59 ?_
      refine z_get (k := 6) (v := .ref (gB G + ((ld (M.1 0 9) + 5) + 6))) C ((E_7 (k_4_7 (k_ld _)) G) _ _) (kU_in (k_4_7 (k_ld _)) (by decide)) rfl inX7 (by decide) wf_X11_193 rfl d_X11_count_62 ?_
      refine z_get (k := 0) (v := .int (M.1 ((ld (M.1 0 9) + 5) + 6) 0)) C ((E_0 (k_7_6 (k_4_7 (k_ld _))) G) _ _) (kU_in (k_7_6 (k_4_7 (k_ld _))) (by decide)) rfl inX0 (by decide) wf_X11_239 rfl d_X11_count_65 ?_
      obtain rfl := o_some h
      exact z_iret C hlk hr d_X11_count_68
    · have h := o_f q4 h
      rcases Decidable.em (x1 = (2 : Int32)) with q5 | q5
      · have h := o_t q5 h
        refine z_tsw (tgt := 69) C d_X11_count_1 (Or.inr ⟨68, by rw [q5]; decide, by rw [q5]; decide, by rw [q5]; decide, by decide⟩) ?_
        refine z_aload_n 0 C d_X11_count_69 rfl rfl ?_
        refine z_get (k := 9) (v := .ref (gB G + (ld (M.1 0 9)))) C ((E_11 kx_0 G) _ _) (kU_in kx_0 (by decide)) rfl inX11 (by decide) wf_X11_69 rfl d_X11_count_70 ?_
        refine z_get (k := 4) (v := .int (M.1 (ld (M.1 0 9)) 4)) C ((E_4 (k_ld _) G) _ _) (kU_in (k_ld _) (by decide)) rfl inX4 (by decide) wf_X11_214 rfl d_X11_count_73 ?_
        obtain rfl := o_some h
        exact z_iret C hlk hr d_X11_count_76
      · have h := o_f q5 h
        rcases Decidable.em (x1 = (3 : Int32)) with q6 | q6
        · have h := o_t q6 h
          refine z_tsw (tgt := 77) C d_X11_count_1 (Or.inr ⟨76, by rw [q6]; decide, by rw [q6]; decide, by rw [q6]; decide, by decide⟩) ?_
          refine z_aload_n 0 C d_X11_count_77 rfl rfl ?_
          refine z_get (k := 4) (v := .ref (gB G + 98)) C ((E_11 kx_0 G) _ _) (kU_in kx_0 (by decide)) rfl inX11 (by decide) wf_X11_34 rfl d_X11_count_78 ?_
          refine z_get (k := 0) (v := .int (M.1 98 0)) C ((E_2 kx_98 G) _ _) (kU_in kx_98 (by decide)) rfl inX2 (by decide) wf_X11_104 rfl d_X11_count_81 ?_
          obtain rfl := o_some h
          exact z_iret C hlk hr d_X11_count_84
        · have h := o_f q6 h
          rcases Decidable.em (x1 = (4 : Int32)) with q7 | q7
          · have h := o_t q7 h
            refine z_tsw (tgt := 85) C d_X11_count_1 (Or.inr ⟨84, by rw [q7]; decide, by rw [q7]; decide, by rw [q7]; decide, by decide⟩) ?_
            refine z_aload_n 0 C d_X11_count_85 rfl rfl ?_
            refine z_get (k := 3) (v := .ref (gB G + 35)) C ((E_11 kx_0 G) _ _) (kU_in kx_0 (by decide)) rfl inX11 (by decide) wf_X11_27 rfl d_X11_count_86 ?_
            refine z_iconst (v := (0 : Int32)) C d_X11_count_89 (by decide) ?_
            refine z_zld ((E_26 kx_35 G) _ _) C (kU_in kx_35 (by decide)) (show inn (0 : Int32) 2 from by decide) d_X11_count_90 ?_
            refine z_if_eq C d_X11_count_91 (fun q8 => ?_) (fun q8 => ?_)
            · have h := o_t q8 h
              refine z_iconst (v := (0 : Int32)) C d_X11_count_98 (by decide) ?_
              exact z_sub [0] rfl (k_X11_count_99 C hlk hr h)
            · have h := o_f q8 h
              refine z_iconst (v := (1 : Int32)) C d_X11_count_94 (by decide) ?_
              refine z_goto C d_X11_count_95 ?_
              exact z_sub [0] rfl (k_X11_count_99 C hlk hr h)
          · have h := o_f q7 h
            rcases Decidable.em (x1 = (5 : Int32)) with q9 | q9
            · have h := o_t q9 h
              refine z_tsw (tgt := 115) C d_X11_count_1 (Or.inr ⟨114, by rw [q9]; decide, by rw [q9]; decide, by rw [q9]; decide, by decide⟩) ?_
              refine z_aload_n 0 C d_X11_count_115 rfl rfl ?_
              refine z_get (k := 0) (v := .ref (gB G + 1)) C ((E_11 kx_0 G) _ _) (kU_in kx_0 (by decide)) rfl inX11 (by decide) wf_X11_10 rfl d_X11_count_116 ?_
              refine z_get (k := 1) (v := .int (M.1 1 1)) C ((E_9 kx_1 G) _ _) (kU_in kx_1 (by decide)) rfl inX9 (by decide) wf_X11_95 rfl d_X11_count_119 ?_
              obtain rfl := o_some h
              exact z_iret C hlk hr d_X11_count_122
            · have h := o_f q9 h
              rcases Decidable.em (x1 = (6 : Int32)) with q10 | q10
              · have h := o_t q10 h
                refine z_tsw (tgt := 123) C d_X11_count_1 (Or.inr ⟨122, by rw [q10]; decide, by rw [q10]; decide, by rw [q10]; decide, by decide⟩) ?_
                refine z_aload_n 0 C d_X11_count_123 rfl rfl ?_
                refine z_get (k := 8) (v := .ref (gB G + 132)) C ((E_11 kx_0 G) _ _) (kU_in kx_0 (by decide)) rfl inX11 (by decide) wf_X11_61 rfl d_X11_count_124 ?_
                refine z_iconst (v := (0 : Int32)) C d_X11_count_127 (by decide) ?_
                refine z_rld (t := 6) (b := (132 + 1 + 2 * (0 : Int32).toNatClampNeg)) ((E_30 kx_132 G) _ _) C (kU_in kx_132 (by decide)) rfl rfl (show inn (0 : Int32) 4 from by decide) (if_pos (inn_lt (show inn (0 : Int32) 4 from by decide))) d_X11_count_128 ?_
                refine z_get (k := 0) (v := .int (M.1 (132 + 1 + 2 * (0 : Int32).toNatClampNeg) 0)) C ((E_8 (k_30 kx_132 (inn_lt (show inn (0 : Int32) 4 from by decide))) G) _ _) (kU_in (k_30 kx_132 (inn_lt (show inn (0 : Int32) 4 from by decide))) (by decide)) rfl inX8 (by decide) wf_X11_350 rfl d_X11_count_129 ?_
                refine z_if_eq C d_X11_count_132 (fun q11 => ?_) (fun q11 => ?_)
                · have h := o_t q11 h
                  refine z_bipush (v := (-4 : Int32)) C d_X11_count_147 (by decide) ?_
                  exact z_sub [] rfl (k_X11_count_149 C hlk hr h)
                · have h := o_f q11 h
                  refine z_aload_n 0 C d_X11_count_135 rfl rfl ?_
                  refine z_get (k := 8) (v := .ref (gB G + 132)) C ((E_11 kx_0 G) _ _) (kU_in kx_0 (by decide)) rfl inX11 (by decide) wf_X11_61 rfl d_X11_count_136 ?_
                  refine z_iconst (v := (0 : Int32)) C d_X11_count_139 (by decide) ?_
                  refine z_rld (t := 6) (b := (132 + 1 + 2 * (0 : Int32).toNatClampNeg)) ((E_30 kx_132 G) _ _) C (kU_in kx_132 (by decide)) rfl rfl (show inn (0 : Int32) 4 from by decide) (if_pos (inn_lt (show inn (0 : Int32) 4 from by decide))) d_X11_count_140 ?_
                  refine z_get (k := 1) (v := .int (M.1 (132 + 1 + 2 * (0 : Int32).toNatClampNeg) 1)) C ((E_8 (k_30 kx_132 (inn_lt (show inn (0 : Int32) 4 from by decide))) G) _ _) (kU_in (k_30 kx_132 (inn_lt (show inn (0 : Int32) 4 from by decide))) (by decide)) rfl inX8 (by decide) wf_X11_351 rfl d_X11_count_141 ?_
                  refine z_goto C d_X11_count_144 ?_
                  exact z_sub [] rfl (k_X11_count_149 C hlk hr h)
              · have h := o_f q10 h
                have nq1 := lv_neT (a := 0) q1 (by decide)
                have nq4 := lv_neT (a := 1) q4 (by decide)
                have nq5 := lv_neT (a := 2) q5 (by decide)
                have nq6 := lv_neT (a := 3) q6 (by decide)
                have nq7 := lv_neT (a := 4) q7 (by decide)
                have nq9 := lv_neT (a := 5) q9 (by decide)
                have nq10 := lv_neT (a := 6) q10 (by decide)
                refine z_tsw (tgt := 150) C d_X11_count_1 (Or.inl ⟨by omega, by decide⟩) ?_
                refine z_iconst (v := (-1 : Int32)) C d_X11_count_150 (by decide) ?_
                obtain rfl := o_some h
                exact z_iret C hlk hr d_X11_count_151
theorem c_X11_count (l : Launch) (G : GG) {M : Mm} {x1 : Int32} {r : Int32} (h : f_X11_count M x1 = some r) : CT l 0 G y_X11_count prog_1_method_44_code 2 (some .int) 1 22 [.ref (gB G + 0), .int x1] M (some (.int r)) M :=
  CT.of (by decide +kernel) (Nat.le_of_ble_eq_true rfl) rfl (fun p e s m args below meth c C hlk hr => k_X11_count_0 C hlk hr h)
