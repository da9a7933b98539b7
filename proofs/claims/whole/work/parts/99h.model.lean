theorem wO_X12 : Cond.methodLink "SnowSentriesModel" 1 Lib.objectInit ∈ TB := it_5 (List.mem_of_getElem? (i := 109) rfl) rfl
theorem d_X12_init_0 : DD prog_14_method_1_code 0 (.aload_n 0) 1 1 := ⟨by decide +kernel, rfl⟩
theorem d_X12_init_1 : DD prog_14_method_1_code 1 (.invokespecial 1) 3 4 := ⟨by decide +kernel, rfl⟩
theorem d_X12_init_4 : DD prog_14_method_1_code 4 (.aload_n 0) 1 5 := ⟨by decide +kernel, rfl⟩
theorem d_X12_init_5 : DD prog_14_method_1_code 5 (.sipush 840) 3 8 := ⟨by decide +kernel, rfl⟩
theorem d_X12_init_8 : DD prog_14_method_1_code 8 (.newarray .int) 2 10 := ⟨by decide +kernel, rfl⟩
theorem d_X12_init_10 : DD prog_14_method_1_code 10 (.putfield 7) 3 13 := ⟨by decide +kernel, rfl⟩
theorem d_X12_init_13 : DD prog_14_method_1_code 13 (.aload_n 0) 1 14 := ⟨by decide +kernel, rfl⟩
theorem d_X12_init_14 : DD prog_14_method_1_code 14 (.iconst 5) 1 15 := ⟨by decide +kernel, rfl⟩
theorem d_X12_init_15 : DD prog_14_method_1_code 15 (.putfield 13) 3 18 := ⟨by decide +kernel, rfl⟩
theorem d_X12_init_18 : DD prog_14_method_1_code 18 (.aload_n 0) 1 19 := ⟨by decide +kernel, rfl⟩
theorem d_X12_init_19 : DD prog_14_method_1_code 19 (.bipush 12) 2 21 := ⟨by decide +kernel, rfl⟩
theorem d_X12_init_21 : DD prog_14_method_1_code 21 (.newarray .int) 2 23 := ⟨by decide +kernel, rfl⟩
theorem d_X12_init_23 : DD prog_14_method_1_code 23 (.putfield 17) 3 26 := ⟨by decide +kernel, rfl⟩
theorem d_X12_init_26 : DD prog_14_method_1_code 26 (.aload_n 0) 1 27 := ⟨by decide +kernel, rfl⟩
theorem d_X12_init_27 : DD prog_14_method_1_code 27 (.iconst 3) 1 28 := ⟨by decide +kernel, rfl⟩
theorem d_X12_init_28 : DD prog_14_method_1_code 28 (.newarray .int) 2 30 := ⟨by decide +kernel, rfl⟩
theorem d_X12_init_30 : DD prog_14_method_1_code 30 (.dup) 1 31 := ⟨by decide +kernel, rfl⟩
theorem d_X12_init_31 : DD prog_14_method_1_code 31 (.iconst 0) 1 32 := ⟨by decide +kernel, rfl⟩
theorem d_X12_init_32 : DD prog_14_method_1_code 32 (.iconst 1) 1 33 := ⟨by decide +kernel, rfl⟩
theorem d_X12_init_33 : DD prog_14_method_1_code 33 (.iastore) 1 34 := ⟨by decide +kernel, rfl⟩
theorem d_X12_init_34 : DD prog_14_method_1_code 34 (.dup) 1 35 := ⟨by decide +kernel, rfl⟩
theorem d_X12_init_35 : DD prog_14_method_1_code 35 (.iconst 1) 1 36 := ⟨by decide +kernel, rfl⟩
theorem d_X12_init_36 : DD prog_14_method_1_code 36 (.iconst 0) 1 37 := ⟨by decide +kernel, rfl⟩
theorem d_X12_init_37 : DD prog_14_method_1_code 37 (.iastore) 1 38 := ⟨by decide +kernel, rfl⟩
theorem d_X12_init_38 : DD prog_14_method_1_code 38 (.dup) 1 39 := ⟨by decide +kernel, rfl⟩
theorem d_X12_init_39 : DD prog_14_method_1_code 39 (.iconst 2) 1 40 := ⟨by decide +kernel, rfl⟩
theorem d_X12_init_40 : DD prog_14_method_1_code 40 (.iconst 0) 1 41 := ⟨by decide +kernel, rfl⟩
theorem d_X12_init_41 : DD prog_14_method_1_code 41 (.iastore) 1 42 := ⟨by decide +kernel, rfl⟩
theorem d_X12_init_42 : DD prog_14_method_1_code 42 (.putfield 20) 3 45 := ⟨by decide +kernel, rfl⟩
theorem d_X12_init_45 : DD prog_14_method_1_code 45 (.aload_n 0) 1 46 := ⟨by decide +kernel, rfl⟩
theorem d_X12_init_46 : DD prog_14_method_1_code 46 (.bipush 16) 2 48 := ⟨by decide +kernel, rfl⟩
theorem d_X12_init_48 : DD prog_14_method_1_code 48 (.newarray .int) 2 50 := ⟨by decide +kernel, rfl⟩
theorem d_X12_init_50 : DD prog_14_method_1_code 50 (.putfield 23) 3 53 := ⟨by decide +kernel, rfl⟩
theorem d_X12_init_53 : DD prog_14_method_1_code 53 (.aload_n 0) 1 54 := ⟨by decide +kernel, rfl⟩
theorem d_X12_init_54 : DD prog_14_method_1_code 54 (.iconst 3) 1 55 := ⟨by decide +kernel, rfl⟩
theorem d_X12_init_55 : DD prog_14_method_1_code 55 (.putfield 26) 3 58 := ⟨by decide +kernel, rfl⟩
theorem d_X12_init_58 : DD prog_14_method_1_code 58 (.aload_n 0) 1 59 := ⟨by decide +kernel, rfl⟩
theorem d_X12_init_59 : DD prog_14_method_1_code 59 (.sipush 210) 3 62 := ⟨by decide +kernel, rfl⟩
theorem d_X12_init_62 : DD prog_14_method_1_code 62 (.newarray .int) 2 64 := ⟨by decide +kernel, rfl⟩
theorem d_X12_init_64 : DD prog_14_method_1_code 64 (.putfield 29) 3 67 := ⟨by decide +kernel, rfl⟩
theorem d_X12_init_67 : DD prog_14_method_1_code 67 (.aload_n 0) 1 68 := ⟨by decide +kernel, rfl⟩
theorem d_X12_init_68 : DD prog_14_method_1_code 68 (.bipush 12) 2 70 := ⟨by decide +kernel, rfl⟩
theorem d_X12_init_70 : DD prog_14_method_1_code 70 (.newarray .int) 2 72 := ⟨by decide +kernel, rfl⟩
theorem d_X12_init_72 : DD prog_14_method_1_code 72 (.putfield 32) 3 75 := ⟨by decide +kernel, rfl⟩
theorem d_X12_init_75 : DD prog_14_method_1_code 75 (.aload_n 0) 1 76 := ⟨by decide +kernel, rfl⟩
theorem d_X12_init_76 : DD prog_14_method_1_code 76 (.iconst 3) 1 77 := ⟨by decide +kernel, rfl⟩
theorem d_X12_init_77 : DD prog_14_method_1_code 77 (.newarray .int) 2 79 := ⟨by decide +kernel, rfl⟩
theorem d_X12_init_79 : DD prog_14_method_1_code 79 (.putfield 35) 3 82 := ⟨by decide +kernel, rfl⟩
theorem d_X12_init_82 : DD prog_14_method_1_code 82 (.aload_n 0) 1 83 := ⟨by decide +kernel, rfl⟩
theorem d_X12_init_83 : DD prog_14_method_1_code 83 (.bipush 16) 2 85 := ⟨by decide +kernel, rfl⟩
theorem d_X12_init_85 : DD prog_14_method_1_code 85 (.newarray .int) 2 87 := ⟨by decide +kernel, rfl⟩
theorem d_X12_init_87 : DD prog_14_method_1_code 87 (.putfield 38) 3 90 := ⟨by decide +kernel, rfl⟩
theorem d_X12_init_90 : DD prog_14_method_1_code 90 (.aload_n 0) 1 91 := ⟨by decide +kernel, rfl⟩
theorem d_X12_init_91 : DD prog_14_method_1_code 91 (.sipush 400) 3 94 := ⟨by decide +kernel, rfl⟩
theorem d_X12_init_94 : DD prog_14_method_1_code 94 (.newarray .int) 2 96 := ⟨by decide +kernel, rfl⟩
theorem d_X12_init_96 : DD prog_14_method_1_code 96 (.putfield 41) 3 99 := ⟨by decide +kernel, rfl⟩
theorem d_X12_init_99 : DD prog_14_method_1_code 99 (.aload_n 0) 1 100 := ⟨by decide +kernel, rfl⟩
theorem d_X12_init_100 : DD prog_14_method_1_code 100 (.bipush 17) 2 102 := ⟨by decide +kernel, rfl⟩
theorem d_X12_init_102 : DD prog_14_method_1_code 102 (.newarray .int) 2 104 := ⟨by decide +kernel, rfl⟩
theorem d_X12_init_104 : DD prog_14_method_1_code 104 (.dup) 1 105 := ⟨by decide +kernel, rfl⟩
theorem d_X12_init_105 : DD prog_14_method_1_code 105 (.iconst 0) 1 106 := ⟨by decide +kernel, rfl⟩
theorem d_X12_init_106 : DD prog_14_method_1_code 106 (.iconst 0) 1 107 := ⟨by decide +kernel, rfl⟩
theorem d_X12_init_107 : DD prog_14_method_1_code 107 (.iastore) 1 108 := ⟨by decide +kernel, rfl⟩
theorem d_X12_init_108 : DD prog_14_method_1_code 108 (.dup) 1 109 := ⟨by decide +kernel, rfl⟩
theorem d_X12_init_109 : DD prog_14_method_1_code 109 (.iconst 1) 1 110 := ⟨by decide +kernel, rfl⟩
theorem d_X12_init_110 : DD prog_14_method_1_code 110 (.bipush 8) 2 112 := ⟨by decide +kernel, rfl⟩
theorem d_X12_init_112 : DD prog_14_method_1_code 112 (.iastore) 1 113 := ⟨by decide +kernel, rfl⟩
theorem d_X12_init_113 : DD prog_14_method_1_code 113 (.dup) 1 114 := ⟨by decide +kernel, rfl⟩
theorem d_X12_init_114 : DD prog_14_method_1_code 114 (.iconst 2) 1 115 := ⟨by decide +kernel, rfl⟩
theorem d_X12_init_115 : DD prog_14_method_1_code 115 (.bipush 11) 2 117 := ⟨by decide +kernel, rfl⟩
theorem d_X12_init_117 : DD prog_14_method_1_code 117 (.iastore) 1 118 := ⟨by decide +kernel, rfl⟩
theorem d_X12_init_118 : DD prog_14_method_1_code 118 (.dup) 1 119 := ⟨by decide +kernel, rfl⟩
theorem d_X12_init_119 : DD prog_14_method_1_code 119 (.iconst 3) 1 120 := ⟨by decide +kernel, rfl⟩
theorem d_X12_init_120 : DD prog_14_method_1_code 120 (.bipush 16) 2 122 := ⟨by decide +kernel, rfl⟩
theorem d_X12_init_122 : DD prog_14_method_1_code 122 (.iastore) 1 123 := ⟨by decide +kernel, rfl⟩
theorem d_X12_init_123 : DD prog_14_method_1_code 123 (.dup) 1 124 := ⟨by decide +kernel, rfl⟩
theorem d_X12_init_124 : DD prog_14_method_1_code 124 (.iconst 4) 1 125 := ⟨by decide +kernel, rfl⟩
theorem d_X12_init_125 : DD prog_14_method_1_code 125 (.bipush 22) 2 127 := ⟨by decide +kernel, rfl⟩
theorem d_X12_init_127 : DD prog_14_method_1_code 127 (.iastore) 1 128 := ⟨by decide +kernel, rfl⟩
theorem d_X12_init_128 : DD prog_14_method_1_code 128 (.dup) 1 129 := ⟨by decide +kernel, rfl⟩
theorem d_X12_init_129 : DD prog_14_method_1_code 129 (.iconst 5) 1 130 := ⟨by decide +kernel, rfl⟩
theorem d_X12_init_130 : DD prog_14_method_1_code 130 (.bipush 26) 2 132 := ⟨by decide +kernel, rfl⟩
theorem d_X12_init_132 : DD prog_14_method_1_code 132 (.iastore) 1 133 := ⟨by decide +kernel, rfl⟩
theorem d_X12_init_133 : DD prog_14_method_1_code 133 (.dup) 1 134 := ⟨by decide +kernel, rfl⟩
theorem d_X12_init_134 : DD prog_14_method_1_code 134 (.bipush 6) 2 136 := ⟨by decide +kernel, rfl⟩
theorem d_X12_init_136 : DD prog_14_method_1_code 136 (.bipush 29) 2 138 := ⟨by decide +kernel, rfl⟩
theorem d_X12_init_138 : DD prog_14_method_1_code 138 (.iastore) 1 139 := ⟨by decide +kernel, rfl⟩
theorem d_X12_init_139 : DD prog_14_method_1_code 139 (.dup) 1 140 := ⟨by decide +kernel, rfl⟩
theorem d_X12_init_140 : DD prog_14_method_1_code 140 (.bipush 7) 2 142 := ⟨by decide +kernel, rfl⟩
theorem d_X12_init_142 : DD prog_14_method_1_code 142 (.bipush 36) 2 144 := ⟨by decide +kernel, rfl⟩
theorem d_X12_init_144 : DD prog_14_method_1_code 144 (.iastore) 1 145 := ⟨by decide +kernel, rfl⟩
theorem d_X12_init_145 : DD prog_14_method_1_code 145 (.dup) 1 146 := ⟨by decide +kernel, rfl⟩
theorem d_X12_init_146 : DD prog_14_method_1_code 146 (.bipush 8) 2 148 := ⟨by decide +kernel, rfl⟩
theorem d_X12_init_148 : DD prog_14_method_1_code 148 (.bipush 41) 2 150 := ⟨by decide +kernel, rfl⟩
theorem d_X12_init_150 : DD prog_14_method_1_code 150 (.iastore) 1 151 := ⟨by decide +kernel, rfl⟩
theorem d_X12_init_151 : DD prog_14_method_1_code 151 (.dup) 1 152 := ⟨by decide +kernel, rfl⟩
theorem d_X12_init_152 : DD prog_14_method_1_code 152 (.bipush 9) 2 154 := ⟨by decide +kernel, rfl⟩
theorem d_X12_init_154 : DD prog_14_method_1_code 154 (.bipush 45) 2 156 := ⟨by decide +kernel, rfl⟩
theorem d_X12_init_156 : DD prog_14_method_1_code 156 (.iastore) 1 157 := ⟨by decide +kernel, rfl⟩
theorem d_X12_init_157 : DD prog_14_method_1_code 157 (.dup) 1 158 := ⟨by decide +kernel, rfl⟩
theorem d_X12_init_158 : DD prog_14_method_1_code 158 (.bipush 10) 2 160 := ⟨by decide +kernel, rfl⟩
theorem d_X12_init_160 : DD prog_14_method_1_code 160 (.bipush 49) 2 162 := ⟨by decide +kernel, rfl⟩
theorem d_X12_init_162 : DD prog_14_method_1_code 162 (.iastore) 1 163 := ⟨by decide +kernel, rfl⟩
theorem d_X12_init_163 : DD prog_14_method_1_code 163 (.dup) 1 164 := ⟨by decide +kernel, rfl⟩
theorem d_X12_init_164 : DD prog_14_method_1_code 164 (.bipush 11) 2 166 := ⟨by decide +kernel, rfl⟩
theorem d_X12_init_166 : DD prog_14_method_1_code 166 (.bipush 54) 2 168 := ⟨by decide +kernel, rfl⟩
theorem d_X12_init_168 : DD prog_14_method_1_code 168 (.iastore) 1 169 := ⟨by decide +kernel, rfl⟩
theorem d_X12_init_169 : DD prog_14_method_1_code 169 (.dup) 1 170 := ⟨by decide +kernel, rfl⟩
theorem d_X12_init_170 : DD prog_14_method_1_code 170 (.bipush 12) 2 172 := ⟨by decide +kernel, rfl⟩
theorem d_X12_init_172 : DD prog_14_method_1_code 172 (.bipush 58) 2 174 := ⟨by decide +kernel, rfl⟩
theorem d_X12_init_174 : DD prog_14_method_1_code 174 (.iastore) 1 175 := ⟨by decide +kernel, rfl⟩
theorem d_X12_init_175 : DD prog_14_method_1_code 175 (.dup) 1 176 := ⟨by decide +kernel, rfl⟩
theorem d_X12_init_176 : DD prog_14_method_1_code 176 (.bipush 13) 2 178 := ⟨by decide +kernel, rfl⟩
theorem d_X12_init_178 : DD prog_14_method_1_code 178 (.bipush 64) 2 180 := ⟨by decide +kernel, rfl⟩
theorem d_X12_init_180 : DD prog_14_method_1_code 180 (.iastore) 1 181 := ⟨by decide +kernel, rfl⟩
theorem d_X12_init_181 : DD prog_14_method_1_code 181 (.dup) 1 182 := ⟨by decide +kernel, rfl⟩
theorem d_X12_init_182 : DD prog_14_method_1_code 182 (.bipush 14) 2 184 := ⟨by decide +kernel, rfl⟩
theorem d_X12_init_184 : DD prog_14_method_1_code 184 (.bipush 70) 2 186 := ⟨by decide +kernel, rfl⟩
theorem d_X12_init_186 : DD prog_14_method_1_code 186 (.iastore) 1 187 := ⟨by decide +kernel, rfl⟩
theorem d_X12_init_187 : DD prog_14_method_1_code 187 (.dup) 1 188 := ⟨by decide +kernel, rfl⟩
theorem d_X12_init_188 : DD prog_14_method_1_code 188 (.bipush 15) 2 190 := ⟨by decide +kernel, rfl⟩
theorem d_X12_init_190 : DD prog_14_method_1_code 190 (.bipush 75) 2 192 := ⟨by decide +kernel, rfl⟩
theorem d_X12_init_192 : DD prog_14_method_1_code 192 (.iastore) 1 193 := ⟨by decide +kernel, rfl⟩
theorem d_X12_init_193 : DD prog_14_method_1_code 193 (.dup) 1 194 := ⟨by decide +kernel, rfl⟩
theorem d_X12_init_194 : DD prog_14_method_1_code 194 (.bipush 16) 2 196 := ⟨by decide +kernel, rfl⟩
theorem d_X12_init_196 : DD prog_14_method_1_code 196 (.bipush 79) 2 198 := ⟨by decide +kernel, rfl⟩
theorem d_X12_init_198 : DD prog_14_method_1_code 198 (.iastore) 1 199 := ⟨by decide +kernel, rfl⟩
theorem d_X12_init_199 : DD prog_14_method_1_code 199 (.putfield 44) 3 202 := ⟨by decide +kernel, rfl⟩
theorem d_X12_init_202 : DD prog_14_method_1_code 202 (.aload_n 0) 1 203 := ⟨by decide +kernel, rfl⟩
theorem d_X12_init_203 : DD prog_14_method_1_code 203 (.bipush 79) 2 205 := ⟨by decide +kernel, rfl⟩
theorem d_X12_init_205 : DD prog_14_method_1_code 205 (.newarray .int) 2 207 := ⟨by decide +kernel, rfl⟩
theorem d_X12_init_207 : DD prog_14_method_1_code 207 (.dup) 1 208 := ⟨by decide +kernel, rfl⟩
theorem d_X12_init_208 : DD prog_14_method_1_code 208 (.iconst 0) 1 209 := ⟨by decide +kernel, rfl⟩
theorem d_X12_init_209 : DD prog_14_method_1_code 209 (.bipush 102) 2 211 := ⟨by decide +kernel, rfl⟩
theorem d_X12_init_211 : DD prog_14_method_1_code 211 (.iastore) 1 212 := ⟨by decide +kernel, rfl⟩
theorem d_X12_init_212 : DD prog_14_method_1_code 212 (.dup) 1 213 := ⟨by decide +kernel, rfl⟩
theorem d_X12_init_213 : DD prog_14_method_1_code 213 (.iconst 1) 1 214 := ⟨by decide +kernel, rfl⟩
theorem d_X12_init_214 : DD prog_14_method_1_code 214 (.bipush 117) 2 216 := ⟨by decide +kernel, rfl⟩
theorem d_X12_init_216 : DD prog_14_method_1_code 216 (.iastore) 1 217 := ⟨by decide +kernel, rfl⟩
theorem d_X12_init_217 : DD prog_14_method_1_code 217 (.dup) 1 218 := ⟨by decide +kernel, rfl⟩
theorem d_X12_init_218 : DD prog_14_method_1_code 218 (.iconst 2) 1 219 := ⟨by decide +kernel, rfl⟩
theorem d_X12_init_219 : DD prog_14_method_1_code 219 (.bipush 114) 2 221 := ⟨by decide +kernel, rfl⟩
theorem d_X12_init_221 : DD prog_14_method_1_code 221 (.iastore) 1 222 := ⟨by decide +kernel, rfl⟩
theorem d_X12_init_222 : DD prog_14_method_1_code 222 (.dup) 1 223 := ⟨by decide +kernel, rfl⟩
theorem d_X12_init_223 : DD prog_14_method_1_code 223 (.iconst 3) 1 224 := ⟨by decide +kernel, rfl⟩
theorem d_X12_init_224 : DD prog_14_method_1_code 224 (.bipush 108) 2 226 := ⟨by decide +kernel, rfl⟩
theorem d_X12_init_226 : DD prog_14_method_1_code 226 (.iastore) 1 227 := ⟨by decide +kernel, rfl⟩
theorem d_X12_init_227 : DD prog_14_method_1_code 227 (.dup) 1 228 := ⟨by decide +kernel, rfl⟩
theorem d_X12_init_228 : DD prog_14_method_1_code 228 (.iconst 4) 1 229 := ⟨by decide +kernel, rfl⟩
theorem d_X12_init_229 : DD prog_14_method_1_code 229 (.bipush 111) 2 231 := ⟨by decide +kernel, rfl⟩
theorem d_X12_init_231 : DD prog_14_method_1_code 231 (.iastore) 1 232 := ⟨by decide +kernel, rfl⟩
theorem d_X12_init_232 : DD prog_14_method_1_code 232 (.dup) 1 233 := ⟨by decide +kernel, rfl⟩
theorem d_X12_init_233 : DD prog_14_method_1_code 233 (.iconst 5) 1 234 := ⟨by decide +kernel, rfl⟩
theorem d_X12_init_234 : DD prog_14_method_1_code 234 (.bipush 110) 2 236 := ⟨by decide +kernel, rfl⟩
theorem d_X12_init_236 : DD prog_14_method_1_code 236 (.iastore) 1 237 := ⟨by decide +kernel, rfl⟩
theorem d_X12_init_237 : DD prog_14_method_1_code 237 (.dup) 1 238 := ⟨by decide +kernel, rfl⟩
theorem d_X12_init_238 : DD prog_14_method_1_code 238 (.bipush 6) 2 240 := ⟨by decide +kernel, rfl⟩
theorem d_X12_init_240 : DD prog_14_method_1_code 240 (.bipush 103) 2 242 := ⟨by decide +kernel, rfl⟩
theorem d_X12_init_242 : DD prog_14_method_1_code 242 (.iastore) 1 243 := ⟨by decide +kernel, rfl⟩
theorem d_X12_init_243 : DD prog_14_method_1_code 243 (.dup) 1 244 := ⟨by decide +kernel, rfl⟩
theorem d_X12_init_244 : DD prog_14_method_1_code 244 (.bipush 7) 2 246 := ⟨by decide +kernel, rfl⟩
theorem d_X12_init_246 : DD prog_14_method_1_code 246 (.bipush 115) 2 248 := ⟨by decide +kernel, rfl⟩
theorem d_X12_init_248 : DD prog_14_method_1_code 248 (.iastore) 1 249 := ⟨by decide +kernel, rfl⟩
theorem d_X12_init_249 : DD prog_14_method_1_code 249 (.dup) 1 250 := ⟨by decide +kernel, rfl⟩
theorem d_X12_init_250 : DD prog_14_method_1_code 250 (.bipush 8) 2 252 := ⟨by decide +kernel, rfl⟩
theorem d_X12_init_252 : DD prog_14_method_1_code 252 (.bipush 115) 2 254 := ⟨by decide +kernel, rfl⟩
theorem d_X12_init_254 : DD prog_14_method_1_code 254 (.iastore) 1 255 := ⟨by decide +kernel, rfl⟩
theorem d_X12_init_255 : DD prog_14_method_1_code 255 (.dup) 1 256 := ⟨by decide +kernel, rfl⟩
theorem d_X12_init_256 : DD prog_14_method_1_code 256 (.bipush 9) 2 258 := ⟨by decide +kernel, rfl⟩
theorem d_X12_init_258 : DD prog_14_method_1_code 258 (.bipush 117) 2 260 := ⟨by decide +kernel, rfl⟩
theorem d_X12_init_260 : DD prog_14_method_1_code 260 (.iastore) 1 261 := ⟨by decide +kernel, rfl⟩
theorem d_X12_init_261 : DD prog_14_method_1_code 261 (.dup) 1 262 := ⟨by decide +kernel, rfl⟩
theorem d_X12_init_262 : DD prog_14_method_1_code 262 (.bipush 10) 2 264 := ⟨by decide +kernel, rfl⟩
theorem d_X12_init_264 : DD prog_14_method_1_code 264 (.bipush 110) 2 266 := ⟨by decide +kernel, rfl⟩
theorem d_X12_init_266 : DD prog_14_method_1_code 266 (.iastore) 1 267 := ⟨by decide +kernel, rfl⟩
theorem d_X12_init_267 : DD prog_14_method_1_code 267 (.dup) 1 268 := ⟨by decide +kernel, rfl⟩
theorem d_X12_init_268 : DD prog_14_method_1_code 268 (.bipush 11) 2 270 := ⟨by decide +kernel, rfl⟩
theorem d_X12_init_270 : DD prog_14_method_1_code 270 (.bipush 102) 2 272 := ⟨by decide +kernel, rfl⟩
theorem d_X12_init_272 : DD prog_14_method_1_code 272 (.iastore) 1 273 := ⟨by decide +kernel, rfl⟩
theorem d_X12_init_273 : DD prog_14_method_1_code 273 (.dup) 1 274 := ⟨by decide +kernel, rfl⟩
theorem d_X12_init_274 : DD prog_14_method_1_code 274 (.bipush 12) 2 276 := ⟨by decide +kernel, rfl⟩
theorem d_X12_init_276 : DD prog_14_method_1_code 276 (.bipush 114) 2 278 := ⟨by decide +kernel, rfl⟩
theorem d_X12_init_278 : DD prog_14_method_1_code 278 (.iastore) 1 279 := ⟨by decide +kernel, rfl⟩
theorem d_X12_init_279 : DD prog_14_method_1_code 279 (.dup) 1 280 := ⟨by decide +kernel, rfl⟩
theorem d_X12_init_280 : DD prog_14_method_1_code 280 (.bipush 13) 2 282 := ⟨by decide +kernel, rfl⟩
theorem d_X12_init_282 : DD prog_14_method_1_code 282 (.bipush 111) 2 284 := ⟨by decide +kernel, rfl⟩
theorem d_X12_init_284 : DD prog_14_method_1_code 284 (.iastore) 1 285 := ⟨by decide +kernel, rfl⟩
theorem d_X12_init_285 : DD prog_14_method_1_code 285 (.dup) 1 286 := ⟨by decide +kernel, rfl⟩
theorem d_X12_init_286 : DD prog_14_method_1_code 286 (.bipush 14) 2 288 := ⟨by decide +kernel, rfl⟩
theorem d_X12_init_288 : DD prog_14_method_1_code 288 (.bipush 115) 2 290 := ⟨by decide +kernel, rfl⟩
theorem d_X12_init_290 : DD prog_14_method_1_code 290 (.iastore) 1 291 := ⟨by decide +kernel, rfl⟩
theorem d_X12_init_291 : DD prog_14_method_1_code 291 (.dup) 1 292 := ⟨by decide +kernel, rfl⟩
theorem d_X12_init_292 : DD prog_14_method_1_code 292 (.bipush 15) 2 294 := ⟨by decide +kernel, rfl⟩
theorem d_X12_init_294 : DD prog_14_method_1_code 294 (.bipush 116) 2 296 := ⟨by decide +kernel, rfl⟩
theorem d_X12_init_296 : DD prog_14_method_1_code 296 (.iastore) 1 297 := ⟨by decide +kernel, rfl⟩
theorem d_X12_init_297 : DD prog_14_method_1_code 297 (.dup) 1 298 := ⟨by decide +kernel, rfl⟩
theorem d_X12_init_298 : DD prog_14_method_1_code 298 (.bipush 16) 2 300 := ⟨by decide +kernel, rfl⟩
theorem d_X12_init_300 : DD prog_14_method_1_code 300 (.bipush 116) 2 302 := ⟨by decide +kernel, rfl⟩
theorem d_X12_init_302 : DD prog_14_method_1_code 302 (.iastore) 1 303 := ⟨by decide +kernel, rfl⟩
theorem d_X12_init_303 : DD prog_14_method_1_code 303 (.dup) 1 304 := ⟨by decide +kernel, rfl⟩
theorem d_X12_init_304 : DD prog_14_method_1_code 304 (.bipush 17) 2 306 := ⟨by decide +kernel, rfl⟩
theorem d_X12_init_306 : DD prog_14_method_1_code 306 (.bipush 114) 2 308 := ⟨by decide +kernel, rfl⟩
theorem d_X12_init_308 : DD prog_14_method_1_code 308 (.iastore) 1 309 := ⟨by decide +kernel, rfl⟩
theorem d_X12_init_309 : DD prog_14_method_1_code 309 (.dup) 1 310 := ⟨by decide +kernel, rfl⟩
theorem d_X12_init_310 : DD prog_14_method_1_code 310 (.bipush 18) 2 312 := ⟨by decide +kernel, rfl⟩
theorem d_X12_init_312 : DD prog_14_method_1_code 312 (.bipush 101) 2 314 := ⟨by decide +kernel, rfl⟩
theorem d_X12_init_314 : DD prog_14_method_1_code 314 (.iastore) 1 315 := ⟨by decide +kernel, rfl⟩
theorem d_X12_init_315 : DD prog_14_method_1_code 315 (.dup) 1 316 := ⟨by decide +kernel, rfl⟩
theorem d_X12_init_316 : DD prog_14_method_1_code 316 (.bipush 19) 2 318 := ⟨by decide +kernel, rfl⟩
theorem d_X12_init_318 : DD prog_14_method_1_code 318 (.bipush 97) 2 320 := ⟨by decide +kernel, rfl⟩
theorem d_X12_init_320 : DD prog_14_method_1_code 320 (.iastore) 1 321 := ⟨by decide +kernel, rfl⟩
theorem d_X12_init_321 : DD prog_14_method_1_code 321 (.dup) 1 322 := ⟨by decide +kernel, rfl⟩
theorem d_X12_init_322 : DD prog_14_method_1_code 322 (.bipush 20) 2 324 := ⟨by decide +kernel, rfl⟩
theorem d_X12_init_324 : DD prog_14_method_1_code 324 (.bipush 116) 2 326 := ⟨by decide +kernel, rfl⟩
theorem d_X12_init_326 : DD prog_14_method_1_code 326 (.iastore) 1 327 := ⟨by decide +kernel, rfl⟩
theorem d_X12_init_327 : DD prog_14_method_1_code 327 (.dup) 1 328 := ⟨by decide +kernel, rfl⟩
theorem d_X12_init_328 : DD prog_14_method_1_code 328 (.bipush 21) 2 330 := ⟨by decide +kernel, rfl⟩
theorem d_X12_init_330 : DD prog_14_method_1_code 330 (.bipush 121) 2 332 := ⟨by decide +kernel, rfl⟩
theorem d_X12_init_332 : DD prog_14_method_1_code 332 (.iastore) 1 333 := ⟨by decide +kernel, rfl⟩
theorem d_X12_init_333 : DD prog_14_method_1_code 333 (.dup) 1 334 := ⟨by decide +kernel, rfl⟩
theorem d_X12_init_334 : DD prog_14_method_1_code 334 (.bipush 22) 2 336 := ⟨by decide +kernel, rfl⟩
theorem d_X12_init_336 : DD prog_14_method_1_code 336 (.bipush 115) 2 338 := ⟨by decide +kernel, rfl⟩
theorem d_X12_init_338 : DD prog_14_method_1_code 338 (.iastore) 1 339 := ⟨by decide +kernel, rfl⟩
theorem d_X12_init_339 : DD prog_14_method_1_code 339 (.dup) 1 340 := ⟨by decide +kernel, rfl⟩
theorem d_X12_init_340 : DD prog_14_method_1_code 340 (.bipush 23) 2 342 := ⟨by decide +kernel, rfl⟩
theorem d_X12_init_342 : DD prog_14_method_1_code 342 (.bipush 110) 2 344 := ⟨by decide +kernel, rfl⟩
theorem d_X12_init_344 : DD prog_14_method_1_code 344 (.iastore) 1 345 := ⟨by decide +kernel, rfl⟩
theorem d_X12_init_345 : DD prog_14_method_1_code 345 (.dup) 1 346 := ⟨by decide +kernel, rfl⟩
theorem d_X12_init_346 : DD prog_14_method_1_code 346 (.bipush 24) 2 348 := ⟨by decide +kernel, rfl⟩
theorem d_X12_init_348 : DD prog_14_method_1_code 348 (.bipush 111) 2 350 := ⟨by decide +kernel, rfl⟩
theorem d_X12_init_350 : DD prog_14_method_1_code 350 (.iastore) 1 351 := ⟨by decide +kernel, rfl⟩
theorem d_X12_init_351 : DD prog_14_method_1_code 351 (.dup) 1 352 := ⟨by decide +kernel, rfl⟩
theorem d_X12_init_352 : DD prog_14_method_1_code 352 (.bipush 25) 2 354 := ⟨by decide +kernel, rfl⟩
theorem d_X12_init_354 : DD prog_14_method_1_code 354 (.bipush 119) 2 356 := ⟨by decide +kernel, rfl⟩
theorem d_X12_init_356 : DD prog_14_method_1_code 356 (.iastore) 1 357 := ⟨by decide +kernel, rfl⟩
theorem d_X12_init_357 : DD prog_14_method_1_code 357 (.dup) 1 358 := ⟨by decide +kernel, rfl⟩
theorem d_X12_init_358 : DD prog_14_method_1_code 358 (.bipush 26) 2 360 := ⟨by decide +kernel, rfl⟩
theorem d_X12_init_360 : DD prog_14_method_1_code 360 (.bipush 109) 2 362 := ⟨by decide +kernel, rfl⟩
theorem d_X12_init_362 : DD prog_14_method_1_code 362 (.iastore) 1 363 := ⟨by decide +kernel, rfl⟩
theorem d_X12_init_363 : DD prog_14_method_1_code 363 (.dup) 1 364 := ⟨by decide +kernel, rfl⟩
theorem d_X12_init_364 : DD prog_14_method_1_code 364 (.bipush 27) 2 366 := ⟨by decide +kernel, rfl⟩
theorem d_X12_init_366 : DD prog_14_method_1_code 366 (.bipush 97) 2 368 := ⟨by decide +kernel, rfl⟩
theorem d_X12_init_368 : DD prog_14_method_1_code 368 (.iastore) 1 369 := ⟨by decide +kernel, rfl⟩
theorem d_X12_init_369 : DD prog_14_method_1_code 369 (.dup) 1 370 := ⟨by decide +kernel, rfl⟩
theorem d_X12_init_370 : DD prog_14_method_1_code 370 (.bipush 28) 2 372 := ⟨by decide +kernel, rfl⟩
theorem d_X12_init_372 : DD prog_14_method_1_code 372 (.bipush 110) 2 374 := ⟨by decide +kernel, rfl⟩
theorem d_X12_init_374 : DD prog_14_method_1_code 374 (.iastore) 1 375 := ⟨by decide +kernel, rfl⟩
theorem d_X12_init_375 : DD prog_14_method_1_code 375 (.dup) 1 376 := ⟨by decide +kernel, rfl⟩
theorem d_X12_init_376 : DD prog_14_method_1_code 376 (.bipush 29) 2 378 := ⟨by decide +kernel, rfl⟩
theorem d_X12_init_378 : DD prog_14_method_1_code 378 (.bipush 98) 2 380 := ⟨by decide +kernel, rfl⟩
theorem d_X12_init_380 : DD prog_14_method_1_code 380 (.iastore) 1 381 := ⟨by decide +kernel, rfl⟩
theorem d_X12_init_381 : DD prog_14_method_1_code 381 (.dup) 1 382 := ⟨by decide +kernel, rfl⟩
theorem d_X12_init_382 : DD prog_14_method_1_code 382 (.bipush 30) 2 384 := ⟨by decide +kernel, rfl⟩
theorem d_X12_init_384 : DD prog_14_method_1_code 384 (.bipush 114) 2 386 := ⟨by decide +kernel, rfl⟩
theorem d_X12_init_386 : DD prog_14_method_1_code 386 (.iastore) 1 387 := ⟨by decide +kernel, rfl⟩
theorem d_X12_init_387 : DD prog_14_method_1_code 387 (.dup) 1 388 := ⟨by decide +kernel, rfl⟩
theorem d_X12_init_388 : DD prog_14_method_1_code 388 (.bipush 31) 2 390 := ⟨by decide +kernel, rfl⟩
theorem d_X12_init_390 : DD prog_14_method_1_code 390 (.bipush 97) 2 392 := ⟨by decide +kernel, rfl⟩
theorem d_X12_init_392 : DD prog_14_method_1_code 392 (.iastore) 1 393 := ⟨by decide +kernel, rfl⟩
theorem d_X12_init_393 : DD prog_14_method_1_code 393 (.dup) 1 394 := ⟨by decide +kernel, rfl⟩
theorem d_X12_init_394 : DD prog_14_method_1_code 394 (.bipush 32) 2 396 := ⟨by decide +kernel, rfl⟩
theorem d_X12_init_396 : DD prog_14_method_1_code 396 (.bipush 122) 2 398 := ⟨by decide +kernel, rfl⟩
theorem d_X12_init_398 : DD prog_14_method_1_code 398 (.iastore) 1 399 := ⟨by decide +kernel, rfl⟩
theorem d_X12_init_399 : DD prog_14_method_1_code 399 (.dup) 1 400 := ⟨by decide +kernel, rfl⟩
theorem d_X12_init_400 : DD prog_14_method_1_code 400 (.bipush 33) 2 402 := ⟨by decide +kernel, rfl⟩
theorem d_X12_init_402 : DD prog_14_method_1_code 402 (.bipush 105) 2 404 := ⟨by decide +kernel, rfl⟩
theorem d_X12_init_404 : DD prog_14_method_1_code 404 (.iastore) 1 405 := ⟨by decide +kernel, rfl⟩
theorem d_X12_init_405 : DD prog_14_method_1_code 405 (.dup) 1 406 := ⟨by decide +kernel, rfl⟩
theorem d_X12_init_406 : DD prog_14_method_1_code 406 (.bipush 34) 2 408 := ⟨by decide +kernel, rfl⟩
theorem d_X12_init_408 : DD prog_14_method_1_code 408 (.bipush 101) 2 410 := ⟨by decide +kernel, rfl⟩
theorem d_X12_init_410 : DD prog_14_method_1_code 410 (.iastore) 1 411 := ⟨by decide +kernel, rfl⟩
theorem d_X12_init_411 : DD prog_14_method_1_code 411 (.dup) 1 412 := ⟨by decide +kernel, rfl⟩
theorem d_X12_init_412 : DD prog_14_method_1_code 412 (.bipush 35) 2 414 := ⟨by decide +kernel, rfl⟩
theorem d_X12_init_414 : DD prog_14_method_1_code 414 (.bipush 114) 2 416 := ⟨by decide +kernel, rfl⟩
theorem d_X12_init_416 : DD prog_14_method_1_code 416 (.iastore) 1 417 := ⟨by decide +kernel, rfl⟩
theorem d_X12_init_417 : DD prog_14_method_1_code 417 (.dup) 1 418 := ⟨by decide +kernel, rfl⟩
theorem d_X12_init_418 : DD prog_14_method_1_code 418 (.bipush 36) 2 420 := ⟨by decide +kernel, rfl⟩
theorem d_X12_init_420 : DD prog_14_method_1_code 420 (.bipush 104) 2 422 := ⟨by decide +kernel, rfl⟩
theorem d_X12_init_422 : DD prog_14_method_1_code 422 (.iastore) 1 423 := ⟨by decide +kernel, rfl⟩
theorem d_X12_init_423 : DD prog_14_method_1_code 423 (.dup) 1 424 := ⟨by decide +kernel, rfl⟩
theorem d_X12_init_424 : DD prog_14_method_1_code 424 (.bipush 37) 2 426 := ⟨by decide +kernel, rfl⟩
theorem d_X12_init_426 : DD prog_14_method_1_code 426 (.bipush 111) 2 428 := ⟨by decide +kernel, rfl⟩
theorem d_X12_init_428 : DD prog_14_method_1_code 428 (.iastore) 1 429 := ⟨by decide +kernel, rfl⟩
theorem d_X12_init_429 : DD prog_14_method_1_code 429 (.dup) 1 430 := ⟨by decide +kernel, rfl⟩
theorem d_X12_init_430 : DD prog_14_method_1_code 430 (.bipush 38) 2 432 := ⟨by decide +kernel, rfl⟩
theorem d_X12_init_432 : DD prog_14_method_1_code 432 (.bipush 117) 2 434 := ⟨by decide +kernel, rfl⟩
theorem d_X12_init_434 : DD prog_14_method_1_code 434 (.iastore) 1 435 := ⟨by decide +kernel, rfl⟩
theorem d_X12_init_435 : DD prog_14_method_1_code 435 (.dup) 1 436 := ⟨by decide +kernel, rfl⟩
theorem d_X12_init_436 : DD prog_14_method_1_code 436 (.bipush 39) 2 438 := ⟨by decide +kernel, rfl⟩
theorem d_X12_init_438 : DD prog_14_method_1_code 438 (.bipush 115) 2 440 := ⟨by decide +kernel, rfl⟩
theorem d_X12_init_440 : DD prog_14_method_1_code 440 (.iastore) 1 441 := ⟨by decide +kernel, rfl⟩
theorem d_X12_init_441 : DD prog_14_method_1_code 441 (.dup) 1 442 := ⟨by decide +kernel, rfl⟩
theorem d_X12_init_442 : DD prog_14_method_1_code 442 (.bipush 40) 2 444 := ⟨by decide +kernel, rfl⟩
theorem d_X12_init_444 : DD prog_14_method_1_code 444 (.bipush 101) 2 446 := ⟨by decide +kernel, rfl⟩
theorem d_X12_init_446 : DD prog_14_method_1_code 446 (.iastore) 1 447 := ⟨by decide +kernel, rfl⟩
theorem d_X12_init_447 : DD prog_14_method_1_code 447 (.dup) 1 448 := ⟨by decide +kernel, rfl⟩
theorem d_X12_init_448 : DD prog_14_method_1_code 448 (.bipush 41) 2 450 := ⟨by decide +kernel, rfl⟩
theorem d_X12_init_450 : DD prog_14_method_1_code 450 (.bipush 119) 2 452 := ⟨by decide +kernel, rfl⟩
theorem d_X12_init_452 : DD prog_14_method_1_code 452 (.iastore) 1 453 := ⟨by decide +kernel, rfl⟩
theorem d_X12_init_453 : DD prog_14_method_1_code 453 (.dup) 1 454 := ⟨by decide +kernel, rfl⟩
theorem d_X12_init_454 : DD prog_14_method_1_code 454 (.bipush 42) 2 456 := ⟨by decide +kernel, rfl⟩
theorem d_X12_init_456 : DD prog_14_method_1_code 456 (.bipush 101) 2 458 := ⟨by decide +kernel, rfl⟩
theorem d_X12_init_458 : DD prog_14_method_1_code 458 (.iastore) 1 459 := ⟨by decide +kernel, rfl⟩
theorem d_X12_init_459 : DD prog_14_method_1_code 459 (.dup) 1 460 := ⟨by decide +kernel, rfl⟩
theorem d_X12_init_460 : DD prog_14_method_1_code 460 (.bipush 43) 2 462 := ⟨by decide +kernel, rfl⟩
theorem d_X12_init_462 : DD prog_14_method_1_code 462 (.bipush 115) 2 464 := ⟨by decide +kernel, rfl⟩
theorem d_X12_init_464 : DD prog_14_method_1_code 464 (.iastore) 1 465 := ⟨by decide +kernel, rfl⟩
theorem d_X12_init_465 : DD prog_14_method_1_code 465 (.dup) 1 466 := ⟨by decide +kernel, rfl⟩
theorem d_X12_init_466 : DD prog_14_method_1_code 466 (.bipush 44) 2 468 := ⟨by decide +kernel, rfl⟩
theorem d_X12_init_468 : DD prog_14_method_1_code 468 (.bipush 116) 2 470 := ⟨by decide +kernel, rfl⟩
theorem d_X12_init_470 : DD prog_14_method_1_code 470 (.iastore) 1 471 := ⟨by decide +kernel, rfl⟩
theorem d_X12_init_471 : DD prog_14_method_1_code 471 (.dup) 1 472 := ⟨by decide +kernel, rfl⟩
theorem d_X12_init_472 : DD prog_14_method_1_code 472 (.bipush 45) 2 474 := ⟨by decide +kernel, rfl⟩
theorem d_X12_init_474 : DD prog_14_method_1_code 474 (.bipush 101) 2 476 := ⟨by decide +kernel, rfl⟩
theorem d_X12_init_476 : DD prog_14_method_1_code 476 (.iastore) 1 477 := ⟨by decide +kernel, rfl⟩
theorem d_X12_init_477 : DD prog_14_method_1_code 477 (.dup) 1 478 := ⟨by decide +kernel, rfl⟩
theorem d_X12_init_478 : DD prog_14_method_1_code 478 (.bipush 46) 2 480 := ⟨by decide +kernel, rfl⟩
theorem d_X12_init_480 : DD prog_14_method_1_code 480 (.bipush 97) 2 482 := ⟨by decide +kernel, rfl⟩
theorem d_X12_init_482 : DD prog_14_method_1_code 482 (.iastore) 1 483 := ⟨by decide +kernel, rfl⟩
theorem d_X12_init_483 : DD prog_14_method_1_code 483 (.dup) 1 484 := ⟨by decide +kernel, rfl⟩
theorem d_X12_init_484 : DD prog_14_method_1_code 484 (.bipush 47) 2 486 := ⟨by decide +kernel, rfl⟩
theorem d_X12_init_486 : DD prog_14_method_1_code 486 (.bipush 115) 2 488 := ⟨by decide +kernel, rfl⟩
theorem d_X12_init_488 : DD prog_14_method_1_code 488 (.iastore) 1 489 := ⟨by decide +kernel, rfl⟩
theorem d_X12_init_489 : DD prog_14_method_1_code 489 (.dup) 1 490 := ⟨by decide +kernel, rfl⟩
theorem d_X12_init_490 : DD prog_14_method_1_code 490 (.bipush 48) 2 492 := ⟨by decide +kernel, rfl⟩
theorem d_X12_init_492 : DD prog_14_method_1_code 492 (.bipush 116) 2 494 := ⟨by decide +kernel, rfl⟩
theorem d_X12_init_494 : DD prog_14_method_1_code 494 (.iastore) 1 495 := ⟨by decide +kernel, rfl⟩
theorem d_X12_init_495 : DD prog_14_method_1_code 495 (.dup) 1 496 := ⟨by decide +kernel, rfl⟩
theorem d_X12_init_496 : DD prog_14_method_1_code 496 (.bipush 49) 2 498 := ⟨by decide +kernel, rfl⟩
theorem d_X12_init_498 : DD prog_14_method_1_code 498 (.bipush 112) 2 500 := ⟨by decide +kernel, rfl⟩
theorem d_X12_init_500 : DD prog_14_method_1_code 500 (.iastore) 1 501 := ⟨by decide +kernel, rfl⟩
theorem d_X12_init_501 : DD prog_14_method_1_code 501 (.dup) 1 502 := ⟨by decide +kernel, rfl⟩
theorem d_X12_init_502 : DD prog_14_method_1_code 502 (.bipush 50) 2 504 := ⟨by decide +kernel, rfl⟩
theorem d_X12_init_504 : DD prog_14_method_1_code 504 (.bipush 108) 2 506 := ⟨by decide +kernel, rfl⟩
theorem d_X12_init_506 : DD prog_14_method_1_code 506 (.iastore) 1 507 := ⟨by decide +kernel, rfl⟩
theorem d_X12_init_507 : DD prog_14_method_1_code 507 (.dup) 1 508 := ⟨by decide +kernel, rfl⟩
theorem d_X12_init_508 : DD prog_14_method_1_code 508 (.bipush 51) 2 510 := ⟨by decide +kernel, rfl⟩
theorem d_X12_init_510 : DD prog_14_method_1_code 510 (.bipush 97) 2 512 := ⟨by decide +kernel, rfl⟩
theorem d_X12_init_512 : DD prog_14_method_1_code 512 (.iastore) 1 513 := ⟨by decide +kernel, rfl⟩
theorem d_X12_init_513 : DD prog_14_method_1_code 513 (.dup) 1 514 := ⟨by decide +kernel, rfl⟩
theorem d_X12_init_514 : DD prog_14_method_1_code 514 (.bipush 52) 2 516 := ⟨by decide +kernel, rfl⟩
theorem d_X12_init_516 : DD prog_14_method_1_code 516 (.bipush 105) 2 518 := ⟨by decide +kernel, rfl⟩
theorem d_X12_init_518 : DD prog_14_method_1_code 518 (.iastore) 1 519 := ⟨by decide +kernel, rfl⟩
theorem d_X12_init_519 : DD prog_14_method_1_code 519 (.dup) 1 520 := ⟨by decide +kernel, rfl⟩
theorem d_X12_init_520 : DD prog_14_method_1_code 520 (.bipush 53) 2 522 := ⟨by decide +kernel, rfl⟩
theorem d_X12_init_522 : DD prog_14_method_1_code 522 (.bipush 110) 2 524 := ⟨by decide +kernel, rfl⟩
theorem d_X12_init_524 : DD prog_14_method_1_code 524 (.iastore) 1 525 := ⟨by decide +kernel, rfl⟩
theorem d_X12_init_525 : DD prog_14_method_1_code 525 (.dup) 1 526 := ⟨by decide +kernel, rfl⟩
theorem d_X12_init_526 : DD prog_14_method_1_code 526 (.bipush 54) 2 528 := ⟨by decide +kernel, rfl⟩
theorem d_X12_init_528 : DD prog_14_method_1_code 528 (.bipush 105) 2 530 := ⟨by decide +kernel, rfl⟩
theorem d_X12_init_530 : DD prog_14_method_1_code 530 (.iastore) 1 531 := ⟨by decide +kernel, rfl⟩
theorem d_X12_init_531 : DD prog_14_method_1_code 531 (.dup) 1 532 := ⟨by decide +kernel, rfl⟩
theorem d_X12_init_532 : DD prog_14_method_1_code 532 (.bipush 55) 2 534 := ⟨by decide +kernel, rfl⟩
theorem d_X12_init_534 : DD prog_14_method_1_code 534 (.bipush 99) 2 536 := ⟨by decide +kernel, rfl⟩
theorem d_X12_init_536 : DD prog_14_method_1_code 536 (.iastore) 1 537 := ⟨by decide +kernel, rfl⟩
theorem d_X12_init_537 : DD prog_14_method_1_code 537 (.dup) 1 538 := ⟨by decide +kernel, rfl⟩
theorem d_X12_init_538 : DD prog_14_method_1_code 538 (.bipush 56) 2 540 := ⟨by decide +kernel, rfl⟩
theorem d_X12_init_540 : DD prog_14_method_1_code 540 (.bipush 101) 2 542 := ⟨by decide +kernel, rfl⟩
theorem d_X12_init_542 : DD prog_14_method_1_code 542 (.iastore) 1 543 := ⟨by decide +kernel, rfl⟩
theorem d_X12_init_543 : DD prog_14_method_1_code 543 (.dup) 1 544 := ⟨by decide +kernel, rfl⟩
theorem d_X12_init_544 : DD prog_14_method_1_code 544 (.bipush 57) 2 546 := ⟨by decide +kernel, rfl⟩
theorem d_X12_init_546 : DD prog_14_method_1_code 546 (.bipush 100) 2 548 := ⟨by decide +kernel, rfl⟩
theorem d_X12_init_548 : DD prog_14_method_1_code 548 (.iastore) 1 549 := ⟨by decide +kernel, rfl⟩
theorem d_X12_init_549 : DD prog_14_method_1_code 549 (.dup) 1 550 := ⟨by decide +kernel, rfl⟩
theorem d_X12_init_550 : DD prog_14_method_1_code 550 (.bipush 58) 2 552 := ⟨by decide +kernel, rfl⟩
theorem d_X12_init_552 : DD prog_14_method_1_code 552 (.bipush 115) 2 554 := ⟨by decide +kernel, rfl⟩
theorem d_X12_init_554 : DD prog_14_method_1_code 554 (.iastore) 1 555 := ⟨by decide +kernel, rfl⟩
theorem d_X12_init_555 : DD prog_14_method_1_code 555 (.dup) 1 556 := ⟨by decide +kernel, rfl⟩
theorem d_X12_init_556 : DD prog_14_method_1_code 556 (.bipush 59) 2 558 := ⟨by decide +kernel, rfl⟩
theorem d_X12_init_558 : DD prog_14_method_1_code 558 (.bipush 104) 2 560 := ⟨by decide +kernel, rfl⟩
theorem d_X12_init_560 : DD prog_14_method_1_code 560 (.iastore) 1 561 := ⟨by decide +kernel, rfl⟩
theorem d_X12_init_561 : DD prog_14_method_1_code 561 (.dup) 1 562 := ⟨by decide +kernel, rfl⟩
theorem d_X12_init_562 : DD prog_14_method_1_code 562 (.bipush 60) 2 564 := ⟨by decide +kernel, rfl⟩
theorem d_X12_init_564 : DD prog_14_method_1_code 564 (.bipush 97) 2 566 := ⟨by decide +kernel, rfl⟩
theorem d_X12_init_566 : DD prog_14_method_1_code 566 (.iastore) 1 567 := ⟨by decide +kernel, rfl⟩
theorem d_X12_init_567 : DD prog_14_method_1_code 567 (.dup) 1 568 := ⟨by decide +kernel, rfl⟩
theorem d_X12_init_568 : DD prog_14_method_1_code 568 (.bipush 61) 2 570 := ⟨by decide +kernel, rfl⟩
theorem d_X12_init_570 : DD prog_14_method_1_code 570 (.bipush 100) 2 572 := ⟨by decide +kernel, rfl⟩
theorem d_X12_init_572 : DD prog_14_method_1_code 572 (.iastore) 1 573 := ⟨by decide +kernel, rfl⟩
theorem d_X12_init_573 : DD prog_14_method_1_code 573 (.dup) 1 574 := ⟨by decide +kernel, rfl⟩
theorem d_X12_init_574 : DD prog_14_method_1_code 574 (.bipush 62) 2 576 := ⟨by decide +kernel, rfl⟩
theorem d_X12_init_576 : DD prog_14_method_1_code 576 (.bipush 101) 2 578 := ⟨by decide +kernel, rfl⟩
theorem d_X12_init_578 : DD prog_14_method_1_code 578 (.iastore) 1 579 := ⟨by decide +kernel, rfl⟩
theorem d_X12_init_579 : DD prog_14_method_1_code 579 (.dup) 1 580 := ⟨by decide +kernel, rfl⟩
theorem d_X12_init_580 : DD prog_14_method_1_code 580 (.bipush 63) 2 582 := ⟨by decide +kernel, rfl⟩
theorem d_X12_init_582 : DD prog_14_method_1_code 582 (.bipush 100) 2 584 := ⟨by decide +kernel, rfl⟩
theorem d_X12_init_584 : DD prog_14_method_1_code 584 (.iastore) 1 585 := ⟨by decide +kernel, rfl⟩
theorem d_X12_init_585 : DD prog_14_method_1_code 585 (.dup) 1 586 := ⟨by decide +kernel, rfl⟩
theorem d_X12_init_586 : DD prog_14_method_1_code 586 (.bipush 64) 2 588 := ⟨by decide +kernel, rfl⟩
theorem d_X12_init_588 : DD prog_14_method_1_code 588 (.bipush 112) 2 590 := ⟨by decide +kernel, rfl⟩
theorem d_X12_init_590 : DD prog_14_method_1_code 590 (.iastore) 1 591 := ⟨by decide +kernel, rfl⟩
theorem d_X12_init_591 : DD prog_14_method_1_code 591 (.dup) 1 592 := ⟨by decide +kernel, rfl⟩
theorem d_X12_init_592 : DD prog_14_method_1_code 592 (.bipush 65) 2 594 := ⟨by decide +kernel, rfl⟩
theorem d_X12_init_594 : DD prog_14_method_1_code 594 (.bipush 97) 2 596 := ⟨by decide +kernel, rfl⟩
theorem d_X12_init_596 : DD prog_14_method_1_code 596 (.iastore) 1 597 := ⟨by decide +kernel, rfl⟩
theorem d_X12_init_597 : DD prog_14_method_1_code 597 (.dup) 1 598 := ⟨by decide +kernel, rfl⟩
theorem d_X12_init_598 : DD prog_14_method_1_code 598 (.bipush 66) 2 600 := ⟨by decide +kernel, rfl⟩
theorem d_X12_init_600 : DD prog_14_method_1_code 600 (.bipush 99) 2 602 := ⟨by decide +kernel, rfl⟩
theorem d_X12_init_602 : DD prog_14_method_1_code 602 (.iastore) 1 603 := ⟨by decide +kernel, rfl⟩
theorem d_X12_init_603 : DD prog_14_method_1_code 603 (.dup) 1 604 := ⟨by decide +kernel, rfl⟩
theorem d_X12_init_604 : DD prog_14_method_1_code 604 (.bipush 67) 2 606 := ⟨by decide +kernel, rfl⟩
theorem d_X12_init_606 : DD prog_14_method_1_code 606 (.bipush 107) 2 608 := ⟨by decide +kernel, rfl⟩
theorem d_X12_init_608 : DD prog_14_method_1_code 608 (.iastore) 1 609 := ⟨by decide +kernel, rfl⟩
theorem d_X12_init_609 : DD prog_14_method_1_code 609 (.dup) 1 610 := ⟨by decide +kernel, rfl⟩
theorem d_X12_init_610 : DD prog_14_method_1_code 610 (.bipush 68) 2 612 := ⟨by decide +kernel, rfl⟩
theorem d_X12_init_612 : DD prog_14_method_1_code 612 (.bipush 101) 2 614 := ⟨by decide +kernel, rfl⟩
theorem d_X12_init_614 : DD prog_14_method_1_code 614 (.iastore) 1 615 := ⟨by decide +kernel, rfl⟩
theorem d_X12_init_615 : DD prog_14_method_1_code 615 (.dup) 1 616 := ⟨by decide +kernel, rfl⟩
theorem d_X12_init_616 : DD prog_14_method_1_code 616 (.bipush 69) 2 618 := ⟨by decide +kernel, rfl⟩
theorem d_X12_init_618 : DD prog_14_method_1_code 618 (.bipush 100) 2 620 := ⟨by decide +kernel, rfl⟩
theorem d_X12_init_620 : DD prog_14_method_1_code 620 (.iastore) 1 621 := ⟨by decide +kernel, rfl⟩
theorem d_X12_init_621 : DD prog_14_method_1_code 621 (.dup) 1 622 := ⟨by decide +kernel, rfl⟩
theorem d_X12_init_622 : DD prog_14_method_1_code 622 (.bipush 70) 2 624 := ⟨by decide +kernel, rfl⟩
theorem d_X12_init_624 : DD prog_14_method_1_code 624 (.bipush 99) 2 626 := ⟨by decide +kernel, rfl⟩
theorem d_X12_init_626 : DD prog_14_method_1_code 626 (.iastore) 1 627 := ⟨by decide +kernel, rfl⟩
theorem d_X12_init_627 : DD prog_14_method_1_code 627 (.dup) 1 628 := ⟨by decide +kernel, rfl⟩
theorem d_X12_init_628 : DD prog_14_method_1_code 628 (.bipush 71) 2 630 := ⟨by decide +kernel, rfl⟩
theorem d_X12_init_630 : DD prog_14_method_1_code 630 (.bipush 104) 2 632 := ⟨by decide +kernel, rfl⟩
theorem d_X12_init_632 : DD prog_14_method_1_code 632 (.iastore) 1 633 := ⟨by decide +kernel, rfl⟩
theorem d_X12_init_633 : DD prog_14_method_1_code 633 (.dup) 1 634 := ⟨by decide +kernel, rfl⟩
theorem d_X12_init_634 : DD prog_14_method_1_code 634 (.bipush 72) 2 636 := ⟨by decide +kernel, rfl⟩
theorem d_X12_init_636 : DD prog_14_method_1_code 636 (.bipush 105) 2 638 := ⟨by decide +kernel, rfl⟩
theorem d_X12_init_638 : DD prog_14_method_1_code 638 (.iastore) 1 639 := ⟨by decide +kernel, rfl⟩
theorem d_X12_init_639 : DD prog_14_method_1_code 639 (.dup) 1 640 := ⟨by decide +kernel, rfl⟩
theorem d_X12_init_640 : DD prog_14_method_1_code 640 (.bipush 73) 2 642 := ⟨by decide +kernel, rfl⟩
theorem d_X12_init_642 : DD prog_14_method_1_code 642 (.bipush 108) 2 644 := ⟨by decide +kernel, rfl⟩
theorem d_X12_init_644 : DD prog_14_method_1_code 644 (.iastore) 1 645 := ⟨by decide +kernel, rfl⟩
theorem d_X12_init_645 : DD prog_14_method_1_code 645 (.dup) 1 646 := ⟨by decide +kernel, rfl⟩
theorem d_X12_init_646 : DD prog_14_method_1_code 646 (.bipush 74) 2 648 := ⟨by decide +kernel, rfl⟩
theorem d_X12_init_648 : DD prog_14_method_1_code 648 (.bipush 100) 2 650 := ⟨by decide +kernel, rfl⟩
theorem d_X12_init_650 : DD prog_14_method_1_code 650 (.iastore) 1 651 := ⟨by decide +kernel, rfl⟩
theorem d_X12_init_651 : DD prog_14_method_1_code 651 (.dup) 1 652 := ⟨by decide +kernel, rfl⟩
theorem d_X12_init_652 : DD prog_14_method_1_code 652 (.bipush 75) 2 654 := ⟨by decide +kernel, rfl⟩
theorem d_X12_init_654 : DD prog_14_method_1_code 654 (.bipush 98) 2 656 := ⟨by decide +kernel, rfl⟩
theorem d_X12_init_656 : DD prog_14_method_1_code 656 (.iastore) 1 657 := ⟨by decide +kernel, rfl⟩
theorem d_X12_init_657 : DD prog_14_method_1_code 657 (.dup) 1 658 := ⟨by decide +kernel, rfl⟩
theorem d_X12_init_658 : DD prog_14_method_1_code 658 (.bipush 76) 2 660 := ⟨by decide +kernel, rfl⟩
theorem d_X12_init_660 : DD prog_14_method_1_code 660 (.bipush 97) 2 662 := ⟨by decide +kernel, rfl⟩
theorem d_X12_init_662 : DD prog_14_method_1_code 662 (.iastore) 1 663 := ⟨by decide +kernel, rfl⟩
theorem d_X12_init_663 : DD prog_14_method_1_code 663 (.dup) 1 664 := ⟨by decide +kernel, rfl⟩
theorem d_X12_init_664 : DD prog_14_method_1_code 664 (.bipush 77) 2 666 := ⟨by decide +kernel, rfl⟩
theorem d_X12_init_666 : DD prog_14_method_1_code 666 (.bipush 114) 2 668 := ⟨by decide +kernel, rfl⟩
theorem d_X12_init_668 : DD prog_14_method_1_code 668 (.iastore) 1 669 := ⟨by decide +kernel, rfl⟩
theorem d_X12_init_669 : DD prog_14_method_1_code 669 (.dup) 1 670 := ⟨by decide +kernel, rfl⟩
theorem d_X12_init_670 : DD prog_14_method_1_code 670 (.bipush 78) 2 672 := ⟨by decide +kernel, rfl⟩
theorem d_X12_init_672 : DD prog_14_method_1_code 672 (.bipush 101) 2 674 := ⟨by decide +kernel, rfl⟩
theorem d_X12_init_674 : DD prog_14_method_1_code 674 (.iastore) 1 675 := ⟨by decide +kernel, rfl⟩
theorem d_X12_init_675 : DD prog_14_method_1_code 675 (.putfield 47) 3 678 := ⟨by decide +kernel, rfl⟩
theorem d_X12_init_678 : DD prog_14_method_1_code 678 (.aload_n 0) 1 679 := ⟨by decide +kernel, rfl⟩
theorem d_X12_init_679 : DD prog_14_method_1_code 679 (.bipush 10) 2 681 := ⟨by decide +kernel, rfl⟩
theorem d_X12_init_681 : DD prog_14_method_1_code 681 (.newarray .int) 2 683 := ⟨by decide +kernel, rfl⟩
theorem d_X12_init_683 : DD prog_14_method_1_code 683 (.putfield 50) 3 686 := ⟨by decide +kernel, rfl⟩
theorem d_X12_init_686 : DD prog_14_method_1_code 686 (.aload_n 0) 1 687 := ⟨by decide +kernel, rfl⟩
theorem d_X12_init_687 : DD prog_14_method_1_code 687 (.sipush 130) 3 690 := ⟨by decide +kernel, rfl⟩
theorem d_X12_init_690 : DD prog_14_method_1_code 690 (.newarray .int) 2 692 := ⟨by decide +kernel, rfl⟩
theorem d_X12_init_692 : DD prog_14_method_1_code 692 (.putfield 53) 3 695 := ⟨by decide +kernel, rfl⟩
theorem d_X12_init_695 : DD prog_14_method_1_code 695 (.aload_n 0) 1 696 := ⟨by decide +kernel, rfl⟩
theorem d_X12_init_696 : DD prog_14_method_1_code 696 (.bipush 10) 2 698 := ⟨by decide +kernel, rfl⟩
theorem d_X12_init_698 : DD prog_14_method_1_code 698 (.newarray .int) 2 700 := ⟨by decide +kernel, rfl⟩
theorem d_X12_init_700 : DD prog_14_method_1_code 700 (.putfield 56) 3 703 := ⟨by decide +kernel, rfl⟩
theorem d_X12_init_703 : DD prog_14_method_1_code 703 (.aload_n 0) 1 704 := ⟨by decide +kernel, rfl⟩
theorem d_X12_init_704 : DD prog_14_method_1_code 704 (.iconst 2) 1 705 := ⟨by decide +kernel, rfl⟩
theorem d_X12_init_705 : DD prog_14_method_1_code 705 (.newarray .boolean) 2 707 := ⟨by decide +kernel, rfl⟩
theorem d_X12_init_707 : DD prog_14_method_1_code 707 (.putfield 59) 3 710 := ⟨by decide +kernel, rfl⟩
theorem d_X12_init_710 : DD prog_14_method_1_code 710 (.aload_n 0) 1 711 := ⟨by decide +kernel, rfl⟩
theorem d_X12_init_711 : DD prog_14_method_1_code 711 (.iconst 4) 1 712 := ⟨by decide +kernel, rfl⟩
theorem d_X12_init_712 : DD prog_14_method_1_code 712 (.newarray .int) 2 714 := ⟨by decide +kernel, rfl⟩
theorem d_X12_init_714 : DD prog_14_method_1_code 714 (.dup) 1 715 := ⟨by decide +kernel, rfl⟩
theorem d_X12_init_715 : DD prog_14_method_1_code 715 (.iconst 0) 1 716 := ⟨by decide +kernel, rfl⟩
theorem d_X12_init_716 : DD prog_14_method_1_code 716 (.bipush (-4)) 2 718 := ⟨by decide +kernel, rfl⟩
theorem d_X12_init_718 : DD prog_14_method_1_code 718 (.iastore) 1 719 := ⟨by decide +kernel, rfl⟩
theorem d_X12_init_719 : DD prog_14_method_1_code 719 (.dup) 1 720 := ⟨by decide +kernel, rfl⟩
theorem d_X12_init_720 : DD prog_14_method_1_code 720 (.iconst 1) 1 721 := ⟨by decide +kernel, rfl⟩
theorem d_X12_init_721 : DD prog_14_method_1_code 721 (.bipush (-4)) 2 723 := ⟨by decide +kernel, rfl⟩
theorem d_X12_init_723 : DD prog_14_method_1_code 723 (.iastore) 1 724 := ⟨by decide +kernel, rfl⟩
theorem d_X12_init_724 : DD prog_14_method_1_code 724 (.dup) 1 725 := ⟨by decide +kernel, rfl⟩
theorem d_X12_init_725 : DD prog_14_method_1_code 725 (.iconst 2) 1 726 := ⟨by decide +kernel, rfl⟩
theorem d_X12_init_726 : DD prog_14_method_1_code 726 (.bipush (-4)) 2 728 := ⟨by decide +kernel, rfl⟩
theorem d_X12_init_728 : DD prog_14_method_1_code 728 (.iastore) 1 729 := ⟨by decide +kernel, rfl⟩
theorem d_X12_init_729 : DD prog_14_method_1_code 729 (.dup) 1 730 := ⟨by decide +kernel, rfl⟩
theorem d_X12_init_730 : DD prog_14_method_1_code 730 (.iconst 3) 1 731 := ⟨by decide +kernel, rfl⟩
theorem d_X12_init_731 : DD prog_14_method_1_code 731 (.bipush (-4)) 2 733 := ⟨by decide +kernel, rfl⟩
theorem d_X12_init_733 : DD prog_14_method_1_code 733 (.iastore) 1 734 := ⟨by decide +kernel, rfl⟩
theorem d_X12_init_734 : DD prog_14_method_1_code 734 (.putfield 63) 3 737 := ⟨by decide +kernel, rfl⟩
theorem d_X12_init_737 : DD prog_14_method_1_code 737 (.aload_n 0) 1 738 := ⟨by decide +kernel, rfl⟩
theorem d_X12_init_738 : DD prog_14_method_1_code 738 (.iconst 4) 1 739 := ⟨by decide +kernel, rfl⟩
theorem d_X12_init_739 : DD prog_14_method_1_code 739 (.newarray .int) 2 741 := ⟨by decide +kernel, rfl⟩
theorem d_X12_init_741 : DD prog_14_method_1_code 741 (.putfield 66) 3 744 := ⟨by decide +kernel, rfl⟩
theorem d_X12_init_744 : DD prog_14_method_1_code 744 (.aload_n 0) 1 745 := ⟨by decide +kernel, rfl⟩
theorem d_X12_init_745 : DD prog_14_method_1_code 745 (.sipush 160) 3 748 := ⟨by decide +kernel, rfl⟩
theorem d_X12_init_748 : DD prog_14_method_1_code 748 (.newarray .int) 2 750 := ⟨by decide +kernel, rfl⟩
theorem d_X12_init_750 : DD prog_14_method_1_code 750 (.putfield 69) 3 753 := ⟨by decide +kernel, rfl⟩
theorem d_X12_init_753 : DD prog_14_method_1_code 753 (.return_) 1 754 := ⟨by decide +kernel, rfl⟩
def tbl3 : List Int32 := [1, 0, 0]
def tb3 : Nat → Int32 := fun j => if j < 3 then tbl3.getD j 0 else 0
def tbl10 : List Int32 := [0, 8, 11, 16, 22, 26, 29, 36, 41, 45, 49, 54, 58, 64, 70, 75, 79]
def tb10 : Nat → Int32 := fun j => if j < 17 then tbl10.getD j 0 else 0
def tbl11 : List Int32 := [102, 117, 114, 108, 111, 110, 103, 115, 115, 117, 110, 102, 114, 111, 115, 116, 116, 114, 101, 97, 116, 121, 115, 110, 111, 119, 109, 97, 110, 98, 114, 97, 122, 105, 101, 114, 104, 111, 117, 115, 101, 119, 101, 115, 116, 101, 97, 115, 116, 112, 108, 97, 105, 110, 105, 99, 101, 100, 115, 104, 97, 100, 101, 100, 112, 97, 99, 107, 101, 100, 99, 104, 105, 108, 100, 98, 97, 114, 101]
def tb11 : Nat → Int32 := fun j => if j < 79 then tbl11.getD j 0 else 0
def tbl16 : List Int32 := [(-4), (-4), (-4), (-4)]
def tb16 : Nat → Int32 := fun j => if j < 4 then tbl16.getD j 0 else 0
def Ni : Mm := (fun c => if c = 0 then (fun j => if j = 1 then 5 else if j = 6 then 3 else 0) else if c = 3 then tb3 else if c = 10 then tb10 else if c = 11 then tb11 else if c = 16 then tb16 else fun _ => 0, fun _ _ => 0)
theorem upd_S9 (f : Nat → Int32) (k : Nat) (x : Int32) : upd f k x k = x := if_pos rfl
theorem upd_N9 (f : Nat → Int32) {k j : Nat} (x : Int32) (h : j ≠ k) : upd f k x j = f j := if_neg h
def updL (f : Nat → Int32) : Nat → List Int32 → Nat → Int32
  | _, [] => f
  | i, x :: xs => updL (upd f i x) (i + 1) xs
theorem updL_at (f : Nat → Int32) (i : Nat) (l : List Int32) (j : Nat) : updL f i l j = if i ≤ j ∧ j < i + l.length then l.getD (j - i) 0 else f j := by
  induction l generalizing f i with
  | nil =>
    rw [if_neg (by simp)]
    rfl
  | cons x xs ih =>
    show updL (upd f i x) (i + 1) xs j = _
    rw [ih]
    by_cases h : i + 1 ≤ j ∧ j < i + 1 + xs.length
    · rw [if_pos h, if_pos (by simp; omega), show j - i = (j - (i + 1)) + 1 by omega]
      rfl
    · rw [if_neg h]
      by_cases h2 : j = i
      · subst h2
        rw [if_pos (by simp), Nat.sub_self, upd_S9]
        rfl
      · rw [upd_N9 _ _ h2, if_neg (by simp; omega)]
theorem updL_tb {l : List Int32} {N : Nat} (hN : l.length = N) : updL (fun _ => 0) 0 l = fun j => if j < N then l.getD j 0 else 0 := by
  funext j
  rw [updL_at, hN]
  by_cases h : j < N
  · rw [if_pos (by omega), if_pos h, Nat.sub_zero]
  · rw [if_neg (by omega), if_neg h]
def EPz (G : GG) (M : Mm) (X : va_E) : Nat → va_E := up1 (EU 1 G M) 0 X
def EPy (G : GG) (M : Mm) (n : Nat) (A X : va_E) : Nat → va_E := up1 (up1 (EU 1 G M) n A) 0 X
theorem EPz_0 (G : GG) (M : Mm) (X : va_E) : EPz G M X 0 = X := up1_s _ _ _
theorem EPz_n {G : GG} {M : Mm} {X : va_E} {n : Nat} (h : n ≠ 0) : EPz G M X n = EU 1 G M n := up1_n h
theorem EPz_p0 (G : GG) (M : Mm) (X Y : va_E) : up1 (EPz G M X) 0 Y = EPz G M Y := up1_up1 _ _ _ _
theorem EPz_y {G : GG} {M : Mm} {X A : va_E} {n : Nat} (h : 0 ≠ n) : up1 (EPz G M X) n A = EPy G M n A X := up1_comm _ h _ _
theorem EPy_z {G : GG} {M : Mm} {X A : va_E} {n : Nat} (h : EU 1 G M n = A) : EPy G M n A X = EPz G M X := by
  unfold EPy EPz
  rw [up1_self _ _ h]
theorem EPy_n {G : GG} {M : Mm} {X A : va_E} {n : Nat} (h : n ≠ 0) : EPy G M n A X n = A := (up1_n h).trans (up1_s _ _ _)
theorem EPy_p {G : GG} {M : Mm} {X A B : va_E} {n : Nat} (h : 0 ≠ n) : up1 (EPy G M n A X) n B = EPy G M n B X := by
  unfold EPy
  rw [up1_comm _ h, up1_up1]
section ZI
variable {p : Program} {l : Launch} {e : Env} {R : Room} {s : State} {m : MethodId} {args : Array Value} {below : List Frame} {meth : Method} {c : Code} {nL cells slots : Nat} {Q : State → Prop} {G : GG} {n nn : Nat} {M : Mm} {X : va_E} {pc pc' : Nat} {L : List (Nat × Value)} {S : List Value} {cc : ByteArray} {own : String}
theorem q_ia {N k : Nat} {i x : Int32} {f : Nat → Int32} (C : GX p s m args c cc nL own) (K : KC G s) (hn : n ≠ 0) (hnn : n < nn) (hk : i.toNatClampNeg = k) (hi : vp_in i N) (hd : DD cc pc .iastore 1 pc')
    (h : Zg p l e R s m args below meth c nL Q cells slots (FC s G 0 nn (EPy G M n (.inl (gC G 0, N, .inl (upd f k x))) X)) pc' L S) : Zg p l e R s m args below meth c nL Q cells slots (FC s G 0 nn (EPy G M n (.inl (gC G 0, N, .inl f)) X)) pc L (.int x :: .int i :: .ref (gB G + n) :: S) := by
  refine k_iast (a := n) C K.1 (Nat.zero_le _) hnn (EPy_n hn) hi hd ?_
  rw [EPy_p (Ne.symm hn), hk]
  exact h
end ZI

theorem t12_30 {p : Program} {l : Launch} {e : Env} {R : Room} {s : State} {m : MethodId} {args : Array Value} {below : List Frame} {meth : Method} {c : Code} {cells slots : Nat} {Q : State → Prop} {G : GG} {M : Mm} {X : va_E} {f : Nat → Int32} (C : GX p s m args c prog_14_method_1_code 1 "SnowSentriesModel") (K : KC G s)
    (h : Zg p l e R s m args below meth c 1 Q cells slots (FC s G 0 4 (EPy G M 3 (.inl (gC G 0, 3, .inl (upd (upd (upd f 0 1) 1 0) 2 0))) X)) 42 [(0, .ref (gB G + 0))] [.ref (gB G + 3), .ref (gB G + 0)]) : Zg p l e R s m args below meth c 1 Q cells slots (FC s G 0 4 (EPy G M 3 (.inl (gC G 0, 3, .inl f)) X)) 30 [(0, .ref (gB G + 0))] [.ref (gB G + 3), .ref (gB G + 0)] := by
  refine g_dup C d_X12_init_30 rfl ?_
  refine g_iconst (v := 0) C d_X12_init_31 rfl ?_
  refine g_iconst (v := 1) C d_X12_init_32 rfl ?_
  refine q_ia C K (by decide) (by decide) (k := 0) rfl (by unfold vp_in; decide) d_X12_init_33 ?_
  refine g_dup C d_X12_init_34 rfl ?_
  refine g_iconst (v := 1) C d_X12_init_35 rfl ?_
  refine g_iconst (v := 0) C d_X12_init_36 rfl ?_
  refine q_ia C K (by decide) (by decide) (k := 1) rfl (by unfold vp_in; decide) d_X12_init_37 ?_
  refine g_dup C d_X12_init_38 rfl ?_
  refine g_iconst (v := 2) C d_X12_init_39 rfl ?_
  refine g_iconst (v := 0) C d_X12_init_40 rfl ?_
  refine q_ia C K (by decide) (by decide) (k := 2) rfl (by unfold vp_in; decide) d_X12_init_41 ?_
  exact h
theorem t12_104 {p : Program} {l : Launch} {e : Env} {R : Room} {s : State} {m : MethodId} {args : Array Value} {below : List Frame} {meth : Method} {c : Code} {cells slots : Nat} {Q : State → Prop} {G : GG} {M : Mm} {X : va_E} {f : Nat → Int32} (C : GX p s m args c prog_14_method_1_code 1 "SnowSentriesModel") (K : KC G s)
    (h : Zg p l e R s m args below meth c 1 Q cells slots (FC s G 0 11 (EPy G M 10 (.inl (gC G 0, 17, .inl (upd (upd (upd (upd (upd (upd (upd (upd (upd (upd f 0 0) 1 8) 2 11) 3 16) 4 22) 5 26) 6 29) 7 36) 8 41) 9 45))) X)) 157 [(0, .ref (gB G + 0))] [.ref (gB G + 10), .ref (gB G + 0)]) : Zg p l e R s m args below meth c 1 Q cells slots (FC s G 0 11 (EPy G M 10 (.inl (gC G 0, 17, .inl f)) X)) 104 [(0, .ref (gB G + 0))] [.ref (gB G + 10), .ref (gB G + 0)] := by
  refine g_dup C d_X12_init_104 rfl ?_
  refine g_iconst (v := 0) C d_X12_init_105 rfl ?_
  refine g_iconst (v := 0) C d_X12_init_106 rfl ?_
  refine q_ia C K (by decide) (by decide) (k := 0) rfl (by unfold vp_in; decide) d_X12_init_107 ?_
  refine g_dup C d_X12_init_108 rfl ?_
  refine g_iconst (v := 1) C d_X12_init_109 rfl ?_
  refine g_bipush (v := 8) C d_X12_init_110 rfl ?_
  refine q_ia C K (by decide) (by decide) (k := 1) rfl (by unfold vp_in; decide) d_X12_init_112 ?_
  refine g_dup C d_X12_init_113 rfl ?_
  refine g_iconst (v := 2) C d_X12_init_114 rfl ?_
  refine g_bipush (v := 11) C d_X12_init_115 rfl ?_
  refine q_ia C K (by decide) (by decide) (k := 2) rfl (by unfold vp_in; decide) d_X12_init_117 ?_
  refine g_dup C d_X12_init_118 rfl ?_
  refine g_iconst (v := 3) C d_X12_init_119 rfl ?_
  refine g_bipush (v := 16) C d_X12_init_120 rfl ?_
  refine q_ia C K (by decide) (by decide) (k := 3) rfl (by unfold vp_in; decide) d_X12_init_122 ?_
  refine g_dup C d_X12_init_123 rfl ?_
  refine g_iconst (v := 4) C d_X12_init_124 rfl ?_
  refine g_bipush (v := 22) C d_X12_init_125 rfl ?_
  refine q_ia C K (by decide) (by decide) (k := 4) rfl (by unfold vp_in; decide) d_X12_init_127 ?_
  refine g_dup C d_X12_init_128 rfl ?_
  refine g_iconst (v := 5) C d_X12_init_129 rfl ?_
  refine g_bipush (v := 26) C d_X12_init_130 rfl ?_
  refine q_ia C K (by decide) (by decide) (k := 5) rfl (by unfold vp_in; decide) d_X12_init_132 ?_
  refine g_dup C d_X12_init_133 rfl ?_
  refine g_bipush (v := 6) C d_X12_init_134 rfl ?_
  refine g_bipush (v := 29) C d_X12_init_136 rfl ?_
  refine q_ia C K (by decide) (by decide) (k := 6) rfl (by unfold vp_in; decide) d_X12_init_138 ?_
  refine g_dup C d_X12_init_139 rfl ?_
  refine g_bipush (v := 7) C d_X12_init_140 rfl ?_
  refine g_bipush (v := 36) C d_X12_init_142 rfl ?_
  refine q_ia C K (by decide) (by decide) (k := 7) rfl (by unfold vp_in; decide) d_X12_init_144 ?_
  refine g_dup C d_X12_init_145 rfl ?_
  refine g_bipush (v := 8) C d_X12_init_146 rfl ?_
  refine g_bipush (v := 41) C d_X12_init_148 rfl ?_
  refine q_ia C K (by decide) (by decide) (k := 8) rfl (by unfold vp_in; decide) d_X12_init_150 ?_
  refine g_dup C d_X12_init_151 rfl ?_
  refine g_bipush (v := 9) C d_X12_init_152 rfl ?_
  refine g_bipush (v := 45) C d_X12_init_154 rfl ?_
  refine q_ia C K (by decide) (by decide) (k := 9) rfl (by unfold vp_in; decide) d_X12_init_156 ?_
  exact h
theorem t12_157 {p : Program} {l : Launch} {e : Env} {R : Room} {s : State} {m : MethodId} {args : Array Value} {below : List Frame} {meth : Method} {c : Code} {cells slots : Nat} {Q : State → Prop} {G : GG} {M : Mm} {X : va_E} {f : Nat → Int32} (C : GX p s m args c prog_14_method_1_code 1 "SnowSentriesModel") (K : KC G s)
    (h : Zg p l e R s m args below meth c 1 Q cells slots (FC s G 0 11 (EPy G M 10 (.inl (gC G 0, 17, .inl (upd (upd (upd (upd (upd (upd (upd f 10 49) 11 54) 12 58) 13 64) 14 70) 15 75) 16 79))) X)) 199 [(0, .ref (gB G + 0))] [.ref (gB G + 10), .ref (gB G + 0)]) : Zg p l e R s m args below meth c 1 Q cells slots (FC s G 0 11 (EPy G M 10 (.inl (gC G 0, 17, .inl f)) X)) 157 [(0, .ref (gB G + 0))] [.ref (gB G + 10), .ref (gB G + 0)] := by
  refine g_dup C d_X12_init_157 rfl ?_
  refine g_bipush (v := 10) C d_X12_init_158 rfl ?_
  refine g_bipush (v := 49) C d_X12_init_160 rfl ?_
  refine q_ia C K (by decide) (by decide) (k := 10) rfl (by unfold vp_in; decide) d_X12_init_162 ?_
  refine g_dup C d_X12_init_163 rfl ?_
  refine g_bipush (v := 11) C d_X12_init_164 rfl ?_
  refine g_bipush (v := 54) C d_X12_init_166 rfl ?_
  refine q_ia C K (by decide) (by decide) (k := 11) rfl (by unfold vp_in; decide) d_X12_init_168 ?_
  refine g_dup C d_X12_init_169 rfl ?_
  refine g_bipush (v := 12) C d_X12_init_170 rfl ?_
  refine g_bipush (v := 58) C d_X12_init_172 rfl ?_
  refine q_ia C K (by decide) (by decide) (k := 12) rfl (by unfold vp_in; decide) d_X12_init_174 ?_
  refine g_dup C d_X12_init_175 rfl ?_
  refine g_bipush (v := 13) C d_X12_init_176 rfl ?_
  refine g_bipush (v := 64) C d_X12_init_178 rfl ?_
  refine q_ia C K (by decide) (by decide) (k := 13) rfl (by unfold vp_in; decide) d_X12_init_180 ?_
  refine g_dup C d_X12_init_181 rfl ?_
  refine g_bipush (v := 14) C d_X12_init_182 rfl ?_
  refine g_bipush (v := 70) C d_X12_init_184 rfl ?_
  refine q_ia C K (by decide) (by decide) (k := 14) rfl (by unfold vp_in; decide) d_X12_init_186 ?_
  refine g_dup C d_X12_init_187 rfl ?_
  refine g_bipush (v := 15) C d_X12_init_188 rfl ?_
  refine g_bipush (v := 75) C d_X12_init_190 rfl ?_
  refine q_ia C K (by decide) (by decide) (k := 15) rfl (by unfold vp_in; decide) d_X12_init_192 ?_
  refine g_dup C d_X12_init_193 rfl ?_
  refine g_bipush (v := 16) C d_X12_init_194 rfl ?_
  refine g_bipush (v := 79) C d_X12_init_196 rfl ?_
  refine q_ia C K (by decide) (by decide) (k := 16) rfl (by unfold vp_in; decide) d_X12_init_198 ?_
  exact h
theorem t12_207 {p : Program} {l : Launch} {e : Env} {R : Room} {s : State} {m : MethodId} {args : Array Value} {below : List Frame} {meth : Method} {c : Code} {cells slots : Nat} {Q : State → Prop} {G : GG} {M : Mm} {X : va_E} {f : Nat → Int32} (C : GX p s m args c prog_14_method_1_code 1 "SnowSentriesModel") (K : KC G s)
    (h : Zg p l e R s m args below meth c 1 Q cells slots (FC s G 0 12 (EPy G M 11 (.inl (gC G 0, 79, .inl (upd (upd (upd (upd (upd (upd (upd (upd (upd (upd f 0 102) 1 117) 2 114) 3 108) 4 111) 5 110) 6 103) 7 115) 8 115) 9 117))) X)) 261 [(0, .ref (gB G + 0))] [.ref (gB G + 11), .ref (gB G + 0)]) : Zg p l e R s m args below meth c 1 Q cells slots (FC s G 0 12 (EPy G M 11 (.inl (gC G 0, 79, .inl f)) X)) 207 [(0, .ref (gB G + 0))] [.ref (gB G + 11), .ref (gB G + 0)] := by
  refine g_dup C d_X12_init_207 rfl ?_
  refine g_iconst (v := 0) C d_X12_init_208 rfl ?_
  refine g_bipush (v := 102) C d_X12_init_209 rfl ?_
  refine q_ia C K (by decide) (by decide) (k := 0) rfl (by unfold vp_in; decide) d_X12_init_211 ?_
  refine g_dup C d_X12_init_212 rfl ?_
  refine g_iconst (v := 1) C d_X12_init_213 rfl ?_
  refine g_bipush (v := 117) C d_X12_init_214 rfl ?_
  refine q_ia C K (by decide) (by decide) (k := 1) rfl (by unfold vp_in; decide) d_X12_init_216 ?_
  refine g_dup C d_X12_init_217 rfl ?_
  refine g_iconst (v := 2) C d_X12_init_218 rfl ?_
  refine g_bipush (v := 114) C d_X12_init_219 rfl ?_
  refine q_ia C K (by decide) (by decide) (k := 2) rfl (by unfold vp_in; decide) d_X12_init_221 ?_
  refine g_dup C d_X12_init_222 rfl ?_
  refine g_iconst (v := 3) C d_X12_init_223 rfl ?_
  refine g_bipush (v := 108) C d_X12_init_224 rfl ?_
  refine q_ia C K (by decide) (by decide) (k := 3) rfl (by unfold vp_in; decide) d_X12_init_226 ?_
  refine g_dup C d_X12_init_227 rfl ?_
  refine g_iconst (v := 4) C d_X12_init_228 rfl ?_
  refine g_bipush (v := 111) C d_X12_init_229 rfl ?_
  refine q_ia C K (by decide) (by decide) (k := 4) rfl (by unfold vp_in; decide) d_X12_init_231 ?_
  refine g_dup C d_X12_init_232 rfl ?_
  refine g_iconst (v := 5) C d_X12_init_233 rfl ?_
  refine g_bipush (v := 110) C d_X12_init_234 rfl ?_
  refine q_ia C K (by decide) (by decide) (k := 5) rfl (by unfold vp_in; decide) d_X12_init_236 ?_
  refine g_dup C d_X12_init_237 rfl ?_
  refine g_bipush (v := 6) C d_X12_init_238 rfl ?_
  refine g_bipush (v := 103) C d_X12_init_240 rfl ?_
  refine q_ia C K (by decide) (by decide) (k := 6) rfl (by unfold vp_in; decide) d_X12_init_242 ?_
  refine g_dup C d_X12_init_243 rfl ?_
  refine g_bipush (v := 7) C d_X12_init_244 rfl ?_
  refine g_bipush (v := 115) C d_X12_init_246 rfl ?_
  refine q_ia C K (by decide) (by decide) (k := 7) rfl (by unfold vp_in; decide) d_X12_init_248 ?_
  refine g_dup C d_X12_init_249 rfl ?_
  refine g_bipush (v := 8) C d_X12_init_250 rfl ?_
  refine g_bipush (v := 115) C d_X12_init_252 rfl ?_
  refine q_ia C K (by decide) (by decide) (k := 8) rfl (by unfold vp_in; decide) d_X12_init_254 ?_
  refine g_dup C d_X12_init_255 rfl ?_
  refine g_bipush (v := 9) C d_X12_init_256 rfl ?_
  refine g_bipush (v := 117) C d_X12_init_258 rfl ?_
  refine q_ia C K (by decide) (by decide) (k := 9) rfl (by unfold vp_in; decide) d_X12_init_260 ?_
  exact h
theorem t12_261 {p : Program} {l : Launch} {e : Env} {R : Room} {s : State} {m : MethodId} {args : Array Value} {below : List Frame} {meth : Method} {c : Code} {cells slots : Nat} {Q : State → Prop} {G : GG} {M : Mm} {X : va_E} {f : Nat → Int32} (C : GX p s m args c prog_14_method_1_code 1 "SnowSentriesModel") (K : KC G s)
    (h : Zg p l e R s m args below meth c 1 Q cells slots (FC s G 0 12 (EPy G M 11 (.inl (gC G 0, 79, .inl (upd (upd (upd (upd (upd (upd (upd (upd (upd (upd f 10 110) 11 102) 12 114) 13 111) 14 115) 15 116) 16 116) 17 114) 18 101) 19 97))) X)) 321 [(0, .ref (gB G + 0))] [.ref (gB G + 11), .ref (gB G + 0)]) : Zg p l e R s m args below meth c 1 Q cells slots (FC s G 0 12 (EPy G M 11 (.inl (gC G 0, 79, .inl f)) X)) 261 [(0, .ref (gB G + 0))] [.ref (gB G + 11), .ref (gB G + 0)] := by
  refine g_dup C d_X12_init_261 rfl ?_
  refine g_bipush (v := 10) C d_X12_init_262 rfl ?_
  refine g_bipush (v := 110) C d_X12_init_264 rfl ?_
  refine q_ia C K (by decide) (by decide) (k := 10) rfl (by unfold vp_in; decide) d_X12_init_266 ?_
  refine g_dup C d_X12_init_267 rfl ?_
  refine g_bipush (v := 11) C d_X12_init_268 rfl ?_
  refine g_bipush (v := 102) C d_X12_init_270 rfl ?_
  refine q_ia C K (by decide) (by decide) (k := 11) rfl (by unfold vp_in; decide) d_X12_init_272 ?_
  refine g_dup C d_X12_init_273 rfl ?_
  refine g_bipush (v := 12) C d_X12_init_274 rfl ?_
  refine g_bipush (v := 114) C d_X12_init_276 rfl ?_
  refine q_ia C K (by decide) (by decide) (k := 12) rfl (by unfold vp_in; decide) d_X12_init_278 ?_
  refine g_dup C d_X12_init_279 rfl ?_
  refine g_bipush (v := 13) C d_X12_init_280 rfl ?_
  refine g_bipush (v := 111) C d_X12_init_282 rfl ?_
  refine q_ia C K (by decide) (by decide) (k := 13) rfl (by unfold vp_in; decide) d_X12_init_284 ?_
  refine g_dup C d_X12_init_285 rfl ?_
  refine g_bipush (v := 14) C d_X12_init_286 rfl ?_
  refine g_bipush (v := 115) C d_X12_init_288 rfl ?_
  refine q_ia C K (by decide) (by decide) (k := 14) rfl (by unfold vp_in; decide) d_X12_init_290 ?_
  refine g_dup C d_X12_init_291 rfl ?_
  refine g_bipush (v := 15) C d_X12_init_292 rfl ?_
  refine g_bipush (v := 116) C d_X12_init_294 rfl ?_
  refine q_ia C K (by decide) (by decide) (k := 15) rfl (by unfold vp_in; decide) d_X12_init_296 ?_
  refine g_dup C d_X12_init_297 rfl ?_
  refine g_bipush (v := 16) C d_X12_init_298 rfl ?_
  refine g_bipush (v := 116) C d_X12_init_300 rfl ?_
  refine q_ia C K (by decide) (by decide) (k := 16) rfl (by unfold vp_in; decide) d_X12_init_302 ?_
  refine g_dup C d_X12_init_303 rfl ?_
  refine g_bipush (v := 17) C d_X12_init_304 rfl ?_
  refine g_bipush (v := 114) C d_X12_init_306 rfl ?_
  refine q_ia C K (by decide) (by decide) (k := 17) rfl (by unfold vp_in; decide) d_X12_init_308 ?_
  refine g_dup C d_X12_init_309 rfl ?_
  refine g_bipush (v := 18) C d_X12_init_310 rfl ?_
  refine g_bipush (v := 101) C d_X12_init_312 rfl ?_
  refine q_ia C K (by decide) (by decide) (k := 18) rfl (by unfold vp_in; decide) d_X12_init_314 ?_
  refine g_dup C d_X12_init_315 rfl ?_
  refine g_bipush (v := 19) C d_X12_init_316 rfl ?_
  refine g_bipush (v := 97) C d_X12_init_318 rfl ?_
  refine q_ia C K (by decide) (by decide) (k := 19) rfl (by unfold vp_in; decide) d_X12_init_320 ?_
  exact h
theorem t12_321 {p : Program} {l : Launch} {e : Env} {R : Room} {s : State} {m : MethodId} {args : Array Value} {below : List Frame} {meth : Method} {c : Code} {cells slots : Nat} {Q : State → Prop} {G : GG} {M : Mm} {X : va_E} {f : Nat → Int32} (C : GX p s m args c prog_14_method_1_code 1 "SnowSentriesModel") (K : KC G s)
    (h : Zg p l e R s m args below meth c 1 Q cells slots (FC s G 0 12 (EPy G M 11 (.inl (gC G 0, 79, .inl (upd (upd (upd (upd (upd (upd (upd (upd (upd (upd f 20 116) 21 121) 22 115) 23 110) 24 111) 25 119) 26 109) 27 97) 28 110) 29 98))) X)) 381 [(0, .ref (gB G + 0))] [.ref (gB G + 11), .ref (gB G + 0)]) : Zg p l e R s m args below meth c 1 Q cells slots (FC s G 0 12 (EPy G M 11 (.inl (gC G 0, 79, .inl f)) X)) 321 [(0, .ref (gB G + 0))] [.ref (gB G + 11), .ref (gB G + 0)] := by
  refine g_dup C d_X12_init_321 rfl ?_
  refine g_bipush (v := 20) C d_X12_init_322 rfl ?_
  refine g_bipush (v := 116) C d_X12_init_324 rfl ?_
  refine q_ia C K (by decide) (by decide) (k := 20) rfl (by unfold vp_in; decide) d_X12_init_326 ?_
  refine g_dup C d_X12_init_327 rfl ?_
  refine g_bipush (v := 21) C d_X12_init_328 rfl ?_
  refine g_bipush (v := 121) C d_X12_init_330 rfl ?_
  refine q_ia C K (by decide) (by decide) (k := 21) rfl (by unfold vp_in; decide) d_X12_init_332 ?_
  refine g_dup C d_X12_init_333 rfl ?_
  refine g_bipush (v := 22) C d_X12_init_334 rfl ?_
  refine g_bipush (v := 115) C d_X12_init_336 rfl ?_
  refine q_ia C K (by decide) (by decide) (k := 22) rfl (by unfold vp_in; decide) d_X12_init_338 ?_
  refine g_dup C d_X12_init_339 rfl ?_
  refine g_bipush (v := 23) C d_X12_init_340 rfl ?_
  refine g_bipush (v := 110) C d_X12_init_342 rfl ?_
  refine q_ia C K (by decide) (by decide) (k := 23) rfl (by unfold vp_in; decide) d_X12_init_344 ?_
  refine g_dup C d_X12_init_345 rfl ?_
  refine g_bipush (v := 24) C d_X12_init_346 rfl ?_
  refine g_bipush (v := 111) C d_X12_init_348 rfl ?_
  refine q_ia C K (by decide) (by decide) (k := 24) rfl (by unfold vp_in; decide) d_X12_init_350 ?_
  refine g_dup C d_X12_init_351 rfl ?_
  refine g_bipush (v := 25) C d_X12_init_352 rfl ?_
  refine g_bipush (v := 119) C d_X12_init_354 rfl ?_
  refine q_ia C K (by decide) (by decide) (k := 25) rfl (by unfold vp_in; decide) d_X12_init_356 ?_
  refine g_dup C d_X12_init_357 rfl ?_
  refine g_bipush (v := 26) C d_X12_init_358 rfl ?_
  refine g_bipush (v := 109) C d_X12_init_360 rfl ?_
  refine q_ia C K (by decide) (by decide) (k := 26) rfl (by unfold vp_in; decide) d_X12_init_362 ?_
  refine g_dup C d_X12_init_363 rfl ?_
  refine g_bipush (v := 27) C d_X12_init_364 rfl ?_
  refine g_bipush (v := 97) C d_X12_init_366 rfl ?_
  refine q_ia C K (by decide) (by decide) (k := 27) rfl (by unfold vp_in; decide) d_X12_init_368 ?_
  refine g_dup C d_X12_init_369 rfl ?_
  refine g_bipush (v := 28) C d_X12_init_370 rfl ?_
  refine g_bipush (v := 110) C d_X12_init_372 rfl ?_
  refine q_ia C K (by decide) (by decide) (k := 28) rfl (by unfold vp_in; decide) d_X12_init_374 ?_
  refine g_dup C d_X12_init_375 rfl ?_
  refine g_bipush (v := 29) C d_X12_init_376 rfl ?_
  refine g_bipush (v := 98) C d_X12_init_378 rfl ?_
  refine q_ia C K (by decide) (by decide) (k := 29) rfl (by unfold vp_in; decide) d_X12_init_380 ?_
  exact h
theorem t12_381 {p : Program} {l : Launch} {e : Env} {R : Room} {s : State} {m : MethodId} {args : Array Value} {below : List Frame} {meth : Method} {c : Code} {cells slots : Nat} {Q : State → Prop} {G : GG} {M : Mm} {X : va_E} {f : Nat → Int32} (C : GX p s m args c prog_14_method_1_code 1 "SnowSentriesModel") (K : KC G s)
    (h : Zg p l e R s m args below meth c 1 Q cells slots (FC s G 0 12 (EPy G M 11 (.inl (gC G 0, 79, .inl (upd (upd (upd (upd (upd (upd (upd (upd (upd (upd f 30 114) 31 97) 32 122) 33 105) 34 101) 35 114) 36 104) 37 111) 38 117) 39 115))) X)) 441 [(0, .ref (gB G + 0))] [.ref (gB G + 11), .ref (gB G + 0)]) : Zg p l e R s m args below meth c 1 Q cells slots (FC s G 0 12 (EPy G M 11 (.inl (gC G 0, 79, .inl f)) X)) 381 [(0, .ref (gB G + 0))] [.ref (gB G + 11), .ref (gB G + 0)] := by
  refine g_dup C d_X12_init_381 rfl ?_
  refine g_bipush (v := 30) C d_X12_init_382 rfl ?_
  refine g_bipush (v := 114) C d_X12_init_384 rfl ?_
  refine q_ia C K (by decide) (by decide) (k := 30) rfl (by unfold vp_in; decide) d_X12_init_386 ?_
  refine g_dup C d_X12_init_387 rfl ?_
  refine g_bipush (v := 31) C d_X12_init_388 rfl ?_
  refine g_bipush (v := 97) C d_X12_init_390 rfl ?_
  refine q_ia C K (by decide) (by decide) (k := 31) rfl (by unfold vp_in; decide) d_X12_init_392 ?_
  refine g_dup C d_X12_init_393 rfl ?_
  refine g_bipush (v := 32) C d_X12_init_394 rfl ?_
  refine g_bipush (v := 122) C d_X12_init_396 rfl ?_
  refine q_ia C K (by decide) (by decide) (k := 32) rfl (by unfold vp_in; decide) d_X12_init_398 ?_
  refine g_dup C d_X12_init_399 rfl ?_
  refine g_bipush (v := 33) C d_X12_init_400 rfl ?_
  refine g_bipush (v := 105) C d_X12_init_402 rfl ?_
  refine q_ia C K (by decide) (by decide) (k := 33) rfl (by unfold vp_in; decide) d_X12_init_404 ?_
  refine g_dup C d_X12_init_405 rfl ?_
  refine g_bipush (v := 34) C d_X12_init_406 rfl ?_
  refine g_bipush (v := 101) C d_X12_init_408 rfl ?_
  refine q_ia C K (by decide) (by decide) (k := 34) rfl (by unfold vp_in; decide) d_X12_init_410 ?_
  refine g_dup C d_X12_init_411 rfl ?_
  refine g_bipush (v := 35) C d_X12_init_412 rfl ?_
  refine g_bipush (v := 114) C d_X12_init_414 rfl ?_
  refine q_ia C K (by decide) (by decide) (k := 35) rfl (by unfold vp_in; decide) d_X12_init_416 ?_
  refine g_dup C d_X12_init_417 rfl ?_
  refine g_bipush (v := 36) C d_X12_init_418 rfl ?_
  refine g_bipush (v := 104) C d_X12_init_420 rfl ?_
  refine q_ia C K (by decide) (by decide) (k := 36) rfl (by unfold vp_in; decide) d_X12_init_422 ?_
  refine g_dup C d_X12_init_423 rfl ?_
  refine g_bipush (v := 37) C d_X12_init_424 rfl ?_
  refine g_bipush (v := 111) C d_X12_init_426 rfl ?_
  refine q_ia C K (by decide) (by decide) (k := 37) rfl (by unfold vp_in; decide) d_X12_init_428 ?_
  refine g_dup C d_X12_init_429 rfl ?_
  refine g_bipush (v := 38) C d_X12_init_430 rfl ?_
  refine g_bipush (v := 117) C d_X12_init_432 rfl ?_
  refine q_ia C K (by decide) (by decide) (k := 38) rfl (by unfold vp_in; decide) d_X12_init_434 ?_
  refine g_dup C d_X12_init_435 rfl ?_
  refine g_bipush (v := 39) C d_X12_init_436 rfl ?_
  refine g_bipush (v := 115) C d_X12_init_438 rfl ?_
  refine q_ia C K (by decide) (by decide) (k := 39) rfl (by unfold vp_in; decide) d_X12_init_440 ?_
  exact h
theorem t12_441 {p : Program} {l : Launch} {e : Env} {R : Room} {s : State} {m : MethodId} {args : Array Value} {below : List Frame} {meth : Method} {c : Code} {cells slots : Nat} {Q : State → Prop} {G : GG} {M : Mm} {X : va_E} {f : Nat → Int32} (C : GX p s m args c prog_14_method_1_code 1 "SnowSentriesModel") (K : KC G s)
    (h : Zg p l e R s m args below meth c 1 Q cells slots (FC s G 0 12 (EPy G M 11 (.inl (gC G 0, 79, .inl (upd (upd (upd (upd (upd (upd (upd (upd (upd (upd f 40 101) 41 119) 42 101) 43 115) 44 116) 45 101) 46 97) 47 115) 48 116) 49 112))) X)) 501 [(0, .ref (gB G + 0))] [.ref (gB G + 11), .ref (gB G + 0)]) : Zg p l e R s m args below meth c 1 Q cells slots (FC s G 0 12 (EPy G M 11 (.inl (gC G 0, 79, .inl f)) X)) 441 [(0, .ref (gB G + 0))] [.ref (gB G + 11), .ref (gB G + 0)] := by
  refine g_dup C d_X12_init_441 rfl ?_
  refine g_bipush (v := 40) C d_X12_init_442 rfl ?_
  refine g_bipush (v := 101) C d_X12_init_444 rfl ?_
  refine q_ia C K (by decide) (by decide) (k := 40) rfl (by unfold vp_in; decide) d_X12_init_446 ?_
  refine g_dup C d_X12_init_447 rfl ?_
  refine g_bipush (v := 41) C d_X12_init_448 rfl ?_
  refine g_bipush (v := 119) C d_X12_init_450 rfl ?_
  refine q_ia C K (by decide) (by decide) (k := 41) rfl (by unfold vp_in; decide) d_X12_init_452 ?_
  refine g_dup C d_X12_init_453 rfl ?_
  refine g_bipush (v := 42) C d_X12_init_454 rfl ?_
  refine g_bipush (v := 101) C d_X12_init_456 rfl ?_
  refine q_ia C K (by decide) (by decide) (k := 42) rfl (by unfold vp_in; decide) d_X12_init_458 ?_
  refine g_dup C d_X12_init_459 rfl ?_
  refine g_bipush (v := 43) C d_X12_init_460 rfl ?_
  refine g_bipush (v := 115) C d_X12_init_462 rfl ?_
  refine q_ia C K (by decide) (by decide) (k := 43) rfl (by unfold vp_in; decide) d_X12_init_464 ?_
  refine g_dup C d_X12_init_465 rfl ?_
  refine g_bipush (v := 44) C d_X12_init_466 rfl ?_
  refine g_bipush (v := 116) C d_X12_init_468 rfl ?_
  refine q_ia C K (by decide) (by decide) (k := 44) rfl (by unfold vp_in; decide) d_X12_init_470 ?_
  refine g_dup C d_X12_init_471 rfl ?_
  refine g_bipush (v := 45) C d_X12_init_472 rfl ?_
  refine g_bipush (v := 101) C d_X12_init_474 rfl ?_
  refine q_ia C K (by decide) (by decide) (k := 45) rfl (by unfold vp_in; decide) d_X12_init_476 ?_
  refine g_dup C d_X12_init_477 rfl ?_
  refine g_bipush (v := 46) C d_X12_init_478 rfl ?_
  refine g_bipush (v := 97) C d_X12_init_480 rfl ?_
  refine q_ia C K (by decide) (by decide) (k := 46) rfl (by unfold vp_in; decide) d_X12_init_482 ?_
  refine g_dup C d_X12_init_483 rfl ?_
  refine g_bipush (v := 47) C d_X12_init_484 rfl ?_
  refine g_bipush (v := 115) C d_X12_init_486 rfl ?_
  refine q_ia C K (by decide) (by decide) (k := 47) rfl (by unfold vp_in; decide) d_X12_init_488 ?_
  refine g_dup C d_X12_init_489 rfl ?_
  refine g_bipush (v := 48) C d_X12_init_490 rfl ?_
  refine g_bipush (v := 116) C d_X12_init_492 rfl ?_
  refine q_ia C K (by decide) (by decide) (k := 48) rfl (by unfold vp_in; decide) d_X12_init_494 ?_
  refine g_dup C d_X12_init_495 rfl ?_
  refine g_bipush (v := 49) C d_X12_init_496 rfl ?_
  refine g_bipush (v := 112) C d_X12_init_498 rfl ?_
  refine q_ia C K (by decide) (by decide) (k := 49) rfl (by unfold vp_in; decide) d_X12_init_500 ?_
  exact h
theorem t12_501 {p : Program} {l : Launch} {e : Env} {R : Room} {s : State} {m : MethodId} {args : Array Value} {below : List Frame} {meth : Method} {c : Code} {cells slots : Nat} {Q : State → Prop} {G : GG} {M : Mm} {X : va_E} {f : Nat → Int32} (C : GX p s m args c prog_14_method_1_code 1 "SnowSentriesModel") (K : KC G s)
    (h : Zg p l e R s m args below meth c 1 Q cells slots (FC s G 0 12 (EPy G M 11 (.inl (gC G 0, 79, .inl (upd (upd (upd (upd (upd (upd (upd (upd (upd (upd f 50 108) 51 97) 52 105) 53 110) 54 105) 55 99) 56 101) 57 100) 58 115) 59 104))) X)) 561 [(0, .ref (gB G + 0))] [.ref (gB G + 11), .ref (gB G + 0)]) : Zg p l e R s m args below meth c 1 Q cells slots (FC s G 0 12 (EPy G M 11 (.inl (gC G 0, 79, .inl f)) X)) 501 [(0, .ref (gB G + 0))] [.ref (gB G + 11), .ref (gB G + 0)] := by
  refine g_dup C d_X12_init_501 rfl ?_
  refine g_bipush (v := 50) C d_X12_init_502 rfl ?_
  refine g_bipush (v := 108) C d_X12_init_504 rfl ?_
  refine q_ia C K (by decide) (by decide) (k := 50) rfl (by unfold vp_in; decide) d_X12_init_506 ?_
  refine g_dup C d_X12_init_507 rfl ?_
  refine g_bipush (v := 51) C d_X12_init_508 rfl ?_
  refine g_bipush (v := 97) C d_X12_init_510 rfl ?_
  refine q_ia C K (by decide) (by decide) (k := 51) rfl (by unfold vp_in; decide) d_X12_init_512 ?_
  refine g_dup C d_X12_init_513 rfl ?_
  refine g_bipush (v := 52) C d_X12_init_514 rfl ?_
  refine g_bipush (v := 105) C d_X12_init_516 rfl ?_
  refine q_ia C K (by decide) (by decide) (k := 52) rfl (by unfold vp_in; decide) d_X12_init_518 ?_
  refine g_dup C d_X12_init_519 rfl ?_
  refine g_bipush (v := 53) C d_X12_init_520 rfl ?_
  refine g_bipush (v := 110) C d_X12_init_522 rfl ?_
  refine q_ia C K (by decide) (by decide) (k := 53) rfl (by unfold vp_in; decide) d_X12_init_524 ?_
  refine g_dup C d_X12_init_525 rfl ?_
  refine g_bipush (v := 54) C d_X12_init_526 rfl ?_
  refine g_bipush (v := 105) C d_X12_init_528 rfl ?_
  refine q_ia C K (by decide) (by decide) (k := 54) rfl (by unfold vp_in; decide) d_X12_init_530 ?_
  refine g_dup C d_X12_init_531 rfl ?_
  refine g_bipush (v := 55) C d_X12_init_532 rfl ?_
  refine g_bipush (v := 99) C d_X12_init_534 rfl ?_
  refine q_ia C K (by decide) (by decide) (k := 55) rfl (by unfold vp_in; decide) d_X12_init_536 ?_
  refine g_dup C d_X12_init_537 rfl ?_
  refine g_bipush (v := 56) C d_X12_init_538 rfl ?_
  refine g_bipush (v := 101) C d_X12_init_540 rfl ?_
  refine q_ia C K (by decide) (by decide) (k := 56) rfl (by unfold vp_in; decide) d_X12_init_542 ?_
  refine g_dup C d_X12_init_543 rfl ?_
  refine g_bipush (v := 57) C d_X12_init_544 rfl ?_
  refine g_bipush (v := 100) C d_X12_init_546 rfl ?_
  refine q_ia C K (by decide) (by decide) (k := 57) rfl (by unfold vp_in; decide) d_X12_init_548 ?_
  refine g_dup C d_X12_init_549 rfl ?_
  refine g_bipush (v := 58) C d_X12_init_550 rfl ?_
  refine g_bipush (v := 115) C d_X12_init_552 rfl ?_
  refine q_ia C K (by decide) (by decide) (k := 58) rfl (by unfold vp_in; decide) d_X12_init_554 ?_
  refine g_dup C d_X12_init_555 rfl ?_
  refine g_bipush (v := 59) C d_X12_init_556 rfl ?_
  refine g_bipush (v := 104) C d_X12_init_558 rfl ?_
  refine q_ia C K (by decide) (by decide) (k := 59) rfl (by unfold vp_in; decide) d_X12_init_560 ?_
  exact h
theorem t12_561 {p : Program} {l : Launch} {e : Env} {R : Room} {s : State} {m : MethodId} {args : Array Value} {below : List Frame} {meth : Method} {c : Code} {cells slots : Nat} {Q : State → Prop} {G : GG} {M : Mm} {X : va_E} {f : Nat → Int32} (C : GX p s m args c prog_14_method_1_code 1 "SnowSentriesModel") (K : KC G s)
    (h : Zg p l e R s m args below meth c 1 Q cells slots (FC s G 0 12 (EPy G M 11 (.inl (gC G 0, 79, .inl (upd (upd (upd (upd (upd (upd (upd (upd (upd (upd f 60 97) 61 100) 62 101) 63 100) 64 112) 65 97) 66 99) 67 107) 68 101) 69 100))) X)) 621 [(0, .ref (gB G + 0))] [.ref (gB G + 11), .ref (gB G + 0)]) : Zg p l e R s m args below meth c 1 Q cells slots (FC s G 0 12 (EPy G M 11 (.inl (gC G 0, 79, .inl f)) X)) 561 [(0, .ref (gB G + 0))] [.ref (gB G + 11), .ref (gB G + 0)] := by
  refine g_dup C d_X12_init_561 rfl ?_
  refine g_bipush (v := 60) C d_X12_init_562 rfl ?_
  refine g_bipush (v := 97) C d_X12_init_564 rfl ?_
  refine q_ia C K (by decide) (by decide) (k := 60) rfl (by unfold vp_in; decide) d_X12_init_566 ?_
  refine g_dup C d_X12_init_567 rfl ?_
  refine g_bipush (v := 61) C d_X12_init_568 rfl ?_
  refine g_bipush (v := 100) C d_X12_init_570 rfl ?_
  refine q_ia C K (by decide) (by decide) (k := 61) rfl (by unfold vp_in; decide) d_X12_init_572 ?_
  refine g_dup C d_X12_init_573 rfl ?_
  refine g_bipush (v := 62) C d_X12_init_574 rfl ?_
  refine g_bipush (v := 101) C d_X12_init_576 rfl ?_
  refine q_ia C K (by decide) (by decide) (k := 62) rfl (by unfold vp_in; decide) d_X12_init_578 ?_
  refine g_dup C d_X12_init_579 rfl ?_
  refine g_bipush (v := 63) C d_X12_init_580 rfl ?_
  refine g_bipush (v := 100) C d_X12_init_582 rfl ?_
  refine q_ia C K (by decide) (by decide) (k := 63) rfl (by unfold vp_in; decide) d_X12_init_584 ?_
  refine g_dup C d_X12_init_585 rfl ?_
  refine g_bipush (v := 64) C d_X12_init_586 rfl ?_
  refine g_bipush (v := 112) C d_X12_init_588 rfl ?_
  refine q_ia C K (by decide) (by decide) (k := 64) rfl (by unfold vp_in; decide) d_X12_init_590 ?_
  refine g_dup C d_X12_init_591 rfl ?_
  refine g_bipush (v := 65) C d_X12_init_592 rfl ?_
  refine g_bipush (v := 97) C d_X12_init_594 rfl ?_
  refine q_ia C K (by decide) (by decide) (k := 65) rfl (by unfold vp_in; decide) d_X12_init_596 ?_
  refine g_dup C d_X12_init_597 rfl ?_
  refine g_bipush (v := 66) C d_X12_init_598 rfl ?_
  refine g_bipush (v := 99) C d_X12_init_600 rfl ?_
  refine q_ia C K (by decide) (by decide) (k := 66) rfl (by unfold vp_in; decide) d_X12_init_602 ?_
  refine g_dup C d_X12_init_603 rfl ?_
  refine g_bipush (v := 67) C d_X12_init_604 rfl ?_
  refine g_bipush (v := 107) C d_X12_init_606 rfl ?_
  refine q_ia C K (by decide) (by decide) (k := 67) rfl (by unfold vp_in; decide) d_X12_init_608 ?_
  refine g_dup C d_X12_init_609 rfl ?_
  refine g_bipush (v := 68) C d_X12_init_610 rfl ?_
  refine g_bipush (v := 101) C d_X12_init_612 rfl ?_
  refine q_ia C K (by decide) (by decide) (k := 68) rfl (by unfold vp_in; decide) d_X12_init_614 ?_
  refine g_dup C d_X12_init_615 rfl ?_
  refine g_bipush (v := 69) C d_X12_init_616 rfl ?_
  refine g_bipush (v := 100) C d_X12_init_618 rfl ?_
  refine q_ia C K (by decide) (by decide) (k := 69) rfl (by unfold vp_in; decide) d_X12_init_620 ?_
  exact h
theorem t12_621 {p : Program} {l : Launch} {e : Env} {R : Room} {s : State} {m : MethodId} {args : Array Value} {below : List Frame} {meth : Method} {c : Code} {cells slots : Nat} {Q : State → Prop} {G : GG} {M : Mm} {X : va_E} {f : Nat → Int32} (C : GX p s m args c prog_14_method_1_code 1 "SnowSentriesModel") (K : KC G s)
    (h : Zg p l e R s m args below meth c 1 Q cells slots (FC s G 0 12 (EPy G M 11 (.inl (gC G 0, 79, .inl (upd (upd (upd (upd (upd (upd (upd (upd (upd f 70 99) 71 104) 72 105) 73 108) 74 100) 75 98) 76 97) 77 114) 78 101))) X)) 675 [(0, .ref (gB G + 0))] [.ref (gB G + 11), .ref (gB G + 0)]) : Zg p l e R s m args below meth c 1 Q cells slots (FC s G 0 12 (EPy G M 11 (.inl (gC G 0, 79, .inl f)) X)) 621 [(0, .ref (gB G + 0))] [.ref (gB G + 11), .ref (gB G + 0)] := by
  refine g_dup C d_X12_init_621 rfl ?_
  refine g_bipush (v := 70) C d_X12_init_622 rfl ?_
  refine g_bipush (v := 99) C d_X12_init_624 rfl ?_
  refine q_ia C K (by decide) (by decide) (k := 70) rfl (by unfold vp_in; decide) d_X12_init_626 ?_
  refine g_dup C d_X12_init_627 rfl ?_
  refine g_bipush (v := 71) C d_X12_init_628 rfl ?_
  refine g_bipush (v := 104) C d_X12_init_630 rfl ?_
  refine q_ia C K (by decide) (by decide) (k := 71) rfl (by unfold vp_in; decide) d_X12_init_632 ?_
  refine g_dup C d_X12_init_633 rfl ?_
  refine g_bipush (v := 72) C d_X12_init_634 rfl ?_
  refine g_bipush (v := 105) C d_X12_init_636 rfl ?_
  refine q_ia C K (by decide) (by decide) (k := 72) rfl (by unfold vp_in; decide) d_X12_init_638 ?_
  refine g_dup C d_X12_init_639 rfl ?_
  refine g_bipush (v := 73) C d_X12_init_640 rfl ?_
  refine g_bipush (v := 108) C d_X12_init_642 rfl ?_
  refine q_ia C K (by decide) (by decide) (k := 73) rfl (by unfold vp_in; decide) d_X12_init_644 ?_
  refine g_dup C d_X12_init_645 rfl ?_
  refine g_bipush (v := 74) C d_X12_init_646 rfl ?_
  refine g_bipush (v := 100) C d_X12_init_648 rfl ?_
  refine q_ia C K (by decide) (by decide) (k := 74) rfl (by unfold vp_in; decide) d_X12_init_650 ?_
  refine g_dup C d_X12_init_651 rfl ?_
  refine g_bipush (v := 75) C d_X12_init_652 rfl ?_
  refine g_bipush (v := 98) C d_X12_init_654 rfl ?_
  refine q_ia C K (by decide) (by decide) (k := 75) rfl (by unfold vp_in; decide) d_X12_init_656 ?_
  refine g_dup C d_X12_init_657 rfl ?_
  refine g_bipush (v := 76) C d_X12_init_658 rfl ?_
  refine g_bipush (v := 97) C d_X12_init_660 rfl ?_
  refine q_ia C K (by decide) (by decide) (k := 76) rfl (by unfold vp_in; decide) d_X12_init_662 ?_
  refine g_dup C d_X12_init_663 rfl ?_
  refine g_bipush (v := 77) C d_X12_init_664 rfl ?_
  refine g_bipush (v := 114) C d_X12_init_666 rfl ?_
  refine q_ia C K (by decide) (by decide) (k := 77) rfl (by unfold vp_in; decide) d_X12_init_668 ?_
  refine g_dup C d_X12_init_669 rfl ?_
  refine g_bipush (v := 78) C d_X12_init_670 rfl ?_
  refine g_bipush (v := 101) C d_X12_init_672 rfl ?_
  refine q_ia C K (by decide) (by decide) (k := 78) rfl (by unfold vp_in; decide) d_X12_init_674 ?_
  exact h
theorem t12_714 {p : Program} {l : Launch} {e : Env} {R : Room} {s : State} {m : MethodId} {args : Array Value} {below : List Frame} {meth : Method} {c : Code} {cells slots : Nat} {Q : State → Prop} {G : GG} {M : Mm} {X : va_E} {f : Nat → Int32} (C : GX p s m args c prog_14_method_1_code 1 "SnowSentriesModel") (K : KC G s)
    (h : Zg p l e R s m args below meth c 1 Q cells slots (FC s G 0 17 (EPy G M 16 (.inl (gC G 0, 4, .inl (upd (upd (upd (upd f 0 (-4)) 1 (-4)) 2 (-4)) 3 (-4)))) X)) 734 [(0, .ref (gB G + 0))] [.ref (gB G + 16), .ref (gB G + 0)]) : Zg p l e R s m args below meth c 1 Q cells slots (FC s G 0 17 (EPy G M 16 (.inl (gC G 0, 4, .inl f)) X)) 714 [(0, .ref (gB G + 0))] [.ref (gB G + 16), .ref (gB G + 0)] := by
  refine g_dup C d_X12_init_714 rfl ?_
  refine g_iconst (v := 0) C d_X12_init_715 rfl ?_
  refine g_bipush (v := -4) C d_X12_init_716 rfl ?_
  refine q_ia C K (by decide) (by decide) (k := 0) rfl (by unfold vp_in; decide) d_X12_init_718 ?_
  refine g_dup C d_X12_init_719 rfl ?_
  refine g_iconst (v := 1) C d_X12_init_720 rfl ?_
  refine g_bipush (v := -4) C d_X12_init_721 rfl ?_
  refine q_ia C K (by decide) (by decide) (k := 1) rfl (by unfold vp_in; decide) d_X12_init_723 ?_
  refine g_dup C d_X12_init_724 rfl ?_
  refine g_iconst (v := 2) C d_X12_init_725 rfl ?_
  refine g_bipush (v := -4) C d_X12_init_726 rfl ?_
  refine q_ia C K (by decide) (by decide) (k := 2) rfl (by unfold vp_in; decide) d_X12_init_728 ?_
  refine g_dup C d_X12_init_729 rfl ?_
  refine g_iconst (v := 3) C d_X12_init_730 rfl ?_
  refine g_bipush (v := -4) C d_X12_init_731 rfl ?_
  refine q_ia C K (by decide) (by decide) (k := 3) rfl (by unfold vp_in; decide) d_X12_init_733 ?_
  exact h
theorem en3 (G : GG) : EU 1 G Ni 3 = .inl (gC G 0, 3, .inl (upd (upd (upd (fun _ => 0) 0 1) 1 0) 2 0)) := by
  have e : tb3 = (upd (upd (upd (fun _ => 0) 0 1) 1 0) 2 0) := (updL_tb (l := tbl3) (N := 3) rfl).symm
  rw [← e]
  rfl
theorem en10 (G : GG) : EU 1 G Ni 10 = .inl (gC G 0, 17, .inl (upd (upd (upd (upd (upd (upd (upd (upd (upd (upd (upd (upd (upd (upd (upd (upd (upd (fun _ => 0) 0 0) 1 8) 2 11) 3 16) 4 22) 5 26) 6 29) 7 36) 8 41) 9 45) 10 49) 11 54) 12 58) 13 64) 14 70) 15 75) 16 79)) := by
  have e : tb10 = (upd (upd (upd (upd (upd (upd (upd (upd (upd (upd (upd (upd (upd (upd (upd (upd (upd (fun _ => 0) 0 0) 1 8) 2 11) 3 16) 4 22) 5 26) 6 29) 7 36) 8 41) 9 45) 10 49) 11 54) 12 58) 13 64) 14 70) 15 75) 16 79) := (updL_tb (l := tbl10) (N := 17) rfl).symm
  rw [← e]
  rfl
theorem en11 (G : GG) : EU 1 G Ni 11 = .inl (gC G 0, 79, .inl (upd (upd (upd (upd (upd (upd (upd (upd (upd (upd (upd (upd (upd (upd (upd (upd (upd (upd (upd (upd (upd (upd (upd (upd (upd (upd (upd (upd (upd (upd (upd (upd (upd (upd (upd (upd (upd (upd (upd (upd (upd (upd (upd (upd (upd (upd (upd (upd (upd (upd (upd (upd (upd (upd (upd (upd (upd (upd (upd (upd (upd (upd (upd (upd (upd (upd (upd (upd (upd (upd (upd (upd (upd (upd (upd (upd (upd (upd (upd (fun _ => 0) 0 102) 1 117) 2 114) 3 108) 4 111) 5 110) 6 103) 7 115) 8 115) 9 117) 10 110) 11 102) 12 114) 13 111) 14 115) 15 116) 16 116) 17 114) 18 101) 19 97) 20 116) 21 121) 22 115) 23 110) 24 111) 25 119) 26 109) 27 97) 28 110) 29 98) 30 114) 31 97) 32 122) 33 105) 34 101) 35 114) 36 104) 37 111) 38 117) 39 115) 40 101) 41 119) 42 101) 43 115) 44 116) 45 101) 46 97) 47 115) 48 116) 49 112) 50 108) 51 97) 52 105) 53 110) 54 105) 55 99) 56 101) 57 100) 58 115) 59 104) 60 97) 61 100) 62 101) 63 100) 64 112) 65 97) 66 99) 67 107) 68 101) 69 100) 70 99) 71 104) 72 105) 73 108) 74 100) 75 98) 76 97) 77 114) 78 101)) := by
  have e : tb11 = (upd (upd (upd (upd (upd (upd (upd (upd (upd (upd (upd (upd (upd (upd (upd (upd (upd (upd (upd (upd (upd (upd (upd (upd (upd (upd (upd (upd (upd (upd (upd (upd (upd (upd (upd (upd (upd (upd (upd (upd (upd (upd (upd (upd (upd (upd (upd (upd (upd (upd (upd (upd (upd (upd (upd (upd (upd (upd (upd (upd (upd (upd (upd (upd (upd (upd (upd (upd (upd (upd (upd (upd (upd (upd (upd (upd (upd (upd (upd (fun _ => 0) 0 102) 1 117) 2 114) 3 108) 4 111) 5 110) 6 103) 7 115) 8 115) 9 117) 10 110) 11 102) 12 114) 13 111) 14 115) 15 116) 16 116) 17 114) 18 101) 19 97) 20 116) 21 121) 22 115) 23 110) 24 111) 25 119) 26 109) 27 97) 28 110) 29 98) 30 114) 31 97) 32 122) 33 105) 34 101) 35 114) 36 104) 37 111) 38 117) 39 115) 40 101) 41 119) 42 101) 43 115) 44 116) 45 101) 46 97) 47 115) 48 116) 49 112) 50 108) 51 97) 52 105) 53 110) 54 105) 55 99) 56 101) 57 100) 58 115) 59 104) 60 97) 61 100) 62 101) 63 100) 64 112) 65 97) 66 99) 67 107) 68 101) 69 100) 70 99) 71 104) 72 105) 73 108) 74 100) 75 98) 76 97) 77 114) 78 101) := (updL_tb (l := tbl11) (N := 79) rfl).symm
  rw [← e]
  rfl
theorem en16 (G : GG) : EU 1 G Ni 16 = .inl (gC G 0, 4, .inl (upd (upd (upd (upd (fun _ => 0) 0 (-4)) 1 (-4)) 2 (-4)) 3 (-4))) := by
  have e : tb16 = (upd (upd (upd (upd (fun _ => 0) 0 (-4)) 1 (-4)) 2 (-4)) 3 (-4)) := (updL_tb (l := tbl16) (N := 4) rfl).symm
  rw [← e]
  rfl
theorem ez1 (G : GG) : EU 1 G Ni 1 = .inl (gC G 0, 840, .inl fun _ => 0) := rfl
theorem ez2 (G : GG) : EU 1 G Ni 2 = .inl (gC G 0, 12, .inl fun _ => 0) := rfl
theorem ez4 (G : GG) : EU 1 G Ni 4 = .inl (gC G 0, 16, .inl fun _ => 0) := rfl
theorem ez5 (G : GG) : EU 1 G Ni 5 = .inl (gC G 0, 210, .inl fun _ => 0) := rfl
theorem ez6 (G : GG) : EU 1 G Ni 6 = .inl (gC G 0, 12, .inl fun _ => 0) := rfl
theorem ez7 (G : GG) : EU 1 G Ni 7 = .inl (gC G 0, 3, .inl fun _ => 0) := rfl
theorem ez8 (G : GG) : EU 1 G Ni 8 = .inl (gC G 0, 16, .inl fun _ => 0) := rfl
theorem ez9 (G : GG) : EU 1 G Ni 9 = .inl (gC G 0, 400, .inl fun _ => 0) := rfl
theorem ez12 (G : GG) : EU 1 G Ni 12 = .inl (gC G 0, 10, .inl fun _ => 0) := rfl
theorem ez13 (G : GG) : EU 1 G Ni 13 = .inl (gC G 0, 130, .inl fun _ => 0) := rfl
theorem ez14 (G : GG) : EU 1 G Ni 14 = .inl (gC G 0, 10, .inl fun _ => 0) := rfl
theorem ez15 (G : GG) : EU 1 G Ni 15 = .inl (gC G 2, 2, .inl fun _ => 0) := rfl
theorem ez17 (G : GG) : EU 1 G Ni 17 = .inl (gC G 0, 4, .inl fun _ => 0) := rfl
theorem ez18 (G : GG) : EU 1 G Ni 18 = .inl (gC G 0, 160, .inl fun _ => 0) := rfl
theorem u12_4 {p : Program} {l : Launch} {e : Env} {s : State} {m : MethodId} {args : Array Value} {below : List Frame} {meth : Method} {c : Code} {Q : State → Prop} {G : GG} (C : GX p s m args c prog_14_method_1_code 1 "SnowSentriesModel") (K : KC G s) (hs0 : s.heap.size = gB G + (0 + 1)) (hnm : meth.name = "<init>")
    (h : Zg p l e { frames := 1, cells := 18, slots := 1928, locals := 12 } s m args below meth c 1 Q 1 840 (FC s G 0 2 (EPz G Ni (.inr (12, [.ref (gB G + 1), .int 0, .null, .null, .null, .int 0, .int 0, .null, .null, .null, .null, .int 0, .int 0, .int 0, .int 0, .int 0, .null, .int 0, .int 0, .int 0, .int 0, .int 0, .int 0, .int 0, .int 0, .null, .null, .null, .null, .null, .int 0, .null, .null, .null, .null, .int 0])))) 13 [(0, .ref (gB G + 0))] []) : Zg p l e { frames := 1, cells := 18, slots := 1928, locals := 12 } s m args below meth c 1 Q 0 0 (FC s G 0 1 (EPz G Ni (.inr (12, [.null, .int 0, .null, .null, .null, .int 0, .int 0, .null, .null, .null, .null, .int 0, .int 0, .int 0, .int 0, .int 0, .null, .int 0, .int 0, .int 0, .int 0, .int 0, .int 0, .int 0, .int 0, .null, .null, .null, .null, .null, .int 0, .null, .null, .null, .null, .int 0])))) 4 [(0, .ref (gB G + 0))] [] := by
  refine g_aload_n (x := gB G + 0) 0 C d_X12_init_4 rfl rfl ?_
  refine g_sipush (v := 840) C d_X12_init_5 rfl ?_
  refine k_newa (n := 1) (cells := 0) (slots := 0) (t := 0) (N := 840) (atype := .int) (a0 := (840, .inl fun _ => 0)) C K (by omega) (by omega) (by omega) wA_int rfl rfl (fun _ _ h => h) (fun _ => rfl) (by decide) rfl (by decide) (Nat.le_of_ble_eq_true rfl) (Nat.le_of_ble_eq_true rfl) d_X12_init_8 ?_
  rw [up1_self (EPz G Ni _) 1 (x := .inl (gC G 0, 840, .inl fun _ => 0)) ((EPz_n (by decide)).trans (ez1 G))]
  refine k_put (n := 2) (a := 0) (k := 0) (ty := .array .int) (fs := [.null, .int 0, .null, .null, .null, .int 0, .int 0, .null, .null, .null, .null, .int 0, .int 0, .int 0, .int 0, .int 0, .null, .int 0, .int 0, .int 0, .int 0, .int 0, .int 0, .int 0, .int 0, .null, .null, .null, .null, .null, .int 0, .null, .null, .null, .null, .int 0]) C K.1 (by omega) (by omega) (EPz_0 G _ _) rfl inX12 tyX12 tyX12_ok nmX12 (by decide) wf_X12_7 (Or.inr ⟨rfl, hnm, rfl⟩) (by decide +kernel) rfl rfl (Nat.le_of_ble_eq_true rfl) d_X12_init_10 ?_
  refine g_F (F2 := FC s G 0 2 (EPz G Ni (.inr (12, [.ref (gB G + 1), .int 0, .null, .null, .null, .int 0, .int 0, .null, .null, .null, .null, .int 0, .int 0, .int 0, .int 0, .int 0, .null, .int 0, .int 0, .int 0, .int 0, .int 0, .int 0, .int 0, .int 0, .null, .null, .null, .null, .null, .int 0, .null, .null, .null, .null, .int 0])))) (FC.c (fun i _ _ => congrFun (EPz_p0 G Ni _ _) i)) ?_
  exact h
theorem u12_13 {p : Program} {l : Launch} {e : Env} {s : State} {m : MethodId} {args : Array Value} {below : List Frame} {meth : Method} {c : Code} {Q : State → Prop} {G : GG} (C : GX p s m args c prog_14_method_1_code 1 "SnowSentriesModel") (K : KC G s) (hs0 : s.heap.size = gB G + (0 + 1)) (hnm : meth.name = "<init>")
    (h : Zg p l e { frames := 1, cells := 18, slots := 1928, locals := 12 } s m args below meth c 1 Q 1 840 (FC s G 0 2 (EPz G Ni (.inr (12, [.ref (gB G + 1), .int 5, .null, .null, .null, .int 0, .int 0, .null, .null, .null, .null, .int 0, .int 0, .int 0, .int 0, .int 0, .null, .int 0, .int 0, .int 0, .int 0, .int 0, .int 0, .int 0, .int 0, .null, .null, .null, .null, .null, .int 0, .null, .null, .null, .null, .int 0])))) 18 [(0, .ref (gB G + 0))] []) : Zg p l e { frames := 1, cells := 18, slots := 1928, locals := 12 } s m args below meth c 1 Q 1 840 (FC s G 0 2 (EPz G Ni (.inr (12, [.ref (gB G + 1), .int 0, .null, .null, .null, .int 0, .int 0, .null, .null, .null, .null, .int 0, .int 0, .int 0, .int 0, .int 0, .null, .int 0, .int 0, .int 0, .int 0, .int 0, .int 0, .int 0, .int 0, .null, .null, .null, .null, .null, .int 0, .null, .null, .null, .null, .int 0])))) 13 [(0, .ref (gB G + 0))] [] := by
  refine g_aload_n (x := gB G + 0) 0 C d_X12_init_13 rfl rfl ?_
  refine g_iconst (v := 5) C d_X12_init_14 rfl ?_
  refine k_put (n := 2) (a := 0) (k := 1) (ty := .int) (fs := [.ref (gB G + 1), .int 0, .null, .null, .null, .int 0, .int 0, .null, .null, .null, .null, .int 0, .int 0, .int 0, .int 0, .int 0, .null, .int 0, .int 0, .int 0, .int 0, .int 0, .int 0, .int 0, .int 0, .null, .null, .null, .null, .null, .int 0, .null, .null, .null, .null, .int 0]) C K.1 (by omega) (by omega) (EPz_0 G _ _) rfl inX12 tyX12 tyX12_ok nmX12 (by decide) wf_X12_13 (Or.inl rfl) (by decide +kernel) rfl rfl (Nat.le_of_ble_eq_true rfl) d_X12_init_15 ?_
  refine g_F (F2 := FC s G 0 2 (EPz G Ni (.inr (12, [.ref (gB G + 1), .int 5, .null, .null, .null, .int 0, .int 0, .null, .null, .null, .null, .int 0, .int 0, .int 0, .int 0, .int 0, .null, .int 0, .int 0, .int 0, .int 0, .int 0, .int 0, .int 0, .int 0, .null, .null, .null, .null, .null, .int 0, .null, .null, .null, .null, .int 0])))) (FC.c (fun i _ _ => congrFun (EPz_p0 G Ni _ _) i)) ?_
  exact h
theorem u12_18 {p : Program} {l : Launch} {e : Env} {s : State} {m : MethodId} {args : Array Value} {below : List Frame} {meth : Method} {c : Code} {Q : State → Prop} {G : GG} (C : GX p s m args c prog_14_method_1_code 1 "SnowSentriesModel") (K : KC G s) (hs0 : s.heap.size = gB G + (0 + 1)) (hnm : meth.name = "<init>")
    (h : Zg p l e { frames := 1, cells := 18, slots := 1928, locals := 12 } s m args below meth c 1 Q 2 852 (FC s G 0 3 (EPz G Ni (.inr (12, [.ref (gB G + 1), .int 5, .ref (gB G + 2), .null, .null, .int 0, .int 0, .null, .null, .null, .null, .int 0, .int 0, .int 0, .int 0, .int 0, .null, .int 0, .int 0, .int 0, .int 0, .int 0, .int 0, .int 0, .int 0, .null, .null, .null, .null, .null, .int 0, .null, .null, .null, .null, .int 0])))) 26 [(0, .ref (gB G + 0))] []) : Zg p l e { frames := 1, cells := 18, slots := 1928, locals := 12 } s m args below meth c 1 Q 1 840 (FC s G 0 2 (EPz G Ni (.inr (12, [.ref (gB G + 1), .int 5, .null, .null, .null, .int 0, .int 0, .null, .null, .null, .null, .int 0, .int 0, .int 0, .int 0, .int 0, .null, .int 0, .int 0, .int 0, .int 0, .int 0, .int 0, .int 0, .int 0, .null, .null, .null, .null, .null, .int 0, .null, .null, .null, .null, .int 0])))) 18 [(0, .ref (gB G + 0))] [] := by
  refine g_aload_n (x := gB G + 0) 0 C d_X12_init_18 rfl rfl ?_
  refine g_bipush (v := 12) C d_X12_init_19 rfl ?_
  refine k_newa (n := 2) (cells := 1) (slots := 840) (t := 0) (N := 12) (atype := .int) (a0 := (12, .inl fun _ => 0)) C K (by omega) (by omega) (by omega) wA_int rfl rfl (fun _ _ h => h) (fun _ => rfl) (by decide) rfl (by decide) (Nat.le_of_ble_eq_true rfl) (Nat.le_of_ble_eq_true rfl) d_X12_init_21 ?_
  rw [up1_self (EPz G Ni _) 2 (x := .inl (gC G 0, 12, .inl fun _ => 0)) ((EPz_n (by decide)).trans (ez2 G))]
  refine k_put (n := 3) (a := 0) (k := 2) (ty := .array .int) (fs := [.ref (gB G + 1), .int 5, .null, .null, .null, .int 0, .int 0, .null, .null, .null, .null, .int 0, .int 0, .int 0, .int 0, .int 0, .null, .int 0, .int 0, .int 0, .int 0, .int 0, .int 0, .int 0, .int 0, .null, .null, .null, .null, .null, .int 0, .null, .null, .null, .null, .int 0]) C K.1 (by omega) (by omega) (EPz_0 G _ _) rfl inX12 tyX12 tyX12_ok nmX12 (by decide) wf_X12_17 (Or.inr ⟨rfl, hnm, rfl⟩) (by decide +kernel) rfl rfl (Nat.le_of_ble_eq_true rfl) d_X12_init_23 ?_
  refine g_F (F2 := FC s G 0 3 (EPz G Ni (.inr (12, [.ref (gB G + 1), .int 5, .ref (gB G + 2), .null, .null, .int 0, .int 0, .null, .null, .null, .null, .int 0, .int 0, .int 0, .int 0, .int 0, .null, .int 0, .int 0, .int 0, .int 0, .int 0, .int 0, .int 0, .int 0, .null, .null, .null, .null, .null, .int 0, .null, .null, .null, .null, .int 0])))) (FC.c (fun i _ _ => congrFun (EPz_p0 G Ni _ _) i)) ?_
  exact h
theorem u12_26 {p : Program} {l : Launch} {e : Env} {s : State} {m : MethodId} {args : Array Value} {below : List Frame} {meth : Method} {c : Code} {Q : State → Prop} {G : GG} (C : GX p s m args c prog_14_method_1_code 1 "SnowSentriesModel") (K : KC G s) (hs0 : s.heap.size = gB G + (0 + 1)) (hnm : meth.name = "<init>")
    (h : Zg p l e { frames := 1, cells := 18, slots := 1928, locals := 12 } s m args below meth c 1 Q 3 855 (FC s G 0 4 (EPz G Ni (.inr (12, [.ref (gB G + 1), .int 5, .ref (gB G + 2), .ref (gB G + 3), .null, .int 0, .int 0, .null, .null, .null, .null, .int 0, .int 0, .int 0, .int 0, .int 0, .null, .int 0, .int 0, .int 0, .int 0, .int 0, .int 0, .int 0, .int 0, .null, .null, .null, .null, .null, .int 0, .null, .null, .null, .null, .int 0])))) 45 [(0, .ref (gB G + 0))] []) : Zg p l e { frames := 1, cells := 18, slots := 1928, locals := 12 } s m args below meth c 1 Q 2 852 (FC s G 0 3 (EPz G Ni (.inr (12, [.ref (gB G + 1), .int 5, .ref (gB G + 2), .null, .null, .int 0, .int 0, .null, .null, .null, .null, .int 0, .int 0, .int 0, .int 0, .int 0, .null, .int 0, .int 0, .int 0, .int 0, .int 0, .int 0, .int 0, .int 0, .null, .null, .null, .null, .null, .int 0, .null, .null, .null, .null, .int 0])))) 26 [(0, .ref (gB G + 0))] [] := by
  refine g_aload_n (x := gB G + 0) 0 C d_X12_init_26 rfl rfl ?_
  refine g_iconst (v := 3) C d_X12_init_27 rfl ?_
  refine k_newa (n := 3) (cells := 2) (slots := 852) (t := 0) (N := 3) (atype := .int) (a0 := (3, .inl fun _ => 0)) C K (by omega) (by omega) (by omega) wA_int rfl rfl (fun _ _ h => h) (fun _ => rfl) (by decide) rfl (by decide) (Nat.le_of_ble_eq_true rfl) (Nat.le_of_ble_eq_true rfl) d_X12_init_28 ?_
  rw [EPz_y (by decide)]
  refine t12_30 C K ?_
  rw [EPy_z (n := 3) (en3 G)]
  refine k_put (n := 4) (a := 0) (k := 3) (ty := .array .int) (fs := [.ref (gB G + 1), .int 5, .ref (gB G + 2), .null, .null, .int 0, .int 0, .null, .null, .null, .null, .int 0, .int 0, .int 0, .int 0, .int 0, .null, .int 0, .int 0, .int 0, .int 0, .int 0, .int 0, .int 0, .int 0, .null, .null, .null, .null, .null, .int 0, .null, .null, .null, .null, .int 0]) C K.1 (by omega) (by omega) (EPz_0 G _ _) rfl inX12 tyX12 tyX12_ok nmX12 (by decide) wf_X12_20 (Or.inr ⟨rfl, hnm, rfl⟩) (by decide +kernel) rfl rfl (Nat.le_of_ble_eq_true rfl) d_X12_init_42 ?_
  refine g_F (F2 := FC s G 0 4 (EPz G Ni (.inr (12, [.ref (gB G + 1), .int 5, .ref (gB G + 2), .ref (gB G + 3), .null, .int 0, .int 0, .null, .null, .null, .null, .int 0, .int 0, .int 0, .int 0, .int 0, .null, .int 0, .int 0, .int 0, .int 0, .int 0, .int 0, .int 0, .int 0, .null, .null, .null, .null, .null, .int 0, .null, .null, .null, .null, .int 0])))) (FC.c (fun i _ _ => congrFun (EPz_p0 G Ni _ _) i)) ?_
  exact h
theorem u12_45 {p : Program} {l : Launch} {e : Env} {s : State} {m : MethodId} {args : Array Value} {below : List Frame} {meth : Method} {c : Code} {Q : State → Prop} {G : GG} (C : GX p s m args c prog_14_method_1_code 1 "SnowSentriesModel") (K : KC G s) (hs0 : s.heap.size = gB G + (0 + 1)) (hnm : meth.name = "<init>")
    (h : Zg p l e { frames := 1, cells := 18, slots := 1928, locals := 12 } s m args below meth c 1 Q 4 871 (FC s G 0 5 (EPz G Ni (.inr (12, [.ref (gB G + 1), .int 5, .ref (gB G + 2), .ref (gB G + 3), .ref (gB G + 4), .int 0, .int 0, .null, .null, .null, .null, .int 0, .int 0, .int 0, .int 0, .int 0, .null, .int 0, .int 0, .int 0, .int 0, .int 0, .int 0, .int 0, .int 0, .null, .null, .null, .null, .null, .int 0, .null, .null, .null, .null, .int 0])))) 53 [(0, .ref (gB G + 0))] []) : Zg p l e { frames := 1, cells := 18, slots := 1928, locals := 12 } s m args below meth c 1 Q 3 855 (FC s G 0 4 (EPz G Ni (.inr (12, [.ref (gB G + 1), .int 5, .ref (gB G + 2), .ref (gB G + 3), .null, .int 0, .int 0, .null, .null, .null, .null, .int 0, .int 0, .int 0, .int 0, .int 0, .null, .int 0, .int 0, .int 0, .int 0, .int 0, .int 0, .int 0, .int 0, .null, .null, .null, .null, .null, .int 0, .null, .null, .null, .null, .int 0])))) 45 [(0, .ref (gB G + 0))] [] := by
  refine g_aload_n (x := gB G + 0) 0 C d_X12_init_45 rfl rfl ?_
  refine g_bipush (v := 16) C d_X12_init_46 rfl ?_
  refine k_newa (n := 4) (cells := 3) (slots := 855) (t := 0) (N := 16) (atype := .int) (a0 := (16, .inl fun _ => 0)) C K (by omega) (by omega) (by omega) wA_int rfl rfl (fun _ _ h => h) (fun _ => rfl) (by decide) rfl (by decide) (Nat.le_of_ble_eq_true rfl) (Nat.le_of_ble_eq_true rfl) d_X12_init_48 ?_
  rw [up1_self (EPz G Ni _) 4 (x := .inl (gC G 0, 16, .inl fun _ => 0)) ((EPz_n (by decide)).trans (ez4 G))]
  refine k_put (n := 5) (a := 0) (k := 4) (ty := .array .int) (fs := [.ref (gB G + 1), .int 5, .ref (gB G + 2), .ref (gB G + 3), .null, .int 0, .int 0, .null, .null, .null, .null, .int 0, .int 0, .int 0, .int 0, .int 0, .null, .int 0, .int 0, .int 0, .int 0, .int 0, .int 0, .int 0, .int 0, .null, .null, .null, .null, .null, .int 0, .null, .null, .null, .null, .int 0]) C K.1 (by omega) (by omega) (EPz_0 G _ _) rfl inX12 tyX12 tyX12_ok nmX12 (by decide) wf_X12_23 (Or.inr ⟨rfl, hnm, rfl⟩) (by decide +kernel) rfl rfl (Nat.le_of_ble_eq_true rfl) d_X12_init_50 ?_
  refine g_F (F2 := FC s G 0 5 (EPz G Ni (.inr (12, [.ref (gB G + 1), .int 5, .ref (gB G + 2), .ref (gB G + 3), .ref (gB G + 4), .int 0, .int 0, .null, .null, .null, .null, .int 0, .int 0, .int 0, .int 0, .int 0, .null, .int 0, .int 0, .int 0, .int 0, .int 0, .int 0, .int 0, .int 0, .null, .null, .null, .null, .null, .int 0, .null, .null, .null, .null, .int 0])))) (FC.c (fun i _ _ => congrFun (EPz_p0 G Ni _ _) i)) ?_
  exact h
theorem u12_53 {p : Program} {l : Launch} {e : Env} {s : State} {m : MethodId} {args : Array Value} {below : List Frame} {meth : Method} {c : Code} {Q : State → Prop} {G : GG} (C : GX p s m args c prog_14_method_1_code 1 "SnowSentriesModel") (K : KC G s) (hs0 : s.heap.size = gB G + (0 + 1)) (hnm : meth.name = "<init>")
    (h : Zg p l e { frames := 1, cells := 18, slots := 1928, locals := 12 } s m args below meth c 1 Q 4 871 (FC s G 0 5 (EPz G Ni (.inr (12, [.ref (gB G + 1), .int 5, .ref (gB G + 2), .ref (gB G + 3), .ref (gB G + 4), .int 0, .int 3, .null, .null, .null, .null, .int 0, .int 0, .int 0, .int 0, .int 0, .null, .int 0, .int 0, .int 0, .int 0, .int 0, .int 0, .int 0, .int 0, .null, .null, .null, .null, .null, .int 0, .null, .null, .null, .null, .int 0])))) 58 [(0, .ref (gB G + 0))] []) : Zg p l e { frames := 1, cells := 18, slots := 1928, locals := 12 } s m args below meth c 1 Q 4 871 (FC s G 0 5 (EPz G Ni (.inr (12, [.ref (gB G + 1), .int 5, .ref (gB G + 2), .ref (gB G + 3), .ref (gB G + 4), .int 0, .int 0, .null, .null, .null, .null, .int 0, .int 0, .int 0, .int 0, .int 0, .null, .int 0, .int 0, .int 0, .int 0, .int 0, .int 0, .int 0, .int 0, .null, .null, .null, .null, .null, .int 0, .null, .null, .null, .null, .int 0])))) 53 [(0, .ref (gB G + 0))] [] := by
  refine g_aload_n (x := gB G + 0) 0 C d_X12_init_53 rfl rfl ?_
  refine g_iconst (v := 3) C d_X12_init_54 rfl ?_
  refine k_put (n := 5) (a := 0) (k := 6) (ty := .int) (fs := [.ref (gB G + 1), .int 5, .ref (gB G + 2), .ref (gB G + 3), .ref (gB G + 4), .int 0, .int 0, .null, .null, .null, .null, .int 0, .int 0, .int 0, .int 0, .int 0, .null, .int 0, .int 0, .int 0, .int 0, .int 0, .int 0, .int 0, .int 0, .null, .null, .null, .null, .null, .int 0, .null, .null, .null, .null, .int 0]) C K.1 (by omega) (by omega) (EPz_0 G _ _) rfl inX12 tyX12 tyX12_ok nmX12 (by decide) wf_X12_26 (Or.inl rfl) (by decide +kernel) rfl rfl (Nat.le_of_ble_eq_true rfl) d_X12_init_55 ?_
  refine g_F (F2 := FC s G 0 5 (EPz G Ni (.inr (12, [.ref (gB G + 1), .int 5, .ref (gB G + 2), .ref (gB G + 3), .ref (gB G + 4), .int 0, .int 3, .null, .null, .null, .null, .int 0, .int 0, .int 0, .int 0, .int 0, .null, .int 0, .int 0, .int 0, .int 0, .int 0, .int 0, .int 0, .int 0, .null, .null, .null, .null, .null, .int 0, .null, .null, .null, .null, .int 0])))) (FC.c (fun i _ _ => congrFun (EPz_p0 G Ni _ _) i)) ?_
  exact h
theorem u12_58 {p : Program} {l : Launch} {e : Env} {s : State} {m : MethodId} {args : Array Value} {below : List Frame} {meth : Method} {c : Code} {Q : State → Prop} {G : GG} (C : GX p s m args c prog_14_method_1_code 1 "SnowSentriesModel") (K : KC G s) (hs0 : s.heap.size = gB G + (0 + 1)) (hnm : meth.name = "<init>")
    (h : Zg p l e { frames := 1, cells := 18, slots := 1928, locals := 12 } s m args below meth c 1 Q 5 1081 (FC s G 0 6 (EPz G Ni (.inr (12, [.ref (gB G + 1), .int 5, .ref (gB G + 2), .ref (gB G + 3), .ref (gB G + 4), .int 0, .int 3, .ref (gB G + 5), .null, .null, .null, .int 0, .int 0, .int 0, .int 0, .int 0, .null, .int 0, .int 0, .int 0, .int 0, .int 0, .int 0, .int 0, .int 0, .null, .null, .null, .null, .null, .int 0, .null, .null, .null, .null, .int 0])))) 67 [(0, .ref (gB G + 0))] []) : Zg p l e { frames := 1, cells := 18, slots := 1928, locals := 12 } s m args below meth c 1 Q 4 871 (FC s G 0 5 (EPz G Ni (.inr (12, [.ref (gB G + 1), .int 5, .ref (gB G + 2), .ref (gB G + 3), .ref (gB G + 4), .int 0, .int 3, .null, .null, .null, .null, .int 0, .int 0, .int 0, .int 0, .int 0, .null, .int 0, .int 0, .int 0, .int 0, .int 0, .int 0, .int 0, .int 0, .null, .null, .null, .null, .null, .int 0, .null, .null, .null, .null, .int 0])))) 58 [(0, .ref (gB G + 0))] [] := by
  refine g_aload_n (x := gB G + 0) 0 C d_X12_init_58 rfl rfl ?_
  refine g_sipush (v := 210) C d_X12_init_59 rfl ?_
  refine k_newa (n := 5) (cells := 4) (slots := 871) (t := 0) (N := 210) (atype := .int) (a0 := (210, .inl fun _ => 0)) C K (by omega) (by omega) (by omega) wA_int rfl rfl (fun _ _ h => h) (fun _ => rfl) (by decide) rfl (by decide) (Nat.le_of_ble_eq_true rfl) (Nat.le_of_ble_eq_true rfl) d_X12_init_62 ?_
  rw [up1_self (EPz G Ni _) 5 (x := .inl (gC G 0, 210, .inl fun _ => 0)) ((EPz_n (by decide)).trans (ez5 G))]
  refine k_put (n := 6) (a := 0) (k := 7) (ty := .array .int) (fs := [.ref (gB G + 1), .int 5, .ref (gB G + 2), .ref (gB G + 3), .ref (gB G + 4), .int 0, .int 3, .null, .null, .null, .null, .int 0, .int 0, .int 0, .int 0, .int 0, .null, .int 0, .int 0, .int 0, .int 0, .int 0, .int 0, .int 0, .int 0, .null, .null, .null, .null, .null, .int 0, .null, .null, .null, .null, .int 0]) C K.1 (by omega) (by omega) (EPz_0 G _ _) rfl inX12 tyX12 tyX12_ok nmX12 (by decide) wf_X12_29 (Or.inr ⟨rfl, hnm, rfl⟩) (by decide +kernel) rfl rfl (Nat.le_of_ble_eq_true rfl) d_X12_init_64 ?_
  refine g_F (F2 := FC s G 0 6 (EPz G Ni (.inr (12, [.ref (gB G + 1), .int 5, .ref (gB G + 2), .ref (gB G + 3), .ref (gB G + 4), .int 0, .int 3, .ref (gB G + 5), .null, .null, .null, .int 0, .int 0, .int 0, .int 0, .int 0, .null, .int 0, .int 0, .int 0, .int 0, .int 0, .int 0, .int 0, .int 0, .null, .null, .null, .null, .null, .int 0, .null, .null, .null, .null, .int 0])))) (FC.c (fun i _ _ => congrFun (EPz_p0 G Ni _ _) i)) ?_
  exact h
theorem u12_67 {p : Program} {l : Launch} {e : Env} {s : State} {m : MethodId} {args : Array Value} {below : List Frame} {meth : Method} {c : Code} {Q : State → Prop} {G : GG} (C : GX p s m args c prog_14_method_1_code 1 "SnowSentriesModel") (K : KC G s) (hs0 : s.heap.size = gB G + (0 + 1)) (hnm : meth.name = "<init>")
    (h : Zg p l e { frames := 1, cells := 18, slots := 1928, locals := 12 } s m args below meth c 1 Q 6 1093 (FC s G 0 7 (EPz G Ni (.inr (12, [.ref (gB G + 1), .int 5, .ref (gB G + 2), .ref (gB G + 3), .ref (gB G + 4), .int 0, .int 3, .ref (gB G + 5), .ref (gB G + 6), .null, .null, .int 0, .int 0, .int 0, .int 0, .int 0, .null, .int 0, .int 0, .int 0, .int 0, .int 0, .int 0, .int 0, .int 0, .null, .null, .null, .null, .null, .int 0, .null, .null, .null, .null, .int 0])))) 75 [(0, .ref (gB G + 0))] []) : Zg p l e { frames := 1, cells := 18, slots := 1928, locals := 12 } s m args below meth c 1 Q 5 1081 (FC s G 0 6 (EPz G Ni (.inr (12, [.ref (gB G + 1), .int 5, .ref (gB G + 2), .ref (gB G + 3), .ref (gB G + 4), .int 0, .int 3, .ref (gB G + 5), .null, .null, .null, .int 0, .int 0, .int 0, .int 0, .int 0, .null, .int 0, .int 0, .int 0, .int 0, .int 0, .int 0, .int 0, .int 0, .null, .null, .null, .null, .null, .int 0, .null, .null, .null, .null, .int 0])))) 67 [(0, .ref (gB G + 0))] [] := by
  refine g_aload_n (x := gB G + 0) 0 C d_X12_init_67 rfl rfl ?_
  refine g_bipush (v := 12) C d_X12_init_68 rfl ?_
  refine k_newa (n := 6) (cells := 5) (slots := 1081) (t := 0) (N := 12) (atype := .int) (a0 := (12, .inl fun _ => 0)) C K (by omega) (by omega) (by omega) wA_int rfl rfl (fun _ _ h => h) (fun _ => rfl) (by decide) rfl (by decide) (Nat.le_of_ble_eq_true rfl) (Nat.le_of_ble_eq_true rfl) d_X12_init_70 ?_
  rw [up1_self (EPz G Ni _) 6 (x := .inl (gC G 0, 12, .inl fun _ => 0)) ((EPz_n (by decide)).trans (ez6 G))]
  refine k_put (n := 7) (a := 0) (k := 8) (ty := .array .int) (fs := [.ref (gB G + 1), .int 5, .ref (gB G + 2), .ref (gB G + 3), .ref (gB G + 4), .int 0, .int 3, .ref (gB G + 5), .null, .null, .null, .int 0, .int 0, .int 0, .int 0, .int 0, .null, .int 0, .int 0, .int 0, .int 0, .int 0, .int 0, .int 0, .int 0, .null, .null, .null, .null, .null, .int 0, .null, .null, .null, .null, .int 0]) C K.1 (by omega) (by omega) (EPz_0 G _ _) rfl inX12 tyX12 tyX12_ok nmX12 (by decide) wf_X12_32 (Or.inr ⟨rfl, hnm, rfl⟩) (by decide +kernel) rfl rfl (Nat.le_of_ble_eq_true rfl) d_X12_init_72 ?_
  refine g_F (F2 := FC s G 0 7 (EPz G Ni (.inr (12, [.ref (gB G + 1), .int 5, .ref (gB G + 2), .ref (gB G + 3), .ref (gB G + 4), .int 0, .int 3, .ref (gB G + 5), .ref (gB G + 6), .null, .null, .int 0, .int 0, .int 0, .int 0, .int 0, .null, .int 0, .int 0, .int 0, .int 0, .int 0, .int 0, .int 0, .int 0, .null, .null, .null, .null, .null, .int 0, .null, .null, .null, .null, .int 0])))) (FC.c (fun i _ _ => congrFun (EPz_p0 G Ni _ _) i)) ?_
  exact h
theorem u12_75 {p : Program} {l : Launch} {e : Env} {s : State} {m : MethodId} {args : Array Value} {below : List Frame} {meth : Method} {c : Code} {Q : State → Prop} {G : GG} (C : GX p s m args c prog_14_method_1_code 1 "SnowSentriesModel") (K : KC G s) (hs0 : s.heap.size = gB G + (0 + 1)) (hnm : meth.name = "<init>")
    (h : Zg p l e { frames := 1, cells := 18, slots := 1928, locals := 12 } s m args below meth c 1 Q 7 1096 (FC s G 0 8 (EPz G Ni (.inr (12, [.ref (gB G + 1), .int 5, .ref (gB G + 2), .ref (gB G + 3), .ref (gB G + 4), .int 0, .int 3, .ref (gB G + 5), .ref (gB G + 6), .ref (gB G + 7), .null, .int 0, .int 0, .int 0, .int 0, .int 0, .null, .int 0, .int 0, .int 0, .int 0, .int 0, .int 0, .int 0, .int 0, .null, .null, .null, .null, .null, .int 0, .null, .null, .null, .null, .int 0])))) 82 [(0, .ref (gB G + 0))] []) : Zg p l e { frames := 1, cells := 18, slots := 1928, locals := 12 } s m args below meth c 1 Q 6 1093 (FC s G 0 7 (EPz G Ni (.inr (12, [.ref (gB G + 1), .int 5, .ref (gB G + 2), .ref (gB G + 3), .ref (gB G + 4), .int 0, .int 3, .ref (gB G + 5), .ref (gB G + 6), .null, .null, .int 0, .int 0, .int 0, .int 0, .int 0, .null, .int 0, .int 0, .int 0, .int 0, .int 0, .int 0, .int 0, .int 0, .null, .null, .null, .null, .null, .int 0, .null, .null, .null, .null, .int 0])))) 75 [(0, .ref (gB G + 0))] [] := by
  refine g_aload_n (x := gB G + 0) 0 C d_X12_init_75 rfl rfl ?_
  refine g_iconst (v := 3) C d_X12_init_76 rfl ?_
  refine k_newa (n := 7) (cells := 6) (slots := 1093) (t := 0) (N := 3) (atype := .int) (a0 := (3, .inl fun _ => 0)) C K (by omega) (by omega) (by omega) wA_int rfl rfl (fun _ _ h => h) (fun _ => rfl) (by decide) rfl (by decide) (Nat.le_of_ble_eq_true rfl) (Nat.le_of_ble_eq_true rfl) d_X12_init_77 ?_
  rw [up1_self (EPz G Ni _) 7 (x := .inl (gC G 0, 3, .inl fun _ => 0)) ((EPz_n (by decide)).trans (ez7 G))]
  refine k_put (n := 8) (a := 0) (k := 9) (ty := .array .int) (fs := [.ref (gB G + 1), .int 5, .ref (gB G + 2), .ref (gB G + 3), .ref (gB G + 4), .int 0, .int 3, .ref (gB G + 5), .ref (gB G + 6), .null, .null, .int 0, .int 0, .int 0, .int 0, .int 0, .null, .int 0, .int 0, .int 0, .int 0, .int 0, .int 0, .int 0, .int 0, .null, .null, .null, .null, .null, .int 0, .null, .null, .null, .null, .int 0]) C K.1 (by omega) (by omega) (EPz_0 G _ _) rfl inX12 tyX12 tyX12_ok nmX12 (by decide) wf_X12_35 (Or.inr ⟨rfl, hnm, rfl⟩) (by decide +kernel) rfl rfl (Nat.le_of_ble_eq_true rfl) d_X12_init_79 ?_
  refine g_F (F2 := FC s G 0 8 (EPz G Ni (.inr (12, [.ref (gB G + 1), .int 5, .ref (gB G + 2), .ref (gB G + 3), .ref (gB G + 4), .int 0, .int 3, .ref (gB G + 5), .ref (gB G + 6), .ref (gB G + 7), .null, .int 0, .int 0, .int 0, .int 0, .int 0, .null, .int 0, .int 0, .int 0, .int 0, .int 0, .int 0, .int 0, .int 0, .null, .null, .null, .null, .null, .int 0, .null, .null, .null, .null, .int 0])))) (FC.c (fun i _ _ => congrFun (EPz_p0 G Ni _ _) i)) ?_
  exact h
theorem u12_82 {p : Program} {l : Launch} {e : Env} {s : State} {m : MethodId} {args : Array Value} {below : List Frame} {meth : Method} {c : Code} {Q : State → Prop} {G : GG} (C : GX p s m args c prog_14_method_1_code 1 "SnowSentriesModel") (K : KC G s) (hs0 : s.heap.size = gB G + (0 + 1)) (hnm : meth.name = "<init>")
    (h : Zg p l e { frames := 1, cells := 18, slots := 1928, locals := 12 } s m args below meth c 1 Q 8 1112 (FC s G 0 9 (EPz G Ni (.inr (12, [.ref (gB G + 1), .int 5, .ref (gB G + 2), .ref (gB G + 3), .ref (gB G + 4), .int 0, .int 3, .ref (gB G + 5), .ref (gB G + 6), .ref (gB G + 7), .ref (gB G + 8), .int 0, .int 0, .int 0, .int 0, .int 0, .null, .int 0, .int 0, .int 0, .int 0, .int 0, .int 0, .int 0, .int 0, .null, .null, .null, .null, .null, .int 0, .null, .null, .null, .null, .int 0])))) 90 [(0, .ref (gB G + 0))] []) : Zg p l e { frames := 1, cells := 18, slots := 1928, locals := 12 } s m args below meth c 1 Q 7 1096 (FC s G 0 8 (EPz G Ni (.inr (12, [.ref (gB G + 1), .int 5, .ref (gB G + 2), .ref (gB G + 3), .ref (gB G + 4), .int 0, .int 3, .ref (gB G + 5), .ref (gB G + 6), .ref (gB G + 7), .null, .int 0, .int 0, .int 0, .int 0, .int 0, .null, .int 0, .int 0, .int 0, .int 0, .int 0, .int 0, .int 0, .int 0, .null, .null, .null, .null, .null, .int 0, .null, .null, .null, .null, .int 0])))) 82 [(0, .ref (gB G + 0))] [] := by
  refine g_aload_n (x := gB G + 0) 0 C d_X12_init_82 rfl rfl ?_
  refine g_bipush (v := 16) C d_X12_init_83 rfl ?_
  refine k_newa (n := 8) (cells := 7) (slots := 1096) (t := 0) (N := 16) (atype := .int) (a0 := (16, .inl fun _ => 0)) C K (by omega) (by omega) (by omega) wA_int rfl rfl (fun _ _ h => h) (fun _ => rfl) (by decide) rfl (by decide) (Nat.le_of_ble_eq_true rfl) (Nat.le_of_ble_eq_true rfl) d_X12_init_85 ?_
  rw [up1_self (EPz G Ni _) 8 (x := .inl (gC G 0, 16, .inl fun _ => 0)) ((EPz_n (by decide)).trans (ez8 G))]
  refine k_put (n := 9) (a := 0) (k := 10) (ty := .array .int) (fs := [.ref (gB G + 1), .int 5, .ref (gB G + 2), .ref (gB G + 3), .ref (gB G + 4), .int 0, .int 3, .ref (gB G + 5), .ref (gB G + 6), .ref (gB G + 7), .null, .int 0, .int 0, .int 0, .int 0, .int 0, .null, .int 0, .int 0, .int 0, .int 0, .int 0, .int 0, .int 0, .int 0, .null, .null, .null, .null, .null, .int 0, .null, .null, .null, .null, .int 0]) C K.1 (by omega) (by omega) (EPz_0 G _ _) rfl inX12 tyX12 tyX12_ok nmX12 (by decide) wf_X12_38 (Or.inr ⟨rfl, hnm, rfl⟩) (by decide +kernel) rfl rfl (Nat.le_of_ble_eq_true rfl) d_X12_init_87 ?_
  refine g_F (F2 := FC s G 0 9 (EPz G Ni (.inr (12, [.ref (gB G + 1), .int 5, .ref (gB G + 2), .ref (gB G + 3), .ref (gB G + 4), .int 0, .int 3, .ref (gB G + 5), .ref (gB G + 6), .ref (gB G + 7), .ref (gB G + 8), .int 0, .int 0, .int 0, .int 0, .int 0, .null, .int 0, .int 0, .int 0, .int 0, .int 0, .int 0, .int 0, .int 0, .null, .null, .null, .null, .null, .int 0, .null, .null, .null, .null, .int 0])))) (FC.c (fun i _ _ => congrFun (EPz_p0 G Ni _ _) i)) ?_
  exact h
theorem u12_90 {p : Program} {l : Launch} {e : Env} {s : State} {m : MethodId} {args : Array Value} {below : List Frame} {meth : Method} {c : Code} {Q : State → Prop} {G : GG} (C : GX p s m args c prog_14_method_1_code 1 "SnowSentriesModel") (K : KC G s) (hs0 : s.heap.size = gB G + (0 + 1)) (hnm : meth.name = "<init>")
    (h : Zg p l e { frames := 1, cells := 18, slots := 1928, locals := 12 } s m args below meth c 1 Q 9 1512 (FC s G 0 10 (EPz G Ni (.inr (12, [.ref (gB G + 1), .int 5, .ref (gB G + 2), .ref (gB G + 3), .ref (gB G + 4), .int 0, .int 3, .ref (gB G + 5), .ref (gB G + 6), .ref (gB G + 7), .ref (gB G + 8), .int 0, .int 0, .int 0, .int 0, .int 0, .ref (gB G + 9), .int 0, .int 0, .int 0, .int 0, .int 0, .int 0, .int 0, .int 0, .null, .null, .null, .null, .null, .int 0, .null, .null, .null, .null, .int 0])))) 99 [(0, .ref (gB G + 0))] []) : Zg p l e { frames := 1, cells := 18, slots := 1928, locals := 12 } s m args below meth c 1 Q 8 1112 (FC s G 0 9 (EPz G Ni (.inr (12, [.ref (gB G + 1), .int 5, .ref (gB G + 2), .ref (gB G + 3), .ref (gB G + 4), .int 0, .int 3, .ref (gB G + 5), .ref (gB G + 6), .ref (gB G + 7), .ref (gB G + 8), .int 0, .int 0, .int 0, .int 0, .int 0, .null, .int 0, .int 0, .int 0, .int 0, .int 0, .int 0, .int 0, .int 0, .null, .null, .null, .null, .null, .int 0, .null, .null, .null, .null, .int 0])))) 90 [(0, .ref (gB G + 0))] [] := by
  refine g_aload_n (x := gB G + 0) 0 C d_X12_init_90 rfl rfl ?_
  refine g_sipush (v := 400) C d_X12_init_91 rfl ?_
  refine k_newa (n := 9) (cells := 8) (slots := 1112) (t := 0) (N := 400) (atype := .int) (a0 := (400, .inl fun _ => 0)) C K (by omega) (by omega) (by omega) wA_int rfl rfl (fun _ _ h => h) (fun _ => rfl) (by decide) rfl (by decide) (Nat.le_of_ble_eq_true rfl) (Nat.le_of_ble_eq_true rfl) d_X12_init_94 ?_
  rw [up1_self (EPz G Ni _) 9 (x := .inl (gC G 0, 400, .inl fun _ => 0)) ((EPz_n (by decide)).trans (ez9 G))]
  refine k_put (n := 10) (a := 0) (k := 16) (ty := .array .int) (fs := [.ref (gB G + 1), .int 5, .ref (gB G + 2), .ref (gB G + 3), .ref (gB G + 4), .int 0, .int 3, .ref (gB G + 5), .ref (gB G + 6), .ref (gB G + 7), .ref (gB G + 8), .int 0, .int 0, .int 0, .int 0, .int 0, .null, .int 0, .int 0, .int 0, .int 0, .int 0, .int 0, .int 0, .int 0, .null, .null, .null, .null, .null, .int 0, .null, .null, .null, .null, .int 0]) C K.1 (by omega) (by omega) (EPz_0 G _ _) rfl inX12 tyX12 tyX12_ok nmX12 (by decide) wf_X12_41 (Or.inr ⟨rfl, hnm, rfl⟩) (by decide +kernel) rfl rfl (Nat.le_of_ble_eq_true rfl) d_X12_init_96 ?_
  refine g_F (F2 := FC s G 0 10 (EPz G Ni (.inr (12, [.ref (gB G + 1), .int 5, .ref (gB G + 2), .ref (gB G + 3), .ref (gB G + 4), .int 0, .int 3, .ref (gB G + 5), .ref (gB G + 6), .ref (gB G + 7), .ref (gB G + 8), .int 0, .int 0, .int 0, .int 0, .int 0, .ref (gB G + 9), .int 0, .int 0, .int 0, .int 0, .int 0, .int 0, .int 0, .int 0, .null, .null, .null, .null, .null, .int 0, .null, .null, .null, .null, .int 0])))) (FC.c (fun i _ _ => congrFun (EPz_p0 G Ni _ _) i)) ?_
  exact h
theorem u12_99 {p : Program} {l : Launch} {e : Env} {s : State} {m : MethodId} {args : Array Value} {below : List Frame} {meth : Method} {c : Code} {Q : State → Prop} {G : GG} (C : GX p s m args c prog_14_method_1_code 1 "SnowSentriesModel") (K : KC G s) (hs0 : s.heap.size = gB G + (0 + 1)) (hnm : meth.name = "<init>")
    (h : Zg p l e { frames := 1, cells := 18, slots := 1928, locals := 12 } s m args below meth c 1 Q 10 1529 (FC s G 0 11 (EPz G Ni (.inr (12, [.ref (gB G + 1), .int 5, .ref (gB G + 2), .ref (gB G + 3), .ref (gB G + 4), .int 0, .int 3, .ref (gB G + 5), .ref (gB G + 6), .ref (gB G + 7), .ref (gB G + 8), .int 0, .int 0, .int 0, .int 0, .int 0, .ref (gB G + 9), .int 0, .int 0, .int 0, .int 0, .int 0, .int 0, .int 0, .int 0, .ref (gB G + 10), .null, .null, .null, .null, .int 0, .null, .null, .null, .null, .int 0])))) 202 [(0, .ref (gB G + 0))] []) : Zg p l e { frames := 1, cells := 18, slots := 1928, locals := 12 } s m args below meth c 1 Q 9 1512 (FC s G 0 10 (EPz G Ni (.inr (12, [.ref (gB G + 1), .int 5, .ref (gB G + 2), .ref (gB G + 3), .ref (gB G + 4), .int 0, .int 3, .ref (gB G + 5), .ref (gB G + 6), .ref (gB G + 7), .ref (gB G + 8), .int 0, .int 0, .int 0, .int 0, .int 0, .ref (gB G + 9), .int 0, .int 0, .int 0, .int 0, .int 0, .int 0, .int 0, .int 0, .null, .null, .null, .null, .null, .int 0, .null, .null, .null, .null, .int 0])))) 99 [(0, .ref (gB G + 0))] [] := by
  refine g_aload_n (x := gB G + 0) 0 C d_X12_init_99 rfl rfl ?_
  refine g_bipush (v := 17) C d_X12_init_100 rfl ?_
  refine k_newa (n := 10) (cells := 9) (slots := 1512) (t := 0) (N := 17) (atype := .int) (a0 := (17, .inl fun _ => 0)) C K (by omega) (by omega) (by omega) wA_int rfl rfl (fun _ _ h => h) (fun _ => rfl) (by decide) rfl (by decide) (Nat.le_of_ble_eq_true rfl) (Nat.le_of_ble_eq_true rfl) d_X12_init_102 ?_
  rw [EPz_y (by decide)]
  refine t12_104 C K ?_
  refine t12_157 C K ?_
  rw [EPy_z (n := 10) (en10 G)]
  refine k_put (n := 11) (a := 0) (k := 25) (ty := .array .int) (fs := [.ref (gB G + 1), .int 5, .ref (gB G + 2), .ref (gB G + 3), .ref (gB G + 4), .int 0, .int 3, .ref (gB G + 5), .ref (gB G + 6), .ref (gB G + 7), .ref (gB G + 8), .int 0, .int 0, .int 0, .int 0, .int 0, .ref (gB G + 9), .int 0, .int 0, .int 0, .int 0, .int 0, .int 0, .int 0, .int 0, .null, .null, .null, .null, .null, .int 0, .null, .null, .null, .null, .int 0]) C K.1 (by omega) (by omega) (EPz_0 G _ _) rfl inX12 tyX12 tyX12_ok nmX12 (by decide) wf_X12_44 (Or.inr ⟨rfl, hnm, rfl⟩) (by decide +kernel) rfl rfl (Nat.le_of_ble_eq_true rfl) d_X12_init_199 ?_
  refine g_F (F2 := FC s G 0 11 (EPz G Ni (.inr (12, [.ref (gB G + 1), .int 5, .ref (gB G + 2), .ref (gB G + 3), .ref (gB G + 4), .int 0, .int 3, .ref (gB G + 5), .ref (gB G + 6), .ref (gB G + 7), .ref (gB G + 8), .int 0, .int 0, .int 0, .int 0, .int 0, .ref (gB G + 9), .int 0, .int 0, .int 0, .int 0, .int 0, .int 0, .int 0, .int 0, .ref (gB G + 10), .null, .null, .null, .null, .int 0, .null, .null, .null, .null, .int 0])))) (FC.c (fun i _ _ => congrFun (EPz_p0 G Ni _ _) i)) ?_
  exact h
theorem u12_202 {p : Program} {l : Launch} {e : Env} {s : State} {m : MethodId} {args : Array Value} {below : List Frame} {meth : Method} {c : Code} {Q : State → Prop} {G : GG} (C : GX p s m args c prog_14_method_1_code 1 "SnowSentriesModel") (K : KC G s) (hs0 : s.heap.size = gB G + (0 + 1)) (hnm : meth.name = "<init>")
    (h : Zg p l e { frames := 1, cells := 18, slots := 1928, locals := 12 } s m args below meth c 1 Q 11 1608 (FC s G 0 12 (EPz G Ni (.inr (12, [.ref (gB G + 1), .int 5, .ref (gB G + 2), .ref (gB G + 3), .ref (gB G + 4), .int 0, .int 3, .ref (gB G + 5), .ref (gB G + 6), .ref (gB G + 7), .ref (gB G + 8), .int 0, .int 0, .int 0, .int 0, .int 0, .ref (gB G + 9), .int 0, .int 0, .int 0, .int 0, .int 0, .int 0, .int 0, .int 0, .ref (gB G + 10), .ref (gB G + 11), .null, .null, .null, .int 0, .null, .null, .null, .null, .int 0])))) 678 [(0, .ref (gB G + 0))] []) : Zg p l e { frames := 1, cells := 18, slots := 1928, locals := 12 } s m args below meth c 1 Q 10 1529 (FC s G 0 11 (EPz G Ni (.inr (12, [.ref (gB G + 1), .int 5, .ref (gB G + 2), .ref (gB G + 3), .ref (gB G + 4), .int 0, .int 3, .ref (gB G + 5), .ref (gB G + 6), .ref (gB G + 7), .ref (gB G + 8), .int 0, .int 0, .int 0, .int 0, .int 0, .ref (gB G + 9), .int 0, .int 0, .int 0, .int 0, .int 0, .int 0, .int 0, .int 0, .ref (gB G + 10), .null, .null, .null, .null, .int 0, .null, .null, .null, .null, .int 0])))) 202 [(0, .ref (gB G + 0))] [] := by
  refine g_aload_n (x := gB G + 0) 0 C d_X12_init_202 rfl rfl ?_
  refine g_bipush (v := 79) C d_X12_init_203 rfl ?_
  refine k_newa (n := 11) (cells := 10) (slots := 1529) (t := 0) (N := 79) (atype := .int) (a0 := (79, .inl fun _ => 0)) C K (by omega) (by omega) (by omega) wA_int rfl rfl (fun _ _ h => h) (fun _ => rfl) (by decide) rfl (by decide) (Nat.le_of_ble_eq_true rfl) (Nat.le_of_ble_eq_true rfl) d_X12_init_205 ?_
  rw [EPz_y (by decide)]
  refine t12_207 C K ?_
  refine t12_261 C K ?_
  refine t12_321 C K ?_
  refine t12_381 C K ?_
  refine t12_441 C K ?_
  refine t12_501 C K ?_
  refine t12_561 C K ?_
  refine t12_621 C K ?_
  rw [EPy_z (n := 11) (en11 G)]
  refine k_put (n := 12) (a := 0) (k := 26) (ty := .array .int) (fs := [.ref (gB G + 1), .int 5, .ref (gB G + 2), .ref (gB G + 3), .ref (gB G + 4), .int 0, .int 3, .ref (gB G + 5), .ref (gB G + 6), .ref (gB G + 7), .ref (gB G + 8), .int 0, .int 0, .int 0, .int 0, .int 0, .ref (gB G + 9), .int 0, .int 0, .int 0, .int 0, .int 0, .int 0, .int 0, .int 0, .ref (gB G + 10), .null, .null, .null, .null, .int 0, .null, .null, .null, .null, .int 0]) C K.1 (by omega) (by omega) (EPz_0 G _ _) rfl inX12 tyX12 tyX12_ok nmX12 (by decide) wf_X12_47 (Or.inr ⟨rfl, hnm, rfl⟩) (by decide +kernel) rfl rfl (Nat.le_of_ble_eq_true rfl) d_X12_init_675 ?_
  refine g_F (F2 := FC s G 0 12 (EPz G Ni (.inr (12, [.ref (gB G + 1), .int 5, .ref (gB G + 2), .ref (gB G + 3), .ref (gB G + 4), .int 0, .int 3, .ref (gB G + 5), .ref (gB G + 6), .ref (gB G + 7), .ref (gB G + 8), .int 0, .int 0, .int 0, .int 0, .int 0, .ref (gB G + 9), .int 0, .int 0, .int 0, .int 0, .int 0, .int 0, .int 0, .int 0, .ref (gB G + 10), .ref (gB G + 11), .null, .null, .null, .int 0, .null, .null, .null, .null, .int 0])))) (FC.c (fun i _ _ => congrFun (EPz_p0 G Ni _ _) i)) ?_
  exact h
theorem u12_678 {p : Program} {l : Launch} {e : Env} {s : State} {m : MethodId} {args : Array Value} {below : List Frame} {meth : Method} {c : Code} {Q : State → Prop} {G : GG} (C : GX p s m args c prog_14_method_1_code 1 "SnowSentriesModel") (K : KC G s) (hs0 : s.heap.size = gB G + (0 + 1)) (hnm : meth.name = "<init>")
    (h : Zg p l e { frames := 1, cells := 18, slots := 1928, locals := 12 } s m args below meth c 1 Q 12 1618 (FC s G 0 13 (EPz G Ni (.inr (12, [.ref (gB G + 1), .int 5, .ref (gB G + 2), .ref (gB G + 3), .ref (gB G + 4), .int 0, .int 3, .ref (gB G + 5), .ref (gB G + 6), .ref (gB G + 7), .ref (gB G + 8), .int 0, .int 0, .int 0, .int 0, .int 0, .ref (gB G + 9), .int 0, .int 0, .int 0, .int 0, .int 0, .int 0, .int 0, .int 0, .ref (gB G + 10), .ref (gB G + 11), .ref (gB G + 12), .null, .null, .int 0, .null, .null, .null, .null, .int 0])))) 686 [(0, .ref (gB G + 0))] []) : Zg p l e { frames := 1, cells := 18, slots := 1928, locals := 12 } s m args below meth c 1 Q 11 1608 (FC s G 0 12 (EPz G Ni (.inr (12, [.ref (gB G + 1), .int 5, .ref (gB G + 2), .ref (gB G + 3), .ref (gB G + 4), .int 0, .int 3, .ref (gB G + 5), .ref (gB G + 6), .ref (gB G + 7), .ref (gB G + 8), .int 0, .int 0, .int 0, .int 0, .int 0, .ref (gB G + 9), .int 0, .int 0, .int 0, .int 0, .int 0, .int 0, .int 0, .int 0, .ref (gB G + 10), .ref (gB G + 11), .null, .null, .null, .int 0, .null, .null, .null, .null, .int 0])))) 678 [(0, .ref (gB G + 0))] [] := by
  refine g_aload_n (x := gB G + 0) 0 C d_X12_init_678 rfl rfl ?_
  refine g_bipush (v := 10) C d_X12_init_679 rfl ?_
  refine k_newa (n := 12) (cells := 11) (slots := 1608) (t := 0) (N := 10) (atype := .int) (a0 := (10, .inl fun _ => 0)) C K (by omega) (by omega) (by omega) wA_int rfl rfl (fun _ _ h => h) (fun _ => rfl) (by decide) rfl (by decide) (Nat.le_of_ble_eq_true rfl) (Nat.le_of_ble_eq_true rfl) d_X12_init_681 ?_
  rw [up1_self (EPz G Ni _) 12 (x := .inl (gC G 0, 10, .inl fun _ => 0)) ((EPz_n (by decide)).trans (ez12 G))]
  refine k_put (n := 13) (a := 0) (k := 27) (ty := .array .int) (fs := [.ref (gB G + 1), .int 5, .ref (gB G + 2), .ref (gB G + 3), .ref (gB G + 4), .int 0, .int 3, .ref (gB G + 5), .ref (gB G + 6), .ref (gB G + 7), .ref (gB G + 8), .int 0, .int 0, .int 0, .int 0, .int 0, .ref (gB G + 9), .int 0, .int 0, .int 0, .int 0, .int 0, .int 0, .int 0, .int 0, .ref (gB G + 10), .ref (gB G + 11), .null, .null, .null, .int 0, .null, .null, .null, .null, .int 0]) C K.1 (by omega) (by omega) (EPz_0 G _ _) rfl inX12 tyX12 tyX12_ok nmX12 (by decide) wf_X12_50 (Or.inr ⟨rfl, hnm, rfl⟩) (by decide +kernel) rfl rfl (Nat.le_of_ble_eq_true rfl) d_X12_init_683 ?_
  refine g_F (F2 := FC s G 0 13 (EPz G Ni (.inr (12, [.ref (gB G + 1), .int 5, .ref (gB G + 2), .ref (gB G + 3), .ref (gB G + 4), .int 0, .int 3, .ref (gB G + 5), .ref (gB G + 6), .ref (gB G + 7), .ref (gB G + 8), .int 0, .int 0, .int 0, .int 0, .int 0, .ref (gB G + 9), .int 0, .int 0, .int 0, .int 0, .int 0, .int 0, .int 0, .int 0, .ref (gB G + 10), .ref (gB G + 11), .ref (gB G + 12), .null, .null, .int 0, .null, .null, .null, .null, .int 0])))) (FC.c (fun i _ _ => congrFun (EPz_p0 G Ni _ _) i)) ?_
  exact h
theorem u12_686 {p : Program} {l : Launch} {e : Env} {s : State} {m : MethodId} {args : Array Value} {below : List Frame} {meth : Method} {c : Code} {Q : State → Prop} {G : GG} (C : GX p s m args c prog_14_method_1_code 1 "SnowSentriesModel") (K : KC G s) (hs0 : s.heap.size = gB G + (0 + 1)) (hnm : meth.name = "<init>")
    (h : Zg p l e { frames := 1, cells := 18, slots := 1928, locals := 12 } s m args below meth c 1 Q 13 1748 (FC s G 0 14 (EPz G Ni (.inr (12, [.ref (gB G + 1), .int 5, .ref (gB G + 2), .ref (gB G + 3), .ref (gB G + 4), .int 0, .int 3, .ref (gB G + 5), .ref (gB G + 6), .ref (gB G + 7), .ref (gB G + 8), .int 0, .int 0, .int 0, .int 0, .int 0, .ref (gB G + 9), .int 0, .int 0, .int 0, .int 0, .int 0, .int 0, .int 0, .int 0, .ref (gB G + 10), .ref (gB G + 11), .ref (gB G + 12), .ref (gB G + 13), .null, .int 0, .null, .null, .null, .null, .int 0])))) 695 [(0, .ref (gB G + 0))] []) : Zg p l e { frames := 1, cells := 18, slots := 1928, locals := 12 } s m args below meth c 1 Q 12 1618 (FC s G 0 13 (EPz G Ni (.inr (12, [.ref (gB G + 1), .int 5, .ref (gB G + 2), .ref (gB G + 3), .ref (gB G + 4), .int 0, .int 3, .ref (gB G + 5), .ref (gB G + 6), .ref (gB G + 7), .ref (gB G + 8), .int 0, .int 0, .int 0, .int 0, .int 0, .ref (gB G + 9), .int 0, .int 0, .int 0, .int 0, .int 0, .int 0, .int 0, .int 0, .ref (gB G + 10), .ref (gB G + 11), .ref (gB G + 12), .null, .null, .int 0, .null, .null, .null, .null, .int 0])))) 686 [(0, .ref (gB G + 0))] [] := by
  refine g_aload_n (x := gB G + 0) 0 C d_X12_init_686 rfl rfl ?_
  refine g_sipush (v := 130) C d_X12_init_687 rfl ?_
  refine k_newa (n := 13) (cells := 12) (slots := 1618) (t := 0) (N := 130) (atype := .int) (a0 := (130, .inl fun _ => 0)) C K (by omega) (by omega) (by omega) wA_int rfl rfl (fun _ _ h => h) (fun _ => rfl) (by decide) rfl (by decide) (Nat.le_of_ble_eq_true rfl) (Nat.le_of_ble_eq_true rfl) d_X12_init_690 ?_
  rw [up1_self (EPz G Ni _) 13 (x := .inl (gC G 0, 130, .inl fun _ => 0)) ((EPz_n (by decide)).trans (ez13 G))]
  refine k_put (n := 14) (a := 0) (k := 28) (ty := .array .int) (fs := [.ref (gB G + 1), .int 5, .ref (gB G + 2), .ref (gB G + 3), .ref (gB G + 4), .int 0, .int 3, .ref (gB G + 5), .ref (gB G + 6), .ref (gB G + 7), .ref (gB G + 8), .int 0, .int 0, .int 0, .int 0, .int 0, .ref (gB G + 9), .int 0, .int 0, .int 0, .int 0, .int 0, .int 0, .int 0, .int 0, .ref (gB G + 10), .ref (gB G + 11), .ref (gB G + 12), .null, .null, .int 0, .null, .null, .null, .null, .int 0]) C K.1 (by omega) (by omega) (EPz_0 G _ _) rfl inX12 tyX12 tyX12_ok nmX12 (by decide) wf_X12_53 (Or.inr ⟨rfl, hnm, rfl⟩) (by decide +kernel) rfl rfl (Nat.le_of_ble_eq_true rfl) d_X12_init_692 ?_
  refine g_F (F2 := FC s G 0 14 (EPz G Ni (.inr (12, [.ref (gB G + 1), .int 5, .ref (gB G + 2), .ref (gB G + 3), .ref (gB G + 4), .int 0, .int 3, .ref (gB G + 5), .ref (gB G + 6), .ref (gB G + 7), .ref (gB G + 8), .int 0, .int 0, .int 0, .int 0, .int 0, .ref (gB G + 9), .int 0, .int 0, .int 0, .int 0, .int 0, .int 0, .int 0, .int 0, .ref (gB G + 10), .ref (gB G + 11), .ref (gB G + 12), .ref (gB G + 13), .null, .int 0, .null, .null, .null, .null, .int 0])))) (FC.c (fun i _ _ => congrFun (EPz_p0 G Ni _ _) i)) ?_
  exact h
theorem u12_695 {p : Program} {l : Launch} {e : Env} {s : State} {m : MethodId} {args : Array Value} {below : List Frame} {meth : Method} {c : Code} {Q : State → Prop} {G : GG} (C : GX p s m args c prog_14_method_1_code 1 "SnowSentriesModel") (K : KC G s) (hs0 : s.heap.size = gB G + (0 + 1)) (hnm : meth.name = "<init>")
    (h : Zg p l e { frames := 1, cells := 18, slots := 1928, locals := 12 } s m args below meth c 1 Q 14 1758 (FC s G 0 15 (EPz G Ni (.inr (12, [.ref (gB G + 1), .int 5, .ref (gB G + 2), .ref (gB G + 3), .ref (gB G + 4), .int 0, .int 3, .ref (gB G + 5), .ref (gB G + 6), .ref (gB G + 7), .ref (gB G + 8), .int 0, .int 0, .int 0, .int 0, .int 0, .ref (gB G + 9), .int 0, .int 0, .int 0, .int 0, .int 0, .int 0, .int 0, .int 0, .ref (gB G + 10), .ref (gB G + 11), .ref (gB G + 12), .ref (gB G + 13), .ref (gB G + 14), .int 0, .null, .null, .null, .null, .int 0])))) 703 [(0, .ref (gB G + 0))] []) : Zg p l e { frames := 1, cells := 18, slots := 1928, locals := 12 } s m args below meth c 1 Q 13 1748 (FC s G 0 14 (EPz G Ni (.inr (12, [.ref (gB G + 1), .int 5, .ref (gB G + 2), .ref (gB G + 3), .ref (gB G + 4), .int 0, .int 3, .ref (gB G + 5), .ref (gB G + 6), .ref (gB G + 7), .ref (gB G + 8), .int 0, .int 0, .int 0, .int 0, .int 0, .ref (gB G + 9), .int 0, .int 0, .int 0, .int 0, .int 0, .int 0, .int 0, .int 0, .ref (gB G + 10), .ref (gB G + 11), .ref (gB G + 12), .ref (gB G + 13), .null, .int 0, .null, .null, .null, .null, .int 0])))) 695 [(0, .ref (gB G + 0))] [] := by
  refine g_aload_n (x := gB G + 0) 0 C d_X12_init_695 rfl rfl ?_
  refine g_bipush (v := 10) C d_X12_init_696 rfl ?_
  refine k_newa (n := 14) (cells := 13) (slots := 1748) (t := 0) (N := 10) (atype := .int) (a0 := (10, .inl fun _ => 0)) C K (by omega) (by omega) (by omega) wA_int rfl rfl (fun _ _ h => h) (fun _ => rfl) (by decide) rfl (by decide) (Nat.le_of_ble_eq_true rfl) (Nat.le_of_ble_eq_true rfl) d_X12_init_698 ?_
  rw [up1_self (EPz G Ni _) 14 (x := .inl (gC G 0, 10, .inl fun _ => 0)) ((EPz_n (by decide)).trans (ez14 G))]
  refine k_put (n := 15) (a := 0) (k := 29) (ty := .array .int) (fs := [.ref (gB G + 1), .int 5, .ref (gB G + 2), .ref (gB G + 3), .ref (gB G + 4), .int 0, .int 3, .ref (gB G + 5), .ref (gB G + 6), .ref (gB G + 7), .ref (gB G + 8), .int 0, .int 0, .int 0, .int 0, .int 0, .ref (gB G + 9), .int 0, .int 0, .int 0, .int 0, .int 0, .int 0, .int 0, .int 0, .ref (gB G + 10), .ref (gB G + 11), .ref (gB G + 12), .ref (gB G + 13), .null, .int 0, .null, .null, .null, .null, .int 0]) C K.1 (by omega) (by omega) (EPz_0 G _ _) rfl inX12 tyX12 tyX12_ok nmX12 (by decide) wf_X12_56 (Or.inr ⟨rfl, hnm, rfl⟩) (by decide +kernel) rfl rfl (Nat.le_of_ble_eq_true rfl) d_X12_init_700 ?_
  refine g_F (F2 := FC s G 0 15 (EPz G Ni (.inr (12, [.ref (gB G + 1), .int 5, .ref (gB G + 2), .ref (gB G + 3), .ref (gB G + 4), .int 0, .int 3, .ref (gB G + 5), .ref (gB G + 6), .ref (gB G + 7), .ref (gB G + 8), .int 0, .int 0, .int 0, .int 0, .int 0, .ref (gB G + 9), .int 0, .int 0, .int 0, .int 0, .int 0, .int 0, .int 0, .int 0, .ref (gB G + 10), .ref (gB G + 11), .ref (gB G + 12), .ref (gB G + 13), .ref (gB G + 14), .int 0, .null, .null, .null, .null, .int 0])))) (FC.c (fun i _ _ => congrFun (EPz_p0 G Ni _ _) i)) ?_
  exact h
theorem u12_703 {p : Program} {l : Launch} {e : Env} {s : State} {m : MethodId} {args : Array Value} {below : List Frame} {meth : Method} {c : Code} {Q : State → Prop} {G : GG} (C : GX p s m args c prog_14_method_1_code 1 "SnowSentriesModel") (K : KC G s) (hs0 : s.heap.size = gB G + (0 + 1)) (hnm : meth.name = "<init>")
    (h : Zg p l e { frames := 1, cells := 18, slots := 1928, locals := 12 } s m args below meth c 1 Q 15 1760 (FC s G 0 16 (EPz G Ni (.inr (12, [.ref (gB G + 1), .int 5, .ref (gB G + 2), .ref (gB G + 3), .ref (gB G + 4), .int 0, .int 3, .ref (gB G + 5), .ref (gB G + 6), .ref (gB G + 7), .ref (gB G + 8), .int 0, .int 0, .int 0, .int 0, .int 0, .ref (gB G + 9), .int 0, .int 0, .int 0, .int 0, .int 0, .int 0, .int 0, .int 0, .ref (gB G + 10), .ref (gB G + 11), .ref (gB G + 12), .ref (gB G + 13), .ref (gB G + 14), .int 0, .ref (gB G + 15), .null, .null, .null, .int 0])))) 710 [(0, .ref (gB G + 0))] []) : Zg p l e { frames := 1, cells := 18, slots := 1928, locals := 12 } s m args below meth c 1 Q 14 1758 (FC s G 0 15 (EPz G Ni (.inr (12, [.ref (gB G + 1), .int 5, .ref (gB G + 2), .ref (gB G + 3), .ref (gB G + 4), .int 0, .int 3, .ref (gB G + 5), .ref (gB G + 6), .ref (gB G + 7), .ref (gB G + 8), .int 0, .int 0, .int 0, .int 0, .int 0, .ref (gB G + 9), .int 0, .int 0, .int 0, .int 0, .int 0, .int 0, .int 0, .int 0, .ref (gB G + 10), .ref (gB G + 11), .ref (gB G + 12), .ref (gB G + 13), .ref (gB G + 14), .int 0, .null, .null, .null, .null, .int 0])))) 703 [(0, .ref (gB G + 0))] [] := by
  refine g_aload_n (x := gB G + 0) 0 C d_X12_init_703 rfl rfl ?_
  refine g_iconst (v := 2) C d_X12_init_704 rfl ?_
  refine k_newa (n := 15) (cells := 14) (slots := 1758) (t := 2) (N := 2) (atype := .boolean) (a0 := (2, .inl fun _ => 0)) C K (by omega) (by omega) (by omega) wA_boolean rfl rfl (fun _ _ h => h) (fun _ => rfl) (by decide) rfl (by decide) (Nat.le_of_ble_eq_true rfl) (Nat.le_of_ble_eq_true rfl) d_X12_init_705 ?_
  rw [up1_self (EPz G Ni _) 15 (x := .inl (gC G 2, 2, .inl fun _ => 0)) ((EPz_n (by decide)).trans (ez15 G))]
  refine k_put (n := 16) (a := 0) (k := 31) (ty := .array .boolean) (fs := [.ref (gB G + 1), .int 5, .ref (gB G + 2), .ref (gB G + 3), .ref (gB G + 4), .int 0, .int 3, .ref (gB G + 5), .ref (gB G + 6), .ref (gB G + 7), .ref (gB G + 8), .int 0, .int 0, .int 0, .int 0, .int 0, .ref (gB G + 9), .int 0, .int 0, .int 0, .int 0, .int 0, .int 0, .int 0, .int 0, .ref (gB G + 10), .ref (gB G + 11), .ref (gB G + 12), .ref (gB G + 13), .ref (gB G + 14), .int 0, .null, .null, .null, .null, .int 0]) C K.1 (by omega) (by omega) (EPz_0 G _ _) rfl inX12 tyX12 tyX12_ok nmX12 (by decide) wf_X12_59 (Or.inr ⟨rfl, hnm, rfl⟩) (by decide +kernel) rfl rfl (Nat.le_of_ble_eq_true rfl) d_X12_init_707 ?_
  refine g_F (F2 := FC s G 0 16 (EPz G Ni (.inr (12, [.ref (gB G + 1), .int 5, .ref (gB G + 2), .ref (gB G + 3), .ref (gB G + 4), .int 0, .int 3, .ref (gB G + 5), .ref (gB G + 6), .ref (gB G + 7), .ref (gB G + 8), .int 0, .int 0, .int 0, .int 0, .int 0, .ref (gB G + 9), .int 0, .int 0, .int 0, .int 0, .int 0, .int 0, .int 0, .int 0, .ref (gB G + 10), .ref (gB G + 11), .ref (gB G + 12), .ref (gB G + 13), .ref (gB G + 14), .int 0, .ref (gB G + 15), .null, .null, .null, .int 0])))) (FC.c (fun i _ _ => congrFun (EPz_p0 G Ni _ _) i)) ?_
  exact h
theorem u12_710 {p : Program} {l : Launch} {e : Env} {s : State} {m : MethodId} {args : Array Value} {below : List Frame} {meth : Method} {c : Code} {Q : State → Prop} {G : GG} (C : GX p s m args c prog_14_method_1_code 1 "SnowSentriesModel") (K : KC G s) (hs0 : s.heap.size = gB G + (0 + 1)) (hnm : meth.name = "<init>")
    (h : Zg p l e { frames := 1, cells := 18, slots := 1928, locals := 12 } s m args below meth c 1 Q 16 1764 (FC s G 0 17 (EPz G Ni (.inr (12, [.ref (gB G + 1), .int 5, .ref (gB G + 2), .ref (gB G + 3), .ref (gB G + 4), .int 0, .int 3, .ref (gB G + 5), .ref (gB G + 6), .ref (gB G + 7), .ref (gB G + 8), .int 0, .int 0, .int 0, .int 0, .int 0, .ref (gB G + 9), .int 0, .int 0, .int 0, .int 0, .int 0, .int 0, .int 0, .int 0, .ref (gB G + 10), .ref (gB G + 11), .ref (gB G + 12), .ref (gB G + 13), .ref (gB G + 14), .int 0, .ref (gB G + 15), .ref (gB G + 16), .null, .null, .int 0])))) 737 [(0, .ref (gB G + 0))] []) : Zg p l e { frames := 1, cells := 18, slots := 1928, locals := 12 } s m args below meth c 1 Q 15 1760 (FC s G 0 16 (EPz G Ni (.inr (12, [.ref (gB G + 1), .int 5, .ref (gB G + 2), .ref (gB G + 3), .ref (gB G + 4), .int 0, .int 3, .ref (gB G + 5), .ref (gB G + 6), .ref (gB G + 7), .ref (gB G + 8), .int 0, .int 0, .int 0, .int 0, .int 0, .ref (gB G + 9), .int 0, .int 0, .int 0, .int 0, .int 0, .int 0, .int 0, .int 0, .ref (gB G + 10), .ref (gB G + 11), .ref (gB G + 12), .ref (gB G + 13), .ref (gB G + 14), .int 0, .ref (gB G + 15), .null, .null, .null, .int 0])))) 710 [(0, .ref (gB G + 0))] [] := by
  refine g_aload_n (x := gB G + 0) 0 C d_X12_init_710 rfl rfl ?_
  refine g_iconst (v := 4) C d_X12_init_711 rfl ?_
  refine k_newa (n := 16) (cells := 15) (slots := 1760) (t := 0) (N := 4) (atype := .int) (a0 := (4, .inl fun _ => 0)) C K (by omega) (by omega) (by omega) wA_int rfl rfl (fun _ _ h => h) (fun _ => rfl) (by decide) rfl (by decide) (Nat.le_of_ble_eq_true rfl) (Nat.le_of_ble_eq_true rfl) d_X12_init_712 ?_
  rw [EPz_y (by decide)]
  refine t12_714 C K ?_
  rw [EPy_z (n := 16) (en16 G)]
  refine k_put (n := 17) (a := 0) (k := 32) (ty := .array .int) (fs := [.ref (gB G + 1), .int 5, .ref (gB G + 2), .ref (gB G + 3), .ref (gB G + 4), .int 0, .int 3, .ref (gB G + 5), .ref (gB G + 6), .ref (gB G + 7), .ref (gB G + 8), .int 0, .int 0, .int 0, .int 0, .int 0, .ref (gB G + 9), .int 0, .int 0, .int 0, .int 0, .int 0, .int 0, .int 0, .int 0, .ref (gB G + 10), .ref (gB G + 11), .ref (gB G + 12), .ref (gB G + 13), .ref (gB G + 14), .int 0, .ref (gB G + 15), .null, .null, .null, .int 0]) C K.1 (by omega) (by omega) (EPz_0 G _ _) rfl inX12 tyX12 tyX12_ok nmX12 (by decide) wf_X12_63 (Or.inr ⟨rfl, hnm, rfl⟩) (by decide +kernel) rfl rfl (Nat.le_of_ble_eq_true rfl) d_X12_init_734 ?_
  refine g_F (F2 := FC s G 0 17 (EPz G Ni (.inr (12, [.ref (gB G + 1), .int 5, .ref (gB G + 2), .ref (gB G + 3), .ref (gB G + 4), .int 0, .int 3, .ref (gB G + 5), .ref (gB G + 6), .ref (gB G + 7), .ref (gB G + 8), .int 0, .int 0, .int 0, .int 0, .int 0, .ref (gB G + 9), .int 0, .int 0, .int 0, .int 0, .int 0, .int 0, .int 0, .int 0, .ref (gB G + 10), .ref (gB G + 11), .ref (gB G + 12), .ref (gB G + 13), .ref (gB G + 14), .int 0, .ref (gB G + 15), .ref (gB G + 16), .null, .null, .int 0])))) (FC.c (fun i _ _ => congrFun (EPz_p0 G Ni _ _) i)) ?_
  exact h
theorem u12_737 {p : Program} {l : Launch} {e : Env} {s : State} {m : MethodId} {args : Array Value} {below : List Frame} {meth : Method} {c : Code} {Q : State → Prop} {G : GG} (C : GX p s m args c prog_14_method_1_code 1 "SnowSentriesModel") (K : KC G s) (hs0 : s.heap.size = gB G + (0 + 1)) (hnm : meth.name = "<init>")
    (h : Zg p l e { frames := 1, cells := 18, slots := 1928, locals := 12 } s m args below meth c 1 Q 17 1768 (FC s G 0 18 (EPz G Ni (.inr (12, [.ref (gB G + 1), .int 5, .ref (gB G + 2), .ref (gB G + 3), .ref (gB G + 4), .int 0, .int 3, .ref (gB G + 5), .ref (gB G + 6), .ref (gB G + 7), .ref (gB G + 8), .int 0, .int 0, .int 0, .int 0, .int 0, .ref (gB G + 9), .int 0, .int 0, .int 0, .int 0, .int 0, .int 0, .int 0, .int 0, .ref (gB G + 10), .ref (gB G + 11), .ref (gB G + 12), .ref (gB G + 13), .ref (gB G + 14), .int 0, .ref (gB G + 15), .ref (gB G + 16), .ref (gB G + 17), .null, .int 0])))) 744 [(0, .ref (gB G + 0))] []) : Zg p l e { frames := 1, cells := 18, slots := 1928, locals := 12 } s m args below meth c 1 Q 16 1764 (FC s G 0 17 (EPz G Ni (.inr (12, [.ref (gB G + 1), .int 5, .ref (gB G + 2), .ref (gB G + 3), .ref (gB G + 4), .int 0, .int 3, .ref (gB G + 5), .ref (gB G + 6), .ref (gB G + 7), .ref (gB G + 8), .int 0, .int 0, .int 0, .int 0, .int 0, .ref (gB G + 9), .int 0, .int 0, .int 0, .int 0, .int 0, .int 0, .int 0, .int 0, .ref (gB G + 10), .ref (gB G + 11), .ref (gB G + 12), .ref (gB G + 13), .ref (gB G + 14), .int 0, .ref (gB G + 15), .ref (gB G + 16), .null, .null, .int 0])))) 737 [(0, .ref (gB G + 0))] [] := by
  refine g_aload_n (x := gB G + 0) 0 C d_X12_init_737 rfl rfl ?_
  refine g_iconst (v := 4) C d_X12_init_738 rfl ?_
  refine k_newa (n := 17) (cells := 16) (slots := 1764) (t := 0) (N := 4) (atype := .int) (a0 := (4, .inl fun _ => 0)) C K (by omega) (by omega) (by omega) wA_int rfl rfl (fun _ _ h => h) (fun _ => rfl) (by decide) rfl (by decide) (Nat.le_of_ble_eq_true rfl) (Nat.le_of_ble_eq_true rfl) d_X12_init_739 ?_
  rw [up1_self (EPz G Ni _) 17 (x := .inl (gC G 0, 4, .inl fun _ => 0)) ((EPz_n (by decide)).trans (ez17 G))]
  refine k_put (n := 18) (a := 0) (k := 33) (ty := .array .int) (fs := [.ref (gB G + 1), .int 5, .ref (gB G + 2), .ref (gB G + 3), .ref (gB G + 4), .int 0, .int 3, .ref (gB G + 5), .ref (gB G + 6), .ref (gB G + 7), .ref (gB G + 8), .int 0, .int 0, .int 0, .int 0, .int 0, .ref (gB G + 9), .int 0, .int 0, .int 0, .int 0, .int 0, .int 0, .int 0, .int 0, .ref (gB G + 10), .ref (gB G + 11), .ref (gB G + 12), .ref (gB G + 13), .ref (gB G + 14), .int 0, .ref (gB G + 15), .ref (gB G + 16), .null, .null, .int 0]) C K.1 (by omega) (by omega) (EPz_0 G _ _) rfl inX12 tyX12 tyX12_ok nmX12 (by decide) wf_X12_66 (Or.inr ⟨rfl, hnm, rfl⟩) (by decide +kernel) rfl rfl (Nat.le_of_ble_eq_true rfl) d_X12_init_741 ?_
  refine g_F (F2 := FC s G 0 18 (EPz G Ni (.inr (12, [.ref (gB G + 1), .int 5, .ref (gB G + 2), .ref (gB G + 3), .ref (gB G + 4), .int 0, .int 3, .ref (gB G + 5), .ref (gB G + 6), .ref (gB G + 7), .ref (gB G + 8), .int 0, .int 0, .int 0, .int 0, .int 0, .ref (gB G + 9), .int 0, .int 0, .int 0, .int 0, .int 0, .int 0, .int 0, .int 0, .ref (gB G + 10), .ref (gB G + 11), .ref (gB G + 12), .ref (gB G + 13), .ref (gB G + 14), .int 0, .ref (gB G + 15), .ref (gB G + 16), .ref (gB G + 17), .null, .int 0])))) (FC.c (fun i _ _ => congrFun (EPz_p0 G Ni _ _) i)) ?_
  exact h
theorem u12_744 {p : Program} {l : Launch} {e : Env} {s : State} {m : MethodId} {args : Array Value} {below : List Frame} {meth : Method} {c : Code} {Q : State → Prop} {G : GG} (C : GX p s m args c prog_14_method_1_code 1 "SnowSentriesModel") (K : KC G s) (hs0 : s.heap.size = gB G + (0 + 1)) (hnm : meth.name = "<init>")
    (h : Zg p l e { frames := 1, cells := 18, slots := 1928, locals := 12 } s m args below meth c 1 Q 18 1928 (FC s G 0 19 (EPz G Ni (.inr (12, [.ref (gB G + 1), .int 5, .ref (gB G + 2), .ref (gB G + 3), .ref (gB G + 4), .int 0, .int 3, .ref (gB G + 5), .ref (gB G + 6), .ref (gB G + 7), .ref (gB G + 8), .int 0, .int 0, .int 0, .int 0, .int 0, .ref (gB G + 9), .int 0, .int 0, .int 0, .int 0, .int 0, .int 0, .int 0, .int 0, .ref (gB G + 10), .ref (gB G + 11), .ref (gB G + 12), .ref (gB G + 13), .ref (gB G + 14), .int 0, .ref (gB G + 15), .ref (gB G + 16), .ref (gB G + 17), .ref (gB G + 18), .int 0])))) 753 [(0, .ref (gB G + 0))] []) : Zg p l e { frames := 1, cells := 18, slots := 1928, locals := 12 } s m args below meth c 1 Q 17 1768 (FC s G 0 18 (EPz G Ni (.inr (12, [.ref (gB G + 1), .int 5, .ref (gB G + 2), .ref (gB G + 3), .ref (gB G + 4), .int 0, .int 3, .ref (gB G + 5), .ref (gB G + 6), .ref (gB G + 7), .ref (gB G + 8), .int 0, .int 0, .int 0, .int 0, .int 0, .ref (gB G + 9), .int 0, .int 0, .int 0, .int 0, .int 0, .int 0, .int 0, .int 0, .ref (gB G + 10), .ref (gB G + 11), .ref (gB G + 12), .ref (gB G + 13), .ref (gB G + 14), .int 0, .ref (gB G + 15), .ref (gB G + 16), .ref (gB G + 17), .null, .int 0])))) 744 [(0, .ref (gB G + 0))] [] := by
  refine g_aload_n (x := gB G + 0) 0 C d_X12_init_744 rfl rfl ?_
  refine g_sipush (v := 160) C d_X12_init_745 rfl ?_
  refine k_newa (n := 18) (cells := 17) (slots := 1768) (t := 0) (N := 160) (atype := .int) (a0 := (160, .inl fun _ => 0)) C K (by omega) (by omega) (by omega) wA_int rfl rfl (fun _ _ h => h) (fun _ => rfl) (by decide) rfl (by decide) (Nat.le_of_ble_eq_true rfl) (Nat.le_of_ble_eq_true rfl) d_X12_init_748 ?_
  rw [up1_self (EPz G Ni _) 18 (x := .inl (gC G 0, 160, .inl fun _ => 0)) ((EPz_n (by decide)).trans (ez18 G))]
  refine k_put (n := 19) (a := 0) (k := 34) (ty := .array .int) (fs := [.ref (gB G + 1), .int 5, .ref (gB G + 2), .ref (gB G + 3), .ref (gB G + 4), .int 0, .int 3, .ref (gB G + 5), .ref (gB G + 6), .ref (gB G + 7), .ref (gB G + 8), .int 0, .int 0, .int 0, .int 0, .int 0, .ref (gB G + 9), .int 0, .int 0, .int 0, .int 0, .int 0, .int 0, .int 0, .int 0, .ref (gB G + 10), .ref (gB G + 11), .ref (gB G + 12), .ref (gB G + 13), .ref (gB G + 14), .int 0, .ref (gB G + 15), .ref (gB G + 16), .ref (gB G + 17), .null, .int 0]) C K.1 (by omega) (by omega) (EPz_0 G _ _) rfl inX12 tyX12 tyX12_ok nmX12 (by decide) wf_X12_69 (Or.inr ⟨rfl, hnm, rfl⟩) (by decide +kernel) rfl rfl (Nat.le_of_ble_eq_true rfl) d_X12_init_750 ?_
  refine g_F (F2 := FC s G 0 19 (EPz G Ni (.inr (12, [.ref (gB G + 1), .int 5, .ref (gB G + 2), .ref (gB G + 3), .ref (gB G + 4), .int 0, .int 3, .ref (gB G + 5), .ref (gB G + 6), .ref (gB G + 7), .ref (gB G + 8), .int 0, .int 0, .int 0, .int 0, .int 0, .ref (gB G + 9), .int 0, .int 0, .int 0, .int 0, .int 0, .int 0, .int 0, .int 0, .ref (gB G + 10), .ref (gB G + 11), .ref (gB G + 12), .ref (gB G + 13), .ref (gB G + 14), .int 0, .ref (gB G + 15), .ref (gB G + 16), .ref (gB G + 17), .ref (gB G + 18), .int 0])))) (FC.c (fun i _ _ => congrFun (EPz_p0 G Ni _ _) i)) ?_
  exact h
theorem n_X12_init (l : Launch) (G : GG)  : CN l G y_X12_init prog_14_method_1_code 1 1 12 18 1928 0 (.inr (12, [.null, .int 0, .null, .null, .null, .int 0, .int 0, .null, .null, .null, .null, .int 0, .int 0, .int 0, .int 0, .int 0, .null, .int 0, .int 0, .int 0, .int 0, .int 0, .int 0, .int 0, .int 0, .null, .null, .null, .null, .null, .int 0, .null, .null, .null, .null, .int 0])) (EU 1 G Ni) := by
  refine CN.of (by decide) rfl (by decide) ?_
  intro p e s m args below meth c C K hs0 hlk hr hnm
  refine g_aload_n (x := gB G + 0) 0 C d_X12_init_0 rfl rfl ?_
  refine k_obj C wO_X12 wOi wOc (Nat.le_of_ble_eq_true rfl) (Nat.le_of_ble_eq_true rfl) d_X12_init_1 ?_
  refine g_F (F2 := FC s G 0 1 (EPz G Ni (.inr (12, [.null, .int 0, .null, .null, .null, .int 0, .int 0, .null, .null, .null, .null, .int 0, .int 0, .int 0, .int 0, .int 0, .null, .int 0, .int 0, .int 0, .int 0, .int 0, .int 0, .int 0, .int 0, .null, .null, .null, .null, .null, .int 0, .null, .null, .null, .null, .int 0])))) (FC.c (fun i h1 h2 => ?_)) ?_
  · obtain rfl : i = 0 := by omega
    exact (EPz_0 G _ _).symm
  refine u12_4 C K hs0 hnm ?_
  refine u12_13 C K hs0 hnm ?_
  refine u12_18 C K hs0 hnm ?_
  refine u12_26 C K hs0 hnm ?_
  refine u12_45 C K hs0 hnm ?_
  refine u12_53 C K hs0 hnm ?_
  refine u12_58 C K hs0 hnm ?_
  refine u12_67 C K hs0 hnm ?_
  refine u12_75 C K hs0 hnm ?_
  refine u12_82 C K hs0 hnm ?_
  refine u12_90 C K hs0 hnm ?_
  refine u12_99 C K hs0 hnm ?_
  refine u12_202 C K hs0 hnm ?_
  refine u12_678 C K hs0 hnm ?_
  refine u12_686 C K hs0 hnm ?_
  refine u12_695 C K hs0 hnm ?_
  refine u12_703 C K hs0 hnm ?_
  refine u12_710 C K hs0 hnm ?_
  refine u12_737 C K hs0 hnm ?_
  refine u12_744 C K hs0 hnm ?_
  refine k_vret C hlk hr rfl (fun i h1 h2 => ?_) rfl rfl d_X12_init_753
  by_cases i0 : i = 0
  · rw [i0]
    exact (EPz_0 G _ _).trans rfl
  · exact EPz_n i0
