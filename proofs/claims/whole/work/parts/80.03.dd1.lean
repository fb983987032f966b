theorem dX12_init_0 : decode cX12_init 0 = .ok (.aload_n 0, 1) := by decide +kernel
theorem dX12_init_1 : decode cX12_init 1 = .ok (.invokespecial 3, 3) := by decide +kernel
theorem dX12_init_4 : decode cX12_init 4 = .ok (.aload_n 0, 1) := by decide +kernel
theorem dX12_init_5 : decode cX12_init 5 = .ok (.bipush 49, 2) := by decide +kernel
theorem dX12_init_7 : decode cX12_init 7 = .ok (.newarray .int, 2) := by decide +kernel
theorem dX12_init_9 : decode cX12_init 9 = .ok (.putfield 9, 3) := by decide +kernel
theorem dX12_init_12 : decode cX12_init 12 = .ok (.aload_n 0, 1) := by decide +kernel
theorem dX12_init_13 : decode cX12_init 13 = .ok (.bipush 8, 2) := by decide +kernel
theorem dX12_init_15 : decode cX12_init 15 = .ok (.newarray .int, 2) := by decide +kernel
theorem dX12_init_17 : decode cX12_init 17 = .ok (.putfield 13, 3) := by decide +kernel
theorem dX12_init_20 : decode cX12_init 20 = .ok (.aload_n 0, 1) := by decide +kernel
theorem dX12_init_21 : decode cX12_init 21 = .ok (.bipush 8, 2) := by decide +kernel
theorem dX12_init_23 : decode cX12_init 23 = .ok (.newarray .int, 2) := by decide +kernel
theorem dX12_init_25 : decode cX12_init 25 = .ok (.putfield 16, 3) := by decide +kernel
theorem dX12_init_28 : decode cX12_init 28 = .ok (.aload_n 0, 1) := by decide +kernel
theorem dX12_init_29 : decode cX12_init 29 = .ok (.bipush 8, 2) := by decide +kernel
theorem dX12_init_31 : decode cX12_init 31 = .ok (.newarray .int, 2) := by decide +kernel
theorem dX12_init_33 : decode cX12_init 33 = .ok (.putfield 19, 3) := by decide +kernel
theorem dX12_init_36 : decode cX12_init 36 = .ok (.aload_n 0, 1) := by decide +kernel
theorem dX12_init_37 : decode cX12_init 37 = .ok (.sipush 600, 3) := by decide +kernel
theorem dX12_init_40 : decode cX12_init 40 = .ok (.putfield 22, 3) := by decide +kernel
theorem dX12_init_43 : decode cX12_init 43 = .ok (.aload_n 0, 1) := by decide +kernel
theorem dX12_init_44 : decode cX12_init 44 = .ok (.bipush 6, 2) := by decide +kernel
theorem dX12_init_46 : decode cX12_init 46 = .ok (.newarray .int, 2) := by decide +kernel
theorem dX12_init_48 : decode cX12_init 48 = .ok (.putfield 26, 3) := by decide +kernel
theorem dX12_init_51 : decode cX12_init 51 = .ok (.aload_n 0, 1) := by decide +kernel
theorem dX12_init_52 : decode cX12_init 52 = .ok (.bipush 6, 2) := by decide +kernel
theorem dX12_init_54 : decode cX12_init 54 = .ok (.newarray .int, 2) := by decide +kernel
theorem dX12_init_56 : decode cX12_init 56 = .ok (.putfield 29, 3) := by decide +kernel
theorem dX12_init_59 : decode cX12_init 59 = .ok (.aload_n 0, 1) := by decide +kernel
theorem dX12_init_60 : decode cX12_init 60 = .ok (.bipush 24, 2) := by decide +kernel
theorem dX12_init_62 : decode cX12_init 62 = .ok (.newarray .int, 2) := by decide +kernel
theorem dX12_init_64 : decode cX12_init 64 = .ok (.putfield 32, 3) := by decide +kernel
theorem dX12_init_67 : decode cX12_init 67 = .ok (.aload_n 0, 1) := by decide +kernel
theorem dX12_init_68 : decode cX12_init 68 = .ok (.bipush 48, 2) := by decide +kernel
theorem dX12_init_70 : decode cX12_init 70 = .ok (.newarray .int, 2) := by decide +kernel
theorem dX12_init_72 : decode cX12_init 72 = .ok (.putfield 35, 3) := by decide +kernel
theorem dX12_init_75 : decode cX12_init 75 = .ok (.aload_n 0, 1) := by decide +kernel
theorem dX12_init_76 : decode cX12_init 76 = .ok (.bipush 6, 2) := by decide +kernel
theorem dX12_init_78 : decode cX12_init 78 = .ok (.newarray .int, 2) := by decide +kernel
theorem dX12_init_80 : decode cX12_init 80 = .ok (.dup, 1) := by decide +kernel
theorem dX12_init_81 : decode cX12_init 81 = .ok (.iconst 0, 1) := by decide +kernel
theorem dX12_init_82 : decode cX12_init 82 = .ok (.bipush 50, 2) := by decide +kernel
theorem dX12_init_84 : decode cX12_init 84 = .ok (.iastore, 1) := by decide +kernel
theorem dX12_init_85 : decode cX12_init 85 = .ok (.dup, 1) := by decide +kernel
theorem dX12_init_86 : decode cX12_init 86 = .ok (.iconst 1, 1) := by decide +kernel
theorem dX12_init_87 : decode cX12_init 87 = .ok (.bipush 30, 2) := by decide +kernel
theorem dX12_init_89 : decode cX12_init 89 = .ok (.iastore, 1) := by decide +kernel
theorem dX12_init_90 : decode cX12_init 90 = .ok (.dup, 1) := by decide +kernel
theorem dX12_init_91 : decode cX12_init 91 = .ok (.iconst 2, 1) := by decide +kernel
theorem dX12_init_92 : decode cX12_init 92 = .ok (.bipush 20, 2) := by decide +kernel
theorem dX12_init_94 : decode cX12_init 94 = .ok (.iastore, 1) := by decide +kernel
theorem dX12_init_95 : decode cX12_init 95 = .ok (.dup, 1) := by decide +kernel
theorem dX12_init_96 : decode cX12_init 96 = .ok (.iconst 3, 1) := by decide +kernel
theorem dX12_init_97 : decode cX12_init 97 = .ok (.bipush 10, 2) := by decide +kernel
theorem dX12_init_99 : decode cX12_init 99 = .ok (.iastore, 1) := by decide +kernel
theorem dX12_init_100 : decode cX12_init 100 = .ok (.dup, 1) := by decide +kernel
theorem dX12_init_101 : decode cX12_init 101 = .ok (.iconst 4, 1) := by decide +kernel
theorem dX12_init_102 : decode cX12_init 102 = .ok (.iconst 5, 1) := by decide +kernel
theorem dX12_init_103 : decode cX12_init 103 = .ok (.iastore, 1) := by decide +kernel
theorem dX12_init_104 : decode cX12_init 104 = .ok (.dup, 1) := by decide +kernel
theorem dX12_init_105 : decode cX12_init 105 = .ok (.iconst 5, 1) := by decide +kernel
theorem dX12_init_106 : decode cX12_init 106 = .ok (.iconst 5, 1) := by decide +kernel
theorem dX12_init_107 : decode cX12_init 107 = .ok (.iastore, 1) := by decide +kernel
theorem dX12_init_108 : decode cX12_init 108 = .ok (.putfield 38, 3) := by decide +kernel
theorem dX12_init_111 : decode cX12_init 111 = .ok (.aload_n 0, 1) := by decide +kernel
theorem dX12_init_112 : decode cX12_init 112 = .ok (.bipush 80, 2) := by decide +kernel
theorem dX12_init_114 : decode cX12_init 114 = .ok (.newarray .byte, 2) := by decide +kernel
theorem dX12_init_116 : decode cX12_init 116 = .ok (.putfield 41, 3) := by decide +kernel
theorem dX12_init_119 : decode cX12_init 119 = .ok (.aload_n 0, 1) := by decide +kernel
theorem dX12_init_120 : decode cX12_init 120 = .ok (.bipush 16, 2) := by decide +kernel
theorem dX12_init_122 : decode cX12_init 122 = .ok (.newarray .long, 2) := by decide +kernel
theorem dX12_init_124 : decode cX12_init 124 = .ok (.putfield 45, 3) := by decide +kernel
theorem dX12_init_127 : decode cX12_init 127 = .ok (.aload_n 0, 1) := by decide +kernel
theorem dX12_init_128 : decode cX12_init 128 = .ok (.bipush 24, 2) := by decide +kernel
theorem dX12_init_130 : decode cX12_init 130 = .ok (.newarray .int, 2) := by decide +kernel
theorem dX12_init_132 : decode cX12_init 132 = .ok (.putfield 49, 3) := by decide +kernel
theorem dX12_init_135 : decode cX12_init 135 = .ok (.aload_n 0, 1) := by decide +kernel
theorem dX12_init_136 : decode cX12_init 136 = .ok (.bipush 36, 2) := by decide +kernel
theorem dX12_init_138 : decode cX12_init 138 = .ok (.newarray .int, 2) := by decide +kernel
theorem dX12_init_140 : decode cX12_init 140 = .ok (.putfield 52, 3) := by decide +kernel
theorem dX12_init_143 : decode cX12_init 143 = .ok (.aload_n 0, 1) := by decide +kernel
theorem dX12_init_144 : decode cX12_init 144 = .ok (.bipush 6, 2) := by decide +kernel
theorem dX12_init_146 : decode cX12_init 146 = .ok (.newarray .int, 2) := by decide +kernel
theorem dX12_init_148 : decode cX12_init 148 = .ok (.putfield 55, 3) := by decide +kernel
theorem dX12_init_151 : decode cX12_init 151 = .ok (.aload_n 0, 1) := by decide +kernel
theorem dX12_init_152 : decode cX12_init 152 = .ok (.bipush 40, 2) := by decide +kernel
theorem dX12_init_154 : decode cX12_init 154 = .ok (.newarray .byte, 2) := by decide +kernel
theorem dX12_init_156 : decode cX12_init 156 = .ok (.putfield 58, 3) := by decide +kernel
theorem dX12_init_159 : decode cX12_init 159 = .ok (.aload_n 0, 1) := by decide +kernel
theorem dX12_init_160 : decode cX12_init 160 = .ok (.bipush 9, 2) := by decide +kernel
theorem dX12_init_162 : decode cX12_init 162 = .ok (.newarray .int, 2) := by decide +kernel
theorem dX12_init_164 : decode cX12_init 164 = .ok (.putfield 61, 3) := by decide +kernel
theorem dX12_init_167 : decode cX12_init 167 = .ok (.aload_n 0, 1) := by decide +kernel
theorem dX12_init_168 : decode cX12_init 168 = .ok (.sipush 11700, 3) := by decide +kernel
theorem dX12_init_171 : decode cX12_init 171 = .ok (.newarray .int, 2) := by decide +kernel
theorem dX12_init_173 : decode cX12_init 173 = .ok (.putfield 64, 3) := by decide +kernel
theorem dX12_init_176 : decode cX12_init 176 = .ok (.aload_n 0, 1) := by decide +kernel
theorem dX12_init_177 : decode cX12_init 177 = .ok (.bipush 64, 2) := by decide +kernel
theorem dX12_init_179 : decode cX12_init 179 = .ok (.newarray .int, 2) := by decide +kernel
theorem dX12_init_181 : decode cX12_init 181 = .ok (.putfield 67, 3) := by decide +kernel
theorem dX12_init_184 : decode cX12_init 184 = .ok (.aload_n 0, 1) := by decide +kernel
theorem dX12_init_185 : decode cX12_init 185 = .ok (.bipush 64, 2) := by decide +kernel
theorem dX12_init_187 : decode cX12_init 187 = .ok (.newarray .int, 2) := by decide +kernel
theorem dX12_init_189 : decode cX12_init 189 = .ok (.putfield 70, 3) := by decide +kernel
theorem dX12_init_192 : decode cX12_init 192 = .ok (.aload_n 0, 1) := by decide +kernel
theorem dX12_init_193 : decode cX12_init 193 = .ok (.sipush 588, 3) := by decide +kernel
theorem dX12_init_196 : decode cX12_init 196 = .ok (.newarray .int, 2) := by decide +kernel
theorem dX12_init_198 : decode cX12_init 198 = .ok (.putfield 73, 3) := by decide +kernel
theorem dX12_init_201 : decode cX12_init 201 = .ok (.aload_n 0, 1) := by decide +kernel
theorem dX12_init_202 : decode cX12_init 202 = .ok (.bipush 49, 2) := by decide +kernel
theorem dX12_init_204 : decode cX12_init 204 = .ok (.newarray .int, 2) := by decide +kernel
theorem dX12_init_206 : decode cX12_init 206 = .ok (.putfield 76, 3) := by decide +kernel
theorem dX12_init_209 : decode cX12_init 209 = .ok (.aload_n 0, 1) := by decide +kernel
theorem dX12_init_210 : decode cX12_init 210 = .ok (.sipush 400, 3) := by decide +kernel
theorem dX12_init_213 : decode cX12_init 213 = .ok (.newarray .int, 2) := by decide +kernel
theorem dX12_init_215 : decode cX12_init 215 = .ok (.putfield 79, 3) := by decide +kernel
theorem dX12_init_218 : decode cX12_init 218 = .ok (.aload_n 0, 1) := by decide +kernel
theorem dX12_init_219 : decode cX12_init 219 = .ok (.bipush 49, 2) := by decide +kernel
theorem dX12_init_221 : decode cX12_init 221 = .ok (.newarray .int, 2) := by decide +kernel
theorem dX12_init_223 : decode cX12_init 223 = .ok (.putfield 82, 3) := by decide +kernel
theorem dX12_init_226 : decode cX12_init 226 = .ok (.aload_n 0, 1) := by decide +kernel
theorem dX12_init_227 : decode cX12_init 227 = .ok (.iconst 3, 1) := by decide +kernel
theorem dX12_init_228 : decode cX12_init 228 = .ok (.newarray .int, 2) := by decide +kernel
theorem dX12_init_230 : decode cX12_init 230 = .ok (.putfield 85, 3) := by decide +kernel
theorem dX12_init_233 : decode cX12_init 233 = .ok (.aload_n 0, 1) := by decide +kernel
theorem dX12_init_234 : decode cX12_init 234 = .ok (.bipush 12, 2) := by decide +kernel
theorem dX12_init_236 : decode cX12_init 236 = .ok (.newarray .long, 2) := by decide +kernel
theorem dX12_init_238 : decode cX12_init 238 = .ok (.putfield 88, 3) := by decide +kernel
theorem dX12_init_241 : decode cX12_init 241 = .ok (.aload_n 0, 1) := by decide +kernel
theorem dX12_init_242 : decode cX12_init 242 = .ok (.iconst 4, 1) := by decide +kernel
theorem dX12_init_243 : decode cX12_init 243 = .ok (.newarray .int, 2) := by decide +kernel
theorem dX12_init_245 : decode cX12_init 245 = .ok (.putfield 91, 3) := by decide +kernel
theorem dX12_init_248 : decode cX12_init 248 = .ok (.aload_n 0, 1) := by decide +kernel
theorem dX12_init_249 : decode cX12_init 249 = .ok (.bipush 12, 2) := by decide +kernel
theorem dX12_init_251 : decode cX12_init 251 = .ok (.newarray .int, 2) := by decide +kernel
theorem dX12_init_253 : decode cX12_init 253 = .ok (.putfield 94, 3) := by decide +kernel
theorem dX12_init_256 : decode cX12_init 256 = .ok (.aload_n 0, 1) := by decide +kernel
theorem dX12_init_257 : decode cX12_init 257 = .ok (.iconst 3, 1) := by decide +kernel
theorem dX12_init_258 : decode cX12_init 258 = .ok (.newarray .int, 2) := by decide +kernel
theorem dX12_init_260 : decode cX12_init 260 = .ok (.putfield 97, 3) := by decide +kernel
theorem dX12_init_263 : decode cX12_init 263 = .ok (.aload_n 0, 1) := by decide +kernel
theorem dX12_init_264 : decode cX12_init 264 = .ok (.bipush 6, 2) := by decide +kernel
theorem dX12_init_266 : decode cX12_init 266 = .ok (.newarray .int, 2) := by decide +kernel
theorem dX12_init_268 : decode cX12_init 268 = .ok (.putfield 100, 3) := by decide +kernel
theorem dX12_init_271 : decode cX12_init 271 = .ok (.aload_n 0, 1) := by decide +kernel
theorem dX12_init_272 : decode cX12_init 272 = .ok (.bipush 7, 2) := by decide +kernel
theorem dX12_init_274 : decode cX12_init 274 = .ok (.newarray .long, 2) := by decide +kernel
theorem dX12_init_276 : decode cX12_init 276 = .ok (.putfield 103, 3) := by decide +kernel
theorem dX12_init_279 : decode cX12_init 279 = .ok (.aload_n 0, 1) := by decide +kernel
theorem dX12_init_280 : decode cX12_init 280 = .ok (.bipush 98, 2) := by decide +kernel
theorem dX12_init_282 : decode cX12_init 282 = .ok (.newarray .int, 2) := by decide +kernel
theorem dX12_init_284 : decode cX12_init 284 = .ok (.putfield 106, 3) := by decide +kernel
theorem dX12_init_287 : decode cX12_init 287 = .ok (.aload_n 0, 1) := by decide +kernel
theorem dX12_init_288 : decode cX12_init 288 = .ok (.iconst 2, 1) := by decide +kernel
theorem dX12_init_289 : decode cX12_init 289 = .ok (.newarray .boolean, 2) := by decide +kernel
theorem dX12_init_291 : decode cX12_init 291 = .ok (.putfield 109, 3) := by decide +kernel
theorem dX12_init_294 : decode cX12_init 294 = .ok (.return_, 1) := by decide +kernel
theorem dX12_thrown_0 : decode cX12_thrown 0 = .ok (.aload_n 0, 1) := by decide +kernel
theorem dX12_thrown_1 : decode cX12_thrown 1 = .ok (.getfield 113, 3) := by decide +kernel
theorem dX12_thrown_4 : decode cX12_thrown 4 = .ok (.ireturn, 1) := by decide +kernel
theorem dX12_in_0 : decode cX12_in 0 = .ok (.iload_n 0, 1) := by decide +kernel
theorem dX12_in_1 : decode cX12_in 1 = .ok (.iload_n 1, 1) := by decide +kernel
theorem dX12_in_2 : decode cX12_in 2 = .ok (.if_icmp .lt 12, 3) := by decide +kernel
theorem dX12_in_5 : decode cX12_in 5 = .ok (.iload_n 0, 1) := by decide +kernel
theorem dX12_in_6 : decode cX12_in 6 = .ok (.iload_n 2, 1) := by decide +kernel
theorem dX12_in_7 : decode cX12_in 7 = .ok (.if_icmp .gt 7, 3) := by decide +kernel
theorem dX12_in_10 : decode cX12_in 10 = .ok (.iconst 1, 1) := by decide +kernel
theorem dX12_in_11 : decode cX12_in 11 = .ok (.goto 4, 3) := by decide +kernel
theorem dX12_in_14 : decode cX12_in 14 = .ok (.iconst 0, 1) := by decide +kernel
theorem dX12_in_15 : decode cX12_in 15 = .ok (.ireturn, 1) := by decide +kernel
theorem dX12_lost_0 : decode cX12_lost 0 = .ok (.aload_n 0, 1) := by decide +kernel
theorem dX12_lost_1 : decode cX12_lost 1 = .ok (.iconst 1, 1) := by decide +kernel
theorem dX12_lost_2 : decode cX12_lost 2 = .ok (.putfield 113, 3) := by decide +kernel
theorem dX12_lost_5 : decode cX12_lost 5 = .ok (.iconst 0, 1) := by decide +kernel
theorem dX12_lost_6 : decode cX12_lost 6 = .ok (.ireturn, 1) := by decide +kernel
theorem dX12_tell_0 : decode cX12_tell 0 = .ok (.aload_n 0, 1) := by decide +kernel
theorem dX12_tell_1 : decode cX12_tell 1 = .ok (.getfield 45, 3) := by decide +kernel
theorem dX12_tell_4 : decode cX12_tell 4 = .ok (.aload_n 0, 1) := by decide +kernel
theorem dX12_tell_5 : decode cX12_tell 5 = .ok (.getfield 116, 3) := by decide +kernel
theorem dX12_tell_8 : decode cX12_tell 8 = .ok (.lload_n 1, 1) := by decide +kernel
theorem dX12_tell_9 : decode cX12_tell 9 = .ok (.lastore, 1) := by decide +kernel
theorem dX12_tell_10 : decode cX12_tell 10 = .ok (.aload_n 0, 1) := by decide +kernel
theorem dX12_tell_11 : decode cX12_tell 11 = .ok (.dup, 1) := by decide +kernel
theorem dX12_tell_12 : decode cX12_tell 12 = .ok (.getfield 116, 3) := by decide +kernel
theorem dX12_tell_15 : decode cX12_tell 15 = .ok (.iconst 1, 1) := by decide +kernel
theorem dX12_tell_16 : decode cX12_tell 16 = .ok (.iadd, 1) := by decide +kernel
theorem dX12_tell_17 : decode cX12_tell 17 = .ok (.putfield 116, 3) := by decide +kernel
theorem dX12_tell_20 : decode cX12_tell 20 = .ok (.return_, 1) := by decide +kernel
theorem dX12_isFence_0 : decode cX12_isFence 0 = .ok (.iload_n 1, 1) := by decide +kernel
theorem dX12_isFence_1 : decode cX12_isFence 1 = .ok (.iconst 0, 1) := by decide +kernel
theorem dX12_isFence_2 : decode cX12_isFence 2 = .ok (.aload_n 0, 1) := by decide +kernel
theorem dX12_isFence_3 : decode cX12_isFence 3 = .ok (.getfield 119, 3) := by decide +kernel
theorem dX12_isFence_6 : decode cX12_isFence 6 = .ok (.iconst 1, 1) := by decide +kernel
theorem dX12_isFence_7 : decode cX12_isFence 7 = .ok (.isub, 1) := by decide +kernel
theorem dX12_isFence_8 : decode cX12_isFence 8 = .ok (.invokestatic 122, 3) := by decide +kernel
theorem dX12_isFence_11 : decode cX12_isFence 11 = .ok (.ireturn, 1) := by decide +kernel
theorem dX12_isHorse_0 : decode cX12_isHorse 0 = .ok (.iload_n 1, 1) := by decide +kernel
theorem dX12_isHorse_1 : decode cX12_isHorse 1 = .ok (.iconst 0, 1) := by decide +kernel
theorem dX12_isHorse_2 : decode cX12_isHorse 2 = .ok (.aload_n 0, 1) := by decide +kernel
theorem dX12_isHorse_3 : decode cX12_isHorse 3 = .ok (.getfield 126, 3) := by decide +kernel
theorem dX12_isHorse_6 : decode cX12_isHorse 6 = .ok (.iconst 1, 1) := by decide +kernel
theorem dX12_isHorse_7 : decode cX12_isHorse 7 = .ok (.isub, 1) := by decide +kernel
theorem dX12_isHorse_8 : decode cX12_isHorse 8 = .ok (.invokestatic 122, 3) := by decide +kernel
theorem dX12_isHorse_11 : decode cX12_isHorse 11 = .ok (.ireturn, 1) := by decide +kernel
theorem dX12_isPlan_0 : decode cX12_isPlan 0 = .ok (.iload_n 1, 1) := by decide +kernel
theorem dX12_isPlan_1 : decode cX12_isPlan 1 = .ok (.iconst 0, 1) := by decide +kernel
theorem dX12_isPlan_2 : decode cX12_isPlan 2 = .ok (.aload_n 0, 1) := by decide +kernel
theorem dX12_isPlan_3 : decode cX12_isPlan 3 = .ok (.getfield 129, 3) := by decide +kernel
theorem dX12_isPlan_6 : decode cX12_isPlan 6 = .ok (.iconst 1, 1) := by decide +kernel
theorem dX12_isPlan_7 : decode cX12_isPlan 7 = .ok (.isub, 1) := by decide +kernel
theorem dX12_isPlan_8 : decode cX12_isPlan 8 = .ok (.invokestatic 122, 3) := by decide +kernel
theorem dX12_isPlan_11 : decode cX12_isPlan 11 = .ok (.ireturn, 1) := by decide +kernel
theorem dX12_areBoth_0 : decode cX12_areBoth 0 = .ok (.aload_n 0, 1) := by decide +kernel
theorem dX12_areBoth_1 : decode cX12_areBoth 1 = .ok (.iload_n 1, 1) := by decide +kernel
theorem dX12_areBoth_2 : decode cX12_areBoth 2 = .ok (.invokevirtual 132, 3) := by decide +kernel
theorem dX12_areBoth_5 : decode cX12_areBoth 5 = .ok (.ifCond .eq 15, 3) := by decide +kernel
theorem dX12_areBoth_8 : decode cX12_areBoth 8 = .ok (.aload_n 0, 1) := by decide +kernel
theorem dX12_areBoth_9 : decode cX12_areBoth 9 = .ok (.iload_n 2, 1) := by decide +kernel
theorem dX12_areBoth_10 : decode cX12_areBoth 10 = .ok (.invokevirtual 136, 3) := by decide +kernel
theorem dX12_areBoth_13 : decode cX12_areBoth 13 = .ok (.ifCond .eq 7, 3) := by decide +kernel
theorem dX12_areBoth_16 : decode cX12_areBoth 16 = .ok (.iconst 1, 1) := by decide +kernel
theorem dX12_areBoth_17 : decode cX12_areBoth 17 = .ok (.goto 4, 3) := by decide +kernel
theorem dX12_areBoth_20 : decode cX12_areBoth 20 = .ok (.iconst 0, 1) := by decide +kernel
theorem dX12_areBoth_21 : decode cX12_areBoth 21 = .ok (.ireturn, 1) := by decide +kernel
theorem dX12_isMost_0 : decode cX12_isMost 0 = .ok (.iload_n 0, 1) := by decide +kernel
theorem dX12_isMost_1 : decode cX12_isMost 1 = .ok (.iconst 0, 1) := by decide +kernel
theorem dX12_isMost_2 : decode cX12_isMost 2 = .ok (.sipush 9999, 3) := by decide +kernel
theorem dX12_isMost_5 : decode cX12_isMost 5 = .ok (.invokestatic 122, 3) := by decide +kernel
theorem dX12_isMost_8 : decode cX12_isMost 8 = .ok (.ireturn, 1) := by decide +kernel
theorem dX12_sign_0 : decode cX12_sign 0 = .ok (.aload_n 0, 1) := by decide +kernel
theorem dX12_sign_1 : decode cX12_sign 1 = .ok (.iconst 0, 1) := by decide +kernel
theorem dX12_sign_2 : decode cX12_sign 2 = .ok (.putfield 113, 3) := by decide +kernel
theorem dX12_sign_5 : decode cX12_sign 5 = .ok (.aload_n 0, 1) := by decide +kernel
theorem dX12_sign_6 : decode cX12_sign 6 = .ok (.getfield 139, 3) := by decide +kernel
theorem dX12_sign_9 : decode cX12_sign 9 = .ok (.iconst 4, 1) := by decide +kernel
theorem dX12_sign_10 : decode cX12_sign 10 = .ok (.iadd, 1) := by decide +kernel
theorem dX12_sign_11 : decode cX12_sign 11 = .ok (.bipush 80, 2) := by decide +kernel
theorem dX12_sign_13 : decode cX12_sign 13 = .ok (.if_icmp .le 5, 3) := by decide +kernel
theorem dX12_sign_16 : decode cX12_sign 16 = .ok (.iconst (-1), 1) := by decide +kernel
theorem dX12_sign_17 : decode cX12_sign 17 = .ok (.ireturn, 1) := by decide +kernel
theorem dX12_sign_18 : decode cX12_sign 18 = .ok (.iconst 3, 1) := by decide +kernel
theorem dX12_sign_19 : decode cX12_sign 19 = .ok (.istore_n 2, 1) := by decide +kernel
theorem dX12_sign_20 : decode cX12_sign 20 = .ok (.iload_n 2, 1) := by decide +kernel
theorem dX12_sign_21 : decode cX12_sign 21 = .ok (.ifCond .lt 32, 3) := by decide +kernel
theorem dX12_sign_24 : decode cX12_sign 24 = .ok (.aload_n 0, 1) := by decide +kernel
theorem dX12_sign_25 : decode cX12_sign 25 = .ok (.getfield 41, 3) := by decide +kernel
theorem dX12_sign_28 : decode cX12_sign 28 = .ok (.aload_n 0, 1) := by decide +kernel
theorem dX12_sign_29 : decode cX12_sign 29 = .ok (.dup, 1) := by decide +kernel
theorem dX12_sign_30 : decode cX12_sign 30 = .ok (.getfield 139, 3) := by decide +kernel
theorem dX12_sign_33 : decode cX12_sign 33 = .ok (.dup_x1, 1) := by decide +kernel
theorem dX12_sign_34 : decode cX12_sign 34 = .ok (.iconst 1, 1) := by decide +kernel
theorem dX12_sign_35 : decode cX12_sign 35 = .ok (.iadd, 1) := by decide +kernel
theorem dX12_sign_36 : decode cX12_sign 36 = .ok (.putfield 139, 3) := by decide +kernel
theorem dX12_sign_39 : decode cX12_sign 39 = .ok (.iload_n 1, 1) := by decide +kernel
theorem dX12_sign_40 : decode cX12_sign 40 = .ok (.bipush 8, 2) := by decide +kernel
theorem dX12_sign_42 : decode cX12_sign 42 = .ok (.iload_n 2, 1) := by decide +kernel
theorem dX12_sign_43 : decode cX12_sign 43 = .ok (.imul, 1) := by decide +kernel
theorem dX12_sign_44 : decode cX12_sign 44 = .ok (.ishr, 1) := by decide +kernel
theorem dX12_sign_45 : decode cX12_sign 45 = .ok (.i2b, 1) := by decide +kernel
theorem dX12_sign_46 : decode cX12_sign 46 = .ok (.bastore, 1) := by decide +kernel
theorem dX12_sign_47 : decode cX12_sign 47 = .ok (.iinc 2 (-1), 3) := by decide +kernel
theorem dX12_sign_50 : decode cX12_sign 50 = .ok (.goto (-30), 3) := by decide +kernel
theorem dX12_sign_53 : decode cX12_sign 53 = .ok (.aload_n 0, 1) := by decide +kernel
theorem dX12_sign_54 : decode cX12_sign 54 = .ok (.getfield 139, 3) := by decide +kernel
theorem dX12_sign_57 : decode cX12_sign 57 = .ok (.ireturn, 1) := by decide +kernel
theorem dX12_end_0 : decode cX12_end 0 = .ok (.aload_n 0, 1) := by decide +kernel
theorem dX12_end_1 : decode cX12_end 1 = .ok (.iconst 0, 1) := by decide +kernel
theorem dX12_end_2 : decode cX12_end 2 = .ok (.putfield 113, 3) := by decide +kernel
theorem dX12_end_5 : decode cX12_end 5 = .ok (.iload_n 1, 1) := by decide +kernel
theorem dX12_end_6 : decode cX12_end 6 = .ok (.iconst 0, 1) := by decide +kernel
theorem dX12_end_7 : decode cX12_end 7 = .ok (.aload_n 0, 1) := by decide +kernel
theorem dX12_end_8 : decode cX12_end 8 = .ok (.getfield 139, 3) := by decide +kernel
theorem dX12_end_11 : decode cX12_end 11 = .ok (.invokestatic 122, 3) := by decide +kernel
theorem dX12_end_14 : decode cX12_end 14 = .ok (.ifCond .ne 5, 3) := by decide +kernel
theorem dX12_end_17 : decode cX12_end 17 = .ok (.iconst 0, 1) := by decide +kernel
theorem dX12_end_18 : decode cX12_end 18 = .ok (.ireturn, 1) := by decide +kernel
theorem dX12_end_19 : decode cX12_end 19 = .ok (.aload_n 0, 1) := by decide +kernel
theorem dX12_end_20 : decode cX12_end 20 = .ok (.iload_n 1, 1) := by decide +kernel
theorem dX12_end_21 : decode cX12_end 21 = .ok (.putfield 139, 3) := by decide +kernel
theorem dX12_end_24 : decode cX12_end 24 = .ok (.iconst 1, 1) := by decide +kernel
theorem dX12_end_25 : decode cX12_end 25 = .ok (.ireturn, 1) := by decide +kernel
theorem dX12_begin_0 : decode cX12_begin 0 = .ok (.aload_n 0, 1) := by decide +kernel
theorem dX12_begin_1 : decode cX12_begin 1 = .ok (.aload_n 1, 1) := by decide +kernel
theorem dX12_begin_2 : decode cX12_begin 2 = .ok (.putfield 142, 3) := by decide +kernel
theorem dX12_begin_5 : decode cX12_begin 5 = .ok (.aload_n 0, 1) := by decide +kernel
theorem dX12_begin_6 : decode cX12_begin 6 = .ok (.iload_n 2, 1) := by decide +kernel
theorem dX12_begin_7 : decode cX12_begin 7 = .ok (.putfield 145, 3) := by decide +kernel
theorem dX12_begin_10 : decode cX12_begin 10 = .ok (.aload_n 0, 1) := by decide +kernel
theorem dX12_begin_11 : decode cX12_begin 11 = .ok (.iload_n 3, 1) := by decide +kernel
theorem dX12_begin_12 : decode cX12_begin 12 = .ok (.putfield 148, 3) := by decide +kernel
theorem dX12_begin_15 : decode cX12_begin 15 = .ok (.aload_n 0, 1) := by decide +kernel
theorem dX12_begin_16 : decode cX12_begin 16 = .ok (.iconst 0, 1) := by decide +kernel
theorem dX12_begin_17 : decode cX12_begin 17 = .ok (.putfield 151, 3) := by decide +kernel
theorem dX12_begin_20 : decode cX12_begin 20 = .ok (.aload_n 0, 1) := by decide +kernel
theorem dX12_begin_21 : decode cX12_begin 21 = .ok (.iconst (-1), 1) := by decide +kernel
theorem dX12_begin_22 : decode cX12_begin 22 = .ok (.putfield 154, 3) := by decide +kernel
theorem dX12_begin_25 : decode cX12_begin 25 = .ok (.return_, 1) := by decide +kernel
theorem dX12_here_0 : decode cX12_here 0 = .ok (.aload_n 0, 1) := by decide +kernel
theorem dX12_here_1 : decode cX12_here 1 = .ok (.getfield 151, 3) := by decide +kernel
theorem dX12_here_4 : decode cX12_here 4 = .ok (.aload_n 0, 1) := by decide +kernel
theorem dX12_here_5 : decode cX12_here 5 = .ok (.getfield 145, 3) := by decide +kernel
theorem dX12_here_8 : decode cX12_here 8 = .ok (.if_icmp .ge 30, 3) := by decide +kernel
theorem dX12_here_11 : decode cX12_here 11 = .ok (.aload_n 0, 1) := by decide +kernel
theorem dX12_here_12 : decode cX12_here 12 = .ok (.getfield 151, 3) := by decide +kernel
theorem dX12_here_15 : decode cX12_here 15 = .ok (.aload_n 0, 1) := by decide +kernel
theorem dX12_here_16 : decode cX12_here 16 = .ok (.getfield 148, 3) := by decide +kernel
theorem dX12_here_19 : decode cX12_here 19 = .ok (.if_icmp .ge 19, 3) := by decide +kernel
theorem dX12_here_22 : decode cX12_here 22 = .ok (.aload_n 0, 1) := by decide +kernel
theorem dX12_here_23 : decode cX12_here 23 = .ok (.getfield 142, 3) := by decide +kernel
theorem dX12_here_26 : decode cX12_here 26 = .ok (.aload_n 0, 1) := by decide +kernel
theorem dX12_here_27 : decode cX12_here 27 = .ok (.getfield 151, 3) := by decide +kernel
theorem dX12_here_30 : decode cX12_here 30 = .ok (.baload, 1) := by decide +kernel
theorem dX12_here_31 : decode cX12_here 31 = .ok (.sipush 255, 3) := by decide +kernel
theorem dX12_here_34 : decode cX12_here 34 = .ok (.iand, 1) := by decide +kernel
theorem dX12_here_35 : decode cX12_here 35 = .ok (.goto 4, 3) := by decide +kernel
theorem dX12_here_38 : decode cX12_here 38 = .ok (.iconst (-1), 1) := by decide +kernel
theorem dX12_here_39 : decode cX12_here 39 = .ok (.ireturn, 1) := by decide +kernel
theorem dX12_fine_0 : decode cX12_fine 0 = .ok (.aload_n 0, 1) := by decide +kernel
theorem dX12_fine_1 : decode cX12_fine 1 = .ok (.getfield 154, 3) := by decide +kernel
theorem dX12_fine_4 : decode cX12_fine 4 = .ok (.iconst (-1), 1) := by decide +kernel
theorem dX12_fine_5 : decode cX12_fine 5 = .ok (.if_icmp .ne 7, 3) := by decide +kernel
theorem dX12_fine_8 : decode cX12_fine 8 = .ok (.iconst 1, 1) := by decide +kernel
theorem dX12_fine_9 : decode cX12_fine 9 = .ok (.goto 4, 3) := by decide +kernel
theorem dX12_fine_12 : decode cX12_fine 12 = .ok (.iconst 0, 1) := by decide +kernel
theorem dX12_fine_13 : decode cX12_fine 13 = .ok (.ireturn, 1) := by decide +kernel
theorem dX12_fault_0 : decode cX12_fault 0 = .ok (.aload_n 0, 1) := by decide +kernel
theorem dX12_fault_1 : decode cX12_fault 1 = .ok (.invokevirtual 157, 3) := by decide +kernel
theorem dX12_fault_4 : decode cX12_fault 4 = .ok (.ifCond .eq 8, 3) := by decide +kernel
theorem dX12_fault_7 : decode cX12_fault 7 = .ok (.aload_n 0, 1) := by decide +kernel
theorem dX12_fault_8 : decode cX12_fault 8 = .ok (.iload_n 1, 1) := by decide +kernel
theorem dX12_fault_9 : decode cX12_fault 9 = .ok (.putfield 154, 3) := by decide +kernel
theorem dX12_fault_12 : decode cX12_fault 12 = .ok (.return_, 1) := by decide +kernel
theorem dX12_passes_0 : decode cX12_passes 0 = .ok (.aload_n 0, 1) := by decide +kernel
theorem dX12_passes_1 : decode cX12_passes 1 = .ok (.invokevirtual 157, 3) := by decide +kernel
theorem dX12_passes_4 : decode cX12_passes 4 = .ok (.ifCond .eq 11, 3) := by decide +kernel
theorem dX12_passes_7 : decode cX12_passes 7 = .ok (.aload_n 0, 1) := by decide +kernel
theorem dX12_passes_8 : decode cX12_passes 8 = .ok (.invokevirtual 161, 3) := by decide +kernel
theorem dX12_passes_11 : decode cX12_passes 11 = .ok (.iload_n 1, 1) := by decide +kernel
theorem dX12_passes_12 : decode cX12_passes 12 = .ok (.if_icmp .eq 5, 3) := by decide +kernel
theorem dX12_passes_15 : decode cX12_passes 15 = .ok (.iconst 0, 1) := by decide +kernel
theorem dX12_passes_16 : decode cX12_passes 16 = .ok (.ireturn, 1) := by decide +kernel
theorem dX12_passes_17 : decode cX12_passes 17 = .ok (.aload_n 0, 1) := by decide +kernel
theorem dX12_passes_18 : decode cX12_passes 18 = .ok (.dup, 1) := by decide +kernel
theorem dX12_passes_19 : decode cX12_passes 19 = .ok (.getfield 151, 3) := by decide +kernel
theorem dX12_passes_22 : decode cX12_passes 22 = .ok (.iconst 1, 1) := by decide +kernel
theorem dX12_passes_23 : decode cX12_passes 23 = .ok (.iadd, 1) := by decide +kernel
theorem dX12_passes_24 : decode cX12_passes 24 = .ok (.putfield 151, 3) := by decide +kernel
theorem dX12_passes_27 : decode cX12_passes 27 = .ok (.iconst 1, 1) := by decide +kernel
theorem dX12_passes_28 : decode cX12_passes 28 = .ok (.ireturn, 1) := by decide +kernel
theorem dX12_need_0 : decode cX12_need 0 = .ok (.aload_n 0, 1) := by decide +kernel
theorem dX12_need_1 : decode cX12_need 1 = .ok (.iload_n 1, 1) := by decide +kernel
theorem dX12_need_2 : decode cX12_need 2 = .ok (.invokevirtual 165, 3) := by decide +kernel
theorem dX12_need_5 : decode cX12_need 5 = .ok (.ifCond .ne 11, 3) := by decide +kernel
theorem dX12_need_8 : decode cX12_need 8 = .ok (.aload_n 0, 1) := by decide +kernel
theorem dX12_need_9 : decode cX12_need 9 = .ok (.aload_n 0, 1) := by decide +kernel
theorem dX12_need_10 : decode cX12_need 10 = .ok (.getfield 151, 3) := by decide +kernel
theorem dX12_need_13 : decode cX12_need 13 = .ok (.invokevirtual 169, 3) := by decide +kernel
theorem dX12_need_16 : decode cX12_need 16 = .ok (.return_, 1) := by decide +kernel
theorem dX12_digit_0 : decode cX12_digit 0 = .ok (.aload_n 0, 1) := by decide +kernel
theorem dX12_digit_1 : decode cX12_digit 1 = .ok (.invokevirtual 157, 3) := by decide +kernel
theorem dX12_digit_4 : decode cX12_digit 4 = .ok (.ifCond .ne 5, 3) := by decide +kernel
theorem dX12_digit_7 : decode cX12_digit 7 = .ok (.iconst 0, 1) := by decide +kernel
theorem dX12_digit_8 : decode cX12_digit 8 = .ok (.ireturn, 1) := by decide +kernel
theorem dX12_digit_9 : decode cX12_digit 9 = .ok (.aload_n 0, 1) := by decide +kernel
theorem dX12_digit_10 : decode cX12_digit 10 = .ok (.invokevirtual 161, 3) := by decide +kernel
theorem dX12_digit_13 : decode cX12_digit 13 = .ok (.bipush 48, 2) := by decide +kernel
theorem dX12_digit_15 : decode cX12_digit 15 = .ok (.iload_n 1, 1) := by decide +kernel
theorem dX12_digit_16 : decode cX12_digit 16 = .ok (.iadd, 1) := by decide +kernel
theorem dX12_digit_17 : decode cX12_digit 17 = .ok (.bipush 48, 2) := by decide +kernel
theorem dX12_digit_19 : decode cX12_digit 19 = .ok (.iload_n 2, 1) := by decide +kernel
theorem dX12_digit_20 : decode cX12_digit 20 = .ok (.iadd, 1) := by decide +kernel
theorem dX12_digit_21 : decode cX12_digit 21 = .ok (.invokestatic 122, 3) := by decide +kernel
theorem dX12_digit_24 : decode cX12_digit 24 = .ok (.ifCond .ne 13, 3) := by decide +kernel
theorem dX12_digit_27 : decode cX12_digit 27 = .ok (.aload_n 0, 1) := by decide +kernel
theorem dX12_digit_28 : decode cX12_digit 28 = .ok (.aload_n 0, 1) := by decide +kernel
theorem dX12_digit_29 : decode cX12_digit 29 = .ok (.getfield 151, 3) := by decide +kernel
theorem dX12_digit_32 : decode cX12_digit 32 = .ok (.invokevirtual 169, 3) := by decide +kernel
theorem dX12_digit_35 : decode cX12_digit 35 = .ok (.iconst 0, 1) := by decide +kernel
theorem dX12_digit_36 : decode cX12_digit 36 = .ok (.ireturn, 1) := by decide +kernel
theorem dX12_digit_37 : decode cX12_digit 37 = .ok (.aload_n 0, 1) := by decide +kernel
theorem dX12_digit_38 : decode cX12_digit 38 = .ok (.dup, 1) := by decide +kernel
theorem dX12_digit_39 : decode cX12_digit 39 = .ok (.getfield 151, 3) := by decide +kernel
theorem dX12_digit_42 : decode cX12_digit 42 = .ok (.iconst 1, 1) := by decide +kernel
theorem dX12_digit_43 : decode cX12_digit 43 = .ok (.iadd, 1) := by decide +kernel
theorem dX12_digit_44 : decode cX12_digit 44 = .ok (.putfield 151, 3) := by decide +kernel
theorem dX12_digit_47 : decode cX12_digit 47 = .ok (.aload_n 0, 1) := by decide +kernel
theorem dX12_digit_48 : decode cX12_digit 48 = .ok (.getfield 142, 3) := by decide +kernel
theorem dX12_digit_51 : decode cX12_digit 51 = .ok (.aload_n 0, 1) := by decide +kernel
theorem dX12_digit_52 : decode cX12_digit 52 = .ok (.getfield 151, 3) := by decide +kernel
theorem dX12_digit_55 : decode cX12_digit 55 = .ok (.iconst 1, 1) := by decide +kernel
theorem dX12_digit_56 : decode cX12_digit 56 = .ok (.isub, 1) := by decide +kernel
theorem dX12_digit_57 : decode cX12_digit 57 = .ok (.baload, 1) := by decide +kernel
theorem dX12_digit_58 : decode cX12_digit 58 = .ok (.bipush 48, 2) := by decide +kernel
theorem dX12_digit_60 : decode cX12_digit 60 = .ok (.isub, 1) := by decide +kernel
theorem dX12_digit_61 : decode cX12_digit 61 = .ok (.ireturn, 1) := by decide +kernel
theorem dX12_number_0 : decode cX12_number 0 = .ok (.aload_n 0, 1) := by decide +kernel
theorem dX12_number_1 : decode cX12_number 1 = .ok (.iconst 0, 1) := by decide +kernel
theorem dX12_number_2 : decode cX12_number 2 = .ok (.bipush 9, 2) := by decide +kernel
theorem dX12_number_4 : decode cX12_number 4 = .ok (.invokevirtual 173, 3) := by decide +kernel
theorem dX12_number_7 : decode cX12_number 7 = .ok (.istore_n 2, 1) := by decide +kernel
theorem dX12_number_8 : decode cX12_number 8 = .ok (.iconst 1, 1) := by decide +kernel
theorem dX12_number_9 : decode cX12_number 9 = .ok (.istore_n 3, 1) := by decide +kernel
theorem dX12_number_10 : decode cX12_number 10 = .ok (.iload_n 3, 1) := by decide +kernel
theorem dX12_number_11 : decode cX12_number 11 = .ok (.iload_n 1, 1) := by decide +kernel
theorem dX12_number_12 : decode cX12_number 12 = .ok (.if_icmp .ge 43, 3) := by decide +kernel
theorem dX12_number_15 : decode cX12_number 15 = .ok (.aload_n 0, 1) := by decide +kernel
theorem dX12_number_16 : decode cX12_number 16 = .ok (.invokevirtual 157, 3) := by decide +kernel
theorem dX12_number_19 : decode cX12_number 19 = .ok (.ifCond .eq 36, 3) := by decide +kernel
theorem dX12_number_22 : decode cX12_number 22 = .ok (.aload_n 0, 1) := by decide +kernel
theorem dX12_number_23 : decode cX12_number 23 = .ok (.invokevirtual 161, 3) := by decide +kernel
theorem dX12_number_26 : decode cX12_number 26 = .ok (.bipush 48, 2) := by decide +kernel
theorem dX12_number_28 : decode cX12_number 28 = .ok (.bipush 57, 2) := by decide +kernel
theorem dX12_number_30 : decode cX12_number 30 = .ok (.invokestatic 122, 3) := by decide +kernel
theorem dX12_number_33 : decode cX12_number 33 = .ok (.ifCond .eq 22, 3) := by decide +kernel
theorem dX12_number_36 : decode cX12_number 36 = .ok (.bipush 10, 2) := by decide +kernel
theorem dX12_number_38 : decode cX12_number 38 = .ok (.iload_n 2, 1) := by decide +kernel
theorem dX12_number_39 : decode cX12_number 39 = .ok (.imul, 1) := by decide +kernel
theorem dX12_number_40 : decode cX12_number 40 = .ok (.aload_n 0, 1) := by decide +kernel
theorem dX12_number_41 : decode cX12_number 41 = .ok (.iconst 0, 1) := by decide +kernel
theorem dX12_number_42 : decode cX12_number 42 = .ok (.bipush 9, 2) := by decide +kernel
theorem dX12_number_44 : decode cX12_number 44 = .ok (.invokevirtual 173, 3) := by decide +kernel
theorem dX12_number_47 : decode cX12_number 47 = .ok (.iadd, 1) := by decide +kernel
theorem dX12_number_48 : decode cX12_number 48 = .ok (.istore_n 2, 1) := by decide +kernel
theorem dX12_number_49 : decode cX12_number 49 = .ok (.iinc 3 1, 3) := by decide +kernel
theorem dX12_number_52 : decode cX12_number 52 = .ok (.goto (-42), 3) := by decide +kernel
theorem dX12_number_55 : decode cX12_number 55 = .ok (.iload_n 2, 1) := by decide +kernel
theorem dX12_number_56 : decode cX12_number 56 = .ok (.ireturn, 1) := by decide +kernel
theorem dX12_kindOf_0 : decode cX12_kindOf 0 = .ok (.iload_n 0, 1) := by decide +kernel
theorem dX12_kindOf_1 : decode cX12_kindOf 1 = .ok (.bipush 117, 2) := by decide +kernel
theorem dX12_kindOf_3 : decode cX12_kindOf 3 = .ok (.if_icmp .ne 7, 3) := by decide +kernel
theorem dX12_kindOf_6 : decode cX12_kindOf 6 = .ok (.iconst 0, 1) := by decide +kernel
theorem dX12_kindOf_7 : decode cX12_kindOf 7 = .ok (.goto 34, 3) := by decide +kernel
theorem dX12_kindOf_10 : decode cX12_kindOf 10 = .ok (.iload_n 0, 1) := by decide +kernel
theorem dX12_kindOf_11 : decode cX12_kindOf 11 = .ok (.bipush 119, 2) := by decide +kernel
theorem dX12_kindOf_13 : decode cX12_kindOf 13 = .ok (.if_icmp .ne 7, 3) := by decide +kernel
theorem dX12_kindOf_16 : decode cX12_kindOf 16 = .ok (.iconst 1, 1) := by decide +kernel
theorem dX12_kindOf_17 : decode cX12_kindOf 17 = .ok (.goto 24, 3) := by decide +kernel
theorem dX12_kindOf_20 : decode cX12_kindOf 20 = .ok (.iload_n 0, 1) := by decide +kernel
theorem dX12_kindOf_21 : decode cX12_kindOf 21 = .ok (.bipush 100, 2) := by decide +kernel
theorem dX12_kindOf_23 : decode cX12_kindOf 23 = .ok (.if_icmp .ne 7, 3) := by decide +kernel
theorem dX12_kindOf_26 : decode cX12_kindOf 26 = .ok (.iconst 2, 1) := by decide +kernel
theorem dX12_kindOf_27 : decode cX12_kindOf 27 = .ok (.goto 14, 3) := by decide +kernel
theorem dX12_kindOf_30 : decode cX12_kindOf 30 = .ok (.iload_n 0, 1) := by decide +kernel
theorem dX12_kindOf_31 : decode cX12_kindOf 31 = .ok (.bipush 108, 2) := by decide +kernel
theorem dX12_kindOf_33 : decode cX12_kindOf 33 = .ok (.if_icmp .ne 7, 3) := by decide +kernel
theorem dX12_kindOf_36 : decode cX12_kindOf 36 = .ok (.iconst 3, 1) := by decide +kernel
theorem dX12_kindOf_37 : decode cX12_kindOf 37 = .ok (.goto 4, 3) := by decide +kernel
theorem dX12_kindOf_40 : decode cX12_kindOf 40 = .ok (.iconst (-1), 1) := by decide +kernel
theorem dX12_kindOf_41 : decode cX12_kindOf 41 = .ok (.ireturn, 1) := by decide +kernel
theorem dX12_readFence_0 : decode cX12_readFence 0 = .ok (.aload_n 0, 1) := by decide +kernel
theorem dX12_readFence_1 : decode cX12_readFence 1 = .ok (.getfield 49, 3) := by decide +kernel
theorem dX12_readFence_4 : decode cX12_readFence 4 = .ok (.iload_n 1, 1) := by decide +kernel
theorem dX12_readFence_5 : decode cX12_readFence 5 = .ok (.aload_n 0, 1) := by decide +kernel
theorem dX12_readFence_6 : decode cX12_readFence 6 = .ok (.invokevirtual 161, 3) := by decide +kernel
theorem dX12_readFence_9 : decode cX12_readFence 9 = .ok (.invokestatic 177, 3) := by decide +kernel
theorem dX12_readFence_12 : decode cX12_readFence 12 = .ok (.iastore, 1) := by decide +kernel
theorem dX12_readFence_13 : decode cX12_readFence 13 = .ok (.aload_n 0, 1) := by decide +kernel
theorem dX12_readFence_14 : decode cX12_readFence 14 = .ok (.getfield 49, 3) := by decide +kernel
theorem dX12_readFence_17 : decode cX12_readFence 17 = .ok (.iload_n 1, 1) := by decide +kernel
theorem dX12_readFence_18 : decode cX12_readFence 18 = .ok (.iaload, 1) := by decide +kernel
theorem dX12_readFence_19 : decode cX12_readFence 19 = .ok (.iconst (-1), 1) := by decide +kernel
theorem dX12_readFence_20 : decode cX12_readFence 20 = .ok (.if_icmp .ne 11, 3) := by decide +kernel
theorem dX12_readFence_23 : decode cX12_readFence 23 = .ok (.aload_n 0, 1) := by decide +kernel
theorem dX12_readFence_24 : decode cX12_readFence 24 = .ok (.aload_n 0, 1) := by decide +kernel
theorem dX12_readFence_25 : decode cX12_readFence 25 = .ok (.getfield 151, 3) := by decide +kernel
theorem dX12_readFence_28 : decode cX12_readFence 28 = .ok (.invokevirtual 169, 3) := by decide +kernel
theorem dX12_readFence_31 : decode cX12_readFence 31 = .ok (.aload_n 0, 1) := by decide +kernel
theorem dX12_readFence_32 : decode cX12_readFence 32 = .ok (.dup, 1) := by decide +kernel
theorem dX12_readFence_33 : decode cX12_readFence 33 = .ok (.getfield 151, 3) := by decide +kernel
theorem dX12_readFence_36 : decode cX12_readFence 36 = .ok (.iconst 1, 1) := by decide +kernel
theorem dX12_readFence_37 : decode cX12_readFence 37 = .ok (.iadd, 1) := by decide +kernel
theorem dX12_readFence_38 : decode cX12_readFence 38 = .ok (.putfield 151, 3) := by decide +kernel
theorem dX12_readFence_41 : decode cX12_readFence 41 = .ok (.aload_n 0, 1) := by decide +kernel
theorem dX12_readFence_42 : decode cX12_readFence 42 = .ok (.getfield 49, 3) := by decide +kernel
theorem dX12_readFence_45 : decode cX12_readFence 45 = .ok (.iload_n 1, 1) := by decide +kernel
theorem dX12_readFence_46 : decode cX12_readFence 46 = .ok (.iconst 1, 1) := by decide +kernel
theorem dX12_readFence_47 : decode cX12_readFence 47 = .ok (.iadd, 1) := by decide +kernel
theorem dX12_readFence_48 : decode cX12_readFence 48 = .ok (.aload_n 0, 1) := by decide +kernel
theorem dX12_readFence_49 : decode cX12_readFence 49 = .ok (.iconst 0, 1) := by decide +kernel
theorem dX12_readFence_50 : decode cX12_readFence 50 = .ok (.bipush 9, 2) := by decide +kernel
theorem dX12_readFence_52 : decode cX12_readFence 52 = .ok (.invokevirtual 173, 3) := by decide +kernel
theorem dX12_readFence_55 : decode cX12_readFence 55 = .ok (.iastore, 1) := by decide +kernel
theorem dX12_readFence_56 : decode cX12_readFence 56 = .ok (.aload_n 0, 1) := by decide +kernel
theorem dX12_readFence_57 : decode cX12_readFence 57 = .ok (.bipush 64, 2) := by decide +kernel
theorem dX12_readFence_59 : decode cX12_readFence 59 = .ok (.invokevirtual 181, 3) := by decide +kernel
theorem dX12_readFence_62 : decode cX12_readFence 62 = .ok (.aload_n 0, 1) := by decide +kernel
theorem dX12_readFence_63 : decode cX12_readFence 63 = .ok (.iconst 1, 1) := by decide +kernel
theorem dX12_readFence_64 : decode cX12_readFence 64 = .ok (.bipush 9, 2) := by decide +kernel
theorem dX12_readFence_66 : decode cX12_readFence 66 = .ok (.invokevirtual 173, 3) := by decide +kernel
theorem dX12_readFence_69 : decode cX12_readFence 69 = .ok (.istore_n 2, 1) := by decide +kernel
theorem dX12_readFence_70 : decode cX12_readFence 70 = .ok (.aload_n 0, 1) := by decide +kernel
theorem dX12_readFence_71 : decode cX12_readFence 71 = .ok (.getfield 49, 3) := by decide +kernel
theorem dX12_readFence_74 : decode cX12_readFence 74 = .ok (.iload_n 1, 1) := by decide +kernel
theorem dX12_readFence_75 : decode cX12_readFence 75 = .ok (.iconst 2, 1) := by decide +kernel
theorem dX12_readFence_76 : decode cX12_readFence 76 = .ok (.iadd, 1) := by decide +kernel
theorem dX12_readFence_77 : decode cX12_readFence 77 = .ok (.bipush 10, 2) := by decide +kernel
theorem dX12_readFence_79 : decode cX12_readFence 79 = .ok (.iload_n 2, 1) := by decide +kernel
theorem dX12_readFence_80 : decode cX12_readFence 80 = .ok (.imul, 1) := by decide +kernel
theorem dX12_readFence_81 : decode cX12_readFence 81 = .ok (.aload_n 0, 1) := by decide +kernel
theorem dX12_readFence_82 : decode cX12_readFence 82 = .ok (.iconst 0, 1) := by decide +kernel
theorem dX12_readFence_83 : decode cX12_readFence 83 = .ok (.bipush 9, 2) := by decide +kernel
theorem dX12_readFence_85 : decode cX12_readFence 85 = .ok (.invokevirtual 173, 3) := by decide +kernel
theorem dX12_readFence_88 : decode cX12_readFence 88 = .ok (.iadd, 1) := by decide +kernel
theorem dX12_readFence_89 : decode cX12_readFence 89 = .ok (.iastore, 1) := by decide +kernel
theorem dX12_readFence_90 : decode cX12_readFence 90 = .ok (.return_, 1) := by decide +kernel
theorem dX12_ring_0 : decode cX12_ring 0 = .ok (.aload_n 0, 1) := by decide +kernel
theorem dX12_ring_1 : decode cX12_ring 1 = .ok (.iconst 0, 1) := by decide +kernel
theorem dX12_ring_2 : decode cX12_ring 2 = .ok (.putfield 113, 3) := by decide +kernel
theorem dX12_ring_5 : decode cX12_ring 5 = .ok (.aload_n 0, 1) := by decide +kernel
theorem dX12_ring_6 : decode cX12_ring 6 = .ok (.aload_n 0, 1) := by decide +kernel
theorem dX12_ring_7 : decode cX12_ring 7 = .ok (.getfield 41, 3) := by decide +kernel
theorem dX12_ring_10 : decode cX12_ring 10 = .ok (.aload_n 0, 1) := by decide +kernel
theorem dX12_ring_11 : decode cX12_ring 11 = .ok (.getfield 139, 3) := by decide +kernel
theorem dX12_ring_14 : decode cX12_ring 14 = .ok (.bipush 76, 2) := by decide +kernel
theorem dX12_ring_16 : decode cX12_ring 16 = .ok (.invokevirtual 185, 3) := by decide +kernel
theorem dX12_ring_19 : decode cX12_ring 19 = .ok (.aload_n 0, 1) := by decide +kernel
theorem dX12_ring_20 : decode cX12_ring 20 = .ok (.iconst 0, 1) := by decide +kernel
theorem dX12_ring_21 : decode cX12_ring 21 = .ok (.putfield 139, 3) := by decide +kernel
theorem dX12_ring_24 : decode cX12_ring 24 = .ok (.iconst 0, 1) := by decide +kernel
theorem dX12_ring_25 : decode cX12_ring 25 = .ok (.istore_n 1, 1) := by decide +kernel
theorem dX12_ring_26 : decode cX12_ring 26 = .ok (.iconst 1, 1) := by decide +kernel
theorem dX12_ring_27 : decode cX12_ring 27 = .ok (.istore_n 2, 1) := by decide +kernel
theorem dX12_ring_28 : decode cX12_ring 28 = .ok (.iload_n 2, 1) := by decide +kernel
theorem dX12_ring_29 : decode cX12_ring 29 = .ok (.ifCond .eq 47, 3) := by decide +kernel
theorem dX12_ring_32 : decode cX12_ring 32 = .ok (.aload_n 0, 1) := by decide +kernel
theorem dX12_ring_33 : decode cX12_ring 33 = .ok (.invokevirtual 157, 3) := by decide +kernel
theorem dX12_ring_36 : decode cX12_ring 36 = .ok (.ifCond .eq 40, 3) := by decide +kernel
theorem dX12_ring_39 : decode cX12_ring 39 = .ok (.iload_n 1, 1) := by decide +kernel
theorem dX12_ring_40 : decode cX12_ring 40 = .ok (.bipush 8, 2) := by decide +kernel
theorem dX12_ring_42 : decode cX12_ring 42 = .ok (.if_icmp .ne 14, 3) := by decide +kernel
theorem dX12_ring_45 : decode cX12_ring 45 = .ok (.aload_n 0, 1) := by decide +kernel
theorem dX12_ring_46 : decode cX12_ring 46 = .ok (.aload_n 0, 1) := by decide +kernel
theorem dX12_ring_47 : decode cX12_ring 47 = .ok (.getfield 151, 3) := by decide +kernel
theorem dX12_ring_50 : decode cX12_ring 50 = .ok (.invokevirtual 169, 3) := by decide +kernel
theorem dX12_ring_53 : decode cX12_ring 53 = .ok (.goto 10, 3) := by decide +kernel
theorem dX12_ring_56 : decode cX12_ring 56 = .ok (.aload_n 0, 1) := by decide +kernel
theorem dX12_ring_57 : decode cX12_ring 57 = .ok (.iconst 3, 1) := by decide +kernel
theorem dX12_ring_58 : decode cX12_ring 58 = .ok (.iload_n 1, 1) := by decide +kernel
theorem dX12_ring_59 : decode cX12_ring 59 = .ok (.imul, 1) := by decide +kernel
theorem dX12_ring_60 : decode cX12_ring 60 = .ok (.invokevirtual 189, 3) := by decide +kernel
theorem dX12_ring_63 : decode cX12_ring 63 = .ok (.iinc 1 1, 3) := by decide +kernel
theorem dX12_ring_66 : decode cX12_ring 66 = .ok (.aload_n 0, 1) := by decide +kernel
theorem dX12_ring_67 : decode cX12_ring 67 = .ok (.bipush 59, 2) := by decide +kernel
theorem dX12_ring_69 : decode cX12_ring 69 = .ok (.invokevirtual 165, 3) := by decide +kernel
theorem dX12_ring_72 : decode cX12_ring 72 = .ok (.istore_n 2, 1) := by decide +kernel
theorem dX12_ring_73 : decode cX12_ring 73 = .ok (.goto (-45), 3) := by decide +kernel
theorem dX12_ring_76 : decode cX12_ring 76 = .ok (.aload_n 0, 1) := by decide +kernel
theorem dX12_ring_77 : decode cX12_ring 77 = .ok (.getfield 151, 3) := by decide +kernel
theorem dX12_ring_80 : decode cX12_ring 80 = .ok (.aload_n 0, 1) := by decide +kernel
theorem dX12_ring_81 : decode cX12_ring 81 = .ok (.getfield 145, 3) := by decide +kernel
theorem dX12_ring_84 : decode cX12_ring 84 = .ok (.if_icmp .ge 11, 3) := by decide +kernel
theorem dX12_ring_87 : decode cX12_ring 87 = .ok (.aload_n 0, 1) := by decide +kernel
theorem dX12_ring_88 : decode cX12_ring 88 = .ok (.aload_n 0, 1) := by decide +kernel
theorem dX12_ring_89 : decode cX12_ring 89 = .ok (.getfield 151, 3) := by decide +kernel
theorem dX12_ring_92 : decode cX12_ring 92 = .ok (.invokevirtual 169, 3) := by decide +kernel
theorem dX12_ring_95 : decode cX12_ring 95 = .ok (.aload_n 0, 1) := by decide +kernel
theorem dX12_ring_96 : decode cX12_ring 96 = .ok (.invokevirtual 157, 3) := by decide +kernel
theorem dX12_ring_99 : decode cX12_ring 99 = .ok (.ifCond .ne 10, 3) := by decide +kernel
theorem dX12_ring_102 : decode cX12_ring 102 = .ok (.iconst (-1), 1) := by decide +kernel
theorem dX12_ring_103 : decode cX12_ring 103 = .ok (.aload_n 0, 1) := by decide +kernel
theorem dX12_ring_104 : decode cX12_ring 104 = .ok (.getfield 154, 3) := by decide +kernel
theorem dX12_ring_107 : decode cX12_ring 107 = .ok (.isub, 1) := by decide +kernel
theorem dX12_ring_108 : decode cX12_ring 108 = .ok (.ireturn, 1) := by decide +kernel
theorem dX12_ring_109 : decode cX12_ring 109 = .ok (.iconst 0, 1) := by decide +kernel
theorem dX12_ring_110 : decode cX12_ring 110 = .ok (.istore_n 3, 1) := by decide +kernel
theorem dX12_ring_111 : decode cX12_ring 111 = .ok (.iload_n 3, 1) := by decide +kernel
theorem dX12_ring_112 : decode cX12_ring 112 = .ok (.iload_n 1, 1) := by decide +kernel
theorem dX12_ring_113 : decode cX12_ring 113 = .ok (.if_icmp .ge 55, 3) := by decide +kernel
theorem dX12_ring_116 : decode cX12_ring 116 = .ok (.aload_n 0, 1) := by decide +kernel
theorem dX12_ring_117 : decode cX12_ring 117 = .ok (.getfield 13, 3) := by decide +kernel
theorem dX12_ring_120 : decode cX12_ring 120 = .ok (.iload_n 3, 1) := by decide +kernel
theorem dX12_ring_121 : decode cX12_ring 121 = .ok (.aload_n 0, 1) := by decide +kernel
theorem dX12_ring_122 : decode cX12_ring 122 = .ok (.getfield 49, 3) := by decide +kernel
theorem dX12_ring_125 : decode cX12_ring 125 = .ok (.iconst 3, 1) := by decide +kernel
theorem dX12_ring_126 : decode cX12_ring 126 = .ok (.iload_n 3, 1) := by decide +kernel
theorem dX12_ring_127 : decode cX12_ring 127 = .ok (.imul, 1) := by decide +kernel
theorem dX12_ring_128 : decode cX12_ring 128 = .ok (.iaload, 1) := by decide +kernel
theorem dX12_ring_129 : decode cX12_ring 129 = .ok (.iastore, 1) := by decide +kernel
theorem dX12_ring_130 : decode cX12_ring 130 = .ok (.aload_n 0, 1) := by decide +kernel
theorem dX12_ring_131 : decode cX12_ring 131 = .ok (.getfield 16, 3) := by decide +kernel
theorem dX12_ring_134 : decode cX12_ring 134 = .ok (.iload_n 3, 1) := by decide +kernel
theorem dX12_ring_135 : decode cX12_ring 135 = .ok (.aload_n 0, 1) := by decide +kernel
theorem dX12_ring_136 : decode cX12_ring 136 = .ok (.getfield 49, 3) := by decide +kernel
theorem dX12_ring_139 : decode cX12_ring 139 = .ok (.iconst 3, 1) := by decide +kernel
theorem dX12_ring_140 : decode cX12_ring 140 = .ok (.iload_n 3, 1) := by decide +kernel
theorem dX12_ring_141 : decode cX12_ring 141 = .ok (.imul, 1) := by decide +kernel
theorem dX12_ring_142 : decode cX12_ring 142 = .ok (.iconst 1, 1) := by decide +kernel
theorem dX12_ring_143 : decode cX12_ring 143 = .ok (.iadd, 1) := by decide +kernel
theorem dX12_ring_144 : decode cX12_ring 144 = .ok (.iaload, 1) := by decide +kernel
theorem dX12_ring_145 : decode cX12_ring 145 = .ok (.iastore, 1) := by decide +kernel
theorem dX12_ring_146 : decode cX12_ring 146 = .ok (.aload_n 0, 1) := by decide +kernel
theorem dX12_ring_147 : decode cX12_ring 147 = .ok (.getfield 19, 3) := by decide +kernel
theorem dX12_ring_150 : decode cX12_ring 150 = .ok (.iload_n 3, 1) := by decide +kernel
theorem dX12_ring_151 : decode cX12_ring 151 = .ok (.aload_n 0, 1) := by decide +kernel
theorem dX12_ring_152 : decode cX12_ring 152 = .ok (.getfield 49, 3) := by decide +kernel
theorem dX12_ring_155 : decode cX12_ring 155 = .ok (.iconst 3, 1) := by decide +kernel
theorem dX12_ring_156 : decode cX12_ring 156 = .ok (.iload_n 3, 1) := by decide +kernel
theorem dX12_ring_157 : decode cX12_ring 157 = .ok (.imul, 1) := by decide +kernel
theorem dX12_ring_158 : decode cX12_ring 158 = .ok (.iconst 2, 1) := by decide +kernel
theorem dX12_ring_159 : decode cX12_ring 159 = .ok (.iadd, 1) := by decide +kernel
theorem dX12_ring_160 : decode cX12_ring 160 = .ok (.iaload, 1) := by decide +kernel
theorem dX12_ring_161 : decode cX12_ring 161 = .ok (.iastore, 1) := by decide +kernel
theorem dX12_ring_162 : decode cX12_ring 162 = .ok (.iinc 3 1, 3) := by decide +kernel
theorem dX12_ring_165 : decode cX12_ring 165 = .ok (.goto (-54), 3) := by decide +kernel
theorem dX12_ring_168 : decode cX12_ring 168 = .ok (.aload_n 0, 1) := by decide +kernel
theorem dX12_ring_169 : decode cX12_ring 169 = .ok (.iload_n 1, 1) := by decide +kernel
theorem dX12_ring_170 : decode cX12_ring 170 = .ok (.putfield 119, 3) := by decide +kernel
theorem dX12_ring_173 : decode cX12_ring 173 = .ok (.aload_n 0, 1) := by decide +kernel
theorem dX12_ring_174 : decode cX12_ring 174 = .ok (.iconst 0, 1) := by decide +kernel
theorem dX12_ring_175 : decode cX12_ring 175 = .ok (.putfield 129, 3) := by decide +kernel
theorem dX12_ring_178 : decode cX12_ring 178 = .ok (.aload_n 0, 1) := by decide +kernel
theorem dX12_ring_179 : decode cX12_ring 179 = .ok (.getfield 9, 3) := by decide +kernel
theorem dX12_ring_182 : decode cX12_ring 182 = .ok (.bipush 48, 2) := by decide +kernel
theorem dX12_ring_184 : decode cX12_ring 184 = .ok (.iconst 0, 1) := by decide +kernel
theorem dX12_ring_185 : decode cX12_ring 185 = .ok (.iastore, 1) := by decide +kernel
theorem dX12_ring_186 : decode cX12_ring 186 = .ok (.aload_n 0, 1) := by decide +kernel
theorem dX12_ring_187 : decode cX12_ring 187 = .ok (.iconst 0, 1) := by decide +kernel
theorem dX12_ring_188 : decode cX12_ring 188 = .ok (.putfield 192, 3) := by decide +kernel
theorem dX12_ring_191 : decode cX12_ring 191 = .ok (.iconst 0, 1) := by decide +kernel
theorem dX12_ring_192 : decode cX12_ring 192 = .ok (.istore_n 3, 1) := by decide +kernel
theorem dX12_ring_193 : decode cX12_ring 193 = .ok (.iload_n 3, 1) := by decide +kernel
theorem dX12_ring_194 : decode cX12_ring 194 = .ok (.iconst 2, 1) := by decide +kernel
theorem dX12_ring_195 : decode cX12_ring 195 = .ok (.if_icmp .ge 16, 3) := by decide +kernel
theorem dX12_ring_198 : decode cX12_ring 198 = .ok (.aload_n 0, 1) := by decide +kernel
theorem dX12_ring_199 : decode cX12_ring 199 = .ok (.getfield 109, 3) := by decide +kernel
theorem dX12_ring_202 : decode cX12_ring 202 = .ok (.iload_n 3, 1) := by decide +kernel
theorem dX12_ring_203 : decode cX12_ring 203 = .ok (.iconst 0, 1) := by decide +kernel
theorem dX12_ring_204 : decode cX12_ring 204 = .ok (.bastore, 1) := by decide +kernel
theorem dX12_ring_205 : decode cX12_ring 205 = .ok (.iinc 3 1, 3) := by decide +kernel
theorem dX12_ring_208 : decode cX12_ring 208 = .ok (.goto (-15), 3) := by decide +kernel
theorem dX12_ring_211 : decode cX12_ring 211 = .ok (.iload_n 1, 1) := by decide +kernel
theorem dX12_ring_212 : decode cX12_ring 212 = .ok (.ireturn, 1) := by decide +kernel
theorem dX12_readHorse_0 : decode cX12_readHorse 0 = .ok (.aload_n 0, 1) := by decide +kernel
theorem dX12_readHorse_1 : decode cX12_readHorse 1 = .ok (.getfield 52, 3) := by decide +kernel
theorem dX12_readHorse_4 : decode cX12_readHorse 4 = .ok (.iload_n 1, 1) := by decide +kernel
theorem dX12_readHorse_5 : decode cX12_readHorse 5 = .ok (.aload_n 0, 1) := by decide +kernel
theorem dX12_readHorse_6 : decode cX12_readHorse 6 = .ok (.iconst 3, 1) := by decide +kernel
theorem dX12_readHorse_7 : decode cX12_readHorse 7 = .ok (.bipush 9, 2) := by decide +kernel
theorem dX12_readHorse_9 : decode cX12_readHorse 9 = .ok (.invokevirtual 173, 3) := by decide +kernel
theorem dX12_readHorse_12 : decode cX12_readHorse 12 = .ok (.iastore, 1) := by decide +kernel
theorem dX12_readHorse_13 : decode cX12_readHorse 13 = .ok (.iconst 1, 1) := by decide +kernel
theorem dX12_readHorse_14 : decode cX12_readHorse 14 = .ok (.istore_n 2, 1) := by decide +kernel
theorem dX12_readHorse_15 : decode cX12_readHorse 15 = .ok (.iload_n 2, 1) := by decide +kernel
theorem dX12_readHorse_16 : decode cX12_readHorse 16 = .ok (.bipush 6, 2) := by decide +kernel
theorem dX12_readHorse_18 : decode cX12_readHorse 18 = .ok (.if_icmp .ge 24, 3) := by decide +kernel
theorem dX12_readHorse_21 : decode cX12_readHorse 21 = .ok (.aload_n 0, 1) := by decide +kernel
theorem dX12_readHorse_22 : decode cX12_readHorse 22 = .ok (.getfield 52, 3) := by decide +kernel
theorem dX12_readHorse_25 : decode cX12_readHorse 25 = .ok (.iload_n 1, 1) := by decide +kernel
theorem dX12_readHorse_26 : decode cX12_readHorse 26 = .ok (.iload_n 2, 1) := by decide +kernel
theorem dX12_readHorse_27 : decode cX12_readHorse 27 = .ok (.iadd, 1) := by decide +kernel
theorem dX12_readHorse_28 : decode cX12_readHorse 28 = .ok (.aload_n 0, 1) := by decide +kernel
theorem dX12_readHorse_29 : decode cX12_readHorse 29 = .ok (.iconst 0, 1) := by decide +kernel
theorem dX12_readHorse_30 : decode cX12_readHorse 30 = .ok (.bipush 9, 2) := by decide +kernel
theorem dX12_readHorse_32 : decode cX12_readHorse 32 = .ok (.invokevirtual 173, 3) := by decide +kernel
theorem dX12_readHorse_35 : decode cX12_readHorse 35 = .ok (.iastore, 1) := by decide +kernel
theorem dX12_readHorse_36 : decode cX12_readHorse 36 = .ok (.iinc 2 1, 3) := by decide +kernel
theorem dX12_readHorse_39 : decode cX12_readHorse 39 = .ok (.goto (-24), 3) := by decide +kernel
theorem dX12_readHorse_42 : decode cX12_readHorse 42 = .ok (.return_, 1) := by decide +kernel
theorem dX12_horses_0 : decode cX12_horses 0 = .ok (.aload_n 0, 1) := by decide +kernel
theorem dX12_horses_1 : decode cX12_horses 1 = .ok (.iconst 0, 1) := by decide +kernel
theorem dX12_horses_2 : decode cX12_horses 2 = .ok (.putfield 113, 3) := by decide +kernel
theorem dX12_horses_5 : decode cX12_horses 5 = .ok (.aload_n 0, 1) := by decide +kernel
theorem dX12_horses_6 : decode cX12_horses 6 = .ok (.aload_n 0, 1) := by decide +kernel
theorem dX12_horses_7 : decode cX12_horses 7 = .ok (.getfield 41, 3) := by decide +kernel
theorem dX12_horses_10 : decode cX12_horses 10 = .ok (.aload_n 0, 1) := by decide +kernel
theorem dX12_horses_11 : decode cX12_horses 11 = .ok (.getfield 139, 3) := by decide +kernel
theorem dX12_horses_14 : decode cX12_horses 14 = .ok (.bipush 76, 2) := by decide +kernel
theorem dX12_horses_16 : decode cX12_horses 16 = .ok (.invokevirtual 185, 3) := by decide +kernel
theorem dX12_horses_19 : decode cX12_horses 19 = .ok (.aload_n 0, 1) := by decide +kernel
theorem dX12_horses_20 : decode cX12_horses 20 = .ok (.iconst 0, 1) := by decide +kernel
theorem dX12_horses_21 : decode cX12_horses 21 = .ok (.putfield 139, 3) := by decide +kernel
theorem dX12_horses_24 : decode cX12_horses 24 = .ok (.aload_n 0, 1) := by decide +kernel
theorem dX12_horses_25 : decode cX12_horses 25 = .ok (.getfield 145, 3) := by decide +kernel
theorem dX12_horses_28 : decode cX12_horses 28 = .ok (.ifCond .ne 5, 3) := by decide +kernel
theorem dX12_horses_31 : decode cX12_horses 31 = .ok (.iconst 0, 1) := by decide +kernel
theorem dX12_horses_32 : decode cX12_horses 32 = .ok (.ireturn, 1) := by decide +kernel
theorem dX12_horses_33 : decode cX12_horses 33 = .ok (.iconst 0, 1) := by decide +kernel
theorem dX12_horses_34 : decode cX12_horses 34 = .ok (.istore_n 1, 1) := by decide +kernel
theorem dX12_horses_35 : decode cX12_horses 35 = .ok (.iconst 1, 1) := by decide +kernel
theorem dX12_horses_36 : decode cX12_horses 36 = .ok (.istore_n 2, 1) := by decide +kernel
theorem dX12_horses_37 : decode cX12_horses 37 = .ok (.iload_n 2, 1) := by decide +kernel
theorem dX12_horses_38 : decode cX12_horses 38 = .ok (.ifCond .eq 53, 3) := by decide +kernel
theorem dX12_horses_41 : decode cX12_horses 41 = .ok (.aload_n 0, 1) := by decide +kernel
theorem dX12_horses_42 : decode cX12_horses 42 = .ok (.invokevirtual 157, 3) := by decide +kernel
theorem dX12_horses_45 : decode cX12_horses 45 = .ok (.ifCond .eq 46, 3) := by decide +kernel
theorem dX12_horses_48 : decode cX12_horses 48 = .ok (.aload_n 0, 1) := by decide +kernel
theorem dX12_horses_49 : decode cX12_horses 49 = .ok (.getfield 126, 3) := by decide +kernel
theorem dX12_horses_52 : decode cX12_horses 52 = .ok (.iload_n 1, 1) := by decide +kernel
theorem dX12_horses_53 : decode cX12_horses 53 = .ok (.iadd, 1) := by decide +kernel
theorem dX12_horses_54 : decode cX12_horses 54 = .ok (.bipush 6, 2) := by decide +kernel
theorem dX12_horses_56 : decode cX12_horses 56 = .ok (.if_icmp .ne 14, 3) := by decide +kernel
theorem dX12_horses_59 : decode cX12_horses 59 = .ok (.aload_n 0, 1) := by decide +kernel
theorem dX12_horses_60 : decode cX12_horses 60 = .ok (.aload_n 0, 1) := by decide +kernel
theorem dX12_horses_61 : decode cX12_horses 61 = .ok (.getfield 151, 3) := by decide +kernel
theorem dX12_horses_64 : decode cX12_horses 64 = .ok (.invokevirtual 169, 3) := by decide +kernel
theorem dX12_horses_67 : decode cX12_horses 67 = .ok (.goto 11, 3) := by decide +kernel
theorem dX12_horses_70 : decode cX12_horses 70 = .ok (.aload_n 0, 1) := by decide +kernel
theorem dX12_horses_71 : decode cX12_horses 71 = .ok (.bipush 6, 2) := by decide +kernel
theorem dX12_horses_73 : decode cX12_horses 73 = .ok (.iload_n 1, 1) := by decide +kernel
theorem dX12_horses_74 : decode cX12_horses 74 = .ok (.imul, 1) := by decide +kernel
theorem dX12_horses_75 : decode cX12_horses 75 = .ok (.invokevirtual 195, 3) := by decide +kernel
theorem dX12_horses_78 : decode cX12_horses 78 = .ok (.iinc 1 1, 3) := by decide +kernel
theorem dX12_horses_81 : decode cX12_horses 81 = .ok (.aload_n 0, 1) := by decide +kernel
theorem dX12_horses_82 : decode cX12_horses 82 = .ok (.bipush 59, 2) := by decide +kernel
theorem dX12_horses_84 : decode cX12_horses 84 = .ok (.invokevirtual 165, 3) := by decide +kernel
theorem dX12_horses_87 : decode cX12_horses 87 = .ok (.istore_n 2, 1) := by decide +kernel
theorem dX12_horses_88 : decode cX12_horses 88 = .ok (.goto (-51), 3) := by decide +kernel
theorem dX12_horses_91 : decode cX12_horses 91 = .ok (.aload_n 0, 1) := by decide +kernel
theorem dX12_horses_92 : decode cX12_horses 92 = .ok (.getfield 151, 3) := by decide +kernel
theorem dX12_horses_95 : decode cX12_horses 95 = .ok (.aload_n 0, 1) := by decide +kernel
theorem dX12_horses_96 : decode cX12_horses 96 = .ok (.getfield 145, 3) := by decide +kernel
theorem dX12_horses_99 : decode cX12_horses 99 = .ok (.if_icmp .ge 11, 3) := by decide +kernel
theorem dX12_horses_102 : decode cX12_horses 102 = .ok (.aload_n 0, 1) := by decide +kernel
theorem dX12_horses_103 : decode cX12_horses 103 = .ok (.aload_n 0, 1) := by decide +kernel
theorem dX12_horses_104 : decode cX12_horses 104 = .ok (.getfield 151, 3) := by decide +kernel
theorem dX12_horses_107 : decode cX12_horses 107 = .ok (.invokevirtual 169, 3) := by decide +kernel
theorem dX12_horses_110 : decode cX12_horses 110 = .ok (.aload_n 0, 1) := by decide +kernel
theorem dX12_horses_111 : decode cX12_horses 111 = .ok (.invokevirtual 157, 3) := by decide +kernel
theorem dX12_horses_114 : decode cX12_horses 114 = .ok (.ifCond .ne 10, 3) := by decide +kernel
theorem dX12_horses_117 : decode cX12_horses 117 = .ok (.iconst (-1), 1) := by decide +kernel
theorem dX12_horses_118 : decode cX12_horses 118 = .ok (.aload_n 0, 1) := by decide +kernel
theorem dX12_horses_119 : decode cX12_horses 119 = .ok (.getfield 154, 3) := by decide +kernel
theorem dX12_horses_122 : decode cX12_horses 122 = .ok (.isub, 1) := by decide +kernel
theorem dX12_horses_123 : decode cX12_horses 123 = .ok (.ireturn, 1) := by decide +kernel
theorem dX12_horses_124 : decode cX12_horses 124 = .ok (.iconst 0, 1) := by decide +kernel
theorem dX12_horses_125 : decode cX12_horses 125 = .ok (.istore_n 3, 1) := by decide +kernel
theorem dX12_horses_126 : decode cX12_horses 126 = .ok (.iload_n 3, 1) := by decide +kernel
theorem dX12_horses_127 : decode cX12_horses 127 = .ok (.iload_n 1, 1) := by decide +kernel
theorem dX12_horses_128 : decode cX12_horses 128 = .ok (.if_icmp .ge 100, 3) := by decide +kernel
theorem dX12_horses_131 : decode cX12_horses 131 = .ok (.bipush 6, 2) := by decide +kernel
theorem dX12_horses_133 : decode cX12_horses 133 = .ok (.iload_n 3, 1) := by decide +kernel
theorem dX12_horses_134 : decode cX12_horses 134 = .ok (.imul, 1) := by decide +kernel
theorem dX12_horses_135 : decode cX12_horses 135 = .ok (.istore 4, 2) := by decide +kernel
theorem dX12_horses_137 : decode cX12_horses 137 = .ok (.aload_n 0, 1) := by decide +kernel
theorem dX12_horses_138 : decode cX12_horses 138 = .ok (.getfield 26, 3) := by decide +kernel
theorem dX12_horses_141 : decode cX12_horses 141 = .ok (.aload_n 0, 1) := by decide +kernel
theorem dX12_horses_142 : decode cX12_horses 142 = .ok (.getfield 126, 3) := by decide +kernel
theorem dX12_horses_145 : decode cX12_horses 145 = .ok (.aload_n 0, 1) := by decide +kernel
theorem dX12_horses_146 : decode cX12_horses 146 = .ok (.getfield 52, 3) := by decide +kernel
theorem dX12_horses_149 : decode cX12_horses 149 = .ok (.iload 4, 2) := by decide +kernel
theorem dX12_horses_151 : decode cX12_horses 151 = .ok (.iaload, 1) := by decide +kernel
theorem dX12_horses_152 : decode cX12_horses 152 = .ok (.iastore, 1) := by decide +kernel
theorem dX12_horses_153 : decode cX12_horses 153 = .ok (.aload_n 0, 1) := by decide +kernel
theorem dX12_horses_154 : decode cX12_horses 154 = .ok (.getfield 29, 3) := by decide +kernel
theorem dX12_horses_157 : decode cX12_horses 157 = .ok (.aload_n 0, 1) := by decide +kernel
theorem dX12_horses_158 : decode cX12_horses 158 = .ok (.getfield 126, 3) := by decide +kernel
theorem dX12_horses_161 : decode cX12_horses 161 = .ok (.aload_n 0, 1) := by decide +kernel
theorem dX12_horses_162 : decode cX12_horses 162 = .ok (.getfield 52, 3) := by decide +kernel
theorem dX12_horses_165 : decode cX12_horses 165 = .ok (.iload 4, 2) := by decide +kernel
theorem dX12_horses_167 : decode cX12_horses 167 = .ok (.iconst 1, 1) := by decide +kernel
theorem dX12_horses_168 : decode cX12_horses 168 = .ok (.iadd, 1) := by decide +kernel
theorem dX12_horses_169 : decode cX12_horses 169 = .ok (.iaload, 1) := by decide +kernel
theorem dX12_horses_170 : decode cX12_horses 170 = .ok (.iastore, 1) := by decide +kernel
theorem dX12_horses_171 : decode cX12_horses 171 = .ok (.iconst 0, 1) := by decide +kernel
theorem dX12_horses_172 : decode cX12_horses 172 = .ok (.istore 5, 2) := by decide +kernel
theorem dX12_horses_174 : decode cX12_horses 174 = .ok (.iload 5, 2) := by decide +kernel
theorem dX12_horses_176 : decode cX12_horses 176 = .ok (.iconst 4, 1) := by decide +kernel
theorem dX12_horses_177 : decode cX12_horses 177 = .ok (.if_icmp .ge 35, 3) := by decide +kernel
theorem dX12_horses_180 : decode cX12_horses 180 = .ok (.aload_n 0, 1) := by decide +kernel
theorem dX12_horses_181 : decode cX12_horses 181 = .ok (.getfield 32, 3) := by decide +kernel
theorem dX12_horses_184 : decode cX12_horses 184 = .ok (.iconst 4, 1) := by decide +kernel
theorem dX12_horses_185 : decode cX12_horses 185 = .ok (.aload_n 0, 1) := by decide +kernel
theorem dX12_horses_186 : decode cX12_horses 186 = .ok (.getfield 126, 3) := by decide +kernel
theorem dX12_horses_189 : decode cX12_horses 189 = .ok (.imul, 1) := by decide +kernel
theorem dX12_horses_190 : decode cX12_horses 190 = .ok (.iload 5, 2) := by decide +kernel
theorem dX12_horses_192 : decode cX12_horses 192 = .ok (.iadd, 1) := by decide +kernel
theorem dX12_horses_193 : decode cX12_horses 193 = .ok (.aload_n 0, 1) := by decide +kernel
theorem dX12_horses_194 : decode cX12_horses 194 = .ok (.getfield 52, 3) := by decide +kernel
theorem dX12_horses_197 : decode cX12_horses 197 = .ok (.iload 4, 2) := by decide +kernel
theorem dX12_horses_199 : decode cX12_horses 199 = .ok (.iconst 2, 1) := by decide +kernel
theorem dX12_horses_200 : decode cX12_horses 200 = .ok (.iadd, 1) := by decide +kernel
theorem dX12_horses_201 : decode cX12_horses 201 = .ok (.iload 5, 2) := by decide +kernel
theorem dX12_horses_203 : decode cX12_horses 203 = .ok (.iadd, 1) := by decide +kernel
theorem dX12_horses_204 : decode cX12_horses 204 = .ok (.iaload, 1) := by decide +kernel
theorem dX12_horses_205 : decode cX12_horses 205 = .ok (.iastore, 1) := by decide +kernel
theorem dX12_horses_206 : decode cX12_horses 206 = .ok (.iinc 5 1, 3) := by decide +kernel
theorem dX12_horses_209 : decode cX12_horses 209 = .ok (.goto (-35), 3) := by decide +kernel
theorem dX12_horses_212 : decode cX12_horses 212 = .ok (.aload_n 0, 1) := by decide +kernel
theorem dX12_horses_213 : decode cX12_horses 213 = .ok (.dup, 1) := by decide +kernel
theorem dX12_horses_214 : decode cX12_horses 214 = .ok (.getfield 126, 3) := by decide +kernel
theorem dX12_horses_217 : decode cX12_horses 217 = .ok (.iconst 1, 1) := by decide +kernel
theorem dX12_horses_218 : decode cX12_horses 218 = .ok (.iadd, 1) := by decide +kernel
theorem dX12_horses_219 : decode cX12_horses 219 = .ok (.putfield 126, 3) := by decide +kernel
theorem dX12_horses_222 : decode cX12_horses 222 = .ok (.iinc 3 1, 3) := by decide +kernel
theorem dX12_horses_225 : decode cX12_horses 225 = .ok (.goto (-99), 3) := by decide +kernel
theorem dX12_horses_228 : decode cX12_horses 228 = .ok (.iload_n 1, 1) := by decide +kernel
theorem dX12_horses_229 : decode cX12_horses 229 = .ok (.ireturn, 1) := by decide +kernel
theorem dX12_plan_0 : decode cX12_plan 0 = .ok (.aload_n 0, 1) := by decide +kernel
theorem dX12_plan_1 : decode cX12_plan 1 = .ok (.iconst 0, 1) := by decide +kernel
theorem dX12_plan_2 : decode cX12_plan 2 = .ok (.putfield 113, 3) := by decide +kernel
theorem dX12_plan_5 : decode cX12_plan 5 = .ok (.aload_n 0, 1) := by decide +kernel
theorem dX12_plan_6 : decode cX12_plan 6 = .ok (.getfield 139, 3) := by decide +kernel
theorem dX12_plan_9 : decode cX12_plan 9 = .ok (.istore_n 1, 1) := by decide +kernel
theorem dX12_plan_10 : decode cX12_plan 10 = .ok (.aload_n 0, 1) := by decide +kernel
theorem dX12_plan_11 : decode cX12_plan 11 = .ok (.iconst 0, 1) := by decide +kernel
theorem dX12_plan_12 : decode cX12_plan 12 = .ok (.putfield 139, 3) := by decide +kernel
theorem dX12_plan_15 : decode cX12_plan 15 = .ok (.aload_n 0, 1) := by decide +kernel
theorem dX12_plan_16 : decode cX12_plan 16 = .ok (.getfield 129, 3) := by decide +kernel
theorem dX12_plan_19 : decode cX12_plan 19 = .ok (.bipush 6, 2) := by decide +kernel
theorem dX12_plan_21 : decode cX12_plan 21 = .ok (.if_icmp .ne 6, 3) := by decide +kernel
theorem dX12_plan_24 : decode cX12_plan 24 = .ok (.bipush (-100), 2) := by decide +kernel
theorem dX12_plan_26 : decode cX12_plan 26 = .ok (.ireturn, 1) := by decide +kernel
theorem dX12_plan_27 : decode cX12_plan 27 = .ok (.iconst 0, 1) := by decide +kernel
theorem dX12_plan_28 : decode cX12_plan 28 = .ok (.istore_n 2, 1) := by decide +kernel
theorem dX12_plan_29 : decode cX12_plan 29 = .ok (.iload_n 2, 1) := by decide +kernel
theorem dX12_plan_30 : decode cX12_plan 30 = .ok (.iload_n 1, 1) := by decide +kernel
theorem dX12_plan_31 : decode cX12_plan 31 = .ok (.if_icmp .ge 37, 3) := by decide +kernel
theorem dX12_plan_34 : decode cX12_plan 34 = .ok (.iload_n 2, 1) := by decide +kernel
theorem dX12_plan_35 : decode cX12_plan 35 = .ok (.aload_n 0, 1) := by decide +kernel
theorem dX12_plan_36 : decode cX12_plan 36 = .ok (.getfield 119, 3) := by decide +kernel
theorem dX12_plan_39 : decode cX12_plan 39 = .ok (.if_icmp .eq 19, 3) := by decide +kernel
theorem dX12_plan_42 : decode cX12_plan 42 = .ok (.aload_n 0, 1) := by decide +kernel
theorem dX12_plan_43 : decode cX12_plan 43 = .ok (.getfield 41, 3) := by decide +kernel
theorem dX12_plan_46 : decode cX12_plan 46 = .ok (.iload_n 2, 1) := by decide +kernel
theorem dX12_plan_47 : decode cX12_plan 47 = .ok (.baload, 1) := by decide +kernel
theorem dX12_plan_48 : decode cX12_plan 48 = .ok (.bipush 97, 2) := by decide +kernel
theorem dX12_plan_50 : decode cX12_plan 50 = .ok (.bipush 104, 2) := by decide +kernel
theorem dX12_plan_52 : decode cX12_plan 52 = .ok (.invokestatic 122, 3) := by decide +kernel
theorem dX12_plan_55 : decode cX12_plan 55 = .ok (.ifCond .ne 7, 3) := by decide +kernel
theorem dX12_plan_58 : decode cX12_plan 58 = .ok (.iconst (-1), 1) := by decide +kernel
theorem dX12_plan_59 : decode cX12_plan 59 = .ok (.iload_n 2, 1) := by decide +kernel
theorem dX12_plan_60 : decode cX12_plan 60 = .ok (.isub, 1) := by decide +kernel
theorem dX12_plan_61 : decode cX12_plan 61 = .ok (.ireturn, 1) := by decide +kernel
theorem dX12_plan_62 : decode cX12_plan 62 = .ok (.iinc 2 1, 3) := by decide +kernel
theorem dX12_plan_65 : decode cX12_plan 65 = .ok (.goto (-36), 3) := by decide +kernel
theorem dX12_plan_68 : decode cX12_plan 68 = .ok (.iload_n 1, 1) := by decide +kernel
theorem dX12_plan_69 : decode cX12_plan 69 = .ok (.aload_n 0, 1) := by decide +kernel
theorem dX12_plan_70 : decode cX12_plan 70 = .ok (.getfield 119, 3) := by decide +kernel
theorem dX12_plan_73 : decode cX12_plan 73 = .ok (.if_icmp .ge 7, 3) := by decide +kernel
theorem dX12_plan_76 : decode cX12_plan 76 = .ok (.iconst (-1), 1) := by decide +kernel
theorem dX12_plan_77 : decode cX12_plan 77 = .ok (.iload_n 1, 1) := by decide +kernel
theorem dX12_plan_78 : decode cX12_plan 78 = .ok (.isub, 1) := by decide +kernel
theorem dX12_plan_79 : decode cX12_plan 79 = .ok (.ireturn, 1) := by decide +kernel
theorem dX12_plan_80 : decode cX12_plan 80 = .ok (.iconst 0, 1) := by decide +kernel
theorem dX12_plan_81 : decode cX12_plan 81 = .ok (.istore_n 2, 1) := by decide +kernel
theorem dX12_plan_82 : decode cX12_plan 82 = .ok (.iload_n 2, 1) := by decide +kernel
theorem dX12_plan_83 : decode cX12_plan 83 = .ok (.iload_n 1, 1) := by decide +kernel
theorem dX12_plan_84 : decode cX12_plan 84 = .ok (.if_icmp .ge 32, 3) := by decide +kernel
theorem dX12_plan_87 : decode cX12_plan 87 = .ok (.aload_n 0, 1) := by decide +kernel
theorem dX12_plan_88 : decode cX12_plan 88 = .ok (.getfield 35, 3) := by decide +kernel
theorem dX12_plan_91 : decode cX12_plan 91 = .ok (.bipush 8, 2) := by decide +kernel
theorem dX12_plan_93 : decode cX12_plan 93 = .ok (.aload_n 0, 1) := by decide +kernel
theorem dX12_plan_94 : decode cX12_plan 94 = .ok (.getfield 129, 3) := by decide +kernel
theorem dX12_plan_97 : decode cX12_plan 97 = .ok (.imul, 1) := by decide +kernel
theorem dX12_plan_98 : decode cX12_plan 98 = .ok (.iload_n 2, 1) := by decide +kernel
theorem dX12_plan_99 : decode cX12_plan 99 = .ok (.iadd, 1) := by decide +kernel
theorem dX12_plan_100 : decode cX12_plan 100 = .ok (.aload_n 0, 1) := by decide +kernel
theorem dX12_plan_101 : decode cX12_plan 101 = .ok (.getfield 41, 3) := by decide +kernel
theorem dX12_plan_104 : decode cX12_plan 104 = .ok (.iload_n 2, 1) := by decide +kernel
theorem dX12_plan_105 : decode cX12_plan 105 = .ok (.baload, 1) := by decide +kernel
theorem dX12_plan_106 : decode cX12_plan 106 = .ok (.bipush 97, 2) := by decide +kernel
theorem dX12_plan_108 : decode cX12_plan 108 = .ok (.isub, 1) := by decide +kernel
theorem dX12_plan_109 : decode cX12_plan 109 = .ok (.iastore, 1) := by decide +kernel
theorem dX12_plan_110 : decode cX12_plan 110 = .ok (.iinc 2 1, 3) := by decide +kernel
theorem dX12_plan_113 : decode cX12_plan 113 = .ok (.goto (-31), 3) := by decide +kernel
theorem dX12_plan_116 : decode cX12_plan 116 = .ok (.aload_n 0, 1) := by decide +kernel
theorem dX12_plan_117 : decode cX12_plan 117 = .ok (.dup, 1) := by decide +kernel
theorem dX12_plan_118 : decode cX12_plan 118 = .ok (.getfield 129, 3) := by decide +kernel
theorem dX12_plan_121 : decode cX12_plan 121 = .ok (.iconst 1, 1) := by decide +kernel
theorem dX12_plan_122 : decode cX12_plan 122 = .ok (.iadd, 1) := by decide +kernel
theorem dX12_plan_123 : decode cX12_plan 123 = .ok (.putfield 129, 3) := by decide +kernel
theorem dX12_plan_126 : decode cX12_plan 126 = .ok (.aload_n 0, 1) := by decide +kernel
theorem dX12_plan_127 : decode cX12_plan 127 = .ok (.getfield 129, 3) := by decide +kernel
theorem dX12_plan_130 : decode cX12_plan 130 = .ok (.iconst 1, 1) := by decide +kernel
theorem dX12_plan_131 : decode cX12_plan 131 = .ok (.isub, 1) := by decide +kernel
theorem dX12_plan_132 : decode cX12_plan 132 = .ok (.ireturn, 1) := by decide +kernel
theorem dX12_prizes_0 : decode cX12_prizes 0 = .ok (.aload_n 0, 1) := by decide +kernel
theorem dX12_prizes_1 : decode cX12_prizes 1 = .ok (.iconst 0, 1) := by decide +kernel
theorem dX12_prizes_2 : decode cX12_prizes 2 = .ok (.putfield 113, 3) := by decide +kernel
theorem dX12_prizes_5 : decode cX12_prizes 5 = .ok (.aload_n 0, 1) := by decide +kernel
theorem dX12_prizes_6 : decode cX12_prizes 6 = .ok (.aload_n 0, 1) := by decide +kernel
theorem dX12_prizes_7 : decode cX12_prizes 7 = .ok (.getfield 41, 3) := by decide +kernel
theorem dX12_prizes_10 : decode cX12_prizes 10 = .ok (.aload_n 0, 1) := by decide +kernel
theorem dX12_prizes_11 : decode cX12_prizes 11 = .ok (.getfield 139, 3) := by decide +kernel
theorem dX12_prizes_14 : decode cX12_prizes 14 = .ok (.bipush 80, 2) := by decide +kernel
theorem dX12_prizes_16 : decode cX12_prizes 16 = .ok (.invokevirtual 185, 3) := by decide +kernel
theorem dX12_prizes_19 : decode cX12_prizes 19 = .ok (.aload_n 0, 1) := by decide +kernel
theorem dX12_prizes_20 : decode cX12_prizes 20 = .ok (.iconst 0, 1) := by decide +kernel
theorem dX12_prizes_21 : decode cX12_prizes 21 = .ok (.putfield 139, 3) := by decide +kernel
theorem dX12_prizes_24 : decode cX12_prizes 24 = .ok (.iconst 0, 1) := by decide +kernel
theorem dX12_prizes_25 : decode cX12_prizes 25 = .ok (.istore_n 1, 1) := by decide +kernel
theorem dX12_prizes_26 : decode cX12_prizes 26 = .ok (.iconst 1, 1) := by decide +kernel
theorem dX12_prizes_27 : decode cX12_prizes 27 = .ok (.istore_n 2, 1) := by decide +kernel
theorem dX12_prizes_28 : decode cX12_prizes 28 = .ok (.iload_n 2, 1) := by decide +kernel
theorem dX12_prizes_29 : decode cX12_prizes 29 = .ok (.ifCond .eq 51, 3) := by decide +kernel
theorem dX12_prizes_32 : decode cX12_prizes 32 = .ok (.aload_n 0, 1) := by decide +kernel
theorem dX12_prizes_33 : decode cX12_prizes 33 = .ok (.invokevirtual 157, 3) := by decide +kernel
theorem dX12_prizes_36 : decode cX12_prizes 36 = .ok (.ifCond .eq 44, 3) := by decide +kernel
theorem dX12_prizes_39 : decode cX12_prizes 39 = .ok (.iload_n 1, 1) := by decide +kernel
theorem dX12_prizes_40 : decode cX12_prizes 40 = .ok (.bipush 6, 2) := by decide +kernel
theorem dX12_prizes_42 : decode cX12_prizes 42 = .ok (.if_icmp .ne 14, 3) := by decide +kernel
theorem dX12_prizes_45 : decode cX12_prizes 45 = .ok (.aload_n 0, 1) := by decide +kernel
theorem dX12_prizes_46 : decode cX12_prizes 46 = .ok (.aload_n 0, 1) := by decide +kernel
theorem dX12_prizes_47 : decode cX12_prizes 47 = .ok (.getfield 151, 3) := by decide +kernel
theorem dX12_prizes_50 : decode cX12_prizes 50 = .ok (.invokevirtual 169, 3) := by decide +kernel
theorem dX12_prizes_53 : decode cX12_prizes 53 = .ok (.goto 14, 3) := by decide +kernel
theorem dX12_prizes_56 : decode cX12_prizes 56 = .ok (.aload_n 0, 1) := by decide +kernel
theorem dX12_prizes_57 : decode cX12_prizes 57 = .ok (.getfield 55, 3) := by decide +kernel
theorem dX12_prizes_60 : decode cX12_prizes 60 = .ok (.iload_n 1, 1) := by decide +kernel
theorem dX12_prizes_61 : decode cX12_prizes 61 = .ok (.aload_n 0, 1) := by decide +kernel
theorem dX12_prizes_62 : decode cX12_prizes 62 = .ok (.iconst 2, 1) := by decide +kernel
theorem dX12_prizes_63 : decode cX12_prizes 63 = .ok (.invokevirtual 198, 3) := by decide +kernel
theorem dX12_prizes_66 : decode cX12_prizes 66 = .ok (.iastore, 1) := by decide +kernel
theorem dX12_prizes_67 : decode cX12_prizes 67 = .ok (.iinc 1 1, 3) := by decide +kernel
theorem dX12_prizes_70 : decode cX12_prizes 70 = .ok (.aload_n 0, 1) := by decide +kernel
theorem dX12_prizes_71 : decode cX12_prizes 71 = .ok (.bipush 44, 2) := by decide +kernel
theorem dX12_prizes_73 : decode cX12_prizes 73 = .ok (.invokevirtual 165, 3) := by decide +kernel
theorem dX12_prizes_76 : decode cX12_prizes 76 = .ok (.istore_n 2, 1) := by decide +kernel
theorem dX12_prizes_77 : decode cX12_prizes 77 = .ok (.goto (-49), 3) := by decide +kernel
theorem dX12_prizes_80 : decode cX12_prizes 80 = .ok (.aload_n 0, 1) := by decide +kernel
theorem dX12_prizes_81 : decode cX12_prizes 81 = .ok (.getfield 151, 3) := by decide +kernel
theorem dX12_prizes_84 : decode cX12_prizes 84 = .ok (.aload_n 0, 1) := by decide +kernel
theorem dX12_prizes_85 : decode cX12_prizes 85 = .ok (.getfield 145, 3) := by decide +kernel
theorem dX12_prizes_88 : decode cX12_prizes 88 = .ok (.if_icmp .ge 11, 3) := by decide +kernel
theorem dX12_prizes_91 : decode cX12_prizes 91 = .ok (.aload_n 0, 1) := by decide +kernel
theorem dX12_prizes_92 : decode cX12_prizes 92 = .ok (.aload_n 0, 1) := by decide +kernel
theorem dX12_prizes_93 : decode cX12_prizes 93 = .ok (.getfield 151, 3) := by decide +kernel
theorem dX12_prizes_96 : decode cX12_prizes 96 = .ok (.invokevirtual 169, 3) := by decide +kernel
theorem dX12_prizes_99 : decode cX12_prizes 99 = .ok (.aload_n 0, 1) := by decide +kernel
theorem dX12_prizes_100 : decode cX12_prizes 100 = .ok (.invokevirtual 157, 3) := by decide +kernel
theorem dX12_prizes_103 : decode cX12_prizes 103 = .ok (.ifCond .ne 10, 3) := by decide +kernel
theorem dX12_prizes_106 : decode cX12_prizes 106 = .ok (.iconst (-1), 1) := by decide +kernel
theorem dX12_prizes_107 : decode cX12_prizes 107 = .ok (.aload_n 0, 1) := by decide +kernel
theorem dX12_prizes_108 : decode cX12_prizes 108 = .ok (.getfield 154, 3) := by decide +kernel
theorem dX12_prizes_111 : decode cX12_prizes 111 = .ok (.isub, 1) := by decide +kernel
theorem dX12_prizes_112 : decode cX12_prizes 112 = .ok (.ireturn, 1) := by decide +kernel
theorem dX12_prizes_113 : decode cX12_prizes 113 = .ok (.iconst 0, 1) := by decide +kernel
theorem dX12_prizes_114 : decode cX12_prizes 114 = .ok (.istore_n 3, 1) := by decide +kernel
theorem dX12_prizes_115 : decode cX12_prizes 115 = .ok (.iload_n 3, 1) := by decide +kernel
theorem dX12_prizes_116 : decode cX12_prizes 116 = .ok (.bipush 6, 2) := by decide +kernel
theorem dX12_prizes_118 : decode cX12_prizes 118 = .ok (.if_icmp .ge 30, 3) := by decide +kernel
theorem dX12_prizes_121 : decode cX12_prizes 121 = .ok (.aload_n 0, 1) := by decide +kernel
theorem dX12_prizes_122 : decode cX12_prizes 122 = .ok (.getfield 38, 3) := by decide +kernel
theorem dX12_prizes_125 : decode cX12_prizes 125 = .ok (.iload_n 3, 1) := by decide +kernel
theorem dX12_prizes_126 : decode cX12_prizes 126 = .ok (.iload_n 3, 1) := by decide +kernel
theorem dX12_prizes_127 : decode cX12_prizes 127 = .ok (.iload_n 1, 1) := by decide +kernel
theorem dX12_prizes_128 : decode cX12_prizes 128 = .ok (.if_icmp .ge 12, 3) := by decide +kernel
theorem dX12_prizes_131 : decode cX12_prizes 131 = .ok (.aload_n 0, 1) := by decide +kernel
theorem dX12_prizes_132 : decode cX12_prizes 132 = .ok (.getfield 55, 3) := by decide +kernel
theorem dX12_prizes_135 : decode cX12_prizes 135 = .ok (.iload_n 3, 1) := by decide +kernel
theorem dX12_prizes_136 : decode cX12_prizes 136 = .ok (.iaload, 1) := by decide +kernel
theorem dX12_prizes_137 : decode cX12_prizes 137 = .ok (.goto 4, 3) := by decide +kernel
theorem dX12_prizes_140 : decode cX12_prizes 140 = .ok (.iconst 0, 1) := by decide +kernel
theorem dX12_prizes_141 : decode cX12_prizes 141 = .ok (.iastore, 1) := by decide +kernel
theorem dX12_prizes_142 : decode cX12_prizes 142 = .ok (.iinc 3 1, 3) := by decide +kernel
theorem dX12_prizes_145 : decode cX12_prizes 145 = .ok (.goto (-30), 3) := by decide +kernel
theorem dX12_prizes_148 : decode cX12_prizes 148 = .ok (.iload_n 1, 1) := by decide +kernel
theorem dX12_prizes_149 : decode cX12_prizes 149 = .ok (.ireturn, 1) := by decide +kernel
theorem dX12_held_0 : decode cX12_held 0 = .ok (.aload_n 0, 1) := by decide +kernel
theorem dX12_held_1 : decode cX12_held 1 = .ok (.iload_n 1, 1) := by decide +kernel
theorem dX12_held_2 : decode cX12_held 2 = .ok (.invokevirtual 201, 3) := by decide +kernel
theorem dX12_held_5 : decode cX12_held 5 = .ok (.istore_n 2, 1) := by decide +kernel
theorem dX12_held_6 : decode cX12_held 6 = .ok (.aload_n 0, 1) := by decide +kernel
theorem dX12_held_7 : decode cX12_held 7 = .ok (.bipush 60, 2) := by decide +kernel
theorem dX12_held_9 : decode cX12_held 9 = .ok (.invokevirtual 165, 3) := by decide +kernel
theorem dX12_held_12 : decode cX12_held 12 = .ok (.ifCond .eq 18, 3) := by decide +kernel
theorem dX12_held_15 : decode cX12_held 15 = .ok (.iload_n 2, 1) := by decide +kernel
theorem dX12_held_16 : decode cX12_held 16 = .ok (.aload_n 0, 1) := by decide +kernel
theorem dX12_held_17 : decode cX12_held 17 = .ok (.iload_n 1, 1) := by decide +kernel
theorem dX12_held_18 : decode cX12_held 18 = .ok (.invokevirtual 201, 3) := by decide +kernel
theorem dX12_held_21 : decode cX12_held 21 = .ok (.if_icmp .ge 7, 3) := by decide +kernel
theorem dX12_held_24 : decode cX12_held 24 = .ok (.iconst 1, 1) := by decide +kernel
theorem dX12_held_25 : decode cX12_held 25 = .ok (.goto 4, 3) := by decide +kernel
theorem dX12_held_28 : decode cX12_held 28 = .ok (.iconst 0, 1) := by decide +kernel
theorem dX12_held_29 : decode cX12_held 29 = .ok (.ireturn, 1) := by decide +kernel
theorem dX12_held_30 : decode cX12_held 30 = .ok (.aload_n 0, 1) := by decide +kernel
theorem dX12_held_31 : decode cX12_held 31 = .ok (.bipush 62, 2) := by decide +kernel
theorem dX12_held_33 : decode cX12_held 33 = .ok (.invokevirtual 165, 3) := by decide +kernel
theorem dX12_held_36 : decode cX12_held 36 = .ok (.ifCond .eq 18, 3) := by decide +kernel
theorem dX12_held_39 : decode cX12_held 39 = .ok (.iload_n 2, 1) := by decide +kernel
theorem dX12_held_40 : decode cX12_held 40 = .ok (.aload_n 0, 1) := by decide +kernel
theorem dX12_held_41 : decode cX12_held 41 = .ok (.iload_n 1, 1) := by decide +kernel
theorem dX12_held_42 : decode cX12_held 42 = .ok (.invokevirtual 201, 3) := by decide +kernel
theorem dX12_held_45 : decode cX12_held 45 = .ok (.if_icmp .le 7, 3) := by decide +kernel
theorem dX12_held_48 : decode cX12_held 48 = .ok (.iconst 1, 1) := by decide +kernel
theorem dX12_held_49 : decode cX12_held 49 = .ok (.goto 4, 3) := by decide +kernel
theorem dX12_held_52 : decode cX12_held 52 = .ok (.iconst 0, 1) := by decide +kernel
theorem dX12_held_53 : decode cX12_held 53 = .ok (.ireturn, 1) := by decide +kernel
theorem dX12_held_54 : decode cX12_held 54 = .ok (.aload_n 0, 1) := by decide +kernel
theorem dX12_held_55 : decode cX12_held 55 = .ok (.bipush 61, 2) := by decide +kernel
theorem dX12_held_57 : decode cX12_held 57 = .ok (.invokevirtual 165, 3) := by decide +kernel
theorem dX12_held_60 : decode cX12_held 60 = .ok (.ifCond .eq 18, 3) := by decide +kernel
theorem dX12_held_63 : decode cX12_held 63 = .ok (.iload_n 2, 1) := by decide +kernel
theorem dX12_held_64 : decode cX12_held 64 = .ok (.aload_n 0, 1) := by decide +kernel
theorem dX12_held_65 : decode cX12_held 65 = .ok (.iload_n 1, 1) := by decide +kernel
theorem dX12_held_66 : decode cX12_held 66 = .ok (.invokevirtual 201, 3) := by decide +kernel
theorem dX12_held_69 : decode cX12_held 69 = .ok (.if_icmp .ne 7, 3) := by decide +kernel
theorem dX12_held_72 : decode cX12_held 72 = .ok (.iconst 1, 1) := by decide +kernel
theorem dX12_held_73 : decode cX12_held 73 = .ok (.goto 4, 3) := by decide +kernel
theorem dX12_held_76 : decode cX12_held 76 = .ok (.iconst 0, 1) := by decide +kernel
theorem dX12_held_77 : decode cX12_held 77 = .ok (.ireturn, 1) := by decide +kernel
theorem dX12_held_78 : decode cX12_held 78 = .ok (.iload_n 2, 1) := by decide +kernel
theorem dX12_held_79 : decode cX12_held 79 = .ok (.ireturn, 1) := by decide +kernel
theorem dX12_sum_0 : decode cX12_sum 0 = .ok (.aload_n 0, 1) := by decide +kernel
theorem dX12_sum_1 : decode cX12_sum 1 = .ok (.iload_n 1, 1) := by decide +kernel
theorem dX12_sum_2 : decode cX12_sum 2 = .ok (.invokevirtual 204, 3) := by decide +kernel
theorem dX12_sum_5 : decode cX12_sum 5 = .ok (.istore_n 2, 1) := by decide +kernel
theorem dX12_sum_6 : decode cX12_sum 6 = .ok (.aload_n 0, 1) := by decide +kernel
theorem dX12_sum_7 : decode cX12_sum 7 = .ok (.invokevirtual 157, 3) := by decide +kernel
theorem dX12_sum_10 : decode cX12_sum 10 = .ok (.ifCond .eq 72, 3) := by decide +kernel
theorem dX12_sum_13 : decode cX12_sum 13 = .ok (.aload_n 0, 1) := by decide +kernel
theorem dX12_sum_14 : decode cX12_sum 14 = .ok (.invokevirtual 161, 3) := by decide +kernel
theorem dX12_sum_17 : decode cX12_sum 17 = .ok (.bipush 43, 2) := by decide +kernel
theorem dX12_sum_19 : decode cX12_sum 19 = .ok (.if_icmp .eq 12, 3) := by decide +kernel
theorem dX12_sum_22 : decode cX12_sum 22 = .ok (.aload_n 0, 1) := by decide +kernel
theorem dX12_sum_23 : decode cX12_sum 23 = .ok (.invokevirtual 161, 3) := by decide +kernel
theorem dX12_sum_26 : decode cX12_sum 26 = .ok (.bipush 45, 2) := by decide +kernel
theorem dX12_sum_28 : decode cX12_sum 28 = .ok (.if_icmp .ne 54, 3) := by decide +kernel
theorem dX12_sum_31 : decode cX12_sum 31 = .ok (.aload_n 0, 1) := by decide +kernel
theorem dX12_sum_32 : decode cX12_sum 32 = .ok (.invokevirtual 161, 3) := by decide +kernel
theorem dX12_sum_35 : decode cX12_sum 35 = .ok (.bipush 43, 2) := by decide +kernel
theorem dX12_sum_37 : decode cX12_sum 37 = .ok (.if_icmp .ne 7, 3) := by decide +kernel
theorem dX12_sum_40 : decode cX12_sum 40 = .ok (.iconst 1, 1) := by decide +kernel
theorem dX12_sum_41 : decode cX12_sum 41 = .ok (.goto 4, 3) := by decide +kernel
theorem dX12_sum_44 : decode cX12_sum 44 = .ok (.iconst 0, 1) := by decide +kernel
theorem dX12_sum_45 : decode cX12_sum 45 = .ok (.istore_n 3, 1) := by decide +kernel
theorem dX12_sum_46 : decode cX12_sum 46 = .ok (.aload_n 0, 1) := by decide +kernel
theorem dX12_sum_47 : decode cX12_sum 47 = .ok (.dup, 1) := by decide +kernel
theorem dX12_sum_48 : decode cX12_sum 48 = .ok (.getfield 151, 3) := by decide +kernel
theorem dX12_sum_51 : decode cX12_sum 51 = .ok (.iconst 1, 1) := by decide +kernel
theorem dX12_sum_52 : decode cX12_sum 52 = .ok (.iadd, 1) := by decide +kernel
theorem dX12_sum_53 : decode cX12_sum 53 = .ok (.putfield 151, 3) := by decide +kernel
theorem dX12_sum_56 : decode cX12_sum 56 = .ok (.aload_n 0, 1) := by decide +kernel
theorem dX12_sum_57 : decode cX12_sum 57 = .ok (.iload_n 1, 1) := by decide +kernel
theorem dX12_sum_58 : decode cX12_sum 58 = .ok (.invokevirtual 204, 3) := by decide +kernel
theorem dX12_sum_61 : decode cX12_sum 61 = .ok (.istore 4, 2) := by decide +kernel
theorem dX12_sum_63 : decode cX12_sum 63 = .ok (.iload_n 3, 1) := by decide +kernel
theorem dX12_sum_64 : decode cX12_sum 64 = .ok (.ifCond .eq 10, 3) := by decide +kernel
theorem dX12_sum_67 : decode cX12_sum 67 = .ok (.iload_n 2, 1) := by decide +kernel
theorem dX12_sum_68 : decode cX12_sum 68 = .ok (.iload 4, 2) := by decide +kernel
theorem dX12_sum_70 : decode cX12_sum 70 = .ok (.iadd, 1) := by decide +kernel
theorem dX12_sum_71 : decode cX12_sum 71 = .ok (.goto 7, 3) := by decide +kernel
theorem dX12_sum_74 : decode cX12_sum 74 = .ok (.iload_n 2, 1) := by decide +kernel
theorem dX12_sum_75 : decode cX12_sum 75 = .ok (.iload 4, 2) := by decide +kernel
theorem dX12_sum_77 : decode cX12_sum 77 = .ok (.isub, 1) := by decide +kernel
theorem dX12_sum_78 : decode cX12_sum 78 = .ok (.istore_n 2, 1) := by decide +kernel
theorem dX12_sum_79 : decode cX12_sum 79 = .ok (.goto (-73), 3) := by decide +kernel
theorem dX12_sum_82 : decode cX12_sum 82 = .ok (.iload_n 2, 1) := by decide +kernel
theorem dX12_sum_83 : decode cX12_sum 83 = .ok (.ireturn, 1) := by decide +kernel
theorem dX12_product_0 : decode cX12_product 0 = .ok (.aload_n 0, 1) := by decide +kernel
theorem dX12_product_1 : decode cX12_product 1 = .ok (.iload_n 1, 1) := by decide +kernel
theorem dX12_product_2 : decode cX12_product 2 = .ok (.invokevirtual 207, 3) := by decide +kernel
theorem dX12_product_5 : decode cX12_product 5 = .ok (.istore_n 2, 1) := by decide +kernel
theorem dX12_product_6 : decode cX12_product 6 = .ok (.aload_n 0, 1) := by decide +kernel
theorem dX12_product_7 : decode cX12_product 7 = .ok (.invokevirtual 157, 3) := by decide +kernel
theorem dX12_product_10 : decode cX12_product 10 = .ok (.ifCond .eq 81, 3) := by decide +kernel
theorem dX12_product_13 : decode cX12_product 13 = .ok (.aload_n 0, 1) := by decide +kernel
theorem dX12_product_14 : decode cX12_product 14 = .ok (.invokevirtual 161, 3) := by decide +kernel
theorem dX12_product_17 : decode cX12_product 17 = .ok (.bipush 42, 2) := by decide +kernel
theorem dX12_product_19 : decode cX12_product 19 = .ok (.if_icmp .eq 12, 3) := by decide +kernel
theorem dX12_product_22 : decode cX12_product 22 = .ok (.aload_n 0, 1) := by decide +kernel
theorem dX12_product_23 : decode cX12_product 23 = .ok (.invokevirtual 161, 3) := by decide +kernel
theorem dX12_product_26 : decode cX12_product 26 = .ok (.bipush 47, 2) := by decide +kernel
theorem dX12_product_28 : decode cX12_product 28 = .ok (.if_icmp .ne 63, 3) := by decide +kernel
theorem dX12_product_31 : decode cX12_product 31 = .ok (.aload_n 0, 1) := by decide +kernel
theorem dX12_product_32 : decode cX12_product 32 = .ok (.invokevirtual 161, 3) := by decide +kernel
theorem dX12_product_35 : decode cX12_product 35 = .ok (.bipush 42, 2) := by decide +kernel
theorem dX12_product_37 : decode cX12_product 37 = .ok (.if_icmp .ne 7, 3) := by decide +kernel
theorem dX12_product_40 : decode cX12_product 40 = .ok (.iconst 1, 1) := by decide +kernel
theorem dX12_product_41 : decode cX12_product 41 = .ok (.goto 4, 3) := by decide +kernel
theorem dX12_product_44 : decode cX12_product 44 = .ok (.iconst 0, 1) := by decide +kernel
theorem dX12_product_45 : decode cX12_product 45 = .ok (.istore_n 3, 1) := by decide +kernel
theorem dX12_product_46 : decode cX12_product 46 = .ok (.aload_n 0, 1) := by decide +kernel
theorem dX12_product_47 : decode cX12_product 47 = .ok (.dup, 1) := by decide +kernel
theorem dX12_product_48 : decode cX12_product 48 = .ok (.getfield 151, 3) := by decide +kernel
theorem dX12_product_51 : decode cX12_product 51 = .ok (.iconst 1, 1) := by decide +kernel
theorem dX12_product_52 : decode cX12_product 52 = .ok (.iadd, 1) := by decide +kernel
theorem dX12_product_53 : decode cX12_product 53 = .ok (.putfield 151, 3) := by decide +kernel
theorem dX12_product_56 : decode cX12_product 56 = .ok (.aload_n 0, 1) := by decide +kernel
theorem dX12_product_57 : decode cX12_product 57 = .ok (.iload_n 1, 1) := by decide +kernel
theorem dX12_product_58 : decode cX12_product 58 = .ok (.invokevirtual 207, 3) := by decide +kernel
theorem dX12_product_61 : decode cX12_product 61 = .ok (.istore 4, 2) := by decide +kernel
theorem dX12_product_63 : decode cX12_product 63 = .ok (.iload_n 3, 1) := by decide +kernel
theorem dX12_product_64 : decode cX12_product 64 = .ok (.ifCond .eq 10, 3) := by decide +kernel
theorem dX12_product_67 : decode cX12_product 67 = .ok (.iload_n 2, 1) := by decide +kernel
theorem dX12_product_68 : decode cX12_product 68 = .ok (.iload 4, 2) := by decide +kernel
theorem dX12_product_70 : decode cX12_product 70 = .ok (.imul, 1) := by decide +kernel
theorem dX12_product_71 : decode cX12_product 71 = .ok (.goto 16, 3) := by decide +kernel
theorem dX12_product_74 : decode cX12_product 74 = .ok (.iload 4, 2) := by decide +kernel
theorem dX12_product_76 : decode cX12_product 76 = .ok (.ifCond .ne 7, 3) := by decide +kernel
theorem dX12_product_79 : decode cX12_product 79 = .ok (.iconst 0, 1) := by decide +kernel
theorem dX12_product_80 : decode cX12_product 80 = .ok (.goto 7, 3) := by decide +kernel
theorem dX12_product_83 : decode cX12_product 83 = .ok (.iload_n 2, 1) := by decide +kernel
theorem dX12_product_84 : decode cX12_product 84 = .ok (.iload 4, 2) := by decide +kernel
theorem dX12_product_86 : decode cX12_product 86 = .ok (.idiv, 1) := by decide +kernel
theorem dX12_product_87 : decode cX12_product 87 = .ok (.istore_n 2, 1) := by decide +kernel
theorem dX12_product_88 : decode cX12_product 88 = .ok (.goto (-82), 3) := by decide +kernel
theorem dX12_product_91 : decode cX12_product 91 = .ok (.iload_n 2, 1) := by decide +kernel
theorem dX12_product_92 : decode cX12_product 92 = .ok (.ireturn, 1) := by decide +kernel
theorem dX12_thing_0 : decode cX12_thing 0 = .ok (.aload_n 0, 1) := by decide +kernel
theorem dX12_thing_1 : decode cX12_thing 1 = .ok (.bipush 45, 2) := by decide +kernel
theorem dX12_thing_3 : decode cX12_thing 3 = .ok (.invokevirtual 165, 3) := by decide +kernel
theorem dX12_thing_6 : decode cX12_thing 6 = .ok (.ifCond .eq 10, 3) := by decide +kernel
theorem dX12_thing_9 : decode cX12_thing 9 = .ok (.aload_n 0, 1) := by decide +kernel
theorem dX12_thing_10 : decode cX12_thing 10 = .ok (.iload_n 1, 1) := by decide +kernel
theorem dX12_thing_11 : decode cX12_thing 11 = .ok (.invokevirtual 207, 3) := by decide +kernel
theorem dX12_thing_14 : decode cX12_thing 14 = .ok (.ineg, 1) := by decide +kernel
theorem dX12_thing_15 : decode cX12_thing 15 = .ok (.ireturn, 1) := by decide +kernel
theorem dX12_thing_16 : decode cX12_thing 16 = .ok (.aload_n 0, 1) := by decide +kernel
theorem dX12_thing_17 : decode cX12_thing 17 = .ok (.invokevirtual 157, 3) := by decide +kernel
theorem dX12_thing_20 : decode cX12_thing 20 = .ok (.ifCond .ne 5, 3) := by decide +kernel
theorem dX12_thing_23 : decode cX12_thing 23 = .ok (.iconst 0, 1) := by decide +kernel
theorem dX12_thing_24 : decode cX12_thing 24 = .ok (.ireturn, 1) := by decide +kernel
theorem dX12_thing_25 : decode cX12_thing 25 = .ok (.aload_n 0, 1) := by decide +kernel
theorem dX12_thing_26 : decode cX12_thing 26 = .ok (.invokevirtual 161, 3) := by decide +kernel
theorem dX12_thing_29 : decode cX12_thing 29 = .ok (.istore_n 2, 1) := by decide +kernel
theorem dX12_thing_30 : decode cX12_thing 30 = .ok (.iload_n 2, 1) := by decide +kernel
theorem dX12_thing_31 : decode cX12_thing 31 = .ok (.bipush 40, 2) := by decide +kernel
theorem dX12_thing_33 : decode cX12_thing 33 = .ok (.if_icmp .ne 34, 3) := by decide +kernel
theorem dX12_thing_36 : decode cX12_thing 36 = .ok (.iload_n 1, 1) := by decide +kernel
theorem dX12_thing_37 : decode cX12_thing 37 = .ok (.iconst 4, 1) := by decide +kernel
theorem dX12_thing_38 : decode cX12_thing 38 = .ok (.if_icmp .ge 29, 3) := by decide +kernel
theorem dX12_thing_41 : decode cX12_thing 41 = .ok (.aload_n 0, 1) := by decide +kernel
theorem dX12_thing_42 : decode cX12_thing 42 = .ok (.dup, 1) := by decide +kernel
theorem dX12_thing_43 : decode cX12_thing 43 = .ok (.getfield 151, 3) := by decide +kernel
theorem dX12_thing_46 : decode cX12_thing 46 = .ok (.iconst 1, 1) := by decide +kernel
theorem dX12_thing_47 : decode cX12_thing 47 = .ok (.iadd, 1) := by decide +kernel
theorem dX12_thing_48 : decode cX12_thing 48 = .ok (.putfield 151, 3) := by decide +kernel
theorem dX12_thing_51 : decode cX12_thing 51 = .ok (.aload_n 0, 1) := by decide +kernel
theorem dX12_thing_52 : decode cX12_thing 52 = .ok (.iload_n 1, 1) := by decide +kernel
theorem dX12_thing_53 : decode cX12_thing 53 = .ok (.iconst 1, 1) := by decide +kernel
theorem dX12_thing_54 : decode cX12_thing 54 = .ok (.iadd, 1) := by decide +kernel
theorem dX12_thing_55 : decode cX12_thing 55 = .ok (.invokevirtual 210, 3) := by decide +kernel
theorem dX12_thing_58 : decode cX12_thing 58 = .ok (.istore_n 3, 1) := by decide +kernel
theorem dX12_thing_59 : decode cX12_thing 59 = .ok (.aload_n 0, 1) := by decide +kernel
theorem dX12_thing_60 : decode cX12_thing 60 = .ok (.bipush 41, 2) := by decide +kernel
theorem dX12_thing_62 : decode cX12_thing 62 = .ok (.invokevirtual 181, 3) := by decide +kernel
theorem dX12_thing_65 : decode cX12_thing 65 = .ok (.iload_n 3, 1) := by decide +kernel
theorem dX12_thing_66 : decode cX12_thing 66 = .ok (.ireturn, 1) := by decide +kernel
theorem dX12_thing_67 : decode cX12_thing 67 = .ok (.iload_n 2, 1) := by decide +kernel
theorem dX12_thing_68 : decode cX12_thing 68 = .ok (.bipush 48, 2) := by decide +kernel
theorem dX12_thing_70 : decode cX12_thing 70 = .ok (.bipush 57, 2) := by decide +kernel
theorem dX12_thing_72 : decode cX12_thing 72 = .ok (.invokestatic 122, 3) := by decide +kernel
theorem dX12_thing_75 : decode cX12_thing 75 = .ok (.ifCond .eq 9, 3) := by decide +kernel
theorem dX12_thing_78 : decode cX12_thing 78 = .ok (.aload_n 0, 1) := by decide +kernel
theorem dX12_thing_79 : decode cX12_thing 79 = .ok (.iconst 3, 1) := by decide +kernel
theorem dX12_thing_80 : decode cX12_thing 80 = .ok (.invokevirtual 198, 3) := by decide +kernel
theorem dX12_thing_83 : decode cX12_thing 83 = .ok (.ireturn, 1) := by decide +kernel
theorem dX12_thing_84 : decode cX12_thing 84 = .ok (.iload_n 2, 1) := by decide +kernel
theorem dX12_thing_85 : decode cX12_thing 85 = .ok (.bipush 104, 2) := by decide +kernel
theorem dX12_thing_87 : decode cX12_thing 87 = .ok (.if_icmp .eq 55, 3) := by decide +kernel
theorem dX12_thing_90 : decode cX12_thing 90 = .ok (.iload_n 2, 1) := by decide +kernel
theorem dX12_thing_91 : decode cX12_thing 91 = .ok (.bipush 115, 2) := by decide +kernel
theorem dX12_thing_93 : decode cX12_thing 93 = .ok (.if_icmp .eq 49, 3) := by decide +kernel
theorem dX12_thing_96 : decode cX12_thing 96 = .ok (.iload_n 2, 1) := by decide +kernel
theorem dX12_thing_97 : decode cX12_thing 97 = .ok (.bipush 99, 2) := by decide +kernel
theorem dX12_thing_99 : decode cX12_thing 99 = .ok (.if_icmp .eq 43, 3) := by decide +kernel
theorem dX12_thing_102 : decode cX12_thing 102 = .ok (.iload_n 2, 1) := by decide +kernel
theorem dX12_thing_103 : decode cX12_thing 103 = .ok (.bipush 112, 2) := by decide +kernel
theorem dX12_thing_105 : decode cX12_thing 105 = .ok (.if_icmp .eq 37, 3) := by decide +kernel
theorem dX12_thing_108 : decode cX12_thing 108 = .ok (.iload_n 2, 1) := by decide +kernel
theorem dX12_thing_109 : decode cX12_thing 109 = .ok (.bipush 120, 2) := by decide +kernel
theorem dX12_thing_111 : decode cX12_thing 111 = .ok (.if_icmp .eq 31, 3) := by decide +kernel
theorem dX12_thing_114 : decode cX12_thing 114 = .ok (.iload_n 2, 1) := by decide +kernel
theorem dX12_thing_115 : decode cX12_thing 115 = .ok (.bipush 102, 2) := by decide +kernel
theorem dX12_thing_117 : decode cX12_thing 117 = .ok (.if_icmp .eq 25, 3) := by decide +kernel
theorem dX12_thing_120 : decode cX12_thing 120 = .ok (.iload_n 2, 1) := by decide +kernel
theorem dX12_thing_121 : decode cX12_thing 121 = .ok (.bipush 107, 2) := by decide +kernel
theorem dX12_thing_123 : decode cX12_thing 123 = .ok (.if_icmp .eq 19, 3) := by decide +kernel
theorem dX12_thing_126 : decode cX12_thing 126 = .ok (.iload_n 2, 1) := by decide +kernel
theorem dX12_thing_127 : decode cX12_thing 127 = .ok (.bipush 121, 2) := by decide +kernel
theorem dX12_thing_129 : decode cX12_thing 129 = .ok (.if_icmp .eq 13, 3) := by decide +kernel
theorem dX12_thing_132 : decode cX12_thing 132 = .ok (.aload_n 0, 1) := by decide +kernel
theorem dX12_thing_133 : decode cX12_thing 133 = .ok (.aload_n 0, 1) := by decide +kernel
theorem dX12_thing_134 : decode cX12_thing 134 = .ok (.getfield 151, 3) := by decide +kernel
theorem dX12_thing_137 : decode cX12_thing 137 = .ok (.invokevirtual 169, 3) := by decide +kernel
theorem dX12_thing_140 : decode cX12_thing 140 = .ok (.iconst 0, 1) := by decide +kernel
theorem dX12_thing_141 : decode cX12_thing 141 = .ok (.ireturn, 1) := by decide +kernel
theorem dX12_thing_142 : decode cX12_thing 142 = .ok (.aload_n 0, 1) := by decide +kernel
theorem dX12_thing_143 : decode cX12_thing 143 = .ok (.dup, 1) := by decide +kernel
theorem dX12_thing_144 : decode cX12_thing 144 = .ok (.getfield 151, 3) := by decide +kernel
theorem dX12_thing_147 : decode cX12_thing 147 = .ok (.iconst 1, 1) := by decide +kernel
theorem dX12_thing_148 : decode cX12_thing 148 = .ok (.iadd, 1) := by decide +kernel
theorem dX12_thing_149 : decode cX12_thing 149 = .ok (.putfield 151, 3) := by decide +kernel
theorem dX12_thing_152 : decode cX12_thing 152 = .ok (.aload_n 0, 1) := by decide +kernel
theorem dX12_thing_153 : decode cX12_thing 153 = .ok (.getfield 213, 3) := by decide +kernel
theorem dX12_thing_156 : decode cX12_thing 156 = .ok (.ifCond .eq 11, 3) := by decide +kernel
theorem dX12_thing_159 : decode cX12_thing 159 = .ok (.aload_n 0, 1) := by decide +kernel
theorem dX12_thing_160 : decode cX12_thing 160 = .ok (.iload_n 2, 1) := by decide +kernel
theorem dX12_thing_161 : decode cX12_thing 161 = .ok (.invokevirtual 217, 3) := by decide +kernel
theorem dX12_thing_164 : decode cX12_thing 164 = .ok (.goto 4, 3) := by decide +kernel
theorem dX12_thing_167 : decode cX12_thing 167 = .ok (.iconst 0, 1) := by decide +kernel
theorem dX12_thing_168 : decode cX12_thing 168 = .ok (.ireturn, 1) := by decide +kernel
theorem dX12_valueOf_0 : decode cX12_valueOf 0 = .ok (.iload_n 1, 1) := by decide +kernel
theorem dX12_valueOf_1 : decode cX12_valueOf 1 = .ok (.tableswitch 177 99 120 #[118, 177, 177, 154, 177, 103, 177, 177, 172, 177, 177, 177, 177, 140, 177, 177, 108, 177, 177, 177, 177, 147], 103) := by decide +kernel
theorem dX12_valueOf_104 : decode cX12_valueOf 104 = .ok (.aload_n 0, 1) := by decide +kernel
theorem dX12_valueOf_105 : decode cX12_valueOf 105 = .ok (.getfield 220, 3) := by decide +kernel
theorem dX12_valueOf_108 : decode cX12_valueOf 108 = .ok (.ireturn, 1) := by decide +kernel
theorem dX12_valueOf_109 : decode cX12_valueOf 109 = .ok (.aload_n 0, 1) := by decide +kernel
theorem dX12_valueOf_110 : decode cX12_valueOf 110 = .ok (.getfield 29, 3) := by decide +kernel
theorem dX12_valueOf_113 : decode cX12_valueOf 113 = .ok (.aload_n 0, 1) := by decide +kernel
theorem dX12_valueOf_114 : decode cX12_valueOf 114 = .ok (.getfield 223, 3) := by decide +kernel
theorem dX12_valueOf_117 : decode cX12_valueOf 117 = .ok (.iaload, 1) := by decide +kernel
theorem dX12_valueOf_118 : decode cX12_valueOf 118 = .ok (.ireturn, 1) := by decide +kernel
theorem dX12_valueOf_119 : decode cX12_valueOf 119 = .ok (.aload_n 0, 1) := by decide +kernel
theorem dX12_valueOf_120 : decode cX12_valueOf 120 = .ok (.getfield 32, 3) := by decide +kernel
theorem dX12_valueOf_123 : decode cX12_valueOf 123 = .ok (.iconst 4, 1) := by decide +kernel
theorem dX12_valueOf_124 : decode cX12_valueOf 124 = .ok (.aload_n 0, 1) := by decide +kernel
theorem dX12_valueOf_125 : decode cX12_valueOf 125 = .ok (.getfield 223, 3) := by decide +kernel
theorem dX12_valueOf_128 : decode cX12_valueOf 128 = .ok (.imul, 1) := by decide +kernel
theorem dX12_valueOf_129 : decode cX12_valueOf 129 = .ok (.aload_n 0, 1) := by decide +kernel
theorem dX12_valueOf_130 : decode cX12_valueOf 130 = .ok (.getfield 13, 3) := by decide +kernel
theorem dX12_valueOf_133 : decode cX12_valueOf 133 = .ok (.aload_n 0, 1) := by decide +kernel
theorem dX12_valueOf_134 : decode cX12_valueOf 134 = .ok (.getfield 226, 3) := by decide +kernel
theorem dX12_valueOf_137 : decode cX12_valueOf 137 = .ok (.iaload, 1) := by decide +kernel
theorem dX12_valueOf_138 : decode cX12_valueOf 138 = .ok (.iadd, 1) := by decide +kernel
theorem dX12_valueOf_139 : decode cX12_valueOf 139 = .ok (.iaload, 1) := by decide +kernel
theorem dX12_valueOf_140 : decode cX12_valueOf 140 = .ok (.ireturn, 1) := by decide +kernel
theorem dX12_valueOf_141 : decode cX12_valueOf 141 = .ok (.aload_n 0, 1) := by decide +kernel
theorem dX12_valueOf_142 : decode cX12_valueOf 142 = .ok (.getfield 229, 3) := by decide +kernel
theorem dX12_valueOf_145 : decode cX12_valueOf 145 = .ok (.iconst 4, 1) := by decide +kernel
theorem dX12_valueOf_146 : decode cX12_valueOf 146 = .ok (.irem, 1) := by decide +kernel
theorem dX12_valueOf_147 : decode cX12_valueOf 147 = .ok (.ireturn, 1) := by decide +kernel
theorem dX12_valueOf_148 : decode cX12_valueOf 148 = .ok (.aload_n 0, 1) := by decide +kernel
theorem dX12_valueOf_149 : decode cX12_valueOf 149 = .ok (.getfield 229, 3) := by decide +kernel
theorem dX12_valueOf_152 : decode cX12_valueOf 152 = .ok (.iconst 4, 1) := by decide +kernel
theorem dX12_valueOf_153 : decode cX12_valueOf 153 = .ok (.idiv, 1) := by decide +kernel
theorem dX12_valueOf_154 : decode cX12_valueOf 154 = .ok (.ireturn, 1) := by decide +kernel
theorem dX12_valueOf_155 : decode cX12_valueOf 155 = .ok (.aload_n 0, 1) := by decide +kernel
theorem dX12_valueOf_156 : decode cX12_valueOf 156 = .ok (.aload_n 0, 1) := by decide +kernel
theorem dX12_valueOf_157 : decode cX12_valueOf 157 = .ok (.getfield 223, 3) := by decide +kernel
theorem dX12_valueOf_160 : decode cX12_valueOf 160 = .ok (.aload_n 0, 1) := by decide +kernel
theorem dX12_valueOf_161 : decode cX12_valueOf 161 = .ok (.getfield 19, 3) := by decide +kernel
theorem dX12_valueOf_164 : decode cX12_valueOf 164 = .ok (.aload_n 0, 1) := by decide +kernel
theorem dX12_valueOf_165 : decode cX12_valueOf 165 = .ok (.getfield 226, 3) := by decide +kernel
theorem dX12_valueOf_168 : decode cX12_valueOf 168 = .ok (.iaload, 1) := by decide +kernel
theorem dX12_valueOf_169 : decode cX12_valueOf 169 = .ok (.invokevirtual 232, 3) := by decide +kernel
theorem dX12_valueOf_172 : decode cX12_valueOf 172 = .ok (.ireturn, 1) := by decide +kernel
theorem dX12_valueOf_173 : decode cX12_valueOf 173 = .ok (.aload_n 0, 1) := by decide +kernel
theorem dX12_valueOf_174 : decode cX12_valueOf 174 = .ok (.getfield 226, 3) := by decide +kernel
theorem dX12_valueOf_177 : decode cX12_valueOf 177 = .ok (.ireturn, 1) := by decide +kernel
theorem dX12_valueOf_178 : decode cX12_valueOf 178 = .ok (.aload_n 0, 1) := by decide +kernel
theorem dX12_valueOf_179 : decode cX12_valueOf 179 = .ok (.getfield 19, 3) := by decide +kernel
theorem dX12_valueOf_182 : decode cX12_valueOf 182 = .ok (.aload_n 0, 1) := by decide +kernel
theorem dX12_valueOf_183 : decode cX12_valueOf 183 = .ok (.getfield 226, 3) := by decide +kernel
theorem dX12_valueOf_186 : decode cX12_valueOf 186 = .ok (.iaload, 1) := by decide +kernel
theorem dX12_valueOf_187 : decode cX12_valueOf 187 = .ok (.ireturn, 1) := by decide +kernel
theorem dX12_rule_0 : decode cX12_rule 0 = .ok (.aload_n 0, 1) := by decide +kernel
theorem dX12_rule_1 : decode cX12_rule 1 = .ok (.iconst 0, 1) := by decide +kernel
theorem dX12_rule_2 : decode cX12_rule 2 = .ok (.putfield 113, 3) := by decide +kernel
theorem dX12_rule_5 : decode cX12_rule 5 = .ok (.aload_n 0, 1) := by decide +kernel
theorem dX12_rule_6 : decode cX12_rule 6 = .ok (.getfield 139, 3) := by decide +kernel
theorem dX12_rule_9 : decode cX12_rule 9 = .ok (.istore_n 1, 1) := by decide +kernel
theorem dX12_rule_10 : decode cX12_rule 10 = .ok (.aload_n 0, 1) := by decide +kernel
theorem dX12_rule_11 : decode cX12_rule 11 = .ok (.aload_n 0, 1) := by decide +kernel
theorem dX12_rule_12 : decode cX12_rule 12 = .ok (.getfield 41, 3) := by decide +kernel
theorem dX12_rule_15 : decode cX12_rule 15 = .ok (.iload_n 1, 1) := by decide +kernel
theorem dX12_rule_16 : decode cX12_rule 16 = .ok (.bipush 40, 2) := by decide +kernel
theorem dX12_rule_18 : decode cX12_rule 18 = .ok (.invokevirtual 185, 3) := by decide +kernel
theorem dX12_rule_21 : decode cX12_rule 21 = .ok (.aload_n 0, 1) := by decide +kernel
theorem dX12_rule_22 : decode cX12_rule 22 = .ok (.iconst 0, 1) := by decide +kernel
theorem dX12_rule_23 : decode cX12_rule 23 = .ok (.putfield 139, 3) := by decide +kernel
theorem dX12_rule_26 : decode cX12_rule 26 = .ok (.aload_n 0, 1) := by decide +kernel
theorem dX12_rule_27 : decode cX12_rule 27 = .ok (.iconst 0, 1) := by decide +kernel
theorem dX12_rule_28 : decode cX12_rule 28 = .ok (.putfield 213, 3) := by decide +kernel
theorem dX12_rule_31 : decode cX12_rule 31 = .ok (.iload_n 1, 1) := by decide +kernel
theorem dX12_rule_32 : decode cX12_rule 32 = .ok (.ifCond .le 39, 3) := by decide +kernel
theorem dX12_rule_35 : decode cX12_rule 35 = .ok (.aload_n 0, 1) := by decide +kernel
theorem dX12_rule_36 : decode cX12_rule 36 = .ok (.iconst 0, 1) := by decide +kernel
theorem dX12_rule_37 : decode cX12_rule 37 = .ok (.invokevirtual 210, 3) := by decide +kernel
theorem dX12_rule_40 : decode cX12_rule 40 = .ok (.pop, 1) := by decide +kernel
theorem dX12_rule_41 : decode cX12_rule 41 = .ok (.aload_n 0, 1) := by decide +kernel
theorem dX12_rule_42 : decode cX12_rule 42 = .ok (.getfield 151, 3) := by decide +kernel
theorem dX12_rule_45 : decode cX12_rule 45 = .ok (.iload_n 1, 1) := by decide +kernel
theorem dX12_rule_46 : decode cX12_rule 46 = .ok (.if_icmp .ge 11, 3) := by decide +kernel
theorem dX12_rule_49 : decode cX12_rule 49 = .ok (.aload_n 0, 1) := by decide +kernel
theorem dX12_rule_50 : decode cX12_rule 50 = .ok (.aload_n 0, 1) := by decide +kernel
theorem dX12_rule_51 : decode cX12_rule 51 = .ok (.getfield 151, 3) := by decide +kernel
theorem dX12_rule_54 : decode cX12_rule 54 = .ok (.invokevirtual 169, 3) := by decide +kernel
theorem dX12_rule_57 : decode cX12_rule 57 = .ok (.aload_n 0, 1) := by decide +kernel
theorem dX12_rule_58 : decode cX12_rule 58 = .ok (.invokevirtual 157, 3) := by decide +kernel
theorem dX12_rule_61 : decode cX12_rule 61 = .ok (.ifCond .ne 10, 3) := by decide +kernel
theorem dX12_rule_64 : decode cX12_rule 64 = .ok (.iconst (-1), 1) := by decide +kernel
theorem dX12_rule_65 : decode cX12_rule 65 = .ok (.aload_n 0, 1) := by decide +kernel
theorem dX12_rule_66 : decode cX12_rule 66 = .ok (.getfield 154, 3) := by decide +kernel
theorem dX12_rule_69 : decode cX12_rule 69 = .ok (.isub, 1) := by decide +kernel
theorem dX12_rule_70 : decode cX12_rule 70 = .ok (.ireturn, 1) := by decide +kernel
theorem dX12_rule_71 : decode cX12_rule 71 = .ok (.iconst 0, 1) := by decide +kernel
theorem dX12_rule_72 : decode cX12_rule 72 = .ok (.istore_n 2, 1) := by decide +kernel
theorem dX12_rule_73 : decode cX12_rule 73 = .ok (.iload_n 2, 1) := by decide +kernel
theorem dX12_rule_74 : decode cX12_rule 74 = .ok (.iload_n 1, 1) := by decide +kernel
theorem dX12_rule_75 : decode cX12_rule 75 = .ok (.if_icmp .ge 21, 3) := by decide +kernel
theorem dX12_rule_78 : decode cX12_rule 78 = .ok (.aload_n 0, 1) := by decide +kernel
theorem dX12_rule_79 : decode cX12_rule 79 = .ok (.getfield 58, 3) := by decide +kernel
theorem dX12_rule_82 : decode cX12_rule 82 = .ok (.iload_n 2, 1) := by decide +kernel
theorem dX12_rule_83 : decode cX12_rule 83 = .ok (.aload_n 0, 1) := by decide +kernel
theorem dX12_rule_84 : decode cX12_rule 84 = .ok (.getfield 41, 3) := by decide +kernel
theorem dX12_rule_87 : decode cX12_rule 87 = .ok (.iload_n 2, 1) := by decide +kernel
theorem dX12_rule_88 : decode cX12_rule 88 = .ok (.baload, 1) := by decide +kernel
theorem dX12_rule_89 : decode cX12_rule 89 = .ok (.bastore, 1) := by decide +kernel
theorem dX12_rule_90 : decode cX12_rule 90 = .ok (.iinc 2 1, 3) := by decide +kernel
theorem dX12_rule_93 : decode cX12_rule 93 = .ok (.goto (-20), 3) := by decide +kernel
theorem dX12_rule_96 : decode cX12_rule 96 = .ok (.aload_n 0, 1) := by decide +kernel
theorem dX12_rule_97 : decode cX12_rule 97 = .ok (.iload_n 1, 1) := by decide +kernel
theorem dX12_rule_98 : decode cX12_rule 98 = .ok (.putfield 235, 3) := by decide +kernel
theorem dX12_rule_101 : decode cX12_rule 101 = .ok (.iconst 0, 1) := by decide +kernel
theorem dX12_rule_102 : decode cX12_rule 102 = .ok (.ireturn, 1) := by decide +kernel
theorem dX12_leanOf_0 : decode cX12_leanOf 0 = .ok (.iload_n 2, 1) := by decide +kernel
theorem dX12_leanOf_1 : decode cX12_leanOf 1 = .ok (.aload_n 0, 1) := by decide +kernel
theorem dX12_leanOf_2 : decode cX12_leanOf 2 = .ok (.getfield 26, 3) := by decide +kernel
theorem dX12_leanOf_5 : decode cX12_leanOf 5 = .ok (.iload_n 1, 1) := by decide +kernel
theorem dX12_leanOf_6 : decode cX12_leanOf 6 = .ok (.iaload, 1) := by decide +kernel
theorem dX12_leanOf_7 : decode cX12_leanOf 7 = .ok (.irem, 1) := by decide +kernel
theorem dX12_leanOf_8 : decode cX12_leanOf 8 = .ok (.istore_n 3, 1) := by decide +kernel
theorem dX12_leanOf_9 : decode cX12_leanOf 9 = .ok (.iload_n 3, 1) := by decide +kernel
theorem dX12_leanOf_10 : decode cX12_leanOf 10 = .ok (.aload_n 0, 1) := by decide +kernel
theorem dX12_leanOf_11 : decode cX12_leanOf 11 = .ok (.getfield 26, 3) := by decide +kernel
theorem dX12_leanOf_14 : decode cX12_leanOf 14 = .ok (.iload_n 1, 1) := by decide +kernel
theorem dX12_leanOf_15 : decode cX12_leanOf 15 = .ok (.iaload, 1) := by decide +kernel
theorem dX12_leanOf_16 : decode cX12_leanOf 16 = .ok (.iload_n 3, 1) := by decide +kernel
theorem dX12_leanOf_17 : decode cX12_leanOf 17 = .ok (.isub, 1) := by decide +kernel
theorem dX12_leanOf_18 : decode cX12_leanOf 18 = .ok (.invokestatic 238, 3) := by decide +kernel
theorem dX12_leanOf_21 : decode cX12_leanOf 21 = .ok (.ireturn, 1) := by decide +kernel
theorem dX12_tenthsOf_0 : decode cX12_tenthsOf 0 = .ok (.aload_n 0, 1) := by decide +kernel
theorem dX12_tenthsOf_1 : decode cX12_tenthsOf 1 = .ok (.getfield 19, 3) := by decide +kernel
theorem dX12_tenthsOf_4 : decode cX12_tenthsOf 4 = .ok (.iload_n 1, 1) := by decide +kernel
theorem dX12_tenthsOf_5 : decode cX12_tenthsOf 5 = .ok (.iaload, 1) := by decide +kernel
theorem dX12_tenthsOf_6 : decode cX12_tenthsOf 6 = .ok (.bipush 6, 2) := by decide +kernel
theorem dX12_tenthsOf_8 : decode cX12_tenthsOf 8 = .ok (.iload_n 2, 1) := by decide +kernel
theorem dX12_tenthsOf_9 : decode cX12_tenthsOf 9 = .ok (.iconst 4, 1) := by decide +kernel
theorem dX12_tenthsOf_10 : decode cX12_tenthsOf 10 = .ok (.irem, 1) := by decide +kernel
theorem dX12_tenthsOf_11 : decode cX12_tenthsOf 11 = .ok (.isub, 1) := by decide +kernel
theorem dX12_tenthsOf_12 : decode cX12_tenthsOf 12 = .ok (.imul, 1) := by decide +kernel
theorem dX12_tenthsOf_13 : decode cX12_tenthsOf 13 = .ok (.iconst 4, 1) := by decide +kernel
theorem dX12_tenthsOf_14 : decode cX12_tenthsOf 14 = .ok (.idiv, 1) := by decide +kernel
theorem dX12_tenthsOf_15 : decode cX12_tenthsOf 15 = .ok (.iload_n 2, 1) := by decide +kernel
theorem dX12_tenthsOf_16 : decode cX12_tenthsOf 16 = .ok (.iconst 4, 1) := by decide +kernel
theorem dX12_tenthsOf_17 : decode cX12_tenthsOf 17 = .ok (.if_icmp .lt 14, 3) := by decide +kernel
theorem dX12_tenthsOf_20 : decode cX12_tenthsOf 20 = .ok (.aload_n 0, 1) := by decide +kernel
theorem dX12_tenthsOf_21 : decode cX12_tenthsOf 21 = .ok (.getfield 19, 3) := by decide +kernel
theorem dX12_tenthsOf_24 : decode cX12_tenthsOf 24 = .ok (.iload_n 1, 1) := by decide +kernel
theorem dX12_tenthsOf_25 : decode cX12_tenthsOf 25 = .ok (.iaload, 1) := by decide +kernel
theorem dX12_tenthsOf_26 : decode cX12_tenthsOf 26 = .ok (.iconst 4, 1) := by decide +kernel
theorem dX12_tenthsOf_27 : decode cX12_tenthsOf 27 = .ok (.idiv, 1) := by decide +kernel
theorem dX12_tenthsOf_28 : decode cX12_tenthsOf 28 = .ok (.goto 4, 3) := by decide +kernel
theorem dX12_tenthsOf_31 : decode cX12_tenthsOf 31 = .ok (.iconst 0, 1) := by decide +kernel
theorem dX12_tenthsOf_32 : decode cX12_tenthsOf 32 = .ok (.isub, 1) := by decide +kernel
theorem dX12_tenthsOf_33 : decode cX12_tenthsOf 33 = .ok (.aload_n 0, 1) := by decide +kernel
theorem dX12_tenthsOf_34 : decode cX12_tenthsOf 34 = .ok (.getfield 13, 3) := by decide +kernel
theorem dX12_tenthsOf_37 : decode cX12_tenthsOf 37 = .ok (.iload_n 1, 1) := by decide +kernel
theorem dX12_tenthsOf_38 : decode cX12_tenthsOf 38 = .ok (.iaload, 1) := by decide +kernel
theorem dX12_tenthsOf_39 : decode cX12_tenthsOf 39 = .ok (.iconst 2, 1) := by decide +kernel
theorem dX12_tenthsOf_40 : decode cX12_tenthsOf 40 = .ok (.if_icmp .ne 7, 3) := by decide +kernel
theorem dX12_tenthsOf_43 : decode cX12_tenthsOf 43 = .ok (.iconst 2, 1) := by decide +kernel
theorem dX12_tenthsOf_44 : decode cX12_tenthsOf 44 = .ok (.goto 4, 3) := by decide +kernel
theorem dX12_tenthsOf_47 : decode cX12_tenthsOf 47 = .ok (.iconst 0, 1) := by decide +kernel
theorem dX12_tenthsOf_48 : decode cX12_tenthsOf 48 = .ok (.iadd, 1) := by decide +kernel
theorem dX12_tenthsOf_49 : decode cX12_tenthsOf 49 = .ok (.istore_n 3, 1) := by decide +kernel
theorem dX12_tenthsOf_50 : decode cX12_tenthsOf 50 = .ok (.iconst 1, 1) := by decide +kernel
theorem dX12_tenthsOf_51 : decode cX12_tenthsOf 51 = .ok (.iload_n 3, 1) := by decide +kernel
theorem dX12_tenthsOf_52 : decode cX12_tenthsOf 52 = .ok (.invokestatic 243, 3) := by decide +kernel
theorem dX12_tenthsOf_55 : decode cX12_tenthsOf 55 = .ok (.ireturn, 1) := by decide +kernel
theorem dX12_oddsOf_0 : decode cX12_oddsOf 0 = .ok (.aload_n 0, 1) := by decide +kernel
theorem dX12_oddsOf_1 : decode cX12_oddsOf 1 = .ok (.getfield 235, 3) := by decide +kernel
theorem dX12_oddsOf_4 : decode cX12_oddsOf 4 = .ok (.ifCond .ne 70, 3) := by decide +kernel
theorem dX12_oddsOf_7 : decode cX12_oddsOf 7 = .ok (.iload_n 3, 1) := by decide +kernel
theorem dX12_oddsOf_8 : decode cX12_oddsOf 8 = .ok (.iconst 4, 1) := by decide +kernel
theorem dX12_oddsOf_9 : decode cX12_oddsOf 9 = .ok (.irem, 1) := by decide +kernel
theorem dX12_oddsOf_10 : decode cX12_oddsOf 10 = .ok (.istore 6, 2) := by decide +kernel
theorem dX12_oddsOf_12 : decode cX12_oddsOf 12 = .ok (.iload 4, 2) := by decide +kernel
theorem dX12_oddsOf_14 : decode cX12_oddsOf 14 = .ok (.iconst 3, 1) := by decide +kernel
theorem dX12_oddsOf_15 : decode cX12_oddsOf 15 = .ok (.imul, 1) := by decide +kernel
theorem dX12_oddsOf_16 : decode cX12_oddsOf 16 = .ok (.aload_n 0, 1) := by decide +kernel
theorem dX12_oddsOf_17 : decode cX12_oddsOf 17 = .ok (.getfield 29, 3) := by decide +kernel
theorem dX12_oddsOf_20 : decode cX12_oddsOf 20 = .ok (.iload_n 1, 1) := by decide +kernel
theorem dX12_oddsOf_21 : decode cX12_oddsOf 21 = .ok (.iaload, 1) := by decide +kernel
theorem dX12_oddsOf_22 : decode cX12_oddsOf 22 = .ok (.iconst 2, 1) := by decide +kernel
theorem dX12_oddsOf_23 : decode cX12_oddsOf 23 = .ok (.imul, 1) := by decide +kernel
theorem dX12_oddsOf_24 : decode cX12_oddsOf 24 = .ok (.isub, 1) := by decide +kernel
theorem dX12_oddsOf_25 : decode cX12_oddsOf 25 = .ok (.aload_n 0, 1) := by decide +kernel
theorem dX12_oddsOf_26 : decode cX12_oddsOf 26 = .ok (.getfield 32, 3) := by decide +kernel
theorem dX12_oddsOf_29 : decode cX12_oddsOf 29 = .ok (.iconst 4, 1) := by decide +kernel
theorem dX12_oddsOf_30 : decode cX12_oddsOf 30 = .ok (.iload_n 1, 1) := by decide +kernel
theorem dX12_oddsOf_31 : decode cX12_oddsOf 31 = .ok (.imul, 1) := by decide +kernel
theorem dX12_oddsOf_32 : decode cX12_oddsOf 32 = .ok (.aload_n 0, 1) := by decide +kernel
theorem dX12_oddsOf_33 : decode cX12_oddsOf 33 = .ok (.getfield 13, 3) := by decide +kernel
theorem dX12_oddsOf_36 : decode cX12_oddsOf 36 = .ok (.iload_n 2, 1) := by decide +kernel
theorem dX12_oddsOf_37 : decode cX12_oddsOf 37 = .ok (.iaload, 1) := by decide +kernel
theorem dX12_oddsOf_38 : decode cX12_oddsOf 38 = .ok (.iadd, 1) := by decide +kernel
theorem dX12_oddsOf_39 : decode cX12_oddsOf 39 = .ok (.iaload, 1) := by decide +kernel
theorem dX12_oddsOf_40 : decode cX12_oddsOf 40 = .ok (.isub, 1) := by decide +kernel
theorem dX12_oddsOf_41 : decode cX12_oddsOf 41 = .ok (.iload 6, 2) := by decide +kernel
theorem dX12_oddsOf_43 : decode cX12_oddsOf 43 = .ok (.iload 6, 2) := by decide +kernel
theorem dX12_oddsOf_45 : decode cX12_oddsOf 45 = .ok (.imul, 1) := by decide +kernel
theorem dX12_oddsOf_46 : decode cX12_oddsOf 46 = .ok (.iadd, 1) := by decide +kernel
theorem dX12_oddsOf_47 : decode cX12_oddsOf 47 = .ok (.iload_n 3, 1) := by decide +kernel
theorem dX12_oddsOf_48 : decode cX12_oddsOf 48 = .ok (.iconst 4, 1) := by decide +kernel
theorem dX12_oddsOf_49 : decode cX12_oddsOf 49 = .ok (.idiv, 1) := by decide +kernel
theorem dX12_oddsOf_50 : decode cX12_oddsOf 50 = .ok (.iconst 4, 1) := by decide +kernel
theorem dX12_oddsOf_51 : decode cX12_oddsOf 51 = .ok (.imul, 1) := by decide +kernel
theorem dX12_oddsOf_52 : decode cX12_oddsOf 52 = .ok (.iadd, 1) := by decide +kernel
theorem dX12_oddsOf_53 : decode cX12_oddsOf 53 = .ok (.aload_n 0, 1) := by decide +kernel
theorem dX12_oddsOf_54 : decode cX12_oddsOf 54 = .ok (.iload_n 1, 1) := by decide +kernel
theorem dX12_oddsOf_55 : decode cX12_oddsOf 55 = .ok (.aload_n 0, 1) := by decide +kernel
theorem dX12_oddsOf_56 : decode cX12_oddsOf 56 = .ok (.getfield 19, 3) := by decide +kernel
theorem dX12_oddsOf_59 : decode cX12_oddsOf 59 = .ok (.iload_n 2, 1) := by decide +kernel
theorem dX12_oddsOf_60 : decode cX12_oddsOf 60 = .ok (.iaload, 1) := by decide +kernel
theorem dX12_oddsOf_61 : decode cX12_oddsOf 61 = .ok (.invokevirtual 232, 3) := by decide +kernel
theorem dX12_oddsOf_64 : decode cX12_oddsOf 64 = .ok (.iconst 2, 1) := by decide +kernel
