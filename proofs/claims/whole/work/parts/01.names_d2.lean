theorem dK_run_25 : decode cK_run 25 = .ok (.iconst (-1), 1) := by decide +kernel
theorem dK_run_26 : decode cK_run 26 = .ok (.ireturn, 1) := by decide +kernel
theorem dK_run_27 : decode cK_run 27 = .ok (.aload_n 0, 1) := by decide +kernel
theorem dK_run_28 : decode cK_run 28 = .ok (.getfield 106, 3) := by decide +kernel
theorem dK_run_31 : decode cK_run 31 = .ok (.iload_n 2, 1) := by decide +kernel
theorem dK_run_32 : decode cK_run 32 = .ok (.invokevirtual 114, 3) := by decide +kernel
theorem dK_run_35 : decode cK_run 35 = .ok (.aload_n 0, 1) := by decide +kernel
theorem dK_run_36 : decode cK_run 36 = .ok (.getfield 106, 3) := by decide +kernel
theorem dK_run_39 : decode cK_run 39 = .ok (.iload_n 1, 1) := by decide +kernel
theorem dK_run_40 : decode cK_run 40 = .ok (.aload_n 0, 1) := by decide +kernel
theorem dK_run_41 : decode cK_run 41 = .ok (.getfield 93, 3) := by decide +kernel
theorem dK_run_44 : decode cK_run 44 = .ok (.invokevirtual 119, 3) := by decide +kernel
theorem dK_run_47 : decode cK_run 47 = .ok (.istore_n 3, 1) := by decide +kernel
theorem dK_run_48 : decode cK_run 48 = .ok (.aload_n 0, 1) := by decide +kernel
theorem dK_run_49 : decode cK_run 49 = .ok (.aload_n 0, 1) := by decide +kernel
theorem dK_run_50 : decode cK_run 50 = .ok (.getfield 106, 3) := by decide +kernel
theorem dK_run_53 : decode cK_run 53 = .ok (.getfield 123, 3) := by decide +kernel
theorem dK_run_56 : decode cK_run 56 = .ok (.putfield 126, 3) := by decide +kernel
theorem dK_run_59 : decode cK_run 59 = .ok (.iload_n 3, 1) := by decide +kernel
theorem dK_run_60 : decode cK_run 60 = .ok (.ireturn, 1) := by decide +kernel
theorem dR_receiveAnswer_0 : decode cR_receiveAnswer 0 = .ok (.aload_n 0, 1) := by decide +kernel
theorem dR_receiveAnswer_1 : decode cR_receiveAnswer 1 = .ok (.getfield 15, 3) := by decide +kernel
theorem dR_receiveAnswer_4 : decode cR_receiveAnswer 4 = .ok (.iconst (-1), 1) := by decide +kernel
theorem dR_receiveAnswer_5 : decode cR_receiveAnswer 5 = .ok (.if_icmp .eq 18, 3) := by decide +kernel
theorem dR_receiveAnswer_8 : decode cR_receiveAnswer 8 = .ok (.aload_n 0, 1) := by decide +kernel
theorem dR_receiveAnswer_9 : decode cR_receiveAnswer 9 = .ok (.getfield 9, 3) := by decide +kernel
theorem dR_receiveAnswer_12 : decode cR_receiveAnswer 12 = .ok (.aload_n 0, 1) := by decide +kernel
theorem dR_receiveAnswer_13 : decode cR_receiveAnswer 13 = .ok (.getfield 15, 3) := by decide +kernel
theorem dR_receiveAnswer_16 : decode cR_receiveAnswer 16 = .ok (.iload_n 1, 1) := by decide +kernel
theorem dR_receiveAnswer_17 : decode cR_receiveAnswer 17 = .ok (.iastore, 1) := by decide +kernel
theorem dR_receiveAnswer_18 : decode cR_receiveAnswer 18 = .ok (.aload_n 0, 1) := by decide +kernel
theorem dR_receiveAnswer_19 : decode cR_receiveAnswer 19 = .ok (.iconst (-1), 1) := by decide +kernel
theorem dR_receiveAnswer_20 : decode cR_receiveAnswer 20 = .ok (.putfield 15, 3) := by decide +kernel
theorem dR_receiveAnswer_23 : decode cR_receiveAnswer 23 = .ok (.return_, 1) := by decide +kernel
theorem dR_makeSteps_0 : decode cR_makeSteps 0 = .ok (.aload_n 0, 1) := by decide +kernel
theorem dR_makeSteps_1 : decode cR_makeSteps 1 = .ok (.iconst 0, 1) := by decide +kernel
theorem dR_makeSteps_2 : decode cR_makeSteps 2 = .ok (.putfield 19, 3) := by decide +kernel
theorem dR_makeSteps_5 : decode cR_makeSteps 5 = .ok (.iconst 0, 1) := by decide +kernel
theorem dR_makeSteps_6 : decode cR_makeSteps 6 = .ok (.istore_n 3, 1) := by decide +kernel
theorem dR_makeSteps_7 : decode cR_makeSteps 7 = .ok (.iload_n 3, 1) := by decide +kernel
theorem dR_makeSteps_8 : decode cR_makeSteps 8 = .ok (.iload_n 1, 1) := by decide +kernel
theorem dR_makeSteps_9 : decode cR_makeSteps 9 = .ok (.if_icmp .ge 24, 3) := by decide +kernel
theorem dR_makeSteps_12 : decode cR_makeSteps 12 = .ok (.aload_n 0, 1) := by decide +kernel
theorem dR_makeSteps_13 : decode cR_makeSteps 13 = .ok (.aload_n 2, 1) := by decide +kernel
theorem dR_makeSteps_14 : decode cR_makeSteps 14 = .ok (.invokevirtual 22, 3) := by decide +kernel
theorem dR_makeSteps_17 : decode cR_makeSteps 17 = .ok (.istore 4, 2) := by decide +kernel
theorem dR_makeSteps_19 : decode cR_makeSteps 19 = .ok (.iload 4, 2) := by decide +kernel
theorem dR_makeSteps_21 : decode cR_makeSteps 21 = .ok (.ifCond .eq 6, 3) := by decide +kernel
theorem dR_makeSteps_24 : decode cR_makeSteps 24 = .ok (.iload 4, 2) := by decide +kernel
theorem dR_makeSteps_26 : decode cR_makeSteps 26 = .ok (.ireturn, 1) := by decide +kernel
theorem dR_makeSteps_27 : decode cR_makeSteps 27 = .ok (.iinc 3 1, 3) := by decide +kernel
theorem dR_makeSteps_30 : decode cR_makeSteps 30 = .ok (.goto (-23), 3) := by decide +kernel
theorem dR_makeSteps_33 : decode cR_makeSteps 33 = .ok (.iconst 0, 1) := by decide +kernel
theorem dR_makeSteps_34 : decode cR_makeSteps 34 = .ok (.ireturn, 1) := by decide +kernel
theorem dR_makeStep_0 : decode cR_makeStep 0 = .ok (.aload_n 1, 1) := by decide +kernel
theorem dR_makeStep_1 : decode cR_makeStep 1 = .ok (.aload_n 0, 1) := by decide +kernel
theorem dR_makeStep_2 : decode cR_makeStep 2 = .ok (.getfield 26, 3) := by decide +kernel
theorem dR_makeStep_5 : decode cR_makeStep 5 = .ok (.invokevirtual 29, 3) := by decide +kernel
theorem dR_makeStep_8 : decode cR_makeStep 8 = .ok (.astore_n 2, 1) := by decide +kernel
theorem dR_makeStep_9 : decode cR_makeStep 9 = .ok (.aload_n 2, 1) := by decide +kernel
theorem dR_makeStep_10 : decode cR_makeStep 10 = .ok (.ifnonnull 12, 3) := by decide +kernel
theorem dR_makeStep_13 : decode cR_makeStep 13 = .ok (.aload_n 0, 1) := by decide +kernel
theorem dR_makeStep_14 : decode cR_makeStep 14 = .ok (.aload_n 0, 1) := by decide +kernel
theorem dR_makeStep_15 : decode cR_makeStep 15 = .ok (.getfield 26, 3) := by decide +kernel
theorem dR_makeStep_18 : decode cR_makeStep 18 = .ok (.invokevirtual 35, 3) := by decide +kernel
theorem dR_makeStep_21 : decode cR_makeStep 21 = .ok (.ireturn, 1) := by decide +kernel
theorem dR_makeStep_22 : decode cR_makeStep 22 = .ok (.aload_n 0, 1) := by decide +kernel
theorem dR_makeStep_23 : decode cR_makeStep 23 = .ok (.aload_n 2, 1) := by decide +kernel
theorem dR_makeStep_24 : decode cR_makeStep 24 = .ok (.getfield 39, 3) := by decide +kernel
theorem dR_makeStep_27 : decode cR_makeStep 27 = .ok (.aload_n 0, 1) := by decide +kernel
theorem dR_makeStep_28 : decode cR_makeStep 28 = .ok (.getfield 26, 3) := by decide +kernel
theorem dR_makeStep_31 : decode cR_makeStep 31 = .ok (.iconst 4, 1) := by decide +kernel
theorem dR_makeStep_32 : decode cR_makeStep 32 = .ok (.irem, 1) := by decide +kernel
theorem dR_makeStep_33 : decode cR_makeStep 33 = .ok (.iaload, 1) := by decide +kernel
theorem dR_makeStep_34 : decode cR_makeStep 34 = .ok (.aload_n 1, 1) := by decide +kernel
theorem dR_makeStep_35 : decode cR_makeStep 35 = .ok (.invokevirtual 44, 3) := by decide +kernel
theorem dR_makeStep_38 : decode cR_makeStep 38 = .ok (.ireturn, 1) := by decide +kernel
theorem dG_pageAtAddress_0 : decode cG_pageAtAddress 0 = .ok (.aload_n 0, 1) := by decide +kernel
theorem dG_pageAtAddress_1 : decode cG_pageAtAddress 1 = .ok (.getfield 11, 3) := by decide +kernel
theorem dG_pageAtAddress_4 : decode cG_pageAtAddress 4 = .ok (.iload_n 1, 1) := by decide +kernel
theorem dG_pageAtAddress_5 : decode cG_pageAtAddress 5 = .ok (.iconst 4, 1) := by decide +kernel
theorem dG_pageAtAddress_6 : decode cG_pageAtAddress 6 = .ok (.idiv, 1) := by decide +kernel
theorem dG_pageAtAddress_7 : decode cG_pageAtAddress 7 = .ok (.aaload, 1) := by decide +kernel
theorem dG_pageAtAddress_8 : decode cG_pageAtAddress 8 = .ok (.areturn, 1) := by decide +kernel
theorem dR_faultAt_0 : decode cR_faultAt 0 = .ok (.aload_n 0, 1) := by decide +kernel
theorem dR_faultAt_1 : decode cR_faultAt 1 = .ok (.iload_n 1, 1) := by decide +kernel
theorem dR_faultAt_2 : decode cR_faultAt 2 = .ok (.putfield 19, 3) := by decide +kernel
theorem dR_faultAt_5 : decode cR_faultAt 5 = .ok (.iconst 1, 1) := by decide +kernel
theorem dR_faultAt_6 : decode cR_faultAt 6 = .ok (.ireturn, 1) := by decide +kernel
theorem dR_perform_0 : decode cR_perform 0 = .ok (.iload_n 1, 1) := by decide +kernel
theorem dR_perform_1 : decode cR_perform 1 = .ok (.bipush 15, 2) := by decide +kernel
theorem dR_perform_3 : decode cR_perform 3 = .ok (.iand, 1) := by decide +kernel
theorem dR_perform_4 : decode cR_perform 4 = .ok (.istore_n 3, 1) := by decide +kernel
theorem dR_perform_5 : decode cR_perform 5 = .ok (.iload_n 1, 1) := by decide +kernel
theorem dR_perform_6 : decode cR_perform 6 = .ok (.iconst 4, 1) := by decide +kernel
theorem dR_perform_7 : decode cR_perform 7 = .ok (.ishr, 1) := by decide +kernel
theorem dR_perform_8 : decode cR_perform 8 = .ok (.iconst 3, 1) := by decide +kernel
theorem dR_perform_9 : decode cR_perform 9 = .ok (.iand, 1) := by decide +kernel
theorem dR_perform_10 : decode cR_perform 10 = .ok (.istore 4, 2) := by decide +kernel
theorem dR_perform_12 : decode cR_perform 12 = .ok (.iload_n 1, 1) := by decide +kernel
theorem dR_perform_13 : decode cR_perform 13 = .ok (.bipush 6, 2) := by decide +kernel
theorem dR_perform_15 : decode cR_perform 15 = .ok (.ishr, 1) := by decide +kernel
theorem dR_perform_16 : decode cR_perform 16 = .ok (.iconst 3, 1) := by decide +kernel
theorem dR_perform_17 : decode cR_perform 17 = .ok (.iand, 1) := by decide +kernel
theorem dR_perform_18 : decode cR_perform 18 = .ok (.istore 5, 2) := by decide +kernel
theorem dR_perform_20 : decode cR_perform 20 = .ok (.iload_n 1, 1) := by decide +kernel
theorem dR_perform_21 : decode cR_perform 21 = .ok (.bipush 8, 2) := by decide +kernel
theorem dR_perform_23 : decode cR_perform 23 = .ok (.ishr, 1) := by decide +kernel
theorem dR_perform_24 : decode cR_perform 24 = .ok (.istore 6, 2) := by decide +kernel
theorem dR_perform_26 : decode cR_perform 26 = .ok (.aload_n 0, 1) := by decide +kernel
theorem dR_perform_27 : decode cR_perform 27 = .ok (.getfield 26, 3) := by decide +kernel
theorem dR_perform_30 : decode cR_perform 30 = .ok (.iconst 1, 1) := by decide +kernel
theorem dR_perform_31 : decode cR_perform 31 = .ok (.iadd, 1) := by decide +kernel
theorem dR_perform_32 : decode cR_perform 32 = .ok (.sipush 255, 3) := by decide +kernel
theorem dR_perform_35 : decode cR_perform 35 = .ok (.iand, 1) := by decide +kernel
theorem dR_perform_36 : decode cR_perform 36 = .ok (.istore 7, 2) := by decide +kernel
theorem dR_perform_38 : decode cR_perform 38 = .ok (.iconst 0, 1) := by decide +kernel
theorem dR_perform_39 : decode cR_perform 39 = .ok (.istore 8, 2) := by decide +kernel
theorem dR_perform_41 : decode cR_perform 41 = .ok (.iload_n 3, 1) := by decide +kernel
theorem dR_perform_42 : decode cR_perform 42 = .ok (.tableswitch 250 0 10 #[58, 64, 76, 96, 96, 132, 158, 158, 201, 218, 230], 58) := by decide +kernel
theorem dR_perform_100 : decode cR_perform 100 = .ok (.iconst 4, 1) := by decide +kernel
theorem dR_perform_101 : decode cR_perform 101 = .ok (.istore 8, 2) := by decide +kernel
theorem dR_perform_103 : decode cR_perform 103 = .ok (.goto 192, 3) := by decide +kernel
theorem dR_perform_106 : decode cR_perform 106 = .ok (.aload_n 0, 1) := by decide +kernel
theorem dR_perform_107 : decode cR_perform 107 = .ok (.getfield 9, 3) := by decide +kernel
theorem dR_perform_110 : decode cR_perform 110 = .ok (.iload 4, 2) := by decide +kernel
theorem dR_perform_112 : decode cR_perform 112 = .ok (.iload 6, 2) := by decide +kernel
theorem dR_perform_114 : decode cR_perform 114 = .ok (.iastore, 1) := by decide +kernel
theorem dR_perform_115 : decode cR_perform 115 = .ok (.goto 180, 3) := by decide +kernel
theorem dR_perform_118 : decode cR_perform 118 = .ok (.aload_n 0, 1) := by decide +kernel
theorem dR_perform_119 : decode cR_perform 119 = .ok (.getfield 9, 3) := by decide +kernel
theorem dR_perform_122 : decode cR_perform 122 = .ok (.iload 4, 2) := by decide +kernel
theorem dR_perform_124 : decode cR_perform 124 = .ok (.dup2, 1) := by decide +kernel
theorem dR_perform_125 : decode cR_perform 125 = .ok (.iaload, 1) := by decide +kernel
theorem dR_perform_126 : decode cR_perform 126 = .ok (.aload_n 0, 1) := by decide +kernel
theorem dR_perform_127 : decode cR_perform 127 = .ok (.getfield 9, 3) := by decide +kernel
theorem dR_perform_130 : decode cR_perform 130 = .ok (.iload 5, 2) := by decide +kernel
theorem dR_perform_132 : decode cR_perform 132 = .ok (.iaload, 1) := by decide +kernel
theorem dR_perform_133 : decode cR_perform 133 = .ok (.iadd, 1) := by decide +kernel
theorem dR_perform_134 : decode cR_perform 134 = .ok (.iastore, 1) := by decide +kernel
theorem dR_perform_135 : decode cR_perform 135 = .ok (.goto 160, 3) := by decide +kernel
theorem dR_perform_138 : decode cR_perform 138 = .ok (.aload_n 0, 1) := by decide +kernel
theorem dR_perform_139 : decode cR_perform 139 = .ok (.iload_n 3, 1) := by decide +kernel
theorem dR_perform_140 : decode cR_perform 140 = .ok (.iconst 3, 1) := by decide +kernel
theorem dR_perform_141 : decode cR_perform 141 = .ok (.if_icmp .ne 7, 3) := by decide +kernel
theorem dR_perform_144 : decode cR_perform 144 = .ok (.iconst 1, 1) := by decide +kernel
theorem dR_perform_145 : decode cR_perform 145 = .ok (.goto 4, 3) := by decide +kernel
theorem dR_perform_148 : decode cR_perform 148 = .ok (.iconst 0, 1) := by decide +kernel
theorem dR_perform_149 : decode cR_perform 149 = .ok (.iload 4, 2) := by decide +kernel
theorem dR_perform_151 : decode cR_perform 151 = .ok (.aload_n 0, 1) := by decide +kernel
theorem dR_perform_152 : decode cR_perform 152 = .ok (.getfield 9, 3) := by decide +kernel
theorem dR_perform_155 : decode cR_perform 155 = .ok (.iload 5, 2) := by decide +kernel
theorem dR_perform_157 : decode cR_perform 157 = .ok (.iaload, 1) := by decide +kernel
theorem dR_perform_158 : decode cR_perform 158 = .ok (.iload 6, 2) := by decide +kernel
theorem dR_perform_160 : decode cR_perform 160 = .ok (.iadd, 1) := by decide +kernel
theorem dR_perform_161 : decode cR_perform 161 = .ok (.sipush 255, 3) := by decide +kernel
theorem dR_perform_164 : decode cR_perform 164 = .ok (.iand, 1) := by decide +kernel
theorem dR_perform_165 : decode cR_perform 165 = .ok (.aload_n 2, 1) := by decide +kernel
theorem dR_perform_166 : decode cR_perform 166 = .ok (.invokevirtual 48, 3) := by decide +kernel
theorem dR_perform_169 : decode cR_perform 169 = .ok (.istore 8, 2) := by decide +kernel
theorem dR_perform_171 : decode cR_perform 171 = .ok (.goto 124, 3) := by decide +kernel
theorem dR_perform_174 : decode cR_perform 174 = .ok (.aload_n 0, 1) := by decide +kernel
theorem dR_perform_175 : decode cR_perform 175 = .ok (.getfield 9, 3) := by decide +kernel
theorem dR_perform_178 : decode cR_perform 178 = .ok (.iload 4, 2) := by decide +kernel
theorem dR_perform_180 : decode cR_perform 180 = .ok (.iaload, 1) := by decide +kernel
theorem dR_perform_181 : decode cR_perform 181 = .ok (.ifCond .eq 12, 3) := by decide +kernel
theorem dR_perform_184 : decode cR_perform 184 = .ok (.iload 6, 2) := by decide +kernel
theorem dR_perform_186 : decode cR_perform 186 = .ok (.sipush 255, 3) := by decide +kernel
theorem dR_perform_189 : decode cR_perform 189 = .ok (.iand, 1) := by decide +kernel
theorem dR_perform_190 : decode cR_perform 190 = .ok (.goto 5, 3) := by decide +kernel
theorem dR_perform_193 : decode cR_perform 193 = .ok (.iload 7, 2) := by decide +kernel
theorem dR_perform_195 : decode cR_perform 195 = .ok (.istore 7, 2) := by decide +kernel
theorem dR_perform_197 : decode cR_perform 197 = .ok (.goto 98, 3) := by decide +kernel
theorem dR_perform_200 : decode cR_perform 200 = .ok (.aload_n 0, 1) := by decide +kernel
theorem dR_perform_201 : decode cR_perform 201 = .ok (.getfield 9, 3) := by decide +kernel
theorem dR_perform_204 : decode cR_perform 204 = .ok (.iload 4, 2) := by decide +kernel
theorem dR_perform_206 : decode cR_perform 206 = .ok (.aload_n 2, 1) := by decide +kernel
theorem dR_perform_207 : decode cR_perform 207 = .ok (.aload_n 0, 1) := by decide +kernel
theorem dR_perform_208 : decode cR_perform 208 = .ok (.getfield 9, 3) := by decide +kernel
theorem dR_perform_211 : decode cR_perform 211 = .ok (.iload 4, 2) := by decide +kernel
theorem dR_perform_213 : decode cR_perform 213 = .ok (.iaload, 1) := by decide +kernel
theorem dR_perform_214 : decode cR_perform 214 = .ok (.bipush 63, 2) := by decide +kernel
theorem dR_perform_216 : decode cR_perform 216 = .ok (.iand, 1) := by decide +kernel
theorem dR_perform_217 : decode cR_perform 217 = .ok (.iload_n 3, 1) := by decide +kernel
theorem dR_perform_218 : decode cR_perform 218 = .ok (.bipush 6, 2) := by decide +kernel
theorem dR_perform_220 : decode cR_perform 220 = .ok (.if_icmp .ne 7, 3) := by decide +kernel
theorem dR_perform_223 : decode cR_perform 223 = .ok (.iconst 1, 1) := by decide +kernel
theorem dR_perform_224 : decode cR_perform 224 = .ok (.goto 4, 3) := by decide +kernel
theorem dR_perform_227 : decode cR_perform 227 = .ok (.iconst 0, 1) := by decide +kernel
theorem dR_perform_228 : decode cR_perform 228 = .ok (.invokevirtual 52, 3) := by decide +kernel
theorem dR_perform_231 : decode cR_perform 231 = .ok (.ifCond .eq 7, 3) := by decide +kernel
theorem dR_perform_234 : decode cR_perform 234 = .ok (.iconst 1, 1) := by decide +kernel
theorem dR_perform_235 : decode cR_perform 235 = .ok (.goto 4, 3) := by decide +kernel
theorem dR_perform_238 : decode cR_perform 238 = .ok (.iconst 0, 1) := by decide +kernel
theorem dR_perform_239 : decode cR_perform 239 = .ok (.iastore, 1) := by decide +kernel
theorem dR_perform_240 : decode cR_perform 240 = .ok (.goto 55, 3) := by decide +kernel
theorem dR_perform_243 : decode cR_perform 243 = .ok (.aload_n 0, 1) := by decide +kernel
theorem dR_perform_244 : decode cR_perform 244 = .ok (.aload_n 0, 1) := by decide +kernel
theorem dR_perform_245 : decode cR_perform 245 = .ok (.getfield 9, 3) := by decide +kernel
theorem dR_perform_248 : decode cR_perform 248 = .ok (.iload 4, 2) := by decide +kernel
theorem dR_perform_250 : decode cR_perform 250 = .ok (.iaload, 1) := by decide +kernel
theorem dR_perform_251 : decode cR_perform 251 = .ok (.putfield 19, 3) := by decide +kernel
theorem dR_perform_254 : decode cR_perform 254 = .ok (.iconst 2, 1) := by decide +kernel
theorem dR_perform_255 : decode cR_perform 255 = .ok (.istore 8, 2) := by decide +kernel
theorem dR_perform_257 : decode cR_perform 257 = .ok (.goto 38, 3) := by decide +kernel
theorem dR_perform_260 : decode cR_perform 260 = .ok (.aload_n 0, 1) := by decide +kernel
theorem dR_perform_261 : decode cR_perform 261 = .ok (.iload 4, 2) := by decide +kernel
theorem dR_perform_263 : decode cR_perform 263 = .ok (.putfield 15, 3) := by decide +kernel
theorem dR_perform_266 : decode cR_perform 266 = .ok (.iconst 3, 1) := by decide +kernel
theorem dR_perform_267 : decode cR_perform 267 = .ok (.istore 8, 2) := by decide +kernel
theorem dR_perform_269 : decode cR_perform 269 = .ok (.goto 26, 3) := by decide +kernel
theorem dR_perform_272 : decode cR_perform 272 = .ok (.aload_n 0, 1) := by decide +kernel
theorem dR_perform_273 : decode cR_perform 273 = .ok (.getfield 9, 3) := by decide +kernel
theorem dR_perform_276 : decode cR_perform 276 = .ok (.iload 4, 2) := by decide +kernel
theorem dR_perform_278 : decode cR_perform 278 = .ok (.dup2, 1) := by decide +kernel
theorem dR_perform_279 : decode cR_perform 279 = .ok (.iaload, 1) := by decide +kernel
theorem dR_perform_280 : decode cR_perform 280 = .ok (.aload_n 0, 1) := by decide +kernel
theorem dR_perform_281 : decode cR_perform 281 = .ok (.getfield 9, 3) := by decide +kernel
theorem dR_perform_284 : decode cR_perform 284 = .ok (.iload 5, 2) := by decide +kernel
theorem dR_perform_286 : decode cR_perform 286 = .ok (.iaload, 1) := by decide +kernel
theorem dR_perform_287 : decode cR_perform 287 = .ok (.ixor, 1) := by decide +kernel
theorem dR_perform_288 : decode cR_perform 288 = .ok (.iastore, 1) := by decide +kernel
theorem dR_perform_289 : decode cR_perform 289 = .ok (.goto 6, 3) := by decide +kernel
theorem dR_perform_292 : decode cR_perform 292 = .ok (.iconst 5, 1) := by decide +kernel
theorem dR_perform_293 : decode cR_perform 293 = .ok (.istore 8, 2) := by decide +kernel
theorem dR_perform_295 : decode cR_perform 295 = .ok (.iload 8, 2) := by decide +kernel
theorem dR_perform_297 : decode cR_perform 297 = .ok (.iconst 1, 1) := by decide +kernel
theorem dR_perform_298 : decode cR_perform 298 = .ok (.if_icmp .eq 15, 3) := by decide +kernel
theorem dR_perform_301 : decode cR_perform 301 = .ok (.iload 8, 2) := by decide +kernel
theorem dR_perform_303 : decode cR_perform 303 = .ok (.iconst 5, 1) := by decide +kernel
theorem dR_perform_304 : decode cR_perform 304 = .ok (.if_icmp .eq 9, 3) := by decide +kernel
theorem dR_perform_307 : decode cR_perform 307 = .ok (.aload_n 0, 1) := by decide +kernel
theorem dR_perform_308 : decode cR_perform 308 = .ok (.iload 7, 2) := by decide +kernel
theorem dR_perform_310 : decode cR_perform 310 = .ok (.putfield 26, 3) := by decide +kernel
theorem dR_perform_313 : decode cR_perform 313 = .ok (.iload 8, 2) := by decide +kernel
theorem dR_perform_315 : decode cR_perform 315 = .ok (.ireturn, 1) := by decide +kernel
theorem dR_moveWord_0 : decode cR_moveWord 0 = .ok (.aload 4, 2) := by decide +kernel
theorem dR_moveWord_2 : decode cR_moveWord 2 = .ok (.iload_n 3, 1) := by decide +kernel
theorem dR_moveWord_3 : decode cR_moveWord 3 = .ok (.invokevirtual 29, 3) := by decide +kernel
theorem dR_moveWord_6 : decode cR_moveWord 6 = .ok (.astore 5, 2) := by decide +kernel
theorem dR_moveWord_8 : decode cR_moveWord 8 = .ok (.aload 5, 2) := by decide +kernel
theorem dR_moveWord_10 : decode cR_moveWord 10 = .ok (.ifnonnull 9, 3) := by decide +kernel
theorem dR_moveWord_13 : decode cR_moveWord 13 = .ok (.aload_n 0, 1) := by decide +kernel
theorem dR_moveWord_14 : decode cR_moveWord 14 = .ok (.iload_n 3, 1) := by decide +kernel
theorem dR_moveWord_15 : decode cR_moveWord 15 = .ok (.invokevirtual 35, 3) := by decide +kernel
theorem dR_moveWord_18 : decode cR_moveWord 18 = .ok (.ireturn, 1) := by decide +kernel
theorem dR_moveWord_19 : decode cR_moveWord 19 = .ok (.iload_n 1, 1) := by decide +kernel
theorem dR_moveWord_20 : decode cR_moveWord 20 = .ok (.ifCond .eq 21, 3) := by decide +kernel
theorem dR_moveWord_23 : decode cR_moveWord 23 = .ok (.aload_n 0, 1) := by decide +kernel
theorem dR_moveWord_24 : decode cR_moveWord 24 = .ok (.getfield 9, 3) := by decide +kernel
theorem dR_moveWord_27 : decode cR_moveWord 27 = .ok (.iload_n 2, 1) := by decide +kernel
theorem dR_moveWord_28 : decode cR_moveWord 28 = .ok (.aload 5, 2) := by decide +kernel
theorem dR_moveWord_30 : decode cR_moveWord 30 = .ok (.getfield 39, 3) := by decide +kernel
theorem dR_moveWord_33 : decode cR_moveWord 33 = .ok (.iload_n 3, 1) := by decide +kernel
theorem dR_moveWord_34 : decode cR_moveWord 34 = .ok (.iconst 4, 1) := by decide +kernel
theorem dR_moveWord_35 : decode cR_moveWord 35 = .ok (.irem, 1) := by decide +kernel
theorem dR_moveWord_36 : decode cR_moveWord 36 = .ok (.iaload, 1) := by decide +kernel
theorem dR_moveWord_37 : decode cR_moveWord 37 = .ok (.iastore, 1) := by decide +kernel
theorem dR_moveWord_38 : decode cR_moveWord 38 = .ok (.goto 18, 3) := by decide +kernel
theorem dR_moveWord_41 : decode cR_moveWord 41 = .ok (.aload 5, 2) := by decide +kernel
theorem dR_moveWord_43 : decode cR_moveWord 43 = .ok (.getfield 39, 3) := by decide +kernel
theorem dR_moveWord_46 : decode cR_moveWord 46 = .ok (.iload_n 3, 1) := by decide +kernel
theorem dR_moveWord_47 : decode cR_moveWord 47 = .ok (.iconst 4, 1) := by decide +kernel
theorem dR_moveWord_48 : decode cR_moveWord 48 = .ok (.irem, 1) := by decide +kernel
theorem dR_moveWord_49 : decode cR_moveWord 49 = .ok (.aload_n 0, 1) := by decide +kernel
theorem dR_moveWord_50 : decode cR_moveWord 50 = .ok (.getfield 9, 3) := by decide +kernel
theorem dR_moveWord_53 : decode cR_moveWord 53 = .ok (.iload_n 2, 1) := by decide +kernel
theorem dR_moveWord_54 : decode cR_moveWord 54 = .ok (.iaload, 1) := by decide +kernel
theorem dR_moveWord_55 : decode cR_moveWord 55 = .ok (.iastore, 1) := by decide +kernel
theorem dR_moveWord_56 : decode cR_moveWord 56 = .ok (.iconst 0, 1) := by decide +kernel
theorem dR_moveWord_57 : decode cR_moveWord 57 = .ok (.ireturn, 1) := by decide +kernel
theorem dG_changeSharingAt_0 : decode cG_changeSharingAt 0 = .ok (.aload_n 0, 1) := by decide +kernel
theorem dG_changeSharingAt_1 : decode cG_changeSharingAt 1 = .ok (.getfield 11, 3) := by decide +kernel
theorem dG_changeSharingAt_4 : decode cG_changeSharingAt 4 = .ok (.iload_n 1, 1) := by decide +kernel
theorem dG_changeSharingAt_5 : decode cG_changeSharingAt 5 = .ok (.aaload, 1) := by decide +kernel
theorem dG_changeSharingAt_6 : decode cG_changeSharingAt 6 = .ok (.astore_n 3, 1) := by decide +kernel
theorem dG_changeSharingAt_7 : decode cG_changeSharingAt 7 = .ok (.aload_n 3, 1) := by decide +kernel
theorem dG_changeSharingAt_8 : decode cG_changeSharingAt 8 = .ok (.ifnull 22, 3) := by decide +kernel
theorem dG_changeSharingAt_11 : decode cG_changeSharingAt 11 = .ok (.aload_n 3, 1) := by decide +kernel
theorem dG_changeSharingAt_12 : decode cG_changeSharingAt 12 = .ok (.getfield 47, 3) := by decide +kernel
theorem dG_changeSharingAt_15 : decode cG_changeSharingAt 15 = .ok (.aload_n 0, 1) := by decide +kernel
theorem dG_changeSharingAt_16 : decode cG_changeSharingAt 16 = .ok (.getfield 27, 3) := by decide +kernel
theorem dG_changeSharingAt_19 : decode cG_changeSharingAt 19 = .ok (.if_icmp .ne 11, 3) := by decide +kernel
theorem dG_changeSharingAt_22 : decode cG_changeSharingAt 22 = .ok (.aload_n 3, 1) := by decide +kernel
theorem dG_changeSharingAt_23 : decode cG_changeSharingAt 23 = .ok (.getfield 50, 3) := by decide +kernel
theorem dG_changeSharingAt_26 : decode cG_changeSharingAt 26 = .ok (.iload_n 2, 1) := by decide +kernel
theorem dG_changeSharingAt_27 : decode cG_changeSharingAt 27 = .ok (.if_icmp .ne 5, 3) := by decide +kernel
theorem dG_changeSharingAt_30 : decode cG_changeSharingAt 30 = .ok (.iconst 0, 1) := by decide +kernel
theorem dG_changeSharingAt_31 : decode cG_changeSharingAt 31 = .ok (.ireturn, 1) := by decide +kernel
theorem dG_changeSharingAt_32 : decode cG_changeSharingAt 32 = .ok (.aload_n 3, 1) := by decide +kernel
theorem dG_changeSharingAt_33 : decode cG_changeSharingAt 33 = .ok (.iload_n 2, 1) := by decide +kernel
theorem dG_changeSharingAt_34 : decode cG_changeSharingAt 34 = .ok (.invokevirtual 53, 3) := by decide +kernel
theorem dG_changeSharingAt_37 : decode cG_changeSharingAt 37 = .ok (.iconst 1, 1) := by decide +kernel
theorem dG_changeSharingAt_38 : decode cG_changeSharingAt 38 = .ok (.ireturn, 1) := by decide +kernel
theorem dK_info_0 : decode cK_info 0 = .ok (.aload_n 0, 1) := by decide +kernel
theorem dK_info_1 : decode cK_info 1 = .ok (.getfield 126, 3) := by decide +kernel
theorem dK_info_4 : decode cK_info 4 = .ok (.ireturn, 1) := by decide +kernel
theorem dK_set_0 : decode cK_set 0 = .ok (.iload_n 1, 1) := by decide +kernel
theorem dK_set_1 : decode cK_set 1 = .ok (.invokestatic 129, 3) := by decide +kernel
theorem dK_set_4 : decode cK_set 4 = .ok (.ifCond .eq 10, 3) := by decide +kernel
theorem dK_set_7 : decode cK_set 7 = .ok (.aload_n 0, 1) := by decide +kernel
theorem dK_set_8 : decode cK_set 8 = .ok (.getfield 106, 3) := by decide +kernel
theorem dK_set_11 : decode cK_set 11 = .ok (.ifnull 5, 3) := by decide +kernel
theorem dK_set_14 : decode cK_set 14 = .ok (.iconst 0, 1) := by decide +kernel
theorem dK_set_15 : decode cK_set 15 = .ok (.ireturn, 1) := by decide +kernel
theorem dK_set_16 : decode cK_set 16 = .ok (.aload_n 0, 1) := by decide +kernel
theorem dK_set_17 : decode cK_set 17 = .ok (.getfield 22, 3) := by decide +kernel
theorem dK_set_20 : decode cK_set 20 = .ok (.iload_n 1, 1) := by decide +kernel
theorem dK_set_21 : decode cK_set 21 = .ok (.iload_n 2, 1) := by decide +kernel
theorem dK_set_22 : decode cK_set 22 = .ok (.iastore, 1) := by decide +kernel
theorem dK_set_23 : decode cK_set 23 = .ok (.iconst 1, 1) := by decide +kernel
theorem dK_set_24 : decode cK_set 24 = .ok (.ireturn, 1) := by decide +kernel
theorem dK_isRegister_0 : decode cK_isRegister 0 = .ok (.iload_n 0, 1) := by decide +kernel
theorem dK_isRegister_1 : decode cK_isRegister 1 = .ok (.ifCond .lt 12, 3) := by decide +kernel
theorem dK_isRegister_4 : decode cK_isRegister 4 = .ok (.iload_n 0, 1) := by decide +kernel
theorem dK_isRegister_5 : decode cK_isRegister 5 = .ok (.iconst 4, 1) := by decide +kernel
theorem dK_isRegister_6 : decode cK_isRegister 6 = .ok (.if_icmp .ge 7, 3) := by decide +kernel
theorem dK_isRegister_9 : decode cK_isRegister 9 = .ok (.iconst 1, 1) := by decide +kernel
theorem dK_isRegister_10 : decode cK_isRegister 10 = .ok (.goto 4, 3) := by decide +kernel
theorem dK_isRegister_13 : decode cK_isRegister 13 = .ok (.iconst 0, 1) := by decide +kernel
theorem dK_isRegister_14 : decode cK_isRegister 14 = .ok (.ireturn, 1) := by decide +kernel
theorem dK_register_0 : decode cK_register 0 = .ok (.iload_n 1, 1) := by decide +kernel
theorem dK_register_1 : decode cK_register 1 = .ok (.invokestatic 129, 3) := by decide +kernel
theorem dK_register_4 : decode cK_register 4 = .ok (.ifCond .eq 10, 3) := by decide +kernel
theorem dK_register_7 : decode cK_register 7 = .ok (.aload_n 0, 1) := by decide +kernel
theorem dK_register_8 : decode cK_register 8 = .ok (.getfield 106, 3) := by decide +kernel
theorem dK_register_11 : decode cK_register 11 = .ok (.ifnull 5, 3) := by decide +kernel
theorem dK_register_14 : decode cK_register 14 = .ok (.iconst 0, 1) := by decide +kernel
theorem dK_register_15 : decode cK_register 15 = .ok (.ireturn, 1) := by decide +kernel
theorem dK_register_16 : decode cK_register 16 = .ok (.aload_n 0, 1) := by decide +kernel
theorem dK_register_17 : decode cK_register 17 = .ok (.getfield 22, 3) := by decide +kernel
theorem dK_register_20 : decode cK_register 20 = .ok (.iload_n 1, 1) := by decide +kernel
theorem dK_register_21 : decode cK_register 21 = .ok (.iaload, 1) := by decide +kernel
theorem dK_register_22 : decode cK_register 22 = .ok (.ireturn, 1) := by decide +kernel
theorem dK_owner_0 : decode cK_owner 0 = .ok (.iload_n 1, 1) := by decide +kernel
theorem dK_owner_1 : decode cK_owner 1 = .ok (.invokestatic 26, 3) := by decide +kernel
theorem dK_owner_4 : decode cK_owner 4 = .ok (.ifCond .eq 15, 3) := by decide +kernel
theorem dK_owner_7 : decode cK_owner 7 = .ok (.aload_n 0, 1) := by decide +kernel
theorem dK_owner_8 : decode cK_owner 8 = .ok (.getfield 11, 3) := by decide +kernel
theorem dK_owner_11 : decode cK_owner 11 = .ok (.iload_n 1, 1) := by decide +kernel
theorem dK_owner_12 : decode cK_owner 12 = .ok (.aaload, 1) := by decide +kernel
theorem dK_owner_13 : decode cK_owner 13 = .ok (.getfield 103, 3) := by decide +kernel
theorem dK_owner_16 : decode cK_owner 16 = .ok (.goto 4, 3) := by decide +kernel
theorem dK_owner_19 : decode cK_owner 19 = .ok (.iconst (-1), 1) := by decide +kernel
theorem dK_owner_20 : decode cK_owner 20 = .ok (.ireturn, 1) := by decide +kernel
theorem dK_state_0 : decode cK_state 0 = .ok (.iload_n 1, 1) := by decide +kernel
theorem dK_state_1 : decode cK_state 1 = .ok (.invokestatic 26, 3) := by decide +kernel
theorem dK_state_4 : decode cK_state 4 = .ok (.ifCond .ne 5, 3) := by decide +kernel
theorem dK_state_7 : decode cK_state 7 = .ok (.iconst (-1), 1) := by decide +kernel
theorem dK_state_8 : decode cK_state 8 = .ok (.ireturn, 1) := by decide +kernel
theorem dK_state_9 : decode cK_state 9 = .ok (.aload_n 0, 1) := by decide +kernel
theorem dK_state_10 : decode cK_state 10 = .ok (.getfield 11, 3) := by decide +kernel
theorem dK_state_13 : decode cK_state 13 = .ok (.iload_n 1, 1) := by decide +kernel
theorem dK_state_14 : decode cK_state 14 = .ok (.aaload, 1) := by decide +kernel
theorem dK_state_15 : decode cK_state 15 = .ok (.astore_n 2, 1) := by decide +kernel
theorem dK_state_16 : decode cK_state 16 = .ok (.aload_n 2, 1) := by decide +kernel
theorem dK_state_17 : decode cK_state 17 = .ok (.getfield 132, 3) := by decide +kernel
theorem dK_state_20 : decode cK_state 20 = .ok (.ifCond .ne 10, 3) := by decide +kernel
theorem dK_state_23 : decode cK_state 23 = .ok (.aload_n 2, 1) := by decide +kernel
theorem dK_state_24 : decode cK_state 24 = .ok (.getfield 86, 3) := by decide +kernel
theorem dK_state_27 : decode cK_state 27 = .ok (.ifCond .eq 7, 3) := by decide +kernel
theorem dK_state_30 : decode cK_state 30 = .ok (.iconst 1, 1) := by decide +kernel
theorem dK_state_31 : decode cK_state 31 = .ok (.goto 4, 3) := by decide +kernel
theorem dK_state_34 : decode cK_state 34 = .ok (.iconst 0, 1) := by decide +kernel
theorem dK_state_35 : decode cK_state 35 = .ok (.istore_n 3, 1) := by decide +kernel
theorem dK_state_36 : decode cK_state 36 = .ok (.aload_n 2, 1) := by decide +kernel
theorem dK_state_37 : decode cK_state 37 = .ok (.getfield 135, 3) := by decide +kernel
theorem dK_state_40 : decode cK_state 40 = .ok (.ifCond .eq 9, 3) := by decide +kernel
theorem dK_state_43 : decode cK_state 43 = .ok (.iload_n 3, 1) := by decide +kernel
theorem dK_state_44 : decode cK_state 44 = .ok (.iconst 2, 1) := by decide +kernel
theorem dK_state_45 : decode cK_state 45 = .ok (.iadd, 1) := by decide +kernel
theorem dK_state_46 : decode cK_state 46 = .ok (.goto 4, 3) := by decide +kernel
theorem dK_state_49 : decode cK_state 49 = .ok (.iload_n 3, 1) := by decide +kernel
theorem dK_state_50 : decode cK_state 50 = .ok (.ireturn, 1) := by decide +kernel
theorem dK_pool_0 : decode cK_pool 0 = .ok (.aload_n 0, 1) := by decide +kernel
theorem dK_pool_1 : decode cK_pool 1 = .ok (.iload_n 1, 1) := by decide +kernel
theorem dK_pool_2 : decode cK_pool 2 = .ok (.invokevirtual 58, 3) := by decide +kernel
theorem dK_pool_5 : decode cK_pool 5 = .ok (.astore_n 2, 1) := by decide +kernel
theorem dK_pool_6 : decode cK_pool 6 = .ok (.aload_n 2, 1) := by decide +kernel
theorem dK_pool_7 : decode cK_pool 7 = .ok (.ifnonnull 7, 3) := by decide +kernel
theorem dK_pool_10 : decode cK_pool 10 = .ok (.iconst (-1), 1) := by decide +kernel
theorem dK_pool_11 : decode cK_pool 11 = .ok (.goto 7, 3) := by decide +kernel
theorem dK_pool_14 : decode cK_pool 14 = .ok (.aload_n 2, 1) := by decide +kernel
theorem dK_pool_15 : decode cK_pool 15 = .ok (.invokevirtual 65, 3) := by decide +kernel
theorem dK_pool_18 : decode cK_pool 18 = .ok (.ireturn, 1) := by decide +kernel
theorem dK_tables_0 : decode cK_tables 0 = .ok (.aload_n 0, 1) := by decide +kernel
theorem dK_tables_1 : decode cK_tables 1 = .ok (.iload_n 1, 1) := by decide +kernel
theorem dK_tables_2 : decode cK_tables 2 = .ok (.invokevirtual 58, 3) := by decide +kernel
theorem dK_tables_5 : decode cK_tables 5 = .ok (.astore_n 2, 1) := by decide +kernel
theorem dK_tables_6 : decode cK_tables 6 = .ok (.aload_n 2, 1) := by decide +kernel
theorem dK_tables_7 : decode cK_tables 7 = .ok (.ifnonnull 7, 3) := by decide +kernel
theorem dK_tables_10 : decode cK_tables 10 = .ok (.iconst (-1), 1) := by decide +kernel
theorem dK_tables_11 : decode cK_tables 11 = .ok (.goto 7, 3) := by decide +kernel
theorem dK_tables_14 : decode cK_tables 14 = .ok (.aload_n 2, 1) := by decide +kernel
theorem dK_tables_15 : decode cK_tables 15 = .ok (.invokevirtual 138, 3) := by decide +kernel
theorem dK_tables_18 : decode cK_tables 18 = .ok (.ireturn, 1) := by decide +kernel
theorem dM_init_0 : decode cM_init 0 = .ok (.aload_n 0, 1) := by decide +kernel
theorem dM_init_1 : decode cM_init 1 = .ok (.invokespecial 1, 3) := by decide +kernel
theorem dM_init_4 : decode cM_init 4 = .ok (.aload_n 0, 1) := by decide +kernel
theorem dM_init_5 : decode cM_init 5 = .ok (.bipush 96, 2) := by decide +kernel
theorem dM_init_7 : decode cM_init 7 = .ok (.newarray .int, 2) := by decide +kernel
theorem dM_init_9 : decode cM_init 9 = .ok (.putfield 7, 3) := by decide +kernel
theorem dM_init_12 : decode cM_init 12 = .ok (.aload_n 0, 1) := by decide +kernel
theorem dM_init_13 : decode cM_init 13 = .ok (.bipush 24, 2) := by decide +kernel
theorem dM_init_15 : decode cM_init 15 = .ok (.newarray .int, 2) := by decide +kernel
theorem dM_init_17 : decode cM_init 17 = .ok (.putfield 13, 3) := by decide +kernel
theorem dM_init_20 : decode cM_init 20 = .ok (.aload_n 0, 1) := by decide +kernel
theorem dM_init_21 : decode cM_init 21 = .ok (.bipush 24, 2) := by decide +kernel
theorem dM_init_23 : decode cM_init 23 = .ok (.newarray .int, 2) := by decide +kernel
theorem dM_init_25 : decode cM_init 25 = .ok (.putfield 16, 3) := by decide +kernel
theorem dM_init_28 : decode cM_init 28 = .ok (.aload_n 0, 1) := by decide +kernel
theorem dM_init_29 : decode cM_init 29 = .ok (.bipush 24, 2) := by decide +kernel
theorem dM_init_31 : decode cM_init 31 = .ok (.newarray .int, 2) := by decide +kernel
theorem dM_init_33 : decode cM_init 33 = .ok (.putfield 19, 3) := by decide +kernel
theorem dM_init_36 : decode cM_init 36 = .ok (.aload_n 0, 1) := by decide +kernel
theorem dM_init_37 : decode cM_init 37 = .ok (.bipush 24, 2) := by decide +kernel
theorem dM_init_39 : decode cM_init 39 = .ok (.newarray .int, 2) := by decide +kernel
theorem dM_init_41 : decode cM_init 41 = .ok (.putfield 22, 3) := by decide +kernel
theorem dM_init_44 : decode cM_init 44 = .ok (.aload_n 0, 1) := by decide +kernel
theorem dM_init_45 : decode cM_init 45 = .ok (.bipush 24, 2) := by decide +kernel
theorem dM_init_47 : decode cM_init 47 = .ok (.newarray .boolean, 2) := by decide +kernel
theorem dM_init_49 : decode cM_init 49 = .ok (.putfield 25, 3) := by decide +kernel
theorem dM_init_52 : decode cM_init 52 = .ok (.aload_n 0, 1) := by decide +kernel
theorem dM_init_53 : decode cM_init 53 = .ok (.bipush 24, 2) := by decide +kernel
theorem dM_init_55 : decode cM_init 55 = .ok (.newarray .boolean, 2) := by decide +kernel
theorem dM_init_57 : decode cM_init 57 = .ok (.putfield 29, 3) := by decide +kernel
theorem dM_init_60 : decode cM_init 60 = .ok (.aload_n 0, 1) := by decide +kernel
theorem dM_init_61 : decode cM_init 61 = .ok (.bipush 7, 2) := by decide +kernel
theorem dM_init_63 : decode cM_init 63 = .ok (.newarray .boolean, 2) := by decide +kernel
theorem dM_init_65 : decode cM_init 65 = .ok (.putfield 32, 3) := by decide +kernel
theorem dM_init_68 : decode cM_init 68 = .ok (.aload_n 0, 1) := by decide +kernel
theorem dM_init_69 : decode cM_init 69 = .ok (.bipush 7, 2) := by decide +kernel
theorem dM_init_71 : decode cM_init 71 = .ok (.newarray .boolean, 2) := by decide +kernel
theorem dM_init_73 : decode cM_init 73 = .ok (.putfield 35, 3) := by decide +kernel
theorem dM_init_76 : decode cM_init 76 = .ok (.aload_n 0, 1) := by decide +kernel
theorem dM_init_77 : decode cM_init 77 = .ok (.bipush 56, 2) := by decide +kernel
theorem dM_init_79 : decode cM_init 79 = .ok (.newarray .int, 2) := by decide +kernel
theorem dM_init_81 : decode cM_init 81 = .ok (.putfield 38, 3) := by decide +kernel
theorem dM_init_84 : decode cM_init 84 = .ok (.aload_n 0, 1) := by decide +kernel
theorem dM_init_85 : decode cM_init 85 = .ok (.bipush 14, 2) := by decide +kernel
theorem dM_init_87 : decode cM_init 87 = .ok (.newarray .int, 2) := by decide +kernel
theorem dM_init_89 : decode cM_init 89 = .ok (.putfield 41, 3) := by decide +kernel
theorem dM_init_92 : decode cM_init 92 = .ok (.aload_n 0, 1) := by decide +kernel
theorem dM_init_93 : decode cM_init 93 = .ok (.bipush 14, 2) := by decide +kernel
theorem dM_init_95 : decode cM_init 95 = .ok (.newarray .int, 2) := by decide +kernel
theorem dM_init_97 : decode cM_init 97 = .ok (.putfield 44, 3) := by decide +kernel
theorem dM_init_100 : decode cM_init 100 = .ok (.aload_n 0, 1) := by decide +kernel
theorem dM_init_101 : decode cM_init 101 = .ok (.iconst (-1), 1) := by decide +kernel
theorem dM_init_102 : decode cM_init 102 = .ok (.putfield 47, 3) := by decide +kernel
theorem dM_init_105 : decode cM_init 105 = .ok (.aload_n 0, 1) := by decide +kernel
theorem dM_init_106 : decode cM_init 106 = .ok (.iconst 4, 1) := by decide +kernel
theorem dM_init_107 : decode cM_init 107 = .ok (.newarray .int, 2) := by decide +kernel
theorem dM_init_109 : decode cM_init 109 = .ok (.putfield 51, 3) := by decide +kernel
theorem dM_init_112 : decode cM_init 112 = .ok (.return_, 1) := by decide +kernel
theorem dM_read_0 : decode cM_read 0 = .ok (.aload_n 0, 1) := by decide +kernel
theorem dM_read_1 : decode cM_read 1 = .ok (.iload_n 1, 1) := by decide +kernel
theorem dM_read_2 : decode cM_read 2 = .ok (.iload_n 2, 1) := by decide +kernel
theorem dM_read_3 : decode cM_read 3 = .ok (.invokevirtual 75, 3) := by decide +kernel
theorem dM_read_6 : decode cM_read 6 = .ok (.ifCond .eq 17, 3) := by decide +kernel
theorem dM_read_9 : decode cM_read 9 = .ok (.aload_n 0, 1) := by decide +kernel
theorem dM_read_10 : decode cM_read 10 = .ok (.getfield 7, 3) := by decide +kernel
theorem dM_read_13 : decode cM_read 13 = .ok (.iconst 4, 1) := by decide +kernel
theorem dM_read_14 : decode cM_read 14 = .ok (.iload_n 1, 1) := by decide +kernel
theorem dM_read_15 : decode cM_read 15 = .ok (.imul, 1) := by decide +kernel
theorem dM_read_16 : decode cM_read 16 = .ok (.iload_n 2, 1) := by decide +kernel
theorem dM_read_17 : decode cM_read 17 = .ok (.iadd, 1) := by decide +kernel
theorem dM_read_18 : decode cM_read 18 = .ok (.iaload, 1) := by decide +kernel
theorem dM_read_19 : decode cM_read 19 = .ok (.i2l, 1) := by decide +kernel
theorem dM_read_20 : decode cM_read 20 = .ok (.goto 6, 3) := by decide +kernel
theorem dM_read_23 : decode cM_read 23 = .ok (.ldc2_w 79, 3) := by decide +kernel
theorem dM_read_26 : decode cM_read 26 = .ok (.lreturn, 1) := by decide +kernel
theorem dM_touch_0 : decode cM_touch 0 = .ok (.iload_n 1, 1) := by decide +kernel
theorem dM_touch_1 : decode cM_touch 1 = .ok (.invokestatic 54, 3) := by decide +kernel
theorem dM_touch_4 : decode cM_touch 4 = .ok (.ifCond .eq 12, 3) := by decide +kernel
theorem dM_touch_7 : decode cM_touch 7 = .ok (.iload_n 2, 1) := by decide +kernel
theorem dM_touch_8 : decode cM_touch 8 = .ok (.ifCond .lt 8, 3) := by decide +kernel
theorem dM_touch_11 : decode cM_touch 11 = .ok (.iload_n 2, 1) := by decide +kernel
theorem dM_touch_12 : decode cM_touch 12 = .ok (.iconst 3, 1) := by decide +kernel
theorem dM_touch_13 : decode cM_touch 13 = .ok (.if_icmp .le 5, 3) := by decide +kernel
theorem dM_touch_16 : decode cM_touch 16 = .ok (.iconst 0, 1) := by decide +kernel
theorem dM_touch_17 : decode cM_touch 17 = .ok (.ireturn, 1) := by decide +kernel
theorem dM_touch_18 : decode cM_touch 18 = .ok (.aload_n 0, 1) := by decide +kernel
theorem dM_touch_19 : decode cM_touch 19 = .ok (.getfield 29, 3) := by decide +kernel
theorem dM_touch_22 : decode cM_touch 22 = .ok (.iload_n 1, 1) := by decide +kernel
theorem dM_touch_23 : decode cM_touch 23 = .ok (.baload, 1) := by decide +kernel
theorem dM_touch_24 : decode cM_touch 24 = .ok (.ifCond .ne 24, 3) := by decide +kernel
theorem dM_touch_27 : decode cM_touch 27 = .ok (.aload_n 0, 1) := by decide +kernel
theorem dM_touch_28 : decode cM_touch 28 = .ok (.dup, 1) := by decide +kernel
theorem dM_touch_29 : decode cM_touch 29 = .ok (.getfield 72, 3) := by decide +kernel
theorem dM_touch_32 : decode cM_touch 32 = .ok (.iconst 1, 1) := by decide +kernel
theorem dM_touch_33 : decode cM_touch 33 = .ok (.iadd, 1) := by decide +kernel
theorem dM_touch_34 : decode cM_touch 34 = .ok (.putfield 72, 3) := by decide +kernel
theorem dM_touch_37 : decode cM_touch 37 = .ok (.aload_n 0, 1) := by decide +kernel
theorem dM_touch_38 : decode cM_touch 38 = .ok (.getfield 29, 3) := by decide +kernel
theorem dM_touch_41 : decode cM_touch 41 = .ok (.iload_n 1, 1) := by decide +kernel
theorem dM_touch_42 : decode cM_touch 42 = .ok (.aload_n 0, 1) := by decide +kernel
theorem dM_touch_43 : decode cM_touch 43 = .ok (.iload_n 1, 1) := by decide +kernel
theorem dM_touch_44 : decode cM_touch 44 = .ok (.invokevirtual 61, 3) := by decide +kernel
theorem dM_touch_47 : decode cM_touch 47 = .ok (.bastore, 1) := by decide +kernel
theorem dM_touch_48 : decode cM_touch 48 = .ok (.aload_n 0, 1) := by decide +kernel
theorem dM_touch_49 : decode cM_touch 49 = .ok (.getfield 29, 3) := by decide +kernel
theorem dM_touch_52 : decode cM_touch 52 = .ok (.iload_n 1, 1) := by decide +kernel
theorem dM_touch_53 : decode cM_touch 53 = .ok (.baload, 1) := by decide +kernel
theorem dM_touch_54 : decode cM_touch 54 = .ok (.ireturn, 1) := by decide +kernel
theorem dM_isPage_0 : decode cM_isPage 0 = .ok (.iload_n 0, 1) := by decide +kernel
theorem dM_isPage_1 : decode cM_isPage 1 = .ok (.ifCond .lt 13, 3) := by decide +kernel
theorem dM_isPage_4 : decode cM_isPage 4 = .ok (.iload_n 0, 1) := by decide +kernel
theorem dM_isPage_5 : decode cM_isPage 5 = .ok (.bipush 24, 2) := by decide +kernel
theorem dM_isPage_7 : decode cM_isPage 7 = .ok (.if_icmp .ge 7, 3) := by decide +kernel
theorem dM_isPage_10 : decode cM_isPage 10 = .ok (.iconst 1, 1) := by decide +kernel
theorem dM_isPage_11 : decode cM_isPage 11 = .ok (.goto 4, 3) := by decide +kernel
theorem dM_isPage_14 : decode cM_isPage 14 = .ok (.iconst 0, 1) := by decide +kernel
theorem dM_isPage_15 : decode cM_isPage 15 = .ok (.ireturn, 1) := by decide +kernel
theorem dM_hostMay_0 : decode cM_hostMay 0 = .ok (.aload_n 0, 1) := by decide +kernel
theorem dM_hostMay_1 : decode cM_hostMay 1 = .ok (.getfield 13, 3) := by decide +kernel
theorem dM_hostMay_4 : decode cM_hostMay 4 = .ok (.iload_n 1, 1) := by decide +kernel
theorem dM_hostMay_5 : decode cM_hostMay 5 = .ok (.iaload, 1) := by decide +kernel
theorem dM_hostMay_6 : decode cM_hostMay 6 = .ok (.ifCond .eq 12, 3) := by decide +kernel
theorem dM_hostMay_9 : decode cM_hostMay 9 = .ok (.aload_n 0, 1) := by decide +kernel
theorem dM_hostMay_10 : decode cM_hostMay 10 = .ok (.getfield 25, 3) := by decide +kernel
theorem dM_hostMay_13 : decode cM_hostMay 13 = .ok (.iload_n 1, 1) := by decide +kernel
theorem dM_hostMay_14 : decode cM_hostMay 14 = .ok (.baload, 1) := by decide +kernel
theorem dM_hostMay_15 : decode cM_hostMay 15 = .ok (.ifCond .eq 7, 3) := by decide +kernel
theorem dM_hostMay_18 : decode cM_hostMay 18 = .ok (.iconst 1, 1) := by decide +kernel
theorem dM_hostMay_19 : decode cM_hostMay 19 = .ok (.goto 4, 3) := by decide +kernel
theorem dM_hostMay_22 : decode cM_hostMay 22 = .ok (.iconst 0, 1) := by decide +kernel
theorem dM_hostMay_23 : decode cM_hostMay 23 = .ok (.ireturn, 1) := by decide +kernel
theorem dM_write_0 : decode cM_write 0 = .ok (.aload_n 0, 1) := by decide +kernel
theorem dM_write_1 : decode cM_write 1 = .ok (.iload_n 1, 1) := by decide +kernel
theorem dM_write_2 : decode cM_write 2 = .ok (.iload_n 2, 1) := by decide +kernel
theorem dM_write_3 : decode cM_write 3 = .ok (.invokevirtual 75, 3) := by decide +kernel
theorem dM_write_6 : decode cM_write 6 = .ok (.istore 4, 2) := by decide +kernel
theorem dM_write_8 : decode cM_write 8 = .ok (.iload 4, 2) := by decide +kernel
theorem dM_write_10 : decode cM_write 10 = .ok (.ifCond .eq 14, 3) := by decide +kernel
theorem dM_write_13 : decode cM_write 13 = .ok (.aload_n 0, 1) := by decide +kernel
theorem dM_write_14 : decode cM_write 14 = .ok (.getfield 7, 3) := by decide +kernel
theorem dM_write_17 : decode cM_write 17 = .ok (.iconst 4, 1) := by decide +kernel
theorem dM_write_18 : decode cM_write 18 = .ok (.iload_n 1, 1) := by decide +kernel
theorem dM_write_19 : decode cM_write 19 = .ok (.imul, 1) := by decide +kernel
theorem dM_write_20 : decode cM_write 20 = .ok (.iload_n 2, 1) := by decide +kernel
theorem dM_write_21 : decode cM_write 21 = .ok (.iadd, 1) := by decide +kernel
theorem dM_write_22 : decode cM_write 22 = .ok (.iload_n 3, 1) := by decide +kernel
theorem dM_write_23 : decode cM_write 23 = .ok (.iastore, 1) := by decide +kernel
theorem dM_write_24 : decode cM_write 24 = .ok (.iload 4, 2) := by decide +kernel
theorem dM_write_26 : decode cM_write 26 = .ok (.ireturn, 1) := by decide +kernel
theorem dM_faults_0 : decode cM_faults 0 = .ok (.aload_n 0, 1) := by decide +kernel
theorem dM_faults_1 : decode cM_faults 1 = .ok (.getfield 72, 3) := by decide +kernel
theorem dM_faults_4 : decode cM_faults 4 = .ok (.ireturn, 1) := by decide +kernel
theorem dM_create_0 : decode cM_create 0 = .ok (.aload_n 0, 1) := by decide +kernel
theorem dM_create_1 : decode cM_create 1 = .ok (.iload_n 1, 1) := by decide +kernel
theorem dM_create_2 : decode cM_create 2 = .ok (.invokevirtual 88, 3) := by decide +kernel
theorem dM_create_5 : decode cM_create 5 = .ok (.ifCond .ne 5, 3) := by decide +kernel
theorem dM_create_8 : decode cM_create 8 = .ok (.iconst (-1), 1) := by decide +kernel
theorem dM_create_9 : decode cM_create 9 = .ok (.ireturn, 1) := by decide +kernel
theorem dM_create_10 : decode cM_create 10 = .ok (.aload_n 0, 1) := by decide +kernel
theorem dM_create_11 : decode cM_create 11 = .ok (.getfield 58, 3) := by decide +kernel
theorem dM_create_14 : decode cM_create 14 = .ok (.bipush 6, 2) := by decide +kernel
theorem dM_create_16 : decode cM_create 16 = .ok (.if_icmp .lt 6, 3) := by decide +kernel
theorem dM_create_19 : decode cM_create 19 = .ok (.bipush (-2), 2) := by decide +kernel
theorem dM_create_21 : decode cM_create 21 = .ok (.ireturn, 1) := by decide +kernel
theorem dM_create_22 : decode cM_create 22 = .ok (.aload_n 0, 1) := by decide +kernel
theorem dM_create_23 : decode cM_create 23 = .ok (.dup, 1) := by decide +kernel
theorem dM_create_24 : decode cM_create 24 = .ok (.getfield 58, 3) := by decide +kernel
theorem dM_create_27 : decode cM_create 27 = .ok (.iconst 1, 1) := by decide +kernel
theorem dM_create_28 : decode cM_create 28 = .ok (.iadd, 1) := by decide +kernel
theorem dM_create_29 : decode cM_create 29 = .ok (.putfield 58, 3) := by decide +kernel
theorem dM_create_32 : decode cM_create 32 = .ok (.aload_n 0, 1) := by decide +kernel
theorem dM_create_33 : decode cM_create 33 = .ok (.getfield 32, 3) := by decide +kernel
theorem dM_create_36 : decode cM_create 36 = .ok (.aload_n 0, 1) := by decide +kernel
theorem dM_create_37 : decode cM_create 37 = .ok (.getfield 58, 3) := by decide +kernel
theorem dM_create_40 : decode cM_create 40 = .ok (.iconst 1, 1) := by decide +kernel
theorem dM_create_41 : decode cM_create 41 = .ok (.bastore, 1) := by decide +kernel
theorem dM_create_42 : decode cM_create 42 = .ok (.aload_n 0, 1) := by decide +kernel
theorem dM_create_43 : decode cM_create 43 = .ok (.iload_n 1, 1) := by decide +kernel
theorem dM_create_44 : decode cM_create 44 = .ok (.aload_n 0, 1) := by decide +kernel
theorem dM_create_45 : decode cM_create 45 = .ok (.getfield 58, 3) := by decide +kernel
theorem dM_create_48 : decode cM_create 48 = .ok (.invokevirtual 91, 3) := by decide +kernel
theorem dM_create_51 : decode cM_create 51 = .ok (.aload_n 0, 1) := by decide +kernel
theorem dM_create_52 : decode cM_create 52 = .ok (.getfield 58, 3) := by decide +kernel
theorem dM_create_55 : decode cM_create 55 = .ok (.ireturn, 1) := by decide +kernel
theorem dM_isFree_0 : decode cM_isFree 0 = .ok (.iload_n 1, 1) := by decide +kernel
theorem dM_isFree_1 : decode cM_isFree 1 = .ok (.invokestatic 54, 3) := by decide +kernel
theorem dM_isFree_4 : decode cM_isFree 4 = .ok (.ifCond .eq 25, 3) := by decide +kernel
theorem dM_isFree_7 : decode cM_isFree 7 = .ok (.aload_n 0, 1) := by decide +kernel
theorem dM_isFree_8 : decode cM_isFree 8 = .ok (.getfield 13, 3) := by decide +kernel
theorem dM_isFree_11 : decode cM_isFree 11 = .ok (.iload_n 1, 1) := by decide +kernel
theorem dM_isFree_12 : decode cM_isFree 12 = .ok (.iaload, 1) := by decide +kernel
theorem dM_isFree_13 : decode cM_isFree 13 = .ok (.ifCond .ne 16, 3) := by decide +kernel
theorem dM_isFree_16 : decode cM_isFree 16 = .ok (.aload_n 0, 1) := by decide +kernel
theorem dM_isFree_17 : decode cM_isFree 17 = .ok (.getfield 19, 3) := by decide +kernel
theorem dM_isFree_20 : decode cM_isFree 20 = .ok (.iload_n 1, 1) := by decide +kernel
theorem dM_isFree_21 : decode cM_isFree 21 = .ok (.iaload, 1) := by decide +kernel
theorem dM_isFree_22 : decode cM_isFree 22 = .ok (.ifCond .ne 7, 3) := by decide +kernel
theorem dM_isFree_25 : decode cM_isFree 25 = .ok (.iconst 1, 1) := by decide +kernel
theorem dM_isFree_26 : decode cM_isFree 26 = .ok (.goto 4, 3) := by decide +kernel
theorem dM_isFree_29 : decode cM_isFree 29 = .ok (.iconst 0, 1) := by decide +kernel
theorem dM_isFree_30 : decode cM_isFree 30 = .ok (.ireturn, 1) := by decide +kernel
theorem dM_keep_0 : decode cM_keep 0 = .ok (.aload_n 0, 1) := by decide +kernel
theorem dM_keep_1 : decode cM_keep 1 = .ok (.getfield 13, 3) := by decide +kernel
theorem dM_keep_4 : decode cM_keep 4 = .ok (.iload_n 1, 1) := by decide +kernel
theorem dM_keep_5 : decode cM_keep 5 = .ok (.bipush 7, 2) := by decide +kernel
theorem dM_keep_7 : decode cM_keep 7 = .ok (.iastore, 1) := by decide +kernel
theorem dM_keep_8 : decode cM_keep 8 = .ok (.aload_n 0, 1) := by decide +kernel
theorem dM_keep_9 : decode cM_keep 9 = .ok (.getfield 16, 3) := by decide +kernel
theorem dM_keep_12 : decode cM_keep 12 = .ok (.iload_n 1, 1) := by decide +kernel
theorem dM_keep_13 : decode cM_keep 13 = .ok (.iload_n 2, 1) := by decide +kernel
theorem dM_keep_14 : decode cM_keep 14 = .ok (.iastore, 1) := by decide +kernel
theorem dM_keep_15 : decode cM_keep 15 = .ok (.aload_n 0, 1) := by decide +kernel
theorem dM_keep_16 : decode cM_keep 16 = .ok (.iload_n 1, 1) := by decide +kernel
theorem dM_keep_17 : decode cM_keep 17 = .ok (.invokevirtual 81, 3) := by decide +kernel
theorem dM_keep_20 : decode cM_keep 20 = .ok (.aload_n 0, 1) := by decide +kernel
theorem dM_keep_21 : decode cM_keep 21 = .ok (.iload_n 1, 1) := by decide +kernel
theorem dM_keep_22 : decode cM_keep 22 = .ok (.invokevirtual 85, 3) := by decide +kernel
theorem dM_keep_25 : decode cM_keep 25 = .ok (.return_, 1) := by decide +kernel
theorem dM_wipe_0 : decode cM_wipe 0 = .ok (.iconst 0, 1) := by decide +kernel
theorem dM_wipe_1 : decode cM_wipe 1 = .ok (.istore_n 2, 1) := by decide +kernel
theorem dM_wipe_2 : decode cM_wipe 2 = .ok (.iload_n 2, 1) := by decide +kernel
theorem dM_wipe_3 : decode cM_wipe 3 = .ok (.iconst 4, 1) := by decide +kernel
theorem dM_wipe_4 : decode cM_wipe 4 = .ok (.if_icmp .ge 20, 3) := by decide +kernel
theorem dM_wipe_7 : decode cM_wipe 7 = .ok (.aload_n 0, 1) := by decide +kernel
theorem dM_wipe_8 : decode cM_wipe 8 = .ok (.getfield 7, 3) := by decide +kernel
theorem dM_wipe_11 : decode cM_wipe 11 = .ok (.iconst 4, 1) := by decide +kernel
theorem dM_wipe_12 : decode cM_wipe 12 = .ok (.iload_n 1, 1) := by decide +kernel
theorem dM_wipe_13 : decode cM_wipe 13 = .ok (.imul, 1) := by decide +kernel
theorem dM_wipe_14 : decode cM_wipe 14 = .ok (.iload_n 2, 1) := by decide +kernel
theorem dM_wipe_15 : decode cM_wipe 15 = .ok (.iadd, 1) := by decide +kernel
theorem dM_wipe_16 : decode cM_wipe 16 = .ok (.iconst 0, 1) := by decide +kernel
theorem dM_wipe_17 : decode cM_wipe 17 = .ok (.iastore, 1) := by decide +kernel
theorem dM_wipe_18 : decode cM_wipe 18 = .ok (.iinc 2 1, 3) := by decide +kernel
theorem dM_wipe_21 : decode cM_wipe 21 = .ok (.goto (-19), 3) := by decide +kernel
theorem dM_wipe_24 : decode cM_wipe 24 = .ok (.return_, 1) := by decide +kernel
theorem dM_look_0 : decode cM_look 0 = .ok (.aload_n 0, 1) := by decide +kernel
theorem dM_look_1 : decode cM_look 1 = .ok (.getfield 29, 3) := by decide +kernel
theorem dM_look_4 : decode cM_look 4 = .ok (.iload_n 1, 1) := by decide +kernel
theorem dM_look_5 : decode cM_look 5 = .ok (.aload_n 0, 1) := by decide +kernel
theorem dM_look_6 : decode cM_look 6 = .ok (.getfield 29, 3) := by decide +kernel
theorem dM_look_9 : decode cM_look 9 = .ok (.iload_n 1, 1) := by decide +kernel
theorem dM_look_10 : decode cM_look 10 = .ok (.baload, 1) := by decide +kernel
theorem dM_look_11 : decode cM_look 11 = .ok (.ifCond .eq 15, 3) := by decide +kernel
theorem dM_look_14 : decode cM_look 14 = .ok (.aload_n 0, 1) := by decide +kernel
theorem dM_look_15 : decode cM_look 15 = .ok (.iload_n 1, 1) := by decide +kernel
theorem dM_look_16 : decode cM_look 16 = .ok (.invokevirtual 61, 3) := by decide +kernel
theorem dM_look_19 : decode cM_look 19 = .ok (.ifCond .eq 7, 3) := by decide +kernel
theorem dM_look_22 : decode cM_look 22 = .ok (.iconst 1, 1) := by decide +kernel
theorem dM_look_23 : decode cM_look 23 = .ok (.goto 4, 3) := by decide +kernel
theorem dM_look_26 : decode cM_look 26 = .ok (.iconst 0, 1) := by decide +kernel
theorem dM_look_27 : decode cM_look 27 = .ok (.bastore, 1) := by decide +kernel
theorem dM_look_28 : decode cM_look 28 = .ok (.return_, 1) := by decide +kernel
theorem dM_feed_0 : decode cM_feed 0 = .ok (.aload_n 0, 1) := by decide +kernel
theorem dM_feed_1 : decode cM_feed 1 = .ok (.iload_n 1, 1) := by decide +kernel
theorem dM_feed_2 : decode cM_feed 2 = .ok (.invokevirtual 95, 3) := by decide +kernel
theorem dM_feed_5 : decode cM_feed 5 = .ok (.ifCond .ne 5, 3) := by decide +kernel
theorem dM_feed_8 : decode cM_feed 8 = .ok (.iconst (-1), 1) := by decide +kernel
theorem dM_feed_9 : decode cM_feed 9 = .ok (.ireturn, 1) := by decide +kernel
theorem dM_feed_10 : decode cM_feed 10 = .ok (.aload_n 0, 1) := by decide +kernel
theorem dM_feed_11 : decode cM_feed 11 = .ok (.iload_n 2, 1) := by decide +kernel
theorem dM_feed_12 : decode cM_feed 12 = .ok (.invokevirtual 88, 3) := by decide +kernel
theorem dM_feed_15 : decode cM_feed 15 = .ok (.ifCond .ne 6, 3) := by decide +kernel
theorem dM_feed_18 : decode cM_feed 18 = .ok (.bipush (-2), 2) := by decide +kernel
theorem dM_feed_20 : decode cM_feed 20 = .ok (.ireturn, 1) := by decide +kernel
theorem dM_feed_21 : decode cM_feed 21 = .ok (.aload_n 0, 1) := by decide +kernel
theorem dM_feed_22 : decode cM_feed 22 = .ok (.iload_n 2, 1) := by decide +kernel
theorem dM_feed_23 : decode cM_feed 23 = .ok (.iload_n 1, 1) := by decide +kernel
theorem dM_feed_24 : decode cM_feed 24 = .ok (.invokevirtual 91, 3) := by decide +kernel
theorem dM_feed_27 : decode cM_feed 27 = .ok (.aload_n 0, 1) := by decide +kernel
theorem dM_feed_28 : decode cM_feed 28 = .ok (.iload_n 1, 1) := by decide +kernel
theorem dM_feed_29 : decode cM_feed 29 = .ok (.invokevirtual 98, 3) := by decide +kernel
theorem dM_feed_32 : decode cM_feed 32 = .ok (.ireturn, 1) := by decide +kernel
theorem dM_isGuest_0 : decode cM_isGuest 0 = .ok (.iload_n 1, 1) := by decide +kernel
theorem dM_isGuest_1 : decode cM_isGuest 1 = .ok (.iconst 1, 1) := by decide +kernel
theorem dM_isGuest_2 : decode cM_isGuest 2 = .ok (.if_icmp .lt 24, 3) := by decide +kernel
theorem dM_isGuest_5 : decode cM_isGuest 5 = .ok (.iload_n 1, 1) := by decide +kernel
theorem dM_isGuest_6 : decode cM_isGuest 6 = .ok (.aload_n 0, 1) := by decide +kernel
theorem dM_isGuest_7 : decode cM_isGuest 7 = .ok (.getfield 58, 3) := by decide +kernel
theorem dM_isGuest_10 : decode cM_isGuest 10 = .ok (.if_icmp .gt 16, 3) := by decide +kernel
theorem dM_isGuest_13 : decode cM_isGuest 13 = .ok (.aload_n 0, 1) := by decide +kernel
theorem dM_isGuest_14 : decode cM_isGuest 14 = .ok (.getfield 32, 3) := by decide +kernel
theorem dM_isGuest_17 : decode cM_isGuest 17 = .ok (.iload_n 1, 1) := by decide +kernel
theorem dM_isGuest_18 : decode cM_isGuest 18 = .ok (.baload, 1) := by decide +kernel
theorem dM_isGuest_19 : decode cM_isGuest 19 = .ok (.ifCond .eq 7, 3) := by decide +kernel
theorem dM_isGuest_22 : decode cM_isGuest 22 = .ok (.iconst 1, 1) := by decide +kernel
theorem dM_isGuest_23 : decode cM_isGuest 23 = .ok (.goto 4, 3) := by decide +kernel
theorem dM_isGuest_26 : decode cM_isGuest 26 = .ok (.iconst 0, 1) := by decide +kernel
theorem dM_isGuest_27 : decode cM_isGuest 27 = .ok (.ireturn, 1) := by decide +kernel
theorem dM_rest_0 : decode cM_rest 0 = .ok (.iconst 0, 1) := by decide +kernel
theorem dM_rest_1 : decode cM_rest 1 = .ok (.istore_n 2, 1) := by decide +kernel
theorem dM_rest_2 : decode cM_rest 2 = .ok (.iconst 0, 1) := by decide +kernel
theorem dM_rest_3 : decode cM_rest 3 = .ok (.istore_n 3, 1) := by decide +kernel
theorem dM_rest_4 : decode cM_rest 4 = .ok (.iload_n 3, 1) := by decide +kernel
theorem dM_rest_5 : decode cM_rest 5 = .ok (.bipush 24, 2) := by decide +kernel
theorem dM_rest_7 : decode cM_rest 7 = .ok (.if_icmp .ge 38, 3) := by decide +kernel
theorem dM_rest_10 : decode cM_rest 10 = .ok (.aload_n 0, 1) := by decide +kernel
theorem dM_rest_11 : decode cM_rest 11 = .ok (.getfield 13, 3) := by decide +kernel
theorem dM_rest_14 : decode cM_rest 14 = .ok (.iload_n 3, 1) := by decide +kernel
theorem dM_rest_15 : decode cM_rest 15 = .ok (.iaload, 1) := by decide +kernel
theorem dM_rest_16 : decode cM_rest 16 = .ok (.bipush 7, 2) := by decide +kernel
theorem dM_rest_18 : decode cM_rest 18 = .ok (.if_icmp .ne 19, 3) := by decide +kernel
theorem dM_rest_21 : decode cM_rest 21 = .ok (.aload_n 0, 1) := by decide +kernel
theorem dM_rest_22 : decode cM_rest 22 = .ok (.getfield 16, 3) := by decide +kernel
theorem dM_rest_25 : decode cM_rest 25 = .ok (.iload_n 3, 1) := by decide +kernel
