theorem dM_word_26 : decode cM_word 26 = .ok (.iadd, 1) := by decide +kernel
theorem dM_word_27 : decode cM_word 27 = .ok (.ireturn, 1) := by decide +kernel
theorem dM_turn_0 : decode cM_turn 0 = .ok (.aload_n 0, 1) := by decide +kernel
theorem dM_turn_1 : decode cM_turn 1 = .ok (.iload_n 1, 1) := by decide +kernel
theorem dM_turn_2 : decode cM_turn 2 = .ok (.iload_n 2, 1) := by decide +kernel
theorem dM_turn_3 : decode cM_turn 3 = .ok (.invokevirtual 101, 3) := by decide +kernel
theorem dM_turn_6 : decode cM_turn 6 = .ok (.istore 4, 2) := by decide +kernel
theorem dM_turn_8 : decode cM_turn 8 = .ok (.iload 4, 2) := by decide +kernel
theorem dM_turn_10 : decode cM_turn 10 = .ok (.ifCond .lt 25, 3) := by decide +kernel
theorem dM_turn_13 : decode cM_turn 13 = .ok (.aload_n 0, 1) := by decide +kernel
theorem dM_turn_14 : decode cM_turn 14 = .ok (.getfield 13, 3) := by decide +kernel
theorem dM_turn_17 : decode cM_turn 17 = .ok (.iload 4, 2) := by decide +kernel
theorem dM_turn_19 : decode cM_turn 19 = .ok (.iaload, 1) := by decide +kernel
theorem dM_turn_20 : decode cM_turn 20 = .ok (.iload_n 1, 1) := by decide +kernel
theorem dM_turn_21 : decode cM_turn 21 = .ok (.if_icmp .ne 14, 3) := by decide +kernel
theorem dM_turn_24 : decode cM_turn 24 = .ok (.aload_n 0, 1) := by decide +kernel
theorem dM_turn_25 : decode cM_turn 25 = .ok (.getfield 25, 3) := by decide +kernel
theorem dM_turn_28 : decode cM_turn 28 = .ok (.iload 4, 2) := by decide +kernel
theorem dM_turn_30 : decode cM_turn 30 = .ok (.baload, 1) := by decide +kernel
theorem dM_turn_31 : decode cM_turn 31 = .ok (.iload_n 3, 1) := by decide +kernel
theorem dM_turn_32 : decode cM_turn 32 = .ok (.if_icmp .ne 5, 3) := by decide +kernel
theorem dM_turn_35 : decode cM_turn 35 = .ok (.iconst 0, 1) := by decide +kernel
theorem dM_turn_36 : decode cM_turn 36 = .ok (.ireturn, 1) := by decide +kernel
theorem dM_turn_37 : decode cM_turn 37 = .ok (.aload_n 0, 1) := by decide +kernel
theorem dM_turn_38 : decode cM_turn 38 = .ok (.getfield 25, 3) := by decide +kernel
theorem dM_turn_41 : decode cM_turn 41 = .ok (.iload 4, 2) := by decide +kernel
theorem dM_turn_43 : decode cM_turn 43 = .ok (.iload_n 3, 1) := by decide +kernel
theorem dM_turn_44 : decode cM_turn 44 = .ok (.bastore, 1) := by decide +kernel
theorem dM_turn_45 : decode cM_turn 45 = .ok (.aload_n 0, 1) := by decide +kernel
theorem dM_turn_46 : decode cM_turn 46 = .ok (.iload 4, 2) := by decide +kernel
theorem dM_turn_48 : decode cM_turn 48 = .ok (.invokevirtual 85, 3) := by decide +kernel
theorem dM_turn_51 : decode cM_turn 51 = .ok (.iconst 1, 1) := by decide +kernel
theorem dM_turn_52 : decode cM_turn 52 = .ok (.ireturn, 1) := by decide +kernel
theorem dM_info_0 : decode cM_info 0 = .ok (.aload_n 0, 1) := by decide +kernel
theorem dM_info_1 : decode cM_info 1 = .ok (.getfield 108, 3) := by decide +kernel
theorem dM_info_4 : decode cM_info 4 = .ok (.ireturn, 1) := by decide +kernel
theorem dM_set_0 : decode cM_set 0 = .ok (.iload_n 1, 1) := by decide +kernel
theorem dM_set_1 : decode cM_set 1 = .ok (.ifCond .lt 15, 3) := by decide +kernel
theorem dM_set_4 : decode cM_set 4 = .ok (.iload_n 1, 1) := by decide +kernel
theorem dM_set_5 : decode cM_set 5 = .ok (.iconst 3, 1) := by decide +kernel
theorem dM_set_6 : decode cM_set 6 = .ok (.if_icmp .gt 10, 3) := by decide +kernel
theorem dM_set_9 : decode cM_set 9 = .ok (.aload_n 0, 1) := by decide +kernel
theorem dM_set_10 : decode cM_set 10 = .ok (.getfield 47, 3) := by decide +kernel
theorem dM_set_13 : decode cM_set 13 = .ok (.ifCond .lt 5, 3) := by decide +kernel
theorem dM_set_16 : decode cM_set 16 = .ok (.iconst 0, 1) := by decide +kernel
theorem dM_set_17 : decode cM_set 17 = .ok (.ireturn, 1) := by decide +kernel
theorem dM_set_18 : decode cM_set 18 = .ok (.aload_n 0, 1) := by decide +kernel
theorem dM_set_19 : decode cM_set 19 = .ok (.getfield 51, 3) := by decide +kernel
theorem dM_set_22 : decode cM_set 22 = .ok (.iload_n 1, 1) := by decide +kernel
theorem dM_set_23 : decode cM_set 23 = .ok (.iload_n 2, 1) := by decide +kernel
theorem dM_set_24 : decode cM_set 24 = .ok (.iastore, 1) := by decide +kernel
theorem dM_set_25 : decode cM_set 25 = .ok (.iconst 1, 1) := by decide +kernel
theorem dM_set_26 : decode cM_set 26 = .ok (.ireturn, 1) := by decide +kernel
theorem dM_register_0 : decode cM_register 0 = .ok (.iload_n 1, 1) := by decide +kernel
theorem dM_register_1 : decode cM_register 1 = .ok (.ifCond .lt 15, 3) := by decide +kernel
theorem dM_register_4 : decode cM_register 4 = .ok (.iload_n 1, 1) := by decide +kernel
theorem dM_register_5 : decode cM_register 5 = .ok (.iconst 3, 1) := by decide +kernel
theorem dM_register_6 : decode cM_register 6 = .ok (.if_icmp .gt 10, 3) := by decide +kernel
theorem dM_register_9 : decode cM_register 9 = .ok (.aload_n 0, 1) := by decide +kernel
theorem dM_register_10 : decode cM_register 10 = .ok (.getfield 47, 3) := by decide +kernel
theorem dM_register_13 : decode cM_register 13 = .ok (.ifCond .lt 7, 3) := by decide +kernel
theorem dM_register_16 : decode cM_register 16 = .ok (.iconst 0, 1) := by decide +kernel
theorem dM_register_17 : decode cM_register 17 = .ok (.goto 9, 3) := by decide +kernel
theorem dM_register_20 : decode cM_register 20 = .ok (.aload_n 0, 1) := by decide +kernel
theorem dM_register_21 : decode cM_register 21 = .ok (.getfield 51, 3) := by decide +kernel
theorem dM_register_24 : decode cM_register 24 = .ok (.iload_n 1, 1) := by decide +kernel
theorem dM_register_25 : decode cM_register 25 = .ok (.iaload, 1) := by decide +kernel
theorem dM_register_26 : decode cM_register 26 = .ok (.ireturn, 1) := by decide +kernel
theorem dM_owner_0 : decode cM_owner 0 = .ok (.iload_n 1, 1) := by decide +kernel
theorem dM_owner_1 : decode cM_owner 1 = .ok (.invokestatic 54, 3) := by decide +kernel
theorem dM_owner_4 : decode cM_owner 4 = .ok (.ifCond .eq 12, 3) := by decide +kernel
theorem dM_owner_7 : decode cM_owner 7 = .ok (.aload_n 0, 1) := by decide +kernel
theorem dM_owner_8 : decode cM_owner 8 = .ok (.getfield 13, 3) := by decide +kernel
theorem dM_owner_11 : decode cM_owner 11 = .ok (.iload_n 1, 1) := by decide +kernel
theorem dM_owner_12 : decode cM_owner 12 = .ok (.iaload, 1) := by decide +kernel
theorem dM_owner_13 : decode cM_owner 13 = .ok (.goto 4, 3) := by decide +kernel
theorem dM_owner_16 : decode cM_owner 16 = .ok (.iconst (-1), 1) := by decide +kernel
theorem dM_owner_17 : decode cM_owner 17 = .ok (.ireturn, 1) := by decide +kernel
theorem dM_state_0 : decode cM_state 0 = .ok (.iload_n 1, 1) := by decide +kernel
theorem dM_state_1 : decode cM_state 1 = .ok (.invokestatic 54, 3) := by decide +kernel
theorem dM_state_4 : decode cM_state 4 = .ok (.ifCond .ne 5, 3) := by decide +kernel
theorem dM_state_7 : decode cM_state 7 = .ok (.iconst (-1), 1) := by decide +kernel
theorem dM_state_8 : decode cM_state 8 = .ok (.ireturn, 1) := by decide +kernel
theorem dM_state_9 : decode cM_state 9 = .ok (.aload_n 0, 1) := by decide +kernel
theorem dM_state_10 : decode cM_state 10 = .ok (.getfield 19, 3) := by decide +kernel
theorem dM_state_13 : decode cM_state 13 = .ok (.iload_n 1, 1) := by decide +kernel
theorem dM_state_14 : decode cM_state 14 = .ok (.iaload, 1) := by decide +kernel
theorem dM_state_15 : decode cM_state 15 = .ok (.ifCond .gt 12, 3) := by decide +kernel
theorem dM_state_18 : decode cM_state 18 = .ok (.aload_n 0, 1) := by decide +kernel
theorem dM_state_19 : decode cM_state 19 = .ok (.getfield 25, 3) := by decide +kernel
theorem dM_state_22 : decode cM_state 22 = .ok (.iload_n 1, 1) := by decide +kernel
theorem dM_state_23 : decode cM_state 23 = .ok (.baload, 1) := by decide +kernel
theorem dM_state_24 : decode cM_state 24 = .ok (.ifCond .eq 7, 3) := by decide +kernel
theorem dM_state_27 : decode cM_state 27 = .ok (.iconst 1, 1) := by decide +kernel
theorem dM_state_28 : decode cM_state 28 = .ok (.goto 4, 3) := by decide +kernel
theorem dM_state_31 : decode cM_state 31 = .ok (.iconst 0, 1) := by decide +kernel
theorem dM_state_32 : decode cM_state 32 = .ok (.aload_n 0, 1) := by decide +kernel
theorem dM_state_33 : decode cM_state 33 = .ok (.getfield 29, 3) := by decide +kernel
theorem dM_state_36 : decode cM_state 36 = .ok (.iload_n 1, 1) := by decide +kernel
theorem dM_state_37 : decode cM_state 37 = .ok (.baload, 1) := by decide +kernel
theorem dM_state_38 : decode cM_state 38 = .ok (.ifCond .eq 7, 3) := by decide +kernel
theorem dM_state_41 : decode cM_state 41 = .ok (.iconst 2, 1) := by decide +kernel
theorem dM_state_42 : decode cM_state 42 = .ok (.goto 4, 3) := by decide +kernel
theorem dM_state_45 : decode cM_state 45 = .ok (.iconst 0, 1) := by decide +kernel
theorem dM_state_46 : decode cM_state 46 = .ok (.iadd, 1) := by decide +kernel
theorem dM_state_47 : decode cM_state 47 = .ok (.ireturn, 1) := by decide +kernel
theorem dM_pool_0 : decode cM_pool 0 = .ok (.aload_n 0, 1) := by decide +kernel
theorem dM_pool_1 : decode cM_pool 1 = .ok (.iload_n 1, 1) := by decide +kernel
theorem dM_pool_2 : decode cM_pool 2 = .ok (.invokevirtual 95, 3) := by decide +kernel
theorem dM_pool_5 : decode cM_pool 5 = .ok (.ifCond .eq 11, 3) := by decide +kernel
theorem dM_pool_8 : decode cM_pool 8 = .ok (.aload_n 0, 1) := by decide +kernel
theorem dM_pool_9 : decode cM_pool 9 = .ok (.iload_n 1, 1) := by decide +kernel
theorem dM_pool_10 : decode cM_pool 10 = .ok (.invokevirtual 98, 3) := by decide +kernel
theorem dM_pool_13 : decode cM_pool 13 = .ok (.goto 4, 3) := by decide +kernel
theorem dM_pool_16 : decode cM_pool 16 = .ok (.iconst (-1), 1) := by decide +kernel
theorem dM_pool_17 : decode cM_pool 17 = .ok (.ireturn, 1) := by decide +kernel
theorem dM_tables_0 : decode cM_tables 0 = .ok (.aload_n 0, 1) := by decide +kernel
theorem dM_tables_1 : decode cM_tables 1 = .ok (.iload_n 1, 1) := by decide +kernel
theorem dM_tables_2 : decode cM_tables 2 = .ok (.invokevirtual 95, 3) := by decide +kernel
theorem dM_tables_5 : decode cM_tables 5 = .ok (.ifCond .eq 12, 3) := by decide +kernel
theorem dM_tables_8 : decode cM_tables 8 = .ok (.aload_n 0, 1) := by decide +kernel
theorem dM_tables_9 : decode cM_tables 9 = .ok (.iload_n 1, 1) := by decide +kernel
theorem dM_tables_10 : decode cM_tables 10 = .ok (.iconst (-1), 1) := by decide +kernel
theorem dM_tables_11 : decode cM_tables 11 = .ok (.invokevirtual 68, 3) := by decide +kernel
theorem dM_tables_14 : decode cM_tables 14 = .ok (.goto 4, 3) := by decide +kernel
theorem dM_tables_17 : decode cM_tables 17 = .ok (.iconst (-1), 1) := by decide +kernel
theorem dM_tables_18 : decode cM_tables 18 = .ok (.ireturn, 1) := by decide +kernel
theorem dL_law_0 : decode code 0 = .ok (.new 7, 3) := by decide +kernel
theorem dL_law_3 : decode code 3 = .ok (.dup, 1) := by decide +kernel
theorem dL_law_4 : decode code 4 = .ok (.invokespecial 9, 3) := by decide +kernel
theorem dL_law_7 : decode code 7 = .ok (.astore_n 1, 1) := by decide +kernel
theorem dL_law_8 : decode code 8 = .ok (.new 10, 3) := by decide +kernel
theorem dL_law_11 : decode code 11 = .ok (.dup, 1) := by decide +kernel
theorem dL_law_12 : decode code 12 = .ok (.invokespecial 12, 3) := by decide +kernel
theorem dL_law_15 : decode code 15 = .ok (.astore_n 2, 1) := by decide +kernel
theorem dL_law_16 : decode code 16 = .ok (.iconst 0, 1) := by decide +kernel
theorem dL_law_17 : decode code 17 = .ok (.istore_n 3, 1) := by decide +kernel
theorem dL_law_18 : decode code 18 = .ok (.iload_n 3, 1) := by decide +kernel
theorem dL_law_19 : decode code 19 = .ok (.aload_n 0, 1) := by decide +kernel
theorem dL_law_20 : decode code 20 = .ok (.arraylength, 1) := by decide +kernel
theorem dL_law_21 : decode code 21 = .ok (.iconst 4, 1) := by decide +kernel
theorem dL_law_22 : decode code 22 = .ok (.isub, 1) := by decide +kernel
theorem dL_law_23 : decode code 23 = .ok (.if_icmp .gt 652, 3) := by decide +kernel
theorem dL_law_26 : decode code 26 = .ok (.aload_n 0, 1) := by decide +kernel
theorem dL_law_27 : decode code 27 = .ok (.iload_n 3, 1) := by decide +kernel
theorem dL_law_28 : decode code 28 = .ok (.iaload, 1) := by decide +kernel
theorem dL_law_29 : decode code 29 = .ok (.bipush 31, 2) := by decide +kernel
theorem dL_law_31 : decode code 31 = .ok (.iand, 1) := by decide +kernel
theorem dL_law_32 : decode code 32 = .ok (.tableswitch 637 0 19 #[96, 130, 173, 186, 209, 242, 285, 328, 351, 374, 397, 430, 443, 476, 489, 522, 545, 568, 591, 614], 96) := by decide +kernel
theorem dL_law_128 : decode code 128 = .ok (.aload_n 1, 1) := by decide +kernel
theorem dL_law_129 : decode code 129 = .ok (.aload_n 0, 1) := by decide +kernel
theorem dL_law_130 : decode code 130 = .ok (.iload_n 3, 1) := by decide +kernel
theorem dL_law_131 : decode code 131 = .ok (.iconst 1, 1) := by decide +kernel
theorem dL_law_132 : decode code 132 = .ok (.iadd, 1) := by decide +kernel
theorem dL_law_133 : decode code 133 = .ok (.iaload, 1) := by decide +kernel
theorem dL_law_134 : decode code 134 = .ok (.aload_n 0, 1) := by decide +kernel
theorem dL_law_135 : decode code 135 = .ok (.iload_n 3, 1) := by decide +kernel
theorem dL_law_136 : decode code 136 = .ok (.iconst 2, 1) := by decide +kernel
theorem dL_law_137 : decode code 137 = .ok (.iadd, 1) := by decide +kernel
theorem dL_law_138 : decode code 138 = .ok (.iaload, 1) := by decide +kernel
theorem dL_law_139 : decode code 139 = .ok (.invokevirtual 13, 3) := by decide +kernel
theorem dL_law_142 : decode code 142 = .ok (.aload_n 2, 1) := by decide +kernel
theorem dL_law_143 : decode code 143 = .ok (.aload_n 0, 1) := by decide +kernel
theorem dL_law_144 : decode code 144 = .ok (.iload_n 3, 1) := by decide +kernel
theorem dL_law_145 : decode code 145 = .ok (.iconst 1, 1) := by decide +kernel
theorem dL_law_146 : decode code 146 = .ok (.iadd, 1) := by decide +kernel
theorem dL_law_147 : decode code 147 = .ok (.iaload, 1) := by decide +kernel
theorem dL_law_148 : decode code 148 = .ok (.aload_n 0, 1) := by decide +kernel
theorem dL_law_149 : decode code 149 = .ok (.iload_n 3, 1) := by decide +kernel
theorem dL_law_150 : decode code 150 = .ok (.iconst 2, 1) := by decide +kernel
theorem dL_law_151 : decode code 151 = .ok (.iadd, 1) := by decide +kernel
theorem dL_law_152 : decode code 152 = .ok (.iaload, 1) := by decide +kernel
theorem dL_law_153 : decode code 153 = .ok (.invokevirtual 17, 3) := by decide +kernel
theorem dL_law_156 : decode code 156 = .ok (.lcmp, 1) := by decide +kernel
theorem dL_law_157 : decode code 157 = .ok (.ifCond .eq 512, 3) := by decide +kernel
theorem dL_law_160 : decode code 160 = .ok (.iconst 0, 1) := by decide +kernel
theorem dL_law_161 : decode code 161 = .ok (.ireturn, 1) := by decide +kernel
theorem dL_law_162 : decode code 162 = .ok (.aload_n 1, 1) := by decide +kernel
theorem dL_law_163 : decode code 163 = .ok (.aload_n 0, 1) := by decide +kernel
theorem dL_law_164 : decode code 164 = .ok (.iload_n 3, 1) := by decide +kernel
theorem dL_law_165 : decode code 165 = .ok (.iconst 1, 1) := by decide +kernel
theorem dL_law_166 : decode code 166 = .ok (.iadd, 1) := by decide +kernel
theorem dL_law_167 : decode code 167 = .ok (.iaload, 1) := by decide +kernel
theorem dL_law_168 : decode code 168 = .ok (.aload_n 0, 1) := by decide +kernel
theorem dL_law_169 : decode code 169 = .ok (.iload_n 3, 1) := by decide +kernel
theorem dL_law_170 : decode code 170 = .ok (.iconst 2, 1) := by decide +kernel
theorem dL_law_171 : decode code 171 = .ok (.iadd, 1) := by decide +kernel
theorem dL_law_172 : decode code 172 = .ok (.iaload, 1) := by decide +kernel
theorem dL_law_173 : decode code 173 = .ok (.aload_n 0, 1) := by decide +kernel
theorem dL_law_174 : decode code 174 = .ok (.iload_n 3, 1) := by decide +kernel
theorem dL_law_175 : decode code 175 = .ok (.iconst 3, 1) := by decide +kernel
theorem dL_law_176 : decode code 176 = .ok (.iadd, 1) := by decide +kernel
theorem dL_law_177 : decode code 177 = .ok (.iaload, 1) := by decide +kernel
theorem dL_law_178 : decode code 178 = .ok (.invokevirtual 18, 3) := by decide +kernel
theorem dL_law_181 : decode code 181 = .ok (.aload_n 2, 1) := by decide +kernel
theorem dL_law_182 : decode code 182 = .ok (.aload_n 0, 1) := by decide +kernel
theorem dL_law_183 : decode code 183 = .ok (.iload_n 3, 1) := by decide +kernel
theorem dL_law_184 : decode code 184 = .ok (.iconst 1, 1) := by decide +kernel
theorem dL_law_185 : decode code 185 = .ok (.iadd, 1) := by decide +kernel
theorem dL_law_186 : decode code 186 = .ok (.iaload, 1) := by decide +kernel
theorem dL_law_187 : decode code 187 = .ok (.aload_n 0, 1) := by decide +kernel
theorem dL_law_188 : decode code 188 = .ok (.iload_n 3, 1) := by decide +kernel
theorem dL_law_189 : decode code 189 = .ok (.iconst 2, 1) := by decide +kernel
theorem dL_law_190 : decode code 190 = .ok (.iadd, 1) := by decide +kernel
theorem dL_law_191 : decode code 191 = .ok (.iaload, 1) := by decide +kernel
theorem dL_law_192 : decode code 192 = .ok (.aload_n 0, 1) := by decide +kernel
theorem dL_law_193 : decode code 193 = .ok (.iload_n 3, 1) := by decide +kernel
theorem dL_law_194 : decode code 194 = .ok (.iconst 3, 1) := by decide +kernel
theorem dL_law_195 : decode code 195 = .ok (.iadd, 1) := by decide +kernel
theorem dL_law_196 : decode code 196 = .ok (.iaload, 1) := by decide +kernel
theorem dL_law_197 : decode code 197 = .ok (.invokevirtual 22, 3) := by decide +kernel
theorem dL_law_200 : decode code 200 = .ok (.if_icmp .eq 469, 3) := by decide +kernel
theorem dL_law_203 : decode code 203 = .ok (.iconst 0, 1) := by decide +kernel
theorem dL_law_204 : decode code 204 = .ok (.ireturn, 1) := by decide +kernel
theorem dL_law_205 : decode code 205 = .ok (.aload_n 1, 1) := by decide +kernel
theorem dL_law_206 : decode code 206 = .ok (.invokevirtual 23, 3) := by decide +kernel
theorem dL_law_209 : decode code 209 = .ok (.aload_n 2, 1) := by decide +kernel
theorem dL_law_210 : decode code 210 = .ok (.invokevirtual 27, 3) := by decide +kernel
theorem dL_law_213 : decode code 213 = .ok (.if_icmp .eq 456, 3) := by decide +kernel
theorem dL_law_216 : decode code 216 = .ok (.iconst 0, 1) := by decide +kernel
theorem dL_law_217 : decode code 217 = .ok (.ireturn, 1) := by decide +kernel
theorem dL_law_218 : decode code 218 = .ok (.aload_n 1, 1) := by decide +kernel
theorem dL_law_219 : decode code 219 = .ok (.aload_n 0, 1) := by decide +kernel
theorem dL_law_220 : decode code 220 = .ok (.iload_n 3, 1) := by decide +kernel
theorem dL_law_221 : decode code 221 = .ok (.iconst 1, 1) := by decide +kernel
theorem dL_law_222 : decode code 222 = .ok (.iadd, 1) := by decide +kernel
theorem dL_law_223 : decode code 223 = .ok (.iaload, 1) := by decide +kernel
theorem dL_law_224 : decode code 224 = .ok (.invokevirtual 28, 3) := by decide +kernel
theorem dL_law_227 : decode code 227 = .ok (.aload_n 2, 1) := by decide +kernel
theorem dL_law_228 : decode code 228 = .ok (.aload_n 0, 1) := by decide +kernel
theorem dL_law_229 : decode code 229 = .ok (.iload_n 3, 1) := by decide +kernel
theorem dL_law_230 : decode code 230 = .ok (.iconst 1, 1) := by decide +kernel
theorem dL_law_231 : decode code 231 = .ok (.iadd, 1) := by decide +kernel
theorem dL_law_232 : decode code 232 = .ok (.iaload, 1) := by decide +kernel
theorem dL_law_233 : decode code 233 = .ok (.invokevirtual 32, 3) := by decide +kernel
theorem dL_law_236 : decode code 236 = .ok (.if_icmp .eq 433, 3) := by decide +kernel
theorem dL_law_239 : decode code 239 = .ok (.iconst 0, 1) := by decide +kernel
theorem dL_law_240 : decode code 240 = .ok (.ireturn, 1) := by decide +kernel
theorem dL_law_241 : decode code 241 = .ok (.aload_n 1, 1) := by decide +kernel
theorem dL_law_242 : decode code 242 = .ok (.aload_n 0, 1) := by decide +kernel
theorem dL_law_243 : decode code 243 = .ok (.iload_n 3, 1) := by decide +kernel
theorem dL_law_244 : decode code 244 = .ok (.iconst 1, 1) := by decide +kernel
theorem dL_law_245 : decode code 245 = .ok (.iadd, 1) := by decide +kernel
theorem dL_law_246 : decode code 246 = .ok (.iaload, 1) := by decide +kernel
theorem dL_law_247 : decode code 247 = .ok (.aload_n 0, 1) := by decide +kernel
theorem dL_law_248 : decode code 248 = .ok (.iload_n 3, 1) := by decide +kernel
theorem dL_law_249 : decode code 249 = .ok (.iconst 2, 1) := by decide +kernel
theorem dL_law_250 : decode code 250 = .ok (.iadd, 1) := by decide +kernel
theorem dL_law_251 : decode code 251 = .ok (.iaload, 1) := by decide +kernel
theorem dL_law_252 : decode code 252 = .ok (.invokevirtual 33, 3) := by decide +kernel
theorem dL_law_255 : decode code 255 = .ok (.aload_n 2, 1) := by decide +kernel
theorem dL_law_256 : decode code 256 = .ok (.aload_n 0, 1) := by decide +kernel
theorem dL_law_257 : decode code 257 = .ok (.iload_n 3, 1) := by decide +kernel
theorem dL_law_258 : decode code 258 = .ok (.iconst 1, 1) := by decide +kernel
theorem dL_law_259 : decode code 259 = .ok (.iadd, 1) := by decide +kernel
theorem dL_law_260 : decode code 260 = .ok (.iaload, 1) := by decide +kernel
theorem dL_law_261 : decode code 261 = .ok (.aload_n 0, 1) := by decide +kernel
theorem dL_law_262 : decode code 262 = .ok (.iload_n 3, 1) := by decide +kernel
theorem dL_law_263 : decode code 263 = .ok (.iconst 2, 1) := by decide +kernel
theorem dL_law_264 : decode code 264 = .ok (.iadd, 1) := by decide +kernel
theorem dL_law_265 : decode code 265 = .ok (.iaload, 1) := by decide +kernel
theorem dL_law_266 : decode code 266 = .ok (.invokevirtual 37, 3) := by decide +kernel
theorem dL_law_269 : decode code 269 = .ok (.if_icmp .eq 400, 3) := by decide +kernel
theorem dL_law_272 : decode code 272 = .ok (.iconst 0, 1) := by decide +kernel
theorem dL_law_273 : decode code 273 = .ok (.ireturn, 1) := by decide +kernel
theorem dL_law_274 : decode code 274 = .ok (.aload_n 1, 1) := by decide +kernel
theorem dL_law_275 : decode code 275 = .ok (.aload_n 0, 1) := by decide +kernel
theorem dL_law_276 : decode code 276 = .ok (.iload_n 3, 1) := by decide +kernel
theorem dL_law_277 : decode code 277 = .ok (.iconst 1, 1) := by decide +kernel
theorem dL_law_278 : decode code 278 = .ok (.iadd, 1) := by decide +kernel
theorem dL_law_279 : decode code 279 = .ok (.iaload, 1) := by decide +kernel
theorem dL_law_280 : decode code 280 = .ok (.aload_n 0, 1) := by decide +kernel
theorem dL_law_281 : decode code 281 = .ok (.iload_n 3, 1) := by decide +kernel
theorem dL_law_282 : decode code 282 = .ok (.iconst 2, 1) := by decide +kernel
theorem dL_law_283 : decode code 283 = .ok (.iadd, 1) := by decide +kernel
theorem dL_law_284 : decode code 284 = .ok (.iaload, 1) := by decide +kernel
theorem dL_law_285 : decode code 285 = .ok (.aload_n 0, 1) := by decide +kernel
theorem dL_law_286 : decode code 286 = .ok (.iload_n 3, 1) := by decide +kernel
theorem dL_law_287 : decode code 287 = .ok (.iconst 3, 1) := by decide +kernel
theorem dL_law_288 : decode code 288 = .ok (.iadd, 1) := by decide +kernel
theorem dL_law_289 : decode code 289 = .ok (.iaload, 1) := by decide +kernel
theorem dL_law_290 : decode code 290 = .ok (.invokevirtual 38, 3) := by decide +kernel
theorem dL_law_293 : decode code 293 = .ok (.aload_n 2, 1) := by decide +kernel
theorem dL_law_294 : decode code 294 = .ok (.aload_n 0, 1) := by decide +kernel
theorem dL_law_295 : decode code 295 = .ok (.iload_n 3, 1) := by decide +kernel
theorem dL_law_296 : decode code 296 = .ok (.iconst 1, 1) := by decide +kernel
theorem dL_law_297 : decode code 297 = .ok (.iadd, 1) := by decide +kernel
theorem dL_law_298 : decode code 298 = .ok (.iaload, 1) := by decide +kernel
theorem dL_law_299 : decode code 299 = .ok (.aload_n 0, 1) := by decide +kernel
theorem dL_law_300 : decode code 300 = .ok (.iload_n 3, 1) := by decide +kernel
theorem dL_law_301 : decode code 301 = .ok (.iconst 2, 1) := by decide +kernel
theorem dL_law_302 : decode code 302 = .ok (.iadd, 1) := by decide +kernel
theorem dL_law_303 : decode code 303 = .ok (.iaload, 1) := by decide +kernel
theorem dL_law_304 : decode code 304 = .ok (.aload_n 0, 1) := by decide +kernel
theorem dL_law_305 : decode code 305 = .ok (.iload_n 3, 1) := by decide +kernel
theorem dL_law_306 : decode code 306 = .ok (.iconst 3, 1) := by decide +kernel
theorem dL_law_307 : decode code 307 = .ok (.iadd, 1) := by decide +kernel
theorem dL_law_308 : decode code 308 = .ok (.iaload, 1) := by decide +kernel
theorem dL_law_309 : decode code 309 = .ok (.invokevirtual 42, 3) := by decide +kernel
theorem dL_law_312 : decode code 312 = .ok (.if_icmp .eq 357, 3) := by decide +kernel
theorem dL_law_315 : decode code 315 = .ok (.iconst 0, 1) := by decide +kernel
theorem dL_law_316 : decode code 316 = .ok (.ireturn, 1) := by decide +kernel
theorem dL_law_317 : decode code 317 = .ok (.aload_n 1, 1) := by decide +kernel
theorem dL_law_318 : decode code 318 = .ok (.aload_n 0, 1) := by decide +kernel
theorem dL_law_319 : decode code 319 = .ok (.iload_n 3, 1) := by decide +kernel
theorem dL_law_320 : decode code 320 = .ok (.iconst 1, 1) := by decide +kernel
theorem dL_law_321 : decode code 321 = .ok (.iadd, 1) := by decide +kernel
theorem dL_law_322 : decode code 322 = .ok (.iaload, 1) := by decide +kernel
theorem dL_law_323 : decode code 323 = .ok (.aload_n 0, 1) := by decide +kernel
theorem dL_law_324 : decode code 324 = .ok (.iload_n 3, 1) := by decide +kernel
theorem dL_law_325 : decode code 325 = .ok (.iconst 2, 1) := by decide +kernel
theorem dL_law_326 : decode code 326 = .ok (.iadd, 1) := by decide +kernel
theorem dL_law_327 : decode code 327 = .ok (.iaload, 1) := by decide +kernel
theorem dL_law_328 : decode code 328 = .ok (.aload_n 0, 1) := by decide +kernel
theorem dL_law_329 : decode code 329 = .ok (.iload_n 3, 1) := by decide +kernel
theorem dL_law_330 : decode code 330 = .ok (.iconst 3, 1) := by decide +kernel
theorem dL_law_331 : decode code 331 = .ok (.iadd, 1) := by decide +kernel
theorem dL_law_332 : decode code 332 = .ok (.iaload, 1) := by decide +kernel
theorem dL_law_333 : decode code 333 = .ok (.invokevirtual 43, 3) := by decide +kernel
theorem dL_law_336 : decode code 336 = .ok (.aload_n 2, 1) := by decide +kernel
theorem dL_law_337 : decode code 337 = .ok (.aload_n 0, 1) := by decide +kernel
theorem dL_law_338 : decode code 338 = .ok (.iload_n 3, 1) := by decide +kernel
theorem dL_law_339 : decode code 339 = .ok (.iconst 1, 1) := by decide +kernel
theorem dL_law_340 : decode code 340 = .ok (.iadd, 1) := by decide +kernel
theorem dL_law_341 : decode code 341 = .ok (.iaload, 1) := by decide +kernel
theorem dL_law_342 : decode code 342 = .ok (.aload_n 0, 1) := by decide +kernel
theorem dL_law_343 : decode code 343 = .ok (.iload_n 3, 1) := by decide +kernel
theorem dL_law_344 : decode code 344 = .ok (.iconst 2, 1) := by decide +kernel
theorem dL_law_345 : decode code 345 = .ok (.iadd, 1) := by decide +kernel
theorem dL_law_346 : decode code 346 = .ok (.iaload, 1) := by decide +kernel
theorem dL_law_347 : decode code 347 = .ok (.aload_n 0, 1) := by decide +kernel
theorem dL_law_348 : decode code 348 = .ok (.iload_n 3, 1) := by decide +kernel
theorem dL_law_349 : decode code 349 = .ok (.iconst 3, 1) := by decide +kernel
theorem dL_law_350 : decode code 350 = .ok (.iadd, 1) := by decide +kernel
theorem dL_law_351 : decode code 351 = .ok (.iaload, 1) := by decide +kernel
theorem dL_law_352 : decode code 352 = .ok (.invokevirtual 46, 3) := by decide +kernel
theorem dL_law_355 : decode code 355 = .ok (.if_icmp .eq 314, 3) := by decide +kernel
theorem dL_law_358 : decode code 358 = .ok (.iconst 0, 1) := by decide +kernel
theorem dL_law_359 : decode code 359 = .ok (.ireturn, 1) := by decide +kernel
theorem dL_law_360 : decode code 360 = .ok (.aload_n 1, 1) := by decide +kernel
theorem dL_law_361 : decode code 361 = .ok (.aload_n 0, 1) := by decide +kernel
theorem dL_law_362 : decode code 362 = .ok (.iload_n 3, 1) := by decide +kernel
theorem dL_law_363 : decode code 363 = .ok (.iconst 1, 1) := by decide +kernel
theorem dL_law_364 : decode code 364 = .ok (.iadd, 1) := by decide +kernel
theorem dL_law_365 : decode code 365 = .ok (.iaload, 1) := by decide +kernel
theorem dL_law_366 : decode code 366 = .ok (.invokevirtual 47, 3) := by decide +kernel
theorem dL_law_369 : decode code 369 = .ok (.aload_n 2, 1) := by decide +kernel
theorem dL_law_370 : decode code 370 = .ok (.aload_n 0, 1) := by decide +kernel
theorem dL_law_371 : decode code 371 = .ok (.iload_n 3, 1) := by decide +kernel
theorem dL_law_372 : decode code 372 = .ok (.iconst 1, 1) := by decide +kernel
theorem dL_law_373 : decode code 373 = .ok (.iadd, 1) := by decide +kernel
theorem dL_law_374 : decode code 374 = .ok (.iaload, 1) := by decide +kernel
theorem dL_law_375 : decode code 375 = .ok (.invokevirtual 51, 3) := by decide +kernel
theorem dL_law_378 : decode code 378 = .ok (.if_icmp .eq 291, 3) := by decide +kernel
theorem dL_law_381 : decode code 381 = .ok (.iconst 0, 1) := by decide +kernel
theorem dL_law_382 : decode code 382 = .ok (.ireturn, 1) := by decide +kernel
theorem dL_law_383 : decode code 383 = .ok (.aload_n 1, 1) := by decide +kernel
theorem dL_law_384 : decode code 384 = .ok (.aload_n 0, 1) := by decide +kernel
theorem dL_law_385 : decode code 385 = .ok (.iload_n 3, 1) := by decide +kernel
theorem dL_law_386 : decode code 386 = .ok (.iconst 1, 1) := by decide +kernel
theorem dL_law_387 : decode code 387 = .ok (.iadd, 1) := by decide +kernel
theorem dL_law_388 : decode code 388 = .ok (.iaload, 1) := by decide +kernel
theorem dL_law_389 : decode code 389 = .ok (.invokevirtual 52, 3) := by decide +kernel
theorem dL_law_392 : decode code 392 = .ok (.aload_n 2, 1) := by decide +kernel
theorem dL_law_393 : decode code 393 = .ok (.aload_n 0, 1) := by decide +kernel
theorem dL_law_394 : decode code 394 = .ok (.iload_n 3, 1) := by decide +kernel
theorem dL_law_395 : decode code 395 = .ok (.iconst 1, 1) := by decide +kernel
theorem dL_law_396 : decode code 396 = .ok (.iadd, 1) := by decide +kernel
theorem dL_law_397 : decode code 397 = .ok (.iaload, 1) := by decide +kernel
theorem dL_law_398 : decode code 398 = .ok (.invokevirtual 55, 3) := by decide +kernel
theorem dL_law_401 : decode code 401 = .ok (.if_icmp .eq 268, 3) := by decide +kernel
theorem dL_law_404 : decode code 404 = .ok (.iconst 0, 1) := by decide +kernel
theorem dL_law_405 : decode code 405 = .ok (.ireturn, 1) := by decide +kernel
theorem dL_law_406 : decode code 406 = .ok (.aload_n 1, 1) := by decide +kernel
theorem dL_law_407 : decode code 407 = .ok (.aload_n 0, 1) := by decide +kernel
theorem dL_law_408 : decode code 408 = .ok (.iload_n 3, 1) := by decide +kernel
theorem dL_law_409 : decode code 409 = .ok (.iconst 1, 1) := by decide +kernel
theorem dL_law_410 : decode code 410 = .ok (.iadd, 1) := by decide +kernel
theorem dL_law_411 : decode code 411 = .ok (.iaload, 1) := by decide +kernel
theorem dL_law_412 : decode code 412 = .ok (.invokevirtual 56, 3) := by decide +kernel
theorem dL_law_415 : decode code 415 = .ok (.aload_n 2, 1) := by decide +kernel
theorem dL_law_416 : decode code 416 = .ok (.aload_n 0, 1) := by decide +kernel
theorem dL_law_417 : decode code 417 = .ok (.iload_n 3, 1) := by decide +kernel
theorem dL_law_418 : decode code 418 = .ok (.iconst 1, 1) := by decide +kernel
theorem dL_law_419 : decode code 419 = .ok (.iadd, 1) := by decide +kernel
theorem dL_law_420 : decode code 420 = .ok (.iaload, 1) := by decide +kernel
theorem dL_law_421 : decode code 421 = .ok (.invokevirtual 59, 3) := by decide +kernel
theorem dL_law_424 : decode code 424 = .ok (.if_icmp .eq 245, 3) := by decide +kernel
theorem dL_law_427 : decode code 427 = .ok (.iconst 0, 1) := by decide +kernel
theorem dL_law_428 : decode code 428 = .ok (.ireturn, 1) := by decide +kernel
theorem dL_law_429 : decode code 429 = .ok (.aload_n 1, 1) := by decide +kernel
theorem dL_law_430 : decode code 430 = .ok (.aload_n 0, 1) := by decide +kernel
theorem dL_law_431 : decode code 431 = .ok (.iload_n 3, 1) := by decide +kernel
theorem dL_law_432 : decode code 432 = .ok (.iconst 1, 1) := by decide +kernel
theorem dL_law_433 : decode code 433 = .ok (.iadd, 1) := by decide +kernel
theorem dL_law_434 : decode code 434 = .ok (.iaload, 1) := by decide +kernel
theorem dL_law_435 : decode code 435 = .ok (.aload_n 0, 1) := by decide +kernel
theorem dL_law_436 : decode code 436 = .ok (.iload_n 3, 1) := by decide +kernel
theorem dL_law_437 : decode code 437 = .ok (.iconst 2, 1) := by decide +kernel
theorem dL_law_438 : decode code 438 = .ok (.iadd, 1) := by decide +kernel
theorem dL_law_439 : decode code 439 = .ok (.iaload, 1) := by decide +kernel
theorem dL_law_440 : decode code 440 = .ok (.invokevirtual 60, 3) := by decide +kernel
theorem dL_law_443 : decode code 443 = .ok (.aload_n 2, 1) := by decide +kernel
theorem dL_law_444 : decode code 444 = .ok (.aload_n 0, 1) := by decide +kernel
theorem dL_law_445 : decode code 445 = .ok (.iload_n 3, 1) := by decide +kernel
theorem dL_law_446 : decode code 446 = .ok (.iconst 1, 1) := by decide +kernel
theorem dL_law_447 : decode code 447 = .ok (.iadd, 1) := by decide +kernel
theorem dL_law_448 : decode code 448 = .ok (.iaload, 1) := by decide +kernel
theorem dL_law_449 : decode code 449 = .ok (.aload_n 0, 1) := by decide +kernel
theorem dL_law_450 : decode code 450 = .ok (.iload_n 3, 1) := by decide +kernel
theorem dL_law_451 : decode code 451 = .ok (.iconst 2, 1) := by decide +kernel
theorem dL_law_452 : decode code 452 = .ok (.iadd, 1) := by decide +kernel
theorem dL_law_453 : decode code 453 = .ok (.iaload, 1) := by decide +kernel
theorem dL_law_454 : decode code 454 = .ok (.invokevirtual 64, 3) := by decide +kernel
theorem dL_law_457 : decode code 457 = .ok (.if_icmp .eq 212, 3) := by decide +kernel
theorem dL_law_460 : decode code 460 = .ok (.iconst 0, 1) := by decide +kernel
theorem dL_law_461 : decode code 461 = .ok (.ireturn, 1) := by decide +kernel
theorem dL_law_462 : decode code 462 = .ok (.aload_n 1, 1) := by decide +kernel
theorem dL_law_463 : decode code 463 = .ok (.invokevirtual 65, 3) := by decide +kernel
theorem dL_law_466 : decode code 466 = .ok (.aload_n 2, 1) := by decide +kernel
theorem dL_law_467 : decode code 467 = .ok (.invokevirtual 69, 3) := by decide +kernel
theorem dL_law_470 : decode code 470 = .ok (.if_icmp .eq 199, 3) := by decide +kernel
theorem dL_law_473 : decode code 473 = .ok (.iconst 0, 1) := by decide +kernel
theorem dL_law_474 : decode code 474 = .ok (.ireturn, 1) := by decide +kernel
theorem dL_law_475 : decode code 475 = .ok (.aload_n 1, 1) := by decide +kernel
theorem dL_law_476 : decode code 476 = .ok (.aload_n 0, 1) := by decide +kernel
theorem dL_law_477 : decode code 477 = .ok (.iload_n 3, 1) := by decide +kernel
theorem dL_law_478 : decode code 478 = .ok (.iconst 1, 1) := by decide +kernel
theorem dL_law_479 : decode code 479 = .ok (.iadd, 1) := by decide +kernel
theorem dL_law_480 : decode code 480 = .ok (.iaload, 1) := by decide +kernel
theorem dL_law_481 : decode code 481 = .ok (.aload_n 0, 1) := by decide +kernel
theorem dL_law_482 : decode code 482 = .ok (.iload_n 3, 1) := by decide +kernel
theorem dL_law_483 : decode code 483 = .ok (.iconst 2, 1) := by decide +kernel
theorem dL_law_484 : decode code 484 = .ok (.iadd, 1) := by decide +kernel
theorem dL_law_485 : decode code 485 = .ok (.iaload, 1) := by decide +kernel
theorem dL_law_486 : decode code 486 = .ok (.invokevirtual 70, 3) := by decide +kernel
theorem dL_law_489 : decode code 489 = .ok (.aload_n 2, 1) := by decide +kernel
theorem dL_law_490 : decode code 490 = .ok (.aload_n 0, 1) := by decide +kernel
theorem dL_law_491 : decode code 491 = .ok (.iload_n 3, 1) := by decide +kernel
theorem dL_law_492 : decode code 492 = .ok (.iconst 1, 1) := by decide +kernel
theorem dL_law_493 : decode code 493 = .ok (.iadd, 1) := by decide +kernel
theorem dL_law_494 : decode code 494 = .ok (.iaload, 1) := by decide +kernel
theorem dL_law_495 : decode code 495 = .ok (.aload_n 0, 1) := by decide +kernel
theorem dL_law_496 : decode code 496 = .ok (.iload_n 3, 1) := by decide +kernel
theorem dL_law_497 : decode code 497 = .ok (.iconst 2, 1) := by decide +kernel
theorem dL_law_498 : decode code 498 = .ok (.iadd, 1) := by decide +kernel
theorem dL_law_499 : decode code 499 = .ok (.iaload, 1) := by decide +kernel
theorem dL_law_500 : decode code 500 = .ok (.invokevirtual 73, 3) := by decide +kernel
theorem dL_law_503 : decode code 503 = .ok (.if_icmp .eq 166, 3) := by decide +kernel
theorem dL_law_506 : decode code 506 = .ok (.iconst 0, 1) := by decide +kernel
theorem dL_law_507 : decode code 507 = .ok (.ireturn, 1) := by decide +kernel
theorem dL_law_508 : decode code 508 = .ok (.aload_n 1, 1) := by decide +kernel
theorem dL_law_509 : decode code 509 = .ok (.invokevirtual 74, 3) := by decide +kernel
theorem dL_law_512 : decode code 512 = .ok (.aload_n 2, 1) := by decide +kernel
theorem dL_law_513 : decode code 513 = .ok (.invokevirtual 77, 3) := by decide +kernel
theorem dL_law_516 : decode code 516 = .ok (.if_icmp .eq 153, 3) := by decide +kernel
theorem dL_law_519 : decode code 519 = .ok (.iconst 0, 1) := by decide +kernel
theorem dL_law_520 : decode code 520 = .ok (.ireturn, 1) := by decide +kernel
theorem dL_law_521 : decode code 521 = .ok (.aload_n 1, 1) := by decide +kernel
theorem dL_law_522 : decode code 522 = .ok (.aload_n 0, 1) := by decide +kernel
theorem dL_law_523 : decode code 523 = .ok (.iload_n 3, 1) := by decide +kernel
theorem dL_law_524 : decode code 524 = .ok (.iconst 1, 1) := by decide +kernel
theorem dL_law_525 : decode code 525 = .ok (.iadd, 1) := by decide +kernel
theorem dL_law_526 : decode code 526 = .ok (.iaload, 1) := by decide +kernel
theorem dL_law_527 : decode code 527 = .ok (.aload_n 0, 1) := by decide +kernel
theorem dL_law_528 : decode code 528 = .ok (.iload_n 3, 1) := by decide +kernel
theorem dL_law_529 : decode code 529 = .ok (.iconst 2, 1) := by decide +kernel
theorem dL_law_530 : decode code 530 = .ok (.iadd, 1) := by decide +kernel
theorem dL_law_531 : decode code 531 = .ok (.iaload, 1) := by decide +kernel
theorem dL_law_532 : decode code 532 = .ok (.invokevirtual 78, 3) := by decide +kernel
theorem dL_law_535 : decode code 535 = .ok (.aload_n 2, 1) := by decide +kernel
theorem dL_law_536 : decode code 536 = .ok (.aload_n 0, 1) := by decide +kernel
theorem dL_law_537 : decode code 537 = .ok (.iload_n 3, 1) := by decide +kernel
theorem dL_law_538 : decode code 538 = .ok (.iconst 1, 1) := by decide +kernel
theorem dL_law_539 : decode code 539 = .ok (.iadd, 1) := by decide +kernel
theorem dL_law_540 : decode code 540 = .ok (.iaload, 1) := by decide +kernel
theorem dL_law_541 : decode code 541 = .ok (.aload_n 0, 1) := by decide +kernel
theorem dL_law_542 : decode code 542 = .ok (.iload_n 3, 1) := by decide +kernel
theorem dL_law_543 : decode code 543 = .ok (.iconst 2, 1) := by decide +kernel
theorem dL_law_544 : decode code 544 = .ok (.iadd, 1) := by decide +kernel
theorem dL_law_545 : decode code 545 = .ok (.iaload, 1) := by decide +kernel
theorem dL_law_546 : decode code 546 = .ok (.invokevirtual 81, 3) := by decide +kernel
theorem dL_law_549 : decode code 549 = .ok (.if_icmp .eq 120, 3) := by decide +kernel
theorem dL_law_552 : decode code 552 = .ok (.iconst 0, 1) := by decide +kernel
theorem dL_law_553 : decode code 553 = .ok (.ireturn, 1) := by decide +kernel
theorem dL_law_554 : decode code 554 = .ok (.aload_n 1, 1) := by decide +kernel
theorem dL_law_555 : decode code 555 = .ok (.aload_n 0, 1) := by decide +kernel
theorem dL_law_556 : decode code 556 = .ok (.iload_n 3, 1) := by decide +kernel
theorem dL_law_557 : decode code 557 = .ok (.iconst 1, 1) := by decide +kernel
theorem dL_law_558 : decode code 558 = .ok (.iadd, 1) := by decide +kernel
theorem dL_law_559 : decode code 559 = .ok (.iaload, 1) := by decide +kernel
theorem dL_law_560 : decode code 560 = .ok (.invokevirtual 82, 3) := by decide +kernel
theorem dL_law_563 : decode code 563 = .ok (.aload_n 2, 1) := by decide +kernel
theorem dL_law_564 : decode code 564 = .ok (.aload_n 0, 1) := by decide +kernel
theorem dL_law_565 : decode code 565 = .ok (.iload_n 3, 1) := by decide +kernel
theorem dL_law_566 : decode code 566 = .ok (.iconst 1, 1) := by decide +kernel
theorem dL_law_567 : decode code 567 = .ok (.iadd, 1) := by decide +kernel
theorem dL_law_568 : decode code 568 = .ok (.iaload, 1) := by decide +kernel
theorem dL_law_569 : decode code 569 = .ok (.invokevirtual 85, 3) := by decide +kernel
theorem dL_law_572 : decode code 572 = .ok (.if_icmp .eq 97, 3) := by decide +kernel
theorem dL_law_575 : decode code 575 = .ok (.iconst 0, 1) := by decide +kernel
theorem dL_law_576 : decode code 576 = .ok (.ireturn, 1) := by decide +kernel
theorem dL_law_577 : decode code 577 = .ok (.aload_n 1, 1) := by decide +kernel
theorem dL_law_578 : decode code 578 = .ok (.aload_n 0, 1) := by decide +kernel
theorem dL_law_579 : decode code 579 = .ok (.iload_n 3, 1) := by decide +kernel
theorem dL_law_580 : decode code 580 = .ok (.iconst 1, 1) := by decide +kernel
theorem dL_law_581 : decode code 581 = .ok (.iadd, 1) := by decide +kernel
theorem dL_law_582 : decode code 582 = .ok (.iaload, 1) := by decide +kernel
theorem dL_law_583 : decode code 583 = .ok (.invokevirtual 86, 3) := by decide +kernel
theorem dL_law_586 : decode code 586 = .ok (.aload_n 2, 1) := by decide +kernel
theorem dL_law_587 : decode code 587 = .ok (.aload_n 0, 1) := by decide +kernel
theorem dL_law_588 : decode code 588 = .ok (.iload_n 3, 1) := by decide +kernel
theorem dL_law_589 : decode code 589 = .ok (.iconst 1, 1) := by decide +kernel
theorem dL_law_590 : decode code 590 = .ok (.iadd, 1) := by decide +kernel
theorem dL_law_591 : decode code 591 = .ok (.iaload, 1) := by decide +kernel
theorem dL_law_592 : decode code 592 = .ok (.invokevirtual 89, 3) := by decide +kernel
theorem dL_law_595 : decode code 595 = .ok (.if_icmp .eq 74, 3) := by decide +kernel
theorem dL_law_598 : decode code 598 = .ok (.iconst 0, 1) := by decide +kernel
theorem dL_law_599 : decode code 599 = .ok (.ireturn, 1) := by decide +kernel
theorem dL_law_600 : decode code 600 = .ok (.aload_n 1, 1) := by decide +kernel
theorem dL_law_601 : decode code 601 = .ok (.aload_n 0, 1) := by decide +kernel
theorem dL_law_602 : decode code 602 = .ok (.iload_n 3, 1) := by decide +kernel
theorem dL_law_603 : decode code 603 = .ok (.iconst 1, 1) := by decide +kernel
theorem dL_law_604 : decode code 604 = .ok (.iadd, 1) := by decide +kernel
theorem dL_law_605 : decode code 605 = .ok (.iaload, 1) := by decide +kernel
theorem dL_law_606 : decode code 606 = .ok (.invokevirtual 90, 3) := by decide +kernel
theorem dL_law_609 : decode code 609 = .ok (.aload_n 2, 1) := by decide +kernel
theorem dL_law_610 : decode code 610 = .ok (.aload_n 0, 1) := by decide +kernel
theorem dL_law_611 : decode code 611 = .ok (.iload_n 3, 1) := by decide +kernel
theorem dL_law_612 : decode code 612 = .ok (.iconst 1, 1) := by decide +kernel
theorem dL_law_613 : decode code 613 = .ok (.iadd, 1) := by decide +kernel
theorem dL_law_614 : decode code 614 = .ok (.iaload, 1) := by decide +kernel
theorem dL_law_615 : decode code 615 = .ok (.invokevirtual 93, 3) := by decide +kernel
theorem dL_law_618 : decode code 618 = .ok (.if_icmp .eq 51, 3) := by decide +kernel
theorem dL_law_621 : decode code 621 = .ok (.iconst 0, 1) := by decide +kernel
theorem dL_law_622 : decode code 622 = .ok (.ireturn, 1) := by decide +kernel
theorem dL_law_623 : decode code 623 = .ok (.aload_n 1, 1) := by decide +kernel
theorem dL_law_624 : decode code 624 = .ok (.aload_n 0, 1) := by decide +kernel
theorem dL_law_625 : decode code 625 = .ok (.iload_n 3, 1) := by decide +kernel
theorem dL_law_626 : decode code 626 = .ok (.iconst 1, 1) := by decide +kernel
theorem dL_law_627 : decode code 627 = .ok (.iadd, 1) := by decide +kernel
theorem dL_law_628 : decode code 628 = .ok (.iaload, 1) := by decide +kernel
theorem dL_law_629 : decode code 629 = .ok (.invokevirtual 94, 3) := by decide +kernel
theorem dL_law_632 : decode code 632 = .ok (.aload_n 2, 1) := by decide +kernel
theorem dL_law_633 : decode code 633 = .ok (.aload_n 0, 1) := by decide +kernel
theorem dL_law_634 : decode code 634 = .ok (.iload_n 3, 1) := by decide +kernel
theorem dL_law_635 : decode code 635 = .ok (.iconst 1, 1) := by decide +kernel
theorem dL_law_636 : decode code 636 = .ok (.iadd, 1) := by decide +kernel
theorem dL_law_637 : decode code 637 = .ok (.iaload, 1) := by decide +kernel
theorem dL_law_638 : decode code 638 = .ok (.invokevirtual 97, 3) := by decide +kernel
theorem dL_law_641 : decode code 641 = .ok (.if_icmp .eq 28, 3) := by decide +kernel
theorem dL_law_644 : decode code 644 = .ok (.iconst 0, 1) := by decide +kernel
theorem dL_law_645 : decode code 645 = .ok (.ireturn, 1) := by decide +kernel
theorem dL_law_646 : decode code 646 = .ok (.aload_n 1, 1) := by decide +kernel
theorem dL_law_647 : decode code 647 = .ok (.aload_n 0, 1) := by decide +kernel
theorem dL_law_648 : decode code 648 = .ok (.iload_n 3, 1) := by decide +kernel
theorem dL_law_649 : decode code 649 = .ok (.iconst 1, 1) := by decide +kernel
theorem dL_law_650 : decode code 650 = .ok (.iadd, 1) := by decide +kernel
theorem dL_law_651 : decode code 651 = .ok (.iaload, 1) := by decide +kernel
theorem dL_law_652 : decode code 652 = .ok (.invokevirtual 98, 3) := by decide +kernel
theorem dL_law_655 : decode code 655 = .ok (.aload_n 2, 1) := by decide +kernel
theorem dL_law_656 : decode code 656 = .ok (.aload_n 0, 1) := by decide +kernel
theorem dL_law_657 : decode code 657 = .ok (.iload_n 3, 1) := by decide +kernel
theorem dL_law_658 : decode code 658 = .ok (.iconst 1, 1) := by decide +kernel
theorem dL_law_659 : decode code 659 = .ok (.iadd, 1) := by decide +kernel
theorem dL_law_660 : decode code 660 = .ok (.iaload, 1) := by decide +kernel
theorem dL_law_661 : decode code 661 = .ok (.invokevirtual 101, 3) := by decide +kernel
theorem dL_law_664 : decode code 664 = .ok (.if_icmp .eq 5, 3) := by decide +kernel
theorem dL_law_667 : decode code 667 = .ok (.iconst 0, 1) := by decide +kernel
theorem dL_law_668 : decode code 668 = .ok (.ireturn, 1) := by decide +kernel
theorem dL_law_669 : decode code 669 = .ok (.iinc 3 4, 3) := by decide +kernel
theorem dL_law_672 : decode code 672 = .ok (.goto (-654), 3) := by decide +kernel
theorem dL_law_675 : decode code 675 = .ok (.iconst 1, 1) := by decide +kernel
theorem dL_law_676 : decode code 676 = .ok (.ireturn, 1) := by decide +kernel
