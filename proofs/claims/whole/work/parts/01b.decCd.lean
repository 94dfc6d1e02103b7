theorem dX9_perform_152 : decode cX9_perform 152 = .ok (.iload_n 2, 1) := by decide +kernel
theorem dX9_perform_153 : decode cX9_perform 153 = .ok (.iload_n 3, 1) := by decide +kernel
theorem dX9_perform_154 : decode cX9_perform 154 = .ok (.invokevirtual 346, 3) := by decide +kernel
theorem dX9_perform_157 : decode cX9_perform 157 = .ok (.ireturn, 1) := by decide +kernel
theorem dX9_perform_158 : decode cX9_perform 158 = .ok (.aload 4, 2) := by decide +kernel
theorem dX9_perform_160 : decode cX9_perform 160 = .ok (.iload_n 2, 1) := by decide +kernel
theorem dX9_perform_161 : decode cX9_perform 161 = .ok (.iload_n 3, 1) := by decide +kernel
theorem dX9_perform_162 : decode cX9_perform 162 = .ok (.ineg, 1) := by decide +kernel
theorem dX9_perform_163 : decode cX9_perform 163 = .ok (.invokevirtual 346, 3) := by decide +kernel
theorem dX9_perform_166 : decode cX9_perform 166 = .ok (.ireturn, 1) := by decide +kernel
theorem dX9_perform_167 : decode cX9_perform 167 = .ok (.aload 4, 2) := by decide +kernel
theorem dX9_perform_169 : decode cX9_perform 169 = .ok (.iload_n 2, 1) := by decide +kernel
theorem dX9_perform_170 : decode cX9_perform 170 = .ok (.iload_n 3, 1) := by decide +kernel
theorem dX9_perform_171 : decode cX9_perform 171 = .ok (.aload_n 0, 1) := by decide +kernel
theorem dX9_perform_172 : decode cX9_perform 172 = .ok (.getfield 19, 3) := by decide +kernel
theorem dX9_perform_175 : decode cX9_perform 175 = .ok (.aload 4, 2) := by decide +kernel
theorem dX9_perform_177 : decode cX9_perform 177 = .ok (.aload_n 0, 1) := by decide +kernel
theorem dX9_perform_178 : decode cX9_perform 178 = .ok (.getfield 48, 3) := by decide +kernel
theorem dX9_perform_181 : decode cX9_perform 181 = .ok (.getfield 56, 3) := by decide +kernel
theorem dX9_perform_184 : decode cX9_perform 184 = .ok (.aload_n 0, 1) := by decide +kernel
theorem dX9_perform_185 : decode cX9_perform 185 = .ok (.getfield 48, 3) := by decide +kernel
theorem dX9_perform_188 : decode cX9_perform 188 = .ok (.getfield 217, 3) := by decide +kernel
theorem dX9_perform_191 : decode cX9_perform 191 = .ok (.invokevirtual 304, 3) := by decide +kernel
theorem dX9_perform_194 : decode cX9_perform 194 = .ok (.invokevirtual 349, 3) := by decide +kernel
theorem dX9_perform_197 : decode cX9_perform 197 = .ok (.ireturn, 1) := by decide +kernel
theorem dX9_perform_198 : decode cX9_perform 198 = .ok (.aload_n 0, 1) := by decide +kernel
theorem dX9_perform_199 : decode cX9_perform 199 = .ok (.getfield 19, 3) := by decide +kernel
theorem dX9_perform_202 : decode cX9_perform 202 = .ok (.aload 4, 2) := by decide +kernel
theorem dX9_perform_204 : decode cX9_perform 204 = .ok (.aload_n 0, 1) := by decide +kernel
theorem dX9_perform_205 : decode cX9_perform 205 = .ok (.getfield 48, 3) := by decide +kernel
theorem dX9_perform_208 : decode cX9_perform 208 = .ok (.getfield 56, 3) := by decide +kernel
theorem dX9_perform_211 : decode cX9_perform 211 = .ok (.aload_n 0, 1) := by decide +kernel
theorem dX9_perform_212 : decode cX9_perform 212 = .ok (.getfield 48, 3) := by decide +kernel
theorem dX9_perform_215 : decode cX9_perform 215 = .ok (.getfield 217, 3) := by decide +kernel
theorem dX9_perform_218 : decode cX9_perform 218 = .ok (.invokevirtual 304, 3) := by decide +kernel
theorem dX9_perform_221 : decode cX9_perform 221 = .ok (.pop, 1) := by decide +kernel
theorem dX9_perform_222 : decode cX9_perform 222 = .ok (.aload_n 0, 1) := by decide +kernel
theorem dX9_perform_223 : decode cX9_perform 223 = .ok (.getfield 19, 3) := by decide +kernel
theorem dX9_perform_226 : decode cX9_perform 226 = .ok (.iload_n 2, 1) := by decide +kernel
theorem dX9_perform_227 : decode cX9_perform 227 = .ok (.aload 4, 2) := by decide +kernel
theorem dX9_perform_229 : decode cX9_perform 229 = .ok (.invokevirtual 352, 3) := by decide +kernel
theorem dX9_perform_232 : decode cX9_perform 232 = .ok (.ireturn, 1) := by decide +kernel
theorem dX9_perform_233 : decode cX9_perform 233 = .ok (.aload 4, 2) := by decide +kernel
theorem dX9_perform_235 : decode cX9_perform 235 = .ok (.getfield 170, 3) := by decide +kernel
theorem dX9_perform_238 : decode cX9_perform 238 = .ok (.iload_n 2, 1) := by decide +kernel
theorem dX9_perform_239 : decode cX9_perform 239 = .ok (.iload_n 3, 1) := by decide +kernel
theorem dX9_perform_240 : decode cX9_perform 240 = .ok (.invokestatic 342, 3) := by decide +kernel
theorem dX9_perform_243 : decode cX9_perform 243 = .ok (.ireturn, 1) := by decide +kernel
theorem dX9_perform_244 : decode cX9_perform 244 = .ok (.aload 4, 2) := by decide +kernel
theorem dX9_perform_246 : decode cX9_perform 246 = .ok (.getfield 173, 3) := by decide +kernel
theorem dX9_perform_249 : decode cX9_perform 249 = .ok (.iload_n 2, 1) := by decide +kernel
theorem dX9_perform_250 : decode cX9_perform 250 = .ok (.iload_n 3, 1) := by decide +kernel
theorem dX9_perform_251 : decode cX9_perform 251 = .ok (.invokestatic 342, 3) := by decide +kernel
theorem dX9_perform_254 : decode cX9_perform 254 = .ok (.ireturn, 1) := by decide +kernel
theorem dX9_perform_255 : decode cX9_perform 255 = .ok (.aload 4, 2) := by decide +kernel
theorem dX9_perform_257 : decode cX9_perform 257 = .ok (.iload_n 2, 1) := by decide +kernel
theorem dX9_perform_258 : decode cX9_perform 258 = .ok (.invokevirtual 355, 3) := by decide +kernel
theorem dX9_perform_261 : decode cX9_perform 261 = .ok (.ireturn, 1) := by decide +kernel
theorem dX9_perform_262 : decode cX9_perform 262 = .ok (.ldc 121, 2) := by decide +kernel
theorem dX9_perform_264 : decode cX9_perform 264 = .ok (.ireturn, 1) := by decide +kernel
theorem dX9_remember_0 : decode cX9_remember 0 = .ok (.aload_n 0, 1) := by decide +kernel
theorem dX9_remember_1 : decode cX9_remember 1 = .ok (.getfield 52, 3) := by decide +kernel
theorem dX9_remember_4 : decode cX9_remember 4 = .ok (.aload_n 0, 1) := by decide +kernel
theorem dX9_remember_5 : decode cX9_remember 5 = .ok (.getfield 291, 3) := by decide +kernel
theorem dX9_remember_8 : decode cX9_remember 8 = .ok (.aaload, 1) := by decide +kernel
theorem dX9_remember_9 : decode cX9_remember 9 = .ok (.aload_n 0, 1) := by decide +kernel
theorem dX9_remember_10 : decode cX9_remember 10 = .ok (.getfield 48, 3) := by decide +kernel
theorem dX9_remember_13 : decode cX9_remember 13 = .ok (.invokevirtual 294, 3) := by decide +kernel
theorem dX9_remember_16 : decode cX9_remember 16 = .ok (.aload_n 0, 1) := by decide +kernel
theorem dX9_remember_17 : decode cX9_remember 17 = .ok (.aload_n 0, 1) := by decide +kernel
theorem dX9_remember_18 : decode cX9_remember 18 = .ok (.getfield 291, 3) := by decide +kernel
theorem dX9_remember_21 : decode cX9_remember 21 = .ok (.iconst 1, 1) := by decide +kernel
theorem dX9_remember_22 : decode cX9_remember 22 = .ok (.iadd, 1) := by decide +kernel
theorem dX9_remember_23 : decode cX9_remember 23 = .ok (.bipush 12, 2) := by decide +kernel
theorem dX9_remember_25 : decode cX9_remember 25 = .ok (.irem, 1) := by decide +kernel
theorem dX9_remember_26 : decode cX9_remember 26 = .ok (.putfield 291, 3) := by decide +kernel
theorem dX9_remember_29 : decode cX9_remember 29 = .ok (.aload_n 0, 1) := by decide +kernel
theorem dX9_remember_30 : decode cX9_remember 30 = .ok (.aload_n 0, 1) := by decide +kernel
theorem dX9_remember_31 : decode cX9_remember 31 = .ok (.getfield 167, 3) := by decide +kernel
theorem dX9_remember_34 : decode cX9_remember 34 = .ok (.iconst 1, 1) := by decide +kernel
theorem dX9_remember_35 : decode cX9_remember 35 = .ok (.iadd, 1) := by decide +kernel
theorem dX9_remember_36 : decode cX9_remember 36 = .ok (.bipush 12, 2) := by decide +kernel
theorem dX9_remember_38 : decode cX9_remember 38 = .ok (.invokestatic 358, 3) := by decide +kernel
theorem dX9_remember_41 : decode cX9_remember 41 = .ok (.putfield 167, 3) := by decide +kernel
theorem dX9_remember_44 : decode cX9_remember 44 = .ok (.return_, 1) := by decide +kernel
theorem dX9_tapeWasRead_0 : decode cX9_tapeWasRead 0 = .ok (.aload_n 0, 1) := by decide +kernel
theorem dX9_tapeWasRead_1 : decode cX9_tapeWasRead 1 = .ok (.aload_n 0, 1) := by decide +kernel
theorem dX9_tapeWasRead_2 : decode cX9_tapeWasRead 2 = .ok (.getfield 10, 3) := by decide +kernel
theorem dX9_tapeWasRead_5 : decode cX9_tapeWasRead 5 = .ok (.getfield 361, 3) := by decide +kernel
theorem dX9_tapeWasRead_8 : decode cX9_tapeWasRead 8 = .ok (.putfield 81, 3) := by decide +kernel
theorem dX9_tapeWasRead_11 : decode cX9_tapeWasRead 11 = .ok (.aload_n 0, 1) := by decide +kernel
theorem dX9_tapeWasRead_12 : decode cX9_tapeWasRead 12 = .ok (.getfield 10, 3) := by decide +kernel
theorem dX9_tapeWasRead_15 : decode cX9_tapeWasRead 15 = .ok (.iconst 0, 1) := by decide +kernel
theorem dX9_tapeWasRead_16 : decode cX9_tapeWasRead 16 = .ok (.putfield 85, 3) := by decide +kernel
theorem dX9_tapeWasRead_19 : decode cX9_tapeWasRead 19 = .ok (.return_, 1) := by decide +kernel
theorem dX9_closeOnPaper_0 : decode cX9_closeOnPaper 0 = .ok (.aload_n 0, 1) := by decide +kernel
theorem dX9_closeOnPaper_1 : decode cX9_closeOnPaper 1 = .ok (.getfield 70, 3) := by decide +kernel
theorem dX9_closeOnPaper_4 : decode cX9_closeOnPaper 4 = .ok (.iload_n 1, 1) := by decide +kernel
theorem dX9_closeOnPaper_5 : decode cX9_closeOnPaper 5 = .ok (.invokevirtual 333, 3) := by decide +kernel
theorem dX9_closeOnPaper_8 : decode cX9_closeOnPaper 8 = .ok (.pop, 1) := by decide +kernel
theorem dX9_closeOnPaper_9 : decode cX9_closeOnPaper 9 = .ok (.aload_n 0, 1) := by decide +kernel
theorem dX9_closeOnPaper_10 : decode cX9_closeOnPaper 10 = .ok (.getfield 19, 3) := by decide +kernel
theorem dX9_closeOnPaper_13 : decode cX9_closeOnPaper 13 = .ok (.aload_n 0, 1) := by decide +kernel
theorem dX9_closeOnPaper_14 : decode cX9_closeOnPaper 14 = .ok (.getfield 70, 3) := by decide +kernel
theorem dX9_closeOnPaper_17 : decode cX9_closeOnPaper 17 = .ok (.aload_n 0, 1) := by decide +kernel
theorem dX9_closeOnPaper_18 : decode cX9_closeOnPaper 18 = .ok (.getfield 48, 3) := by decide +kernel
theorem dX9_closeOnPaper_21 : decode cX9_closeOnPaper 21 = .ok (.getfield 56, 3) := by decide +kernel
theorem dX9_closeOnPaper_24 : decode cX9_closeOnPaper 24 = .ok (.aload_n 0, 1) := by decide +kernel
theorem dX9_closeOnPaper_25 : decode cX9_closeOnPaper 25 = .ok (.getfield 48, 3) := by decide +kernel
theorem dX9_closeOnPaper_28 : decode cX9_closeOnPaper 28 = .ok (.getfield 60, 3) := by decide +kernel
theorem dX9_closeOnPaper_31 : decode cX9_closeOnPaper 31 = .ok (.aload_n 0, 1) := by decide +kernel
theorem dX9_closeOnPaper_32 : decode cX9_closeOnPaper 32 = .ok (.getfield 77, 3) := by decide +kernel
theorem dX9_closeOnPaper_35 : decode cX9_closeOnPaper 35 = .ok (.invokevirtual 329, 3) := by decide +kernel
theorem dX9_closeOnPaper_38 : decode cX9_closeOnPaper 38 = .ok (.pop, 1) := by decide +kernel
theorem dX9_closeOnPaper_39 : decode cX9_closeOnPaper 39 = .ok (.return_, 1) := by decide +kernel
theorem dX9_isSum_0 : decode cX9_isSum 0 = .ok (.iload_n 0, 1) := by decide +kernel
theorem dX9_isSum_1 : decode cX9_isSum 1 = .ok (.ifCond .lt 14, 3) := by decide +kernel
theorem dX9_isSum_4 : decode cX9_isSum 4 = .ok (.iload_n 0, 1) := by decide +kernel
theorem dX9_isSum_5 : decode cX9_isSum 5 = .ok (.ldc_w 290, 3) := by decide +kernel
theorem dX9_isSum_8 : decode cX9_isSum 8 = .ok (.if_icmp .gt 7, 3) := by decide +kernel
theorem dX9_isSum_11 : decode cX9_isSum 11 = .ok (.iconst 1, 1) := by decide +kernel
theorem dX9_isSum_12 : decode cX9_isSum 12 = .ok (.goto 4, 3) := by decide +kernel
theorem dX9_isSum_15 : decode cX9_isSum 15 = .ok (.iconst 0, 1) := by decide +kernel
theorem dX9_isSum_16 : decode cX9_isSum 16 = .ok (.ireturn, 1) := by decide +kernel
theorem dX9_replace_0 : decode cX9_replace 0 = .ok (.aload_n 0, 1) := by decide +kernel
theorem dX9_replace_1 : decode cX9_replace 1 = .ok (.iload_n 1, 1) := by decide +kernel
theorem dX9_replace_2 : decode cX9_replace 2 = .ok (.iaload, 1) := by decide +kernel
theorem dX9_replace_3 : decode cX9_replace 3 = .ok (.istore_n 3, 1) := by decide +kernel
theorem dX9_replace_4 : decode cX9_replace 4 = .ok (.aload_n 0, 1) := by decide +kernel
theorem dX9_replace_5 : decode cX9_replace 5 = .ok (.iload_n 1, 1) := by decide +kernel
theorem dX9_replace_6 : decode cX9_replace 6 = .ok (.iload_n 2, 1) := by decide +kernel
theorem dX9_replace_7 : decode cX9_replace 7 = .ok (.iastore, 1) := by decide +kernel
theorem dX9_replace_8 : decode cX9_replace 8 = .ok (.iload_n 3, 1) := by decide +kernel
theorem dX9_replace_9 : decode cX9_replace 9 = .ok (.ireturn, 1) := by decide +kernel
theorem dX9_passOn_0 : decode cX9_passOn 0 = .ok (.aload_n 0, 1) := by decide +kernel
theorem dX9_passOn_1 : decode cX9_passOn 1 = .ok (.iload_n 1, 1) := by decide +kernel
theorem dX9_passOn_2 : decode cX9_passOn 2 = .ok (.iaload, 1) := by decide +kernel
theorem dX9_passOn_3 : decode cX9_passOn 3 = .ok (.i2l, 1) := by decide +kernel
theorem dX9_passOn_4 : decode cX9_passOn 4 = .ok (.iload_n 3, 1) := by decide +kernel
theorem dX9_passOn_5 : decode cX9_passOn 5 = .ok (.i2l, 1) := by decide +kernel
theorem dX9_passOn_6 : decode cX9_passOn 6 = .ok (.lmul, 1) := by decide +kernel
theorem dX9_passOn_7 : decode cX9_passOn 7 = .ok (.ldc2_w 362, 3) := by decide +kernel
theorem dX9_passOn_10 : decode cX9_passOn 10 = .ok (.ldiv, 1) := by decide +kernel
theorem dX9_passOn_11 : decode cX9_passOn 11 = .ok (.l2i, 1) := by decide +kernel
theorem dX9_passOn_12 : decode cX9_passOn 12 = .ok (.istore 4, 2) := by decide +kernel
theorem dX9_passOn_14 : decode cX9_passOn 14 = .ok (.aload_n 0, 1) := by decide +kernel
theorem dX9_passOn_15 : decode cX9_passOn 15 = .ok (.iload_n 1, 1) := by decide +kernel
theorem dX9_passOn_16 : decode cX9_passOn 16 = .ok (.dup2, 1) := by decide +kernel
theorem dX9_passOn_17 : decode cX9_passOn 17 = .ok (.iaload, 1) := by decide +kernel
theorem dX9_passOn_18 : decode cX9_passOn 18 = .ok (.iload 4, 2) := by decide +kernel
theorem dX9_passOn_20 : decode cX9_passOn 20 = .ok (.isub, 1) := by decide +kernel
theorem dX9_passOn_21 : decode cX9_passOn 21 = .ok (.iastore, 1) := by decide +kernel
theorem dX9_passOn_22 : decode cX9_passOn 22 = .ok (.aload_n 0, 1) := by decide +kernel
theorem dX9_passOn_23 : decode cX9_passOn 23 = .ok (.iload_n 2, 1) := by decide +kernel
theorem dX9_passOn_24 : decode cX9_passOn 24 = .ok (.dup2, 1) := by decide +kernel
theorem dX9_passOn_25 : decode cX9_passOn 25 = .ok (.iaload, 1) := by decide +kernel
theorem dX9_passOn_26 : decode cX9_passOn 26 = .ok (.iload 4, 2) := by decide +kernel
theorem dX9_passOn_28 : decode cX9_passOn 28 = .ok (.iadd, 1) := by decide +kernel
theorem dX9_passOn_29 : decode cX9_passOn 29 = .ok (.iastore, 1) := by decide +kernel
theorem dX9_passOn_30 : decode cX9_passOn 30 = .ok (.return_, 1) := by decide +kernel
theorem dX9_total_0 : decode cX9_total 0 = .ok (.iconst 0, 1) := by decide +kernel
theorem dX9_total_1 : decode cX9_total 1 = .ok (.istore_n 1, 1) := by decide +kernel
theorem dX9_total_2 : decode cX9_total 2 = .ok (.iconst 0, 1) := by decide +kernel
theorem dX9_total_3 : decode cX9_total 3 = .ok (.istore_n 2, 1) := by decide +kernel
theorem dX9_total_4 : decode cX9_total 4 = .ok (.iload_n 2, 1) := by decide +kernel
theorem dX9_total_5 : decode cX9_total 5 = .ok (.aload_n 0, 1) := by decide +kernel
theorem dX9_total_6 : decode cX9_total 6 = .ok (.arraylength, 1) := by decide +kernel
theorem dX9_total_7 : decode cX9_total 7 = .ok (.if_icmp .ge 15, 3) := by decide +kernel
theorem dX9_total_10 : decode cX9_total 10 = .ok (.iload_n 1, 1) := by decide +kernel
theorem dX9_total_11 : decode cX9_total 11 = .ok (.aload_n 0, 1) := by decide +kernel
theorem dX9_total_12 : decode cX9_total 12 = .ok (.iload_n 2, 1) := by decide +kernel
theorem dX9_total_13 : decode cX9_total 13 = .ok (.iaload, 1) := by decide +kernel
theorem dX9_total_14 : decode cX9_total 14 = .ok (.iadd, 1) := by decide +kernel
theorem dX9_total_15 : decode cX9_total 15 = .ok (.istore_n 1, 1) := by decide +kernel
theorem dX9_total_16 : decode cX9_total 16 = .ok (.iinc 2 1, 3) := by decide +kernel
theorem dX9_total_19 : decode cX9_total 19 = .ok (.goto (-15), 3) := by decide +kernel
theorem dX9_total_22 : decode cX9_total 22 = .ok (.iload_n 1, 1) := by decide +kernel
theorem dX9_total_23 : decode cX9_total 23 = .ok (.ireturn, 1) := by decide +kernel
theorem dX9_addAll_0 : decode cX9_addAll 0 = .ok (.iconst 0, 1) := by decide +kernel
theorem dX9_addAll_1 : decode cX9_addAll 1 = .ok (.istore_n 2, 1) := by decide +kernel
theorem dX9_addAll_2 : decode cX9_addAll 2 = .ok (.iload_n 2, 1) := by decide +kernel
theorem dX9_addAll_3 : decode cX9_addAll 3 = .ok (.bipush 8, 2) := by decide +kernel
theorem dX9_addAll_5 : decode cX9_addAll 5 = .ok (.if_icmp .ge 18, 3) := by decide +kernel
theorem dX9_addAll_8 : decode cX9_addAll 8 = .ok (.aload_n 0, 1) := by decide +kernel
theorem dX9_addAll_9 : decode cX9_addAll 9 = .ok (.iload_n 2, 1) := by decide +kernel
theorem dX9_addAll_10 : decode cX9_addAll 10 = .ok (.dup2, 1) := by decide +kernel
theorem dX9_addAll_11 : decode cX9_addAll 11 = .ok (.iaload, 1) := by decide +kernel
theorem dX9_addAll_12 : decode cX9_addAll 12 = .ok (.aload_n 1, 1) := by decide +kernel
theorem dX9_addAll_13 : decode cX9_addAll 13 = .ok (.iload_n 2, 1) := by decide +kernel
theorem dX9_addAll_14 : decode cX9_addAll 14 = .ok (.iaload, 1) := by decide +kernel
theorem dX9_addAll_15 : decode cX9_addAll 15 = .ok (.iadd, 1) := by decide +kernel
theorem dX9_addAll_16 : decode cX9_addAll 16 = .ok (.iastore, 1) := by decide +kernel
theorem dX9_addAll_17 : decode cX9_addAll 17 = .ok (.iinc 2 1, 3) := by decide +kernel
theorem dX9_addAll_20 : decode cX9_addAll 20 = .ok (.goto (-18), 3) := by decide +kernel
theorem dX9_addAll_23 : decode cX9_addAll 23 = .ok (.return_, 1) := by decide +kernel
theorem dX9_takeAll_0 : decode cX9_takeAll 0 = .ok (.iconst 0, 1) := by decide +kernel
theorem dX9_takeAll_1 : decode cX9_takeAll 1 = .ok (.istore_n 2, 1) := by decide +kernel
theorem dX9_takeAll_2 : decode cX9_takeAll 2 = .ok (.iload_n 2, 1) := by decide +kernel
theorem dX9_takeAll_3 : decode cX9_takeAll 3 = .ok (.bipush 8, 2) := by decide +kernel
theorem dX9_takeAll_5 : decode cX9_takeAll 5 = .ok (.if_icmp .ge 18, 3) := by decide +kernel
theorem dX9_takeAll_8 : decode cX9_takeAll 8 = .ok (.aload_n 0, 1) := by decide +kernel
theorem dX9_takeAll_9 : decode cX9_takeAll 9 = .ok (.iload_n 2, 1) := by decide +kernel
theorem dX9_takeAll_10 : decode cX9_takeAll 10 = .ok (.dup2, 1) := by decide +kernel
theorem dX9_takeAll_11 : decode cX9_takeAll 11 = .ok (.iaload, 1) := by decide +kernel
theorem dX9_takeAll_12 : decode cX9_takeAll 12 = .ok (.aload_n 1, 1) := by decide +kernel
theorem dX9_takeAll_13 : decode cX9_takeAll 13 = .ok (.iload_n 2, 1) := by decide +kernel
theorem dX9_takeAll_14 : decode cX9_takeAll 14 = .ok (.iaload, 1) := by decide +kernel
theorem dX9_takeAll_15 : decode cX9_takeAll 15 = .ok (.isub, 1) := by decide +kernel
theorem dX9_takeAll_16 : decode cX9_takeAll 16 = .ok (.iastore, 1) := by decide +kernel
theorem dX9_takeAll_17 : decode cX9_takeAll 17 = .ok (.iinc 2 1, 3) := by decide +kernel
theorem dX9_takeAll_20 : decode cX9_takeAll 20 = .ok (.goto (-18), 3) := by decide +kernel
theorem dX9_takeAll_23 : decode cX9_takeAll 23 = .ok (.return_, 1) := by decide +kernel
theorem dX9_copyEight_0 : decode cX9_copyEight 0 = .ok (.aload_n 0, 1) := by decide +kernel
theorem dX9_copyEight_1 : decode cX9_copyEight 1 = .ok (.iconst 0, 1) := by decide +kernel
theorem dX9_copyEight_2 : decode cX9_copyEight 2 = .ok (.aload_n 1, 1) := by decide +kernel
theorem dX9_copyEight_3 : decode cX9_copyEight 3 = .ok (.iconst 0, 1) := by decide +kernel
theorem dX9_copyEight_4 : decode cX9_copyEight 4 = .ok (.bipush 8, 2) := by decide +kernel
theorem dX9_copyEight_6 : decode cX9_copyEight 6 = .ok (.invokestatic 364, 3) := by decide +kernel
theorem dX9_copyEight_9 : decode cX9_copyEight 9 = .ok (.return_, 1) := by decide +kernel
