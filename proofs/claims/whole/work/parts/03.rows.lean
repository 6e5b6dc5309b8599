theorem dX0_init_0 : decode cX0_init 0 = .ok (.aload_n 0, 1) := by decide +kernel
theorem dX0_init_1 : decode cX0_init 1 = .ok (.invokespecial 3, 3) := by decide +kernel
theorem dX0_init_4 : decode cX0_init 4 = .ok (.aload_n 0, 1) := by decide +kernel
theorem dX0_init_5 : decode cX0_init 5 = .ok (.bipush 20, 2) := by decide +kernel
theorem dX0_init_7 : decode cX0_init 7 = .ok (.newarray .int, 2) := by decide +kernel
theorem dX0_init_9 : decode cX0_init 9 = .ok (.putfield 9, 3) := by decide +kernel
theorem dX0_init_12 : decode cX0_init 12 = .ok (.return_, 1) := by decide +kernel
theorem dX0_rest_0 : decode cX0_rest 0 = .ok (.aload_n 0, 1) := by decide +kernel
theorem dX0_rest_1 : decode cX0_rest 1 = .ok (.iconst 0, 1) := by decide +kernel
theorem dX0_rest_2 : decode cX0_rest 2 = .ok (.putfield 15, 3) := by decide +kernel
theorem dX0_rest_5 : decode cX0_rest 5 = .ok (.return_, 1) := by decide +kernel
theorem dX0_perform_0 : decode cX0_perform 0 = .ok (.aload_n 0, 1) := by decide +kernel
theorem dX0_perform_1 : decode cX0_perform 1 = .ok (.iconst 0, 1) := by decide +kernel
theorem dX0_perform_2 : decode cX0_perform 2 = .ok (.putfield 15, 3) := by decide +kernel
theorem dX0_perform_5 : decode cX0_perform 5 = .ok (.aload_n 0, 1) := by decide +kernel
theorem dX0_perform_6 : decode cX0_perform 6 = .ok (.iload_n 2, 1) := by decide +kernel
theorem dX0_perform_7 : decode cX0_perform 7 = .ok (.putfield 19, 3) := by decide +kernel
theorem dX0_perform_10 : decode cX0_perform 10 = .ok (.aload_n 0, 1) := by decide +kernel
theorem dX0_perform_11 : decode cX0_perform 11 = .ok (.aload_n 1, 1) := by decide +kernel
theorem dX0_perform_12 : decode cX0_perform 12 = .ok (.getfield 22, 3) := by decide +kernel
theorem dX0_perform_15 : decode cX0_perform 15 = .ok (.putfield 27, 3) := by decide +kernel
theorem dX0_perform_18 : decode cX0_perform 18 = .ok (.aload_n 0, 1) := by decide +kernel
theorem dX0_perform_19 : decode cX0_perform 19 = .ok (.aload_n 1, 1) := by decide +kernel
theorem dX0_perform_20 : decode cX0_perform 20 = .ok (.getfield 28, 3) := by decide +kernel
theorem dX0_perform_23 : decode cX0_perform 23 = .ok (.putfield 31, 3) := by decide +kernel
theorem dX0_perform_26 : decode cX0_perform 26 = .ok (.aload_n 0, 1) := by decide +kernel
theorem dX0_perform_27 : decode cX0_perform 27 = .ok (.aload_n 0, 1) := by decide +kernel
theorem dX0_perform_28 : decode cX0_perform 28 = .ok (.getfield 27, 3) := by decide +kernel
theorem dX0_perform_31 : decode cX0_perform 31 = .ok (.iload_n 3, 1) := by decide +kernel
theorem dX0_perform_32 : decode cX0_perform 32 = .ok (.iload 4, 2) := by decide +kernel
theorem dX0_perform_34 : decode cX0_perform 34 = .ok (.iconst 0, 1) := by decide +kernel
theorem dX0_perform_35 : decode cX0_perform 35 = .ok (.invokevirtual 32, 3) := by decide +kernel
theorem dX0_perform_38 : decode cX0_perform 38 = .ok (.ireturn, 1) := by decide +kernel
theorem dX0_send_0 : decode cX0_send 0 = .ok (.iload_n 1, 1) := by decide +kernel
theorem dX0_send_1 : decode cX0_send 1 = .ok (.istore 5, 2) := by decide +kernel
theorem dX0_send_3 : decode cX0_send 3 = .ok (.iconst 0, 1) := by decide +kernel
theorem dX0_send_4 : decode cX0_send 4 = .ok (.istore 6, 2) := by decide +kernel
theorem dX0_send_6 : decode cX0_send 6 = .ok (.iload 6, 2) := by decide +kernel
theorem dX0_send_8 : decode cX0_send 8 = .ok (.bipush 7, 2) := by decide +kernel
theorem dX0_send_10 : decode cX0_send 10 = .ok (.if_icmp .ge 65, 3) := by decide +kernel
theorem dX0_send_13 : decode cX0_send 13 = .ok (.iload 5, 2) := by decide +kernel
theorem dX0_send_15 : decode cX0_send 15 = .ok (.iconst (-1), 1) := by decide +kernel
theorem dX0_send_16 : decode cX0_send 16 = .ok (.if_icmp .eq 59, 3) := by decide +kernel
theorem dX0_send_19 : decode cX0_send 19 = .ok (.getstatic 36, 3) := by decide +kernel
theorem dX0_send_22 : decode cX0_send 22 = .ok (.iload 5, 2) := by decide +kernel
theorem dX0_send_24 : decode cX0_send 24 = .ok (.iconst 3, 1) := by decide +kernel
theorem dX0_send_25 : decode cX0_send 25 = .ok (.imul, 1) := by decide +kernel
theorem dX0_send_26 : decode cX0_send 26 = .ok (.iload_n 2, 1) := by decide +kernel
theorem dX0_send_27 : decode cX0_send 27 = .ok (.iadd, 1) := by decide +kernel
theorem dX0_send_28 : decode cX0_send 28 = .ok (.iaload, 1) := by decide +kernel
theorem dX0_send_29 : decode cX0_send 29 = .ok (.istore 7, 2) := by decide +kernel
theorem dX0_send_31 : decode cX0_send 31 = .ok (.iload 7, 2) := by decide +kernel
theorem dX0_send_33 : decode cX0_send 33 = .ok (.iconst (-1), 1) := by decide +kernel
theorem dX0_send_34 : decode cX0_send 34 = .ok (.if_icmp .eq 28, 3) := by decide +kernel
theorem dX0_send_37 : decode cX0_send 37 = .ok (.iload 4, 2) := by decide +kernel
theorem dX0_send_39 : decode cX0_send 39 = .ok (.bipush 16, 2) := by decide +kernel
theorem dX0_send_41 : decode cX0_send 41 = .ok (.if_icmp .ge 19, 3) := by decide +kernel
theorem dX0_send_44 : decode cX0_send 44 = .ok (.aload_n 0, 1) := by decide +kernel
theorem dX0_send_45 : decode cX0_send 45 = .ok (.iload 7, 2) := by decide +kernel
theorem dX0_send_47 : decode cX0_send 47 = .ok (.iload 5, 2) := by decide +kernel
theorem dX0_send_49 : decode cX0_send 49 = .ok (.iload_n 3, 1) := by decide +kernel
theorem dX0_send_50 : decode cX0_send 50 = .ok (.iload 4, 2) := by decide +kernel
theorem dX0_send_52 : decode cX0_send 52 = .ok (.iconst 1, 1) := by decide +kernel
theorem dX0_send_53 : decode cX0_send 53 = .ok (.iadd, 1) := by decide +kernel
theorem dX0_send_54 : decode cX0_send 54 = .ok (.invokevirtual 39, 3) := by decide +kernel
theorem dX0_send_57 : decode cX0_send 57 = .ok (.goto 4, 3) := by decide +kernel
theorem dX0_send_60 : decode cX0_send 60 = .ok (.iconst 0, 1) := by decide +kernel
theorem dX0_send_61 : decode cX0_send 61 = .ok (.ireturn, 1) := by decide +kernel
theorem dX0_send_62 : decode cX0_send 62 = .ok (.iload 5, 2) := by decide +kernel
theorem dX0_send_64 : decode cX0_send 64 = .ok (.invokestatic 42, 3) := by decide +kernel
theorem dX0_send_67 : decode cX0_send 67 = .ok (.istore 5, 2) := by decide +kernel
theorem dX0_send_69 : decode cX0_send 69 = .ok (.iinc 6 1, 3) := by decide +kernel
theorem dX0_send_72 : decode cX0_send 72 = .ok (.goto (-66), 3) := by decide +kernel
theorem dX0_send_75 : decode cX0_send 75 = .ok (.iconst 0, 1) := by decide +kernel
theorem dX0_send_76 : decode cX0_send 76 = .ok (.ireturn, 1) := by decide +kernel
theorem dX0_run_0 : decode cX0_run 0 = .ok (.aload_n 0, 1) := by decide +kernel
theorem dX0_run_1 : decode cX0_run 1 = .ok (.iload_n 1, 1) := by decide +kernel
theorem dX0_run_2 : decode cX0_run 2 = .ok (.invokevirtual 46, 3) := by decide +kernel
theorem dX0_run_5 : decode cX0_run 5 = .ok (.iload_n 2, 1) := by decide +kernel
theorem dX0_run_6 : decode cX0_run 6 = .ok (.invokestatic 42, 3) := by decide +kernel
theorem dX0_run_9 : decode cX0_run 9 = .ok (.istore 5, 2) := by decide +kernel
theorem dX0_run_11 : decode cX0_run 11 = .ok (.iload_n 1, 1) := by decide +kernel
theorem dX0_run_12 : decode cX0_run 12 = .ok (.lookupswitch 265 #[(10, 100), (11, 107), (12, 122), (20, 153), (30, 169), (40, 182), (50, 195), (51, 207), (60, 223), (70, 236), (71, 249)], 100) := by decide +kernel
theorem dX0_run_112 : decode cX0_run 112 = .ok (.iload_n 3, 1) := by decide +kernel
theorem dX0_run_113 : decode cX0_run 113 = .ok (.aload_n 0, 1) := by decide +kernel
theorem dX0_run_114 : decode cX0_run 114 = .ok (.getfield 19, 3) := by decide +kernel
theorem dX0_run_117 : decode cX0_run 117 = .ok (.iadd, 1) := by decide +kernel
theorem dX0_run_118 : decode cX0_run 118 = .ok (.ireturn, 1) := by decide +kernel
theorem dX0_run_119 : decode cX0_run 119 = .ok (.aload_n 0, 1) := by decide +kernel
theorem dX0_run_120 : decode cX0_run 120 = .ok (.aload_n 0, 1) := by decide +kernel
theorem dX0_run_121 : decode cX0_run 121 = .ok (.getfield 27, 3) := by decide +kernel
theorem dX0_run_124 : decode cX0_run 124 = .ok (.iconst 0, 1) := by decide +kernel
theorem dX0_run_125 : decode cX0_run 125 = .ok (.iload_n 3, 1) := by decide +kernel
theorem dX0_run_126 : decode cX0_run 126 = .ok (.iload 4, 2) := by decide +kernel
theorem dX0_run_128 : decode cX0_run 128 = .ok (.invokevirtual 32, 3) := by decide +kernel
theorem dX0_run_131 : decode cX0_run 131 = .ok (.iconst 2, 1) := by decide +kernel
theorem dX0_run_132 : decode cX0_run 132 = .ok (.imul, 1) := by decide +kernel
theorem dX0_run_133 : decode cX0_run 133 = .ok (.ireturn, 1) := by decide +kernel
theorem dX0_run_134 : decode cX0_run 134 = .ok (.aload_n 0, 1) := by decide +kernel
theorem dX0_run_135 : decode cX0_run 135 = .ok (.aload_n 0, 1) := by decide +kernel
theorem dX0_run_136 : decode cX0_run 136 = .ok (.getfield 27, 3) := by decide +kernel
theorem dX0_run_139 : decode cX0_run 139 = .ok (.iconst 1, 1) := by decide +kernel
theorem dX0_run_140 : decode cX0_run 140 = .ok (.iload_n 3, 1) := by decide +kernel
theorem dX0_run_141 : decode cX0_run 141 = .ok (.iload 4, 2) := by decide +kernel
theorem dX0_run_143 : decode cX0_run 143 = .ok (.invokevirtual 32, 3) := by decide +kernel
theorem dX0_run_146 : decode cX0_run 146 = .ok (.aload_n 0, 1) := by decide +kernel
theorem dX0_run_147 : decode cX0_run 147 = .ok (.aload_n 0, 1) := by decide +kernel
theorem dX0_run_148 : decode cX0_run 148 = .ok (.getfield 27, 3) := by decide +kernel
theorem dX0_run_151 : decode cX0_run 151 = .ok (.iconst 0, 1) := by decide +kernel
theorem dX0_run_152 : decode cX0_run 152 = .ok (.iload_n 3, 1) := by decide +kernel
theorem dX0_run_153 : decode cX0_run 153 = .ok (.aload_n 0, 1) := by decide +kernel
theorem dX0_run_154 : decode cX0_run 154 = .ok (.getfield 31, 3) := by decide +kernel
theorem dX0_run_157 : decode cX0_run 157 = .ok (.isub, 1) := by decide +kernel
theorem dX0_run_158 : decode cX0_run 158 = .ok (.iload 4, 2) := by decide +kernel
theorem dX0_run_160 : decode cX0_run 160 = .ok (.invokevirtual 32, 3) := by decide +kernel
theorem dX0_run_163 : decode cX0_run 163 = .ok (.ixor, 1) := by decide +kernel
theorem dX0_run_164 : decode cX0_run 164 = .ok (.ireturn, 1) := by decide +kernel
theorem dX0_run_165 : decode cX0_run 165 = .ok (.aload_n 0, 1) := by decide +kernel
theorem dX0_run_166 : decode cX0_run 166 = .ok (.iload 5, 2) := by decide +kernel
theorem dX0_run_168 : decode cX0_run 168 = .ok (.iconst 0, 1) := by decide +kernel
theorem dX0_run_169 : decode cX0_run 169 = .ok (.iload_n 3, 1) := by decide +kernel
theorem dX0_run_170 : decode cX0_run 170 = .ok (.iload 4, 2) := by decide +kernel
theorem dX0_run_172 : decode cX0_run 172 = .ok (.invokevirtual 32, 3) := by decide +kernel
theorem dX0_run_175 : decode cX0_run 175 = .ok (.aload_n 0, 1) := by decide +kernel
theorem dX0_run_176 : decode cX0_run 176 = .ok (.getfield 31, 3) := by decide +kernel
theorem dX0_run_179 : decode cX0_run 179 = .ok (.iadd, 1) := by decide +kernel
theorem dX0_run_180 : decode cX0_run 180 = .ok (.ireturn, 1) := by decide +kernel
theorem dX0_run_181 : decode cX0_run 181 = .ok (.aload_n 0, 1) := by decide +kernel
theorem dX0_run_182 : decode cX0_run 182 = .ok (.iload 5, 2) := by decide +kernel
theorem dX0_run_184 : decode cX0_run 184 = .ok (.iconst 1, 1) := by decide +kernel
theorem dX0_run_185 : decode cX0_run 185 = .ok (.iload_n 3, 1) := by decide +kernel
theorem dX0_run_186 : decode cX0_run 186 = .ok (.iload 4, 2) := by decide +kernel
theorem dX0_run_188 : decode cX0_run 188 = .ok (.invokevirtual 32, 3) := by decide +kernel
theorem dX0_run_191 : decode cX0_run 191 = .ok (.iconst 3, 1) := by decide +kernel
theorem dX0_run_192 : decode cX0_run 192 = .ok (.imul, 1) := by decide +kernel
theorem dX0_run_193 : decode cX0_run 193 = .ok (.ireturn, 1) := by decide +kernel
theorem dX0_run_194 : decode cX0_run 194 = .ok (.aload_n 0, 1) := by decide +kernel
theorem dX0_run_195 : decode cX0_run 195 = .ok (.iload 5, 2) := by decide +kernel
theorem dX0_run_197 : decode cX0_run 197 = .ok (.iconst 0, 1) := by decide +kernel
theorem dX0_run_198 : decode cX0_run 198 = .ok (.iload_n 3, 1) := by decide +kernel
theorem dX0_run_199 : decode cX0_run 199 = .ok (.iconst 1, 1) := by decide +kernel
theorem dX0_run_200 : decode cX0_run 200 = .ok (.iadd, 1) := by decide +kernel
theorem dX0_run_201 : decode cX0_run 201 = .ok (.iload 4, 2) := by decide +kernel
theorem dX0_run_203 : decode cX0_run 203 = .ok (.invokevirtual 32, 3) := by decide +kernel
theorem dX0_run_206 : decode cX0_run 206 = .ok (.ireturn, 1) := by decide +kernel
theorem dX0_run_207 : decode cX0_run 207 = .ok (.aload_n 0, 1) := by decide +kernel
theorem dX0_run_208 : decode cX0_run 208 = .ok (.iload 5, 2) := by decide +kernel
theorem dX0_run_210 : decode cX0_run 210 = .ok (.iconst 2, 1) := by decide +kernel
theorem dX0_run_211 : decode cX0_run 211 = .ok (.iload_n 3, 1) := by decide +kernel
theorem dX0_run_212 : decode cX0_run 212 = .ok (.iload 4, 2) := by decide +kernel
theorem dX0_run_214 : decode cX0_run 214 = .ok (.invokevirtual 32, 3) := by decide +kernel
theorem dX0_run_217 : decode cX0_run 217 = .ok (.ineg, 1) := by decide +kernel
theorem dX0_run_218 : decode cX0_run 218 = .ok (.ireturn, 1) := by decide +kernel
theorem dX0_run_219 : decode cX0_run 219 = .ok (.aload_n 0, 1) := by decide +kernel
theorem dX0_run_220 : decode cX0_run 220 = .ok (.iload 5, 2) := by decide +kernel
theorem dX0_run_222 : decode cX0_run 222 = .ok (.iconst 0, 1) := by decide +kernel
theorem dX0_run_223 : decode cX0_run 223 = .ok (.iload_n 3, 1) := by decide +kernel
theorem dX0_run_224 : decode cX0_run 224 = .ok (.iload 4, 2) := by decide +kernel
theorem dX0_run_226 : decode cX0_run 226 = .ok (.invokevirtual 32, 3) := by decide +kernel
theorem dX0_run_229 : decode cX0_run 229 = .ok (.aload_n 0, 1) := by decide +kernel
theorem dX0_run_230 : decode cX0_run 230 = .ok (.getfield 19, 3) := by decide +kernel
theorem dX0_run_233 : decode cX0_run 233 = .ok (.isub, 1) := by decide +kernel
theorem dX0_run_234 : decode cX0_run 234 = .ok (.ireturn, 1) := by decide +kernel
theorem dX0_run_235 : decode cX0_run 235 = .ok (.aload_n 0, 1) := by decide +kernel
theorem dX0_run_236 : decode cX0_run 236 = .ok (.iload 5, 2) := by decide +kernel
theorem dX0_run_238 : decode cX0_run 238 = .ok (.iconst 2, 1) := by decide +kernel
theorem dX0_run_239 : decode cX0_run 239 = .ok (.iload_n 3, 1) := by decide +kernel
theorem dX0_run_240 : decode cX0_run 240 = .ok (.iload 4, 2) := by decide +kernel
theorem dX0_run_242 : decode cX0_run 242 = .ok (.invokevirtual 32, 3) := by decide +kernel
theorem dX0_run_245 : decode cX0_run 245 = .ok (.iconst 5, 1) := by decide +kernel
theorem dX0_run_246 : decode cX0_run 246 = .ok (.ixor, 1) := by decide +kernel
theorem dX0_run_247 : decode cX0_run 247 = .ok (.ireturn, 1) := by decide +kernel
theorem dX0_run_248 : decode cX0_run 248 = .ok (.aload_n 0, 1) := by decide +kernel
theorem dX0_run_249 : decode cX0_run 249 = .ok (.iload 5, 2) := by decide +kernel
theorem dX0_run_251 : decode cX0_run 251 = .ok (.iconst 0, 1) := by decide +kernel
theorem dX0_run_252 : decode cX0_run 252 = .ok (.iload_n 3, 1) := by decide +kernel
theorem dX0_run_253 : decode cX0_run 253 = .ok (.iload 4, 2) := by decide +kernel
theorem dX0_run_255 : decode cX0_run 255 = .ok (.invokevirtual 32, 3) := by decide +kernel
theorem dX0_run_258 : decode cX0_run 258 = .ok (.iconst 2, 1) := by decide +kernel
theorem dX0_run_259 : decode cX0_run 259 = .ok (.imul, 1) := by decide +kernel
theorem dX0_run_260 : decode cX0_run 260 = .ok (.ireturn, 1) := by decide +kernel
theorem dX0_run_261 : decode cX0_run 261 = .ok (.aload_n 0, 1) := by decide +kernel
theorem dX0_run_262 : decode cX0_run 262 = .ok (.iload 5, 2) := by decide +kernel
theorem dX0_run_264 : decode cX0_run 264 = .ok (.iconst 1, 1) := by decide +kernel
theorem dX0_run_265 : decode cX0_run 265 = .ok (.iload_n 3, 1) := by decide +kernel
theorem dX0_run_266 : decode cX0_run 266 = .ok (.aload_n 0, 1) := by decide +kernel
theorem dX0_run_267 : decode cX0_run 267 = .ok (.getfield 31, 3) := by decide +kernel
theorem dX0_run_270 : decode cX0_run 270 = .ok (.isub, 1) := by decide +kernel
theorem dX0_run_271 : decode cX0_run 271 = .ok (.iload 4, 2) := by decide +kernel
theorem dX0_run_273 : decode cX0_run 273 = .ok (.invokevirtual 32, 3) := by decide +kernel
theorem dX0_run_276 : decode cX0_run 276 = .ok (.ireturn, 1) := by decide +kernel
theorem dX0_run_277 : decode cX0_run 277 = .ok (.iconst 0, 1) := by decide +kernel
theorem dX0_run_278 : decode cX0_run 278 = .ok (.ireturn, 1) := by decide +kernel
theorem dX0_note_0 : decode cX0_note 0 = .ok (.aload_n 0, 1) := by decide +kernel
theorem dX0_note_1 : decode cX0_note 1 = .ok (.getfield 15, 3) := by decide +kernel
theorem dX0_note_4 : decode cX0_note 4 = .ok (.bipush 20, 2) := by decide +kernel
theorem dX0_note_6 : decode cX0_note 6 = .ok (.if_icmp .ge 13, 3) := by decide +kernel
theorem dX0_note_9 : decode cX0_note 9 = .ok (.aload_n 0, 1) := by decide +kernel
theorem dX0_note_10 : decode cX0_note 10 = .ok (.getfield 9, 3) := by decide +kernel
theorem dX0_note_13 : decode cX0_note 13 = .ok (.aload_n 0, 1) := by decide +kernel
theorem dX0_note_14 : decode cX0_note 14 = .ok (.getfield 15, 3) := by decide +kernel
theorem dX0_note_17 : decode cX0_note 17 = .ok (.iload_n 1, 1) := by decide +kernel
theorem dX0_note_18 : decode cX0_note 18 = .ok (.iastore, 1) := by decide +kernel
theorem dX0_note_19 : decode cX0_note 19 = .ok (.aload_n 0, 1) := by decide +kernel
theorem dX0_note_20 : decode cX0_note 20 = .ok (.dup, 1) := by decide +kernel
theorem dX0_note_21 : decode cX0_note 21 = .ok (.getfield 15, 3) := by decide +kernel
theorem dX0_note_24 : decode cX0_note 24 = .ok (.iconst 1, 1) := by decide +kernel
theorem dX0_note_25 : decode cX0_note 25 = .ok (.iadd, 1) := by decide +kernel
theorem dX0_note_26 : decode cX0_note 26 = .ok (.putfield 15, 3) := by decide +kernel
theorem dX0_note_29 : decode cX0_note 29 = .ok (.return_, 1) := by decide +kernel
theorem dX1_init_0 : decode cX1_init 0 = .ok (.aload_n 0, 1) := by decide +kernel
theorem dX1_init_1 : decode cX1_init 1 = .ok (.invokespecial 3, 3) := by decide +kernel
theorem dX1_init_4 : decode cX1_init 4 = .ok (.return_, 1) := by decide +kernel
theorem dX1_become_0 : decode cX1_become 0 = .ok (.aload_n 0, 1) := by decide +kernel
theorem dX1_become_1 : decode cX1_become 1 = .ok (.iload_n 1, 1) := by decide +kernel
theorem dX1_become_2 : decode cX1_become 2 = .ok (.putfield 9, 3) := by decide +kernel
theorem dX1_become_5 : decode cX1_become 5 = .ok (.aload_n 0, 1) := by decide +kernel
theorem dX1_become_6 : decode cX1_become 6 = .ok (.iload_n 2, 1) := by decide +kernel
theorem dX1_become_7 : decode cX1_become 7 = .ok (.putfield 15, 3) := by decide +kernel
theorem dX1_become_10 : decode cX1_become 10 = .ok (.aload_n 0, 1) := by decide +kernel
theorem dX1_become_11 : decode cX1_become 11 = .ok (.iload_n 3, 1) := by decide +kernel
theorem dX1_become_12 : decode cX1_become 12 = .ok (.putfield 18, 3) := by decide +kernel
theorem dX1_become_15 : decode cX1_become 15 = .ok (.aload_n 0, 1) := by decide +kernel
theorem dX1_become_16 : decode cX1_become 16 = .ok (.iconst 0, 1) := by decide +kernel
theorem dX1_become_17 : decode cX1_become 17 = .ok (.putfield 21, 3) := by decide +kernel
theorem dX1_become_20 : decode cX1_become 20 = .ok (.return_, 1) := by decide +kernel
theorem dX1_place_0 : decode cX1_place 0 = .ok (.aload_n 0, 1) := by decide +kernel
theorem dX1_place_1 : decode cX1_place 1 = .ok (.iload_n 1, 1) := by decide +kernel
theorem dX1_place_2 : decode cX1_place 2 = .ok (.putfield 25, 3) := by decide +kernel
theorem dX1_place_5 : decode cX1_place 5 = .ok (.aload_n 0, 1) := by decide +kernel
theorem dX1_place_6 : decode cX1_place 6 = .ok (.iload_n 2, 1) := by decide +kernel
theorem dX1_place_7 : decode cX1_place 7 = .ok (.putfield 28, 3) := by decide +kernel
theorem dX1_place_10 : decode cX1_place 10 = .ok (.aload_n 0, 1) := by decide +kernel
theorem dX1_place_11 : decode cX1_place 11 = .ok (.iload_n 3, 1) := by decide +kernel
theorem dX1_place_12 : decode cX1_place 12 = .ok (.putfield 31, 3) := by decide +kernel
theorem dX1_place_15 : decode cX1_place 15 = .ok (.return_, 1) := by decide +kernel
theorem dX1_copyFrom_0 : decode cX1_copyFrom 0 = .ok (.aload_n 0, 1) := by decide +kernel
theorem dX1_copyFrom_1 : decode cX1_copyFrom 1 = .ok (.aload_n 1, 1) := by decide +kernel
theorem dX1_copyFrom_2 : decode cX1_copyFrom 2 = .ok (.getfield 9, 3) := by decide +kernel
theorem dX1_copyFrom_5 : decode cX1_copyFrom 5 = .ok (.aload_n 1, 1) := by decide +kernel
theorem dX1_copyFrom_6 : decode cX1_copyFrom 6 = .ok (.getfield 15, 3) := by decide +kernel
theorem dX1_copyFrom_9 : decode cX1_copyFrom 9 = .ok (.aload_n 1, 1) := by decide +kernel
theorem dX1_copyFrom_10 : decode cX1_copyFrom 10 = .ok (.getfield 18, 3) := by decide +kernel
theorem dX1_copyFrom_13 : decode cX1_copyFrom 13 = .ok (.invokevirtual 34, 3) := by decide +kernel
theorem dX1_copyFrom_16 : decode cX1_copyFrom 16 = .ok (.aload_n 0, 1) := by decide +kernel
theorem dX1_copyFrom_17 : decode cX1_copyFrom 17 = .ok (.aload_n 1, 1) := by decide +kernel
theorem dX1_copyFrom_18 : decode cX1_copyFrom 18 = .ok (.getfield 25, 3) := by decide +kernel
theorem dX1_copyFrom_21 : decode cX1_copyFrom 21 = .ok (.aload_n 1, 1) := by decide +kernel
theorem dX1_copyFrom_22 : decode cX1_copyFrom 22 = .ok (.getfield 28, 3) := by decide +kernel
theorem dX1_copyFrom_25 : decode cX1_copyFrom 25 = .ok (.aload_n 1, 1) := by decide +kernel
theorem dX1_copyFrom_26 : decode cX1_copyFrom 26 = .ok (.getfield 31, 3) := by decide +kernel
theorem dX1_copyFrom_29 : decode cX1_copyFrom 29 = .ok (.invokevirtual 38, 3) := by decide +kernel
theorem dX1_copyFrom_32 : decode cX1_copyFrom 32 = .ok (.aload_n 0, 1) := by decide +kernel
theorem dX1_copyFrom_33 : decode cX1_copyFrom 33 = .ok (.aload_n 1, 1) := by decide +kernel
theorem dX1_copyFrom_34 : decode cX1_copyFrom 34 = .ok (.getfield 21, 3) := by decide +kernel
theorem dX1_copyFrom_37 : decode cX1_copyFrom 37 = .ok (.putfield 21, 3) := by decide +kernel
theorem dX1_copyFrom_40 : decode cX1_copyFrom 40 = .ok (.return_, 1) := by decide +kernel
theorem dX1_isOf_0 : decode cX1_isOf 0 = .ok (.aload_n 0, 1) := by decide +kernel
theorem dX1_isOf_1 : decode cX1_isOf 1 = .ok (.getfield 9, 3) := by decide +kernel
theorem dX1_isOf_4 : decode cX1_isOf 4 = .ok (.istore_n 2, 1) := by decide +kernel
theorem dX1_isOf_5 : decode cX1_isOf 5 = .ok (.iconst 0, 1) := by decide +kernel
theorem dX1_isOf_6 : decode cX1_isOf 6 = .ok (.istore_n 3, 1) := by decide +kernel
theorem dX1_isOf_7 : decode cX1_isOf 7 = .ok (.iload_n 3, 1) := by decide +kernel
theorem dX1_isOf_8 : decode cX1_isOf 8 = .ok (.bipush 7, 2) := by decide +kernel
theorem dX1_isOf_10 : decode cX1_isOf 10 = .ok (.if_icmp .ge 41, 3) := by decide +kernel
theorem dX1_isOf_13 : decode cX1_isOf 13 = .ok (.iload_n 2, 1) := by decide +kernel
theorem dX1_isOf_14 : decode cX1_isOf 14 = .ok (.iconst (-1), 1) := by decide +kernel
theorem dX1_isOf_15 : decode cX1_isOf 15 = .ok (.if_icmp .eq 36, 3) := by decide +kernel
theorem dX1_isOf_18 : decode cX1_isOf 18 = .ok (.iload_n 2, 1) := by decide +kernel
theorem dX1_isOf_19 : decode cX1_isOf 19 = .ok (.iload_n 1, 1) := by decide +kernel
theorem dX1_isOf_20 : decode cX1_isOf 20 = .ok (.if_icmp .ne 5, 3) := by decide +kernel
theorem dX1_isOf_23 : decode cX1_isOf 23 = .ok (.iconst 1, 1) := by decide +kernel
theorem dX1_isOf_24 : decode cX1_isOf 24 = .ok (.ireturn, 1) := by decide +kernel
theorem dX1_isOf_25 : decode cX1_isOf 25 = .ok (.iload_n 2, 1) := by decide +kernel
theorem dX1_isOf_26 : decode cX1_isOf 26 = .ok (.ifCond .le 17, 3) := by decide +kernel
theorem dX1_isOf_29 : decode cX1_isOf 29 = .ok (.iload_n 2, 1) := by decide +kernel
theorem dX1_isOf_30 : decode cX1_isOf 30 = .ok (.bipush 7, 2) := by decide +kernel
theorem dX1_isOf_32 : decode cX1_isOf 32 = .ok (.if_icmp .ge 11, 3) := by decide +kernel
theorem dX1_isOf_35 : decode cX1_isOf 35 = .ok (.getstatic 41, 3) := by decide +kernel
theorem dX1_isOf_38 : decode cX1_isOf 38 = .ok (.iload_n 2, 1) := by decide +kernel
theorem dX1_isOf_39 : decode cX1_isOf 39 = .ok (.iaload, 1) := by decide +kernel
theorem dX1_isOf_40 : decode cX1_isOf 40 = .ok (.goto 4, 3) := by decide +kernel
theorem dX1_isOf_43 : decode cX1_isOf 43 = .ok (.iconst (-1), 1) := by decide +kernel
theorem dX1_isOf_44 : decode cX1_isOf 44 = .ok (.istore_n 2, 1) := by decide +kernel
theorem dX1_isOf_45 : decode cX1_isOf 45 = .ok (.iinc 3 1, 3) := by decide +kernel
theorem dX1_isOf_48 : decode cX1_isOf 48 = .ok (.goto (-41), 3) := by decide +kernel
theorem dX1_isOf_51 : decode cX1_isOf 51 = .ok (.iconst 0, 1) := by decide +kernel
theorem dX1_isOf_52 : decode cX1_isOf 52 = .ok (.ireturn, 1) := by decide +kernel
theorem dX1_shown_0 : decode cX1_shown 0 = .ok (.aload_n 0, 1) := by decide +kernel
theorem dX1_shown_1 : decode cX1_shown 1 = .ok (.getfield 21, 3) := by decide +kernel
theorem dX1_shown_4 : decode cX1_shown 4 = .ok (.ifCond .eq 5, 3) := by decide +kernel
theorem dX1_shown_7 : decode cX1_shown 7 = .ok (.iconst 0, 1) := by decide +kernel
theorem dX1_shown_8 : decode cX1_shown 8 = .ok (.ireturn, 1) := by decide +kernel
theorem dX1_shown_9 : decode cX1_shown 9 = .ok (.iload_n 1, 1) := by decide +kernel
theorem dX1_shown_10 : decode cX1_shown 10 = .ok (.ifCond .eq 12, 3) := by decide +kernel
theorem dX1_shown_13 : decode cX1_shown 13 = .ok (.aload_n 0, 1) := by decide +kernel
theorem dX1_shown_14 : decode cX1_shown 14 = .ok (.invokevirtual 45, 3) := by decide +kernel
theorem dX1_shown_17 : decode cX1_shown 17 = .ok (.iconst 2, 1) := by decide +kernel
theorem dX1_shown_18 : decode cX1_shown 18 = .ok (.idiv, 1) := by decide +kernel
theorem dX1_shown_19 : decode cX1_shown 19 = .ok (.goto 7, 3) := by decide +kernel
theorem dX1_shown_22 : decode cX1_shown 22 = .ok (.aload_n 0, 1) := by decide +kernel
theorem dX1_shown_23 : decode cX1_shown 23 = .ok (.invokevirtual 45, 3) := by decide +kernel
theorem dX1_shown_26 : decode cX1_shown 26 = .ok (.ireturn, 1) := by decide +kernel
theorem dX1_shownInSun_0 : decode cX1_shownInSun 0 = .ok (.aload_n 0, 1) := by decide +kernel
theorem dX1_shownInSun_1 : decode cX1_shownInSun 1 = .ok (.getfield 9, 3) := by decide +kernel
theorem dX1_shownInSun_4 : decode cX1_shownInSun 4 = .ok (.lookupswitch 69 #[(1, 36), (2, 43), (6, 55)], 36) := by decide +kernel
theorem dX1_shownInSun_40 : decode cX1_shownInSun 40 = .ok (.aload_n 0, 1) := by decide +kernel
theorem dX1_shownInSun_41 : decode cX1_shownInSun 41 = .ok (.getfield 18, 3) := by decide +kernel
theorem dX1_shownInSun_44 : decode cX1_shownInSun 44 = .ok (.iconst 2, 1) := by decide +kernel
theorem dX1_shownInSun_45 : decode cX1_shownInSun 45 = .ok (.imul, 1) := by decide +kernel
theorem dX1_shownInSun_46 : decode cX1_shownInSun 46 = .ok (.ireturn, 1) := by decide +kernel
theorem dX1_shownInSun_47 : decode cX1_shownInSun 47 = .ok (.aload_n 0, 1) := by decide +kernel
theorem dX1_shownInSun_48 : decode cX1_shownInSun 48 = .ok (.getfield 18, 3) := by decide +kernel
theorem dX1_shownInSun_51 : decode cX1_shownInSun 51 = .ok (.iconst 2, 1) := by decide +kernel
theorem dX1_shownInSun_52 : decode cX1_shownInSun 52 = .ok (.imul, 1) := by decide +kernel
theorem dX1_shownInSun_53 : decode cX1_shownInSun 53 = .ok (.aload_n 0, 1) := by decide +kernel
theorem dX1_shownInSun_54 : decode cX1_shownInSun 54 = .ok (.getfield 15, 3) := by decide +kernel
theorem dX1_shownInSun_57 : decode cX1_shownInSun 57 = .ok (.iadd, 1) := by decide +kernel
theorem dX1_shownInSun_58 : decode cX1_shownInSun 58 = .ok (.ireturn, 1) := by decide +kernel
theorem dX1_shownInSun_59 : decode cX1_shownInSun 59 = .ok (.iconst 0, 1) := by decide +kernel
theorem dX1_shownInSun_60 : decode cX1_shownInSun 60 = .ok (.aload_n 0, 1) := by decide +kernel
theorem dX1_shownInSun_61 : decode cX1_shownInSun 61 = .ok (.getfield 18, 3) := by decide +kernel
theorem dX1_shownInSun_64 : decode cX1_shownInSun 64 = .ok (.aload_n 0, 1) := by decide +kernel
theorem dX1_shownInSun_65 : decode cX1_shownInSun 65 = .ok (.getfield 25, 3) := by decide +kernel
theorem dX1_shownInSun_68 : decode cX1_shownInSun 68 = .ok (.isub, 1) := by decide +kernel
theorem dX1_shownInSun_69 : decode cX1_shownInSun 69 = .ok (.invokestatic 49, 3) := by decide +kernel
theorem dX1_shownInSun_72 : decode cX1_shownInSun 72 = .ok (.ireturn, 1) := by decide +kernel
theorem dX1_shownInSun_73 : decode cX1_shownInSun 73 = .ok (.aload_n 0, 1) := by decide +kernel
theorem dX1_shownInSun_74 : decode cX1_shownInSun 74 = .ok (.getfield 18, 3) := by decide +kernel
theorem dX1_shownInSun_77 : decode cX1_shownInSun 77 = .ok (.ireturn, 1) := by decide +kernel
theorem dX2_init_0 : decode cX2_init 0 = .ok (.aload_n 0, 1) := by decide +kernel
theorem dX2_init_1 : decode cX2_init 1 = .ok (.invokespecial 3, 3) := by decide +kernel
theorem dX2_init_4 : decode cX2_init 4 = .ok (.aload_n 0, 1) := by decide +kernel
theorem dX2_init_5 : decode cX2_init 5 = .ok (.new 9, 3) := by decide +kernel
theorem dX2_init_8 : decode cX2_init 8 = .ok (.dup, 1) := by decide +kernel
theorem dX2_init_9 : decode cX2_init 9 = .ok (.invokespecial 11, 3) := by decide +kernel
theorem dX2_init_12 : decode cX2_init 12 = .ok (.putfield 12, 3) := by decide +kernel
theorem dX2_init_15 : decode cX2_init 15 = .ok (.aload_n 0, 1) := by decide +kernel
theorem dX2_init_16 : decode cX2_init 16 = .ok (.new 18, 3) := by decide +kernel
theorem dX2_init_19 : decode cX2_init 19 = .ok (.dup, 1) := by decide +kernel
theorem dX2_init_20 : decode cX2_init 20 = .ok (.invokespecial 20, 3) := by decide +kernel
theorem dX2_init_23 : decode cX2_init 23 = .ok (.putfield 21, 3) := by decide +kernel
theorem dX2_init_26 : decode cX2_init 26 = .ok (.aload_n 0, 1) := by decide +kernel
theorem dX2_init_27 : decode cX2_init 27 = .ok (.bipush 36, 2) := by decide +kernel
theorem dX2_init_29 : decode cX2_init 29 = .ok (.newarray .int, 2) := by decide +kernel
theorem dX2_init_31 : decode cX2_init 31 = .ok (.putfield 25, 3) := by decide +kernel
theorem dX2_init_34 : decode cX2_init 34 = .ok (.aload_n 0, 1) := by decide +kernel
theorem dX2_init_35 : decode cX2_init 35 = .ok (.bipush 36, 2) := by decide +kernel
theorem dX2_init_37 : decode cX2_init 37 = .ok (.newarray .int, 2) := by decide +kernel
theorem dX2_init_39 : decode cX2_init 39 = .ok (.putfield 29, 3) := by decide +kernel
theorem dX2_init_42 : decode cX2_init 42 = .ok (.return_, 1) := by decide +kernel
theorem dX2_wayTo_0 : decode cX2_wayTo 0 = .ok (.aload_n 1, 1) := by decide +kernel
theorem dX2_wayTo_1 : decode cX2_wayTo 1 = .ok (.getfield 32, 3) := by decide +kernel
theorem dX2_wayTo_4 : decode cX2_wayTo 4 = .ok (.iload_n 2, 1) := by decide +kernel
theorem dX2_wayTo_5 : decode cX2_wayTo 5 = .ok (.aaload, 1) := by decide +kernel
theorem dX2_wayTo_6 : decode cX2_wayTo 6 = .ok (.getfield 36, 3) := by decide +kernel
theorem dX2_wayTo_9 : decode cX2_wayTo 9 = .ok (.istore 5, 2) := by decide +kernel
theorem dX2_wayTo_11 : decode cX2_wayTo 11 = .ok (.aload_n 0, 1) := by decide +kernel
theorem dX2_wayTo_12 : decode cX2_wayTo 12 = .ok (.getfield 12, 3) := by decide +kernel
theorem dX2_wayTo_15 : decode cX2_wayTo 15 = .ok (.aload_n 1, 1) := by decide +kernel
theorem dX2_wayTo_16 : decode cX2_wayTo 16 = .ok (.invokevirtual 42, 3) := by decide +kernel
theorem dX2_wayTo_19 : decode cX2_wayTo 19 = .ok (.aload_n 0, 1) := by decide +kernel
theorem dX2_wayTo_20 : decode cX2_wayTo 20 = .ok (.iload_n 2, 1) := by decide +kernel
theorem dX2_wayTo_21 : decode cX2_wayTo 21 = .ok (.invokevirtual 46, 3) := by decide +kernel
theorem dX2_wayTo_24 : decode cX2_wayTo 24 = .ok (.aload_n 0, 1) := by decide +kernel
theorem dX2_wayTo_25 : decode cX2_wayTo 25 = .ok (.iload_n 3, 1) := by decide +kernel
theorem dX2_wayTo_26 : decode cX2_wayTo 26 = .ok (.invokevirtual 50, 3) := by decide +kernel
theorem dX2_wayTo_29 : decode cX2_wayTo 29 = .ok (.aload_n 0, 1) := by decide +kernel
theorem dX2_wayTo_30 : decode cX2_wayTo 30 = .ok (.getfield 29, 3) := by decide +kernel
theorem dX2_wayTo_33 : decode cX2_wayTo 33 = .ok (.iload 5, 2) := by decide +kernel
theorem dX2_wayTo_35 : decode cX2_wayTo 35 = .ok (.iaload, 1) := by decide +kernel
theorem dX2_wayTo_36 : decode cX2_wayTo 36 = .ok (.ldc 53, 2) := by decide +kernel
theorem dX2_wayTo_38 : decode cX2_wayTo 38 = .ok (.if_icmp .ne 5, 3) := by decide +kernel
theorem dX2_wayTo_41 : decode cX2_wayTo 41 = .ok (.iconst (-1), 1) := by decide +kernel
theorem dX2_wayTo_42 : decode cX2_wayTo 42 = .ok (.ireturn, 1) := by decide +kernel
theorem dX2_wayTo_43 : decode cX2_wayTo 43 = .ok (.iload 4, 2) := by decide +kernel
theorem dX2_wayTo_45 : decode cX2_wayTo 45 = .ok (.lookupswitch 49 #[(0, 27), (1, 38)], 27) := by decide +kernel
theorem dX2_wayTo_72 : decode cX2_wayTo 72 = .ok (.aload_n 0, 1) := by decide +kernel
theorem dX2_wayTo_73 : decode cX2_wayTo 73 = .ok (.getfield 29, 3) := by decide +kernel
theorem dX2_wayTo_76 : decode cX2_wayTo 76 = .ok (.iload 5, 2) := by decide +kernel
theorem dX2_wayTo_78 : decode cX2_wayTo 78 = .ok (.iaload, 1) := by decide +kernel
theorem dX2_wayTo_79 : decode cX2_wayTo 79 = .ok (.bipush 64, 2) := by decide +kernel
theorem dX2_wayTo_81 : decode cX2_wayTo 81 = .ok (.idiv, 1) := by decide +kernel
theorem dX2_wayTo_82 : decode cX2_wayTo 82 = .ok (.ireturn, 1) := by decide +kernel
theorem dX2_wayTo_83 : decode cX2_wayTo 83 = .ok (.aload_n 0, 1) := by decide +kernel
theorem dX2_wayTo_84 : decode cX2_wayTo 84 = .ok (.getfield 29, 3) := by decide +kernel
theorem dX2_wayTo_87 : decode cX2_wayTo 87 = .ok (.iload 5, 2) := by decide +kernel
theorem dX2_wayTo_89 : decode cX2_wayTo 89 = .ok (.iaload, 1) := by decide +kernel
theorem dX2_wayTo_90 : decode cX2_wayTo 90 = .ok (.bipush 64, 2) := by decide +kernel
theorem dX2_wayTo_92 : decode cX2_wayTo 92 = .ok (.irem, 1) := by decide +kernel
theorem dX2_wayTo_93 : decode cX2_wayTo 93 = .ok (.ireturn, 1) := by decide +kernel
theorem dX2_wayTo_94 : decode cX2_wayTo 94 = .ok (.iload 5, 2) := by decide +kernel
theorem dX2_wayTo_96 : decode cX2_wayTo 96 = .ok (.iload_n 3, 1) := by decide +kernel
theorem dX2_wayTo_97 : decode cX2_wayTo 97 = .ok (.if_icmp .ne 7, 3) := by decide +kernel
theorem dX2_wayTo_100 : decode cX2_wayTo 100 = .ok (.iload_n 3, 1) := by decide +kernel
theorem dX2_wayTo_101 : decode cX2_wayTo 101 = .ok (.goto 9, 3) := by decide +kernel
theorem dX2_wayTo_104 : decode cX2_wayTo 104 = .ok (.aload_n 0, 1) := by decide +kernel
theorem dX2_wayTo_105 : decode cX2_wayTo 105 = .ok (.iload 5, 2) := by decide +kernel
theorem dX2_wayTo_107 : decode cX2_wayTo 107 = .ok (.invokevirtual 54, 3) := by decide +kernel
theorem dX2_wayTo_110 : decode cX2_wayTo 110 = .ok (.ireturn, 1) := by decide +kernel
theorem dX2_bestStand_0 : decode cX2_bestStand 0 = .ok (.aload_n 0, 1) := by decide +kernel
theorem dX2_bestStand_1 : decode cX2_bestStand 1 = .ok (.getfield 12, 3) := by decide +kernel
theorem dX2_bestStand_4 : decode cX2_bestStand 4 = .ok (.aload_n 1, 1) := by decide +kernel
theorem dX2_bestStand_5 : decode cX2_bestStand 5 = .ok (.invokevirtual 42, 3) := by decide +kernel
theorem dX2_bestStand_8 : decode cX2_bestStand 8 = .ok (.iconst (-1), 1) := by decide +kernel
theorem dX2_bestStand_9 : decode cX2_bestStand 9 = .ok (.istore 4, 2) := by decide +kernel
theorem dX2_bestStand_11 : decode cX2_bestStand 11 = .ok (.iconst 0, 1) := by decide +kernel
theorem dX2_bestStand_12 : decode cX2_bestStand 12 = .ok (.istore 5, 2) := by decide +kernel
theorem dX2_bestStand_14 : decode cX2_bestStand 14 = .ok (.iconst 0, 1) := by decide +kernel
theorem dX2_bestStand_15 : decode cX2_bestStand 15 = .ok (.istore 6, 2) := by decide +kernel
theorem dX2_bestStand_17 : decode cX2_bestStand 17 = .ok (.iload 6, 2) := by decide +kernel
theorem dX2_bestStand_19 : decode cX2_bestStand 19 = .ok (.bipush 36, 2) := by decide +kernel
theorem dX2_bestStand_21 : decode cX2_bestStand 21 = .ok (.if_icmp .ge 51, 3) := by decide +kernel
theorem dX2_bestStand_24 : decode cX2_bestStand 24 = .ok (.aload_n 0, 1) := by decide +kernel
theorem dX2_bestStand_25 : decode cX2_bestStand 25 = .ok (.getfield 12, 3) := by decide +kernel
theorem dX2_bestStand_28 : decode cX2_bestStand 28 = .ok (.iload 6, 2) := by decide +kernel
theorem dX2_bestStand_30 : decode cX2_bestStand 30 = .ok (.invokevirtual 58, 3) := by decide +kernel
theorem dX2_bestStand_33 : decode cX2_bestStand 33 = .ok (.ifCond .eq 33, 3) := by decide +kernel
theorem dX2_bestStand_36 : decode cX2_bestStand 36 = .ok (.aload_n 0, 1) := by decide +kernel
theorem dX2_bestStand_37 : decode cX2_bestStand 37 = .ok (.iload_n 2, 1) := by decide +kernel
theorem dX2_bestStand_38 : decode cX2_bestStand 38 = .ok (.iload 6, 2) := by decide +kernel
theorem dX2_bestStand_40 : decode cX2_bestStand 40 = .ok (.invokevirtual 62, 3) := by decide +kernel
theorem dX2_bestStand_43 : decode cX2_bestStand 43 = .ok (.istore 7, 2) := by decide +kernel
theorem dX2_bestStand_45 : decode cX2_bestStand 45 = .ok (.iload 4, 2) := by decide +kernel
theorem dX2_bestStand_47 : decode cX2_bestStand 47 = .ok (.iconst (-1), 1) := by decide +kernel
theorem dX2_bestStand_48 : decode cX2_bestStand 48 = .ok (.if_icmp .eq 10, 3) := by decide +kernel
theorem dX2_bestStand_51 : decode cX2_bestStand 51 = .ok (.iload 7, 2) := by decide +kernel
theorem dX2_bestStand_53 : decode cX2_bestStand 53 = .ok (.iload 5, 2) := by decide +kernel
theorem dX2_bestStand_55 : decode cX2_bestStand 55 = .ok (.if_icmp .ge 11, 3) := by decide +kernel
theorem dX2_bestStand_58 : decode cX2_bestStand 58 = .ok (.iload 6, 2) := by decide +kernel
theorem dX2_bestStand_60 : decode cX2_bestStand 60 = .ok (.istore 4, 2) := by decide +kernel
theorem dX2_bestStand_62 : decode cX2_bestStand 62 = .ok (.iload 7, 2) := by decide +kernel
theorem dX2_bestStand_64 : decode cX2_bestStand 64 = .ok (.istore 5, 2) := by decide +kernel
theorem dX2_bestStand_66 : decode cX2_bestStand 66 = .ok (.iinc 6 1, 3) := by decide +kernel
theorem dX2_bestStand_69 : decode cX2_bestStand 69 = .ok (.goto (-52), 3) := by decide +kernel
theorem dX2_bestStand_72 : decode cX2_bestStand 72 = .ok (.iload_n 3, 1) := by decide +kernel
theorem dX2_bestStand_73 : decode cX2_bestStand 73 = .ok (.ifCond .ne 8, 3) := by decide +kernel
theorem dX2_bestStand_76 : decode cX2_bestStand 76 = .ok (.iload 4, 2) := by decide +kernel
theorem dX2_bestStand_78 : decode cX2_bestStand 78 = .ok (.goto 5, 3) := by decide +kernel
theorem dX2_bestStand_81 : decode cX2_bestStand 81 = .ok (.iload 5, 2) := by decide +kernel
theorem dX2_bestStand_83 : decode cX2_bestStand 83 = .ok (.ireturn, 1) := by decide +kernel
theorem dX2_bestSacks_0 : decode cX2_bestSacks 0 = .ok (.iconst (-1), 1) := by decide +kernel
theorem dX2_bestSacks_1 : decode cX2_bestSacks 1 = .ok (.istore 4, 2) := by decide +kernel
theorem dX2_bestSacks_3 : decode cX2_bestSacks 3 = .ok (.iconst (-1), 1) := by decide +kernel
theorem dX2_bestSacks_4 : decode cX2_bestSacks 4 = .ok (.istore 5, 2) := by decide +kernel
theorem dX2_bestSacks_6 : decode cX2_bestSacks 6 = .ok (.iconst 0, 1) := by decide +kernel
theorem dX2_bestSacks_7 : decode cX2_bestSacks 7 = .ok (.istore 6, 2) := by decide +kernel
theorem dX2_bestSacks_9 : decode cX2_bestSacks 9 = .ok (.iload 6, 2) := by decide +kernel
theorem dX2_bestSacks_11 : decode cX2_bestSacks 11 = .ok (.iconst 1, 1) := by decide +kernel
theorem dX2_bestSacks_12 : decode cX2_bestSacks 12 = .ok (.aload_n 1, 1) := by decide +kernel
theorem dX2_bestSacks_13 : decode cX2_bestSacks 13 = .ok (.getfield 66, 3) := by decide +kernel
theorem dX2_bestSacks_16 : decode cX2_bestSacks 16 = .ok (.ishl, 1) := by decide +kernel
theorem dX2_bestSacks_17 : decode cX2_bestSacks 17 = .ok (.if_icmp .ge 48, 3) := by decide +kernel
theorem dX2_bestSacks_20 : decode cX2_bestSacks 20 = .ok (.iload 6, 2) := by decide +kernel
theorem dX2_bestSacks_22 : decode cX2_bestSacks 22 = .ok (.invokestatic 69, 3) := by decide +kernel
theorem dX2_bestSacks_25 : decode cX2_bestSacks 25 = .ok (.iload_n 2, 1) := by decide +kernel
theorem dX2_bestSacks_26 : decode cX2_bestSacks 26 = .ok (.if_icmp .ne 33, 3) := by decide +kernel
theorem dX2_bestSacks_29 : decode cX2_bestSacks 29 = .ok (.aload_n 0, 1) := by decide +kernel
theorem dX2_bestSacks_30 : decode cX2_bestSacks 30 = .ok (.aload_n 1, 1) := by decide +kernel
theorem dX2_bestSacks_31 : decode cX2_bestSacks 31 = .ok (.iload 6, 2) := by decide +kernel
theorem dX2_bestSacks_33 : decode cX2_bestSacks 33 = .ok (.invokevirtual 74, 3) := by decide +kernel
theorem dX2_bestSacks_36 : decode cX2_bestSacks 36 = .ok (.istore 7, 2) := by decide +kernel
theorem dX2_bestSacks_38 : decode cX2_bestSacks 38 = .ok (.iload 4, 2) := by decide +kernel
theorem dX2_bestSacks_40 : decode cX2_bestSacks 40 = .ok (.iconst (-1), 1) := by decide +kernel
theorem dX2_bestSacks_41 : decode cX2_bestSacks 41 = .ok (.if_icmp .eq 10, 3) := by decide +kernel
theorem dX2_bestSacks_44 : decode cX2_bestSacks 44 = .ok (.iload 7, 2) := by decide +kernel
theorem dX2_bestSacks_46 : decode cX2_bestSacks 46 = .ok (.iload 5, 2) := by decide +kernel
theorem dX2_bestSacks_48 : decode cX2_bestSacks 48 = .ok (.if_icmp .ge 11, 3) := by decide +kernel
theorem dX2_bestSacks_51 : decode cX2_bestSacks 51 = .ok (.iload 6, 2) := by decide +kernel
theorem dX2_bestSacks_53 : decode cX2_bestSacks 53 = .ok (.istore 4, 2) := by decide +kernel
theorem dX2_bestSacks_55 : decode cX2_bestSacks 55 = .ok (.iload 7, 2) := by decide +kernel
theorem dX2_bestSacks_57 : decode cX2_bestSacks 57 = .ok (.istore 5, 2) := by decide +kernel
theorem dX2_bestSacks_59 : decode cX2_bestSacks 59 = .ok (.iinc 6 1, 3) := by decide +kernel
theorem dX2_bestSacks_62 : decode cX2_bestSacks 62 = .ok (.goto (-53), 3) := by decide +kernel
theorem dX2_bestSacks_65 : decode cX2_bestSacks 65 = .ok (.iload_n 3, 1) := by decide +kernel
theorem dX2_bestSacks_66 : decode cX2_bestSacks 66 = .ok (.ifCond .ne 8, 3) := by decide +kernel
theorem dX2_bestSacks_69 : decode cX2_bestSacks 69 = .ok (.iload 4, 2) := by decide +kernel
theorem dX2_bestSacks_71 : decode cX2_bestSacks 71 = .ok (.goto 5, 3) := by decide +kernel
theorem dX2_bestSacks_74 : decode cX2_bestSacks 74 = .ok (.iload 5, 2) := by decide +kernel
theorem dX2_bestSacks_76 : decode cX2_bestSacks 76 = .ok (.ireturn, 1) := by decide +kernel
theorem dX2_bestBalcony_0 : decode cX2_bestBalcony 0 = .ok (.aload_n 0, 1) := by decide +kernel
theorem dX2_bestBalcony_1 : decode cX2_bestBalcony 1 = .ok (.getfield 12, 3) := by decide +kernel
theorem dX2_bestBalcony_4 : decode cX2_bestBalcony 4 = .ok (.aload_n 1, 1) := by decide +kernel
theorem dX2_bestBalcony_5 : decode cX2_bestBalcony 5 = .ok (.invokevirtual 42, 3) := by decide +kernel
theorem dX2_bestBalcony_8 : decode cX2_bestBalcony 8 = .ok (.iconst (-1), 1) := by decide +kernel
theorem dX2_bestBalcony_9 : decode cX2_bestBalcony 9 = .ok (.istore_n 3, 1) := by decide +kernel
theorem dX2_bestBalcony_10 : decode cX2_bestBalcony 10 = .ok (.iconst 0, 1) := by decide +kernel
theorem dX2_bestBalcony_11 : decode cX2_bestBalcony 11 = .ok (.istore 4, 2) := by decide +kernel
theorem dX2_bestBalcony_13 : decode cX2_bestBalcony 13 = .ok (.iconst 0, 1) := by decide +kernel
theorem dX2_bestBalcony_14 : decode cX2_bestBalcony 14 = .ok (.istore 5, 2) := by decide +kernel
theorem dX2_bestBalcony_16 : decode cX2_bestBalcony 16 = .ok (.iload 5, 2) := by decide +kernel
theorem dX2_bestBalcony_18 : decode cX2_bestBalcony 18 = .ok (.bipush 36, 2) := by decide +kernel
theorem dX2_bestBalcony_20 : decode cX2_bestBalcony 20 = .ok (.if_icmp .ge 66, 3) := by decide +kernel
theorem dX2_bestBalcony_23 : decode cX2_bestBalcony 23 = .ok (.aload_n 0, 1) := by decide +kernel
theorem dX2_bestBalcony_24 : decode cX2_bestBalcony 24 = .ok (.getfield 12, 3) := by decide +kernel
theorem dX2_bestBalcony_27 : decode cX2_bestBalcony 27 = .ok (.aload_n 1, 1) := by decide +kernel
theorem dX2_bestBalcony_28 : decode cX2_bestBalcony 28 = .ok (.getfield 78, 3) := by decide +kernel
theorem dX2_bestBalcony_31 : decode cX2_bestBalcony 31 = .ok (.iload 5, 2) := by decide +kernel
theorem dX2_bestBalcony_33 : decode cX2_bestBalcony 33 = .ok (.iconst 1, 1) := by decide +kernel
theorem dX2_bestBalcony_34 : decode cX2_bestBalcony 34 = .ok (.invokestatic 82, 3) := by decide +kernel
theorem dX2_bestBalcony_37 : decode cX2_bestBalcony 37 = .ok (.putfield 78, 3) := by decide +kernel
theorem dX2_bestBalcony_40 : decode cX2_bestBalcony 40 = .ok (.aload_n 0, 1) := by decide +kernel
theorem dX2_bestBalcony_41 : decode cX2_bestBalcony 41 = .ok (.getfield 21, 3) := by decide +kernel
theorem dX2_bestBalcony_44 : decode cX2_bestBalcony 44 = .ok (.aload_n 0, 1) := by decide +kernel
theorem dX2_bestBalcony_45 : decode cX2_bestBalcony 45 = .ok (.getfield 12, 3) := by decide +kernel
theorem dX2_bestBalcony_48 : decode cX2_bestBalcony 48 = .ok (.invokevirtual 86, 3) := by decide +kernel
theorem dX2_bestBalcony_51 : decode cX2_bestBalcony 51 = .ok (.iload_n 3, 1) := by decide +kernel
theorem dX2_bestBalcony_52 : decode cX2_bestBalcony 52 = .ok (.iconst (-1), 1) := by decide +kernel
theorem dX2_bestBalcony_53 : decode cX2_bestBalcony 53 = .ok (.if_icmp .eq 15, 3) := by decide +kernel
theorem dX2_bestBalcony_56 : decode cX2_bestBalcony 56 = .ok (.aload_n 0, 1) := by decide +kernel
theorem dX2_bestBalcony_57 : decode cX2_bestBalcony 57 = .ok (.getfield 21, 3) := by decide +kernel
theorem dX2_bestBalcony_60 : decode cX2_bestBalcony 60 = .ok (.getfield 89, 3) := by decide +kernel
theorem dX2_bestBalcony_63 : decode cX2_bestBalcony 63 = .ok (.iload 4, 2) := by decide +kernel
theorem dX2_bestBalcony_65 : decode cX2_bestBalcony 65 = .ok (.if_icmp .le 15, 3) := by decide +kernel
theorem dX2_bestBalcony_68 : decode cX2_bestBalcony 68 = .ok (.iload 5, 2) := by decide +kernel
theorem dX2_bestBalcony_70 : decode cX2_bestBalcony 70 = .ok (.istore_n 3, 1) := by decide +kernel
theorem dX2_bestBalcony_71 : decode cX2_bestBalcony 71 = .ok (.aload_n 0, 1) := by decide +kernel
theorem dX2_bestBalcony_72 : decode cX2_bestBalcony 72 = .ok (.getfield 21, 3) := by decide +kernel
theorem dX2_bestBalcony_75 : decode cX2_bestBalcony 75 = .ok (.getfield 89, 3) := by decide +kernel
theorem dX2_bestBalcony_78 : decode cX2_bestBalcony 78 = .ok (.istore 4, 2) := by decide +kernel
theorem dX2_bestBalcony_80 : decode cX2_bestBalcony 80 = .ok (.iinc 5 1, 3) := by decide +kernel
theorem dX2_bestBalcony_83 : decode cX2_bestBalcony 83 = .ok (.goto (-67), 3) := by decide +kernel
theorem dX2_bestBalcony_86 : decode cX2_bestBalcony 86 = .ok (.iload_n 2, 1) := by decide +kernel
theorem dX2_bestBalcony_87 : decode cX2_bestBalcony 87 = .ok (.ifCond .ne 7, 3) := by decide +kernel
theorem dX2_bestBalcony_90 : decode cX2_bestBalcony 90 = .ok (.iload_n 3, 1) := by decide +kernel
theorem dX2_bestBalcony_91 : decode cX2_bestBalcony 91 = .ok (.goto 5, 3) := by decide +kernel
theorem dX2_bestBalcony_94 : decode cX2_bestBalcony 94 = .ok (.iload 4, 2) := by decide +kernel
theorem dX2_bestBalcony_96 : decode cX2_bestBalcony 96 = .ok (.ireturn, 1) := by decide +kernel
theorem dX2_fittingLooks_0 : decode cX2_fittingLooks 0 = .ok (.aload_n 0, 1) := by decide +kernel
theorem dX2_fittingLooks_1 : decode cX2_fittingLooks 1 = .ok (.getfield 12, 3) := by decide +kernel
theorem dX2_fittingLooks_4 : decode cX2_fittingLooks 4 = .ok (.aload_n 1, 1) := by decide +kernel
theorem dX2_fittingLooks_5 : decode cX2_fittingLooks 5 = .ok (.invokevirtual 42, 3) := by decide +kernel
theorem dX2_fittingLooks_8 : decode cX2_fittingLooks 8 = .ok (.iconst 0, 1) := by decide +kernel
theorem dX2_fittingLooks_9 : decode cX2_fittingLooks 9 = .ok (.istore 4, 2) := by decide +kernel
theorem dX2_fittingLooks_11 : decode cX2_fittingLooks 11 = .ok (.iconst 0, 1) := by decide +kernel
theorem dX2_fittingLooks_12 : decode cX2_fittingLooks 12 = .ok (.istore 5, 2) := by decide +kernel
theorem dX2_fittingLooks_14 : decode cX2_fittingLooks 14 = .ok (.iload 5, 2) := by decide +kernel
theorem dX2_fittingLooks_16 : decode cX2_fittingLooks 16 = .ok (.bipush 20, 2) := by decide +kernel
theorem dX2_fittingLooks_18 : decode cX2_fittingLooks 18 = .ok (.if_icmp .gt 51, 3) := by decide +kernel
theorem dX2_fittingLooks_21 : decode cX2_fittingLooks 21 = .ok (.aload_n 0, 1) := by decide +kernel
theorem dX2_fittingLooks_22 : decode cX2_fittingLooks 22 = .ok (.getfield 12, 3) := by decide +kernel
theorem dX2_fittingLooks_25 : decode cX2_fittingLooks 25 = .ok (.getfield 32, 3) := by decide +kernel
theorem dX2_fittingLooks_28 : decode cX2_fittingLooks 28 = .ok (.iload_n 2, 1) := by decide +kernel
theorem dX2_fittingLooks_29 : decode cX2_fittingLooks 29 = .ok (.aaload, 1) := by decide +kernel
theorem dX2_fittingLooks_30 : decode cX2_fittingLooks 30 = .ok (.iload 5, 2) := by decide +kernel
theorem dX2_fittingLooks_32 : decode cX2_fittingLooks 32 = .ok (.putfield 92, 3) := by decide +kernel
theorem dX2_fittingLooks_35 : decode cX2_fittingLooks 35 = .ok (.aload_n 0, 1) := by decide +kernel
theorem dX2_fittingLooks_36 : decode cX2_fittingLooks 36 = .ok (.getfield 21, 3) := by decide +kernel
theorem dX2_fittingLooks_39 : decode cX2_fittingLooks 39 = .ok (.aload_n 0, 1) := by decide +kernel
theorem dX2_fittingLooks_40 : decode cX2_fittingLooks 40 = .ok (.getfield 12, 3) := by decide +kernel
theorem dX2_fittingLooks_43 : decode cX2_fittingLooks 43 = .ok (.invokevirtual 86, 3) := by decide +kernel
theorem dX2_fittingLooks_46 : decode cX2_fittingLooks 46 = .ok (.aload_n 0, 1) := by decide +kernel
theorem dX2_fittingLooks_47 : decode cX2_fittingLooks 47 = .ok (.aload_n 3, 1) := by decide +kernel
theorem dX2_fittingLooks_48 : decode cX2_fittingLooks 48 = .ok (.invokevirtual 95, 3) := by decide +kernel
theorem dX2_fittingLooks_51 : decode cX2_fittingLooks 51 = .ok (.ifCond .eq 12, 3) := by decide +kernel
theorem dX2_fittingLooks_54 : decode cX2_fittingLooks 54 = .ok (.iload 4, 2) := by decide +kernel
theorem dX2_fittingLooks_56 : decode cX2_fittingLooks 56 = .ok (.iconst 1, 1) := by decide +kernel
theorem dX2_fittingLooks_57 : decode cX2_fittingLooks 57 = .ok (.iload 5, 2) := by decide +kernel
theorem dX2_fittingLooks_59 : decode cX2_fittingLooks 59 = .ok (.ishl, 1) := by decide +kernel
theorem dX2_fittingLooks_60 : decode cX2_fittingLooks 60 = .ok (.ior, 1) := by decide +kernel
theorem dX2_fittingLooks_61 : decode cX2_fittingLooks 61 = .ok (.istore 4, 2) := by decide +kernel
theorem dX2_fittingLooks_63 : decode cX2_fittingLooks 63 = .ok (.iinc 5 1, 3) := by decide +kernel
theorem dX2_fittingLooks_66 : decode cX2_fittingLooks 66 = .ok (.goto (-52), 3) := by decide +kernel
theorem dX2_fittingLooks_69 : decode cX2_fittingLooks 69 = .ok (.iload 4, 2) := by decide +kernel
theorem dX2_fittingLooks_71 : decode cX2_fittingLooks 71 = .ok (.ireturn, 1) := by decide +kernel
theorem dX2_whoOwesMost_0 : decode cX2_whoOwesMost 0 = .ok (.aload_n 0, 1) := by decide +kernel
theorem dX2_whoOwesMost_1 : decode cX2_whoOwesMost 1 = .ok (.getfield 21, 3) := by decide +kernel
theorem dX2_whoOwesMost_4 : decode cX2_whoOwesMost 4 = .ok (.aload_n 1, 1) := by decide +kernel
theorem dX2_whoOwesMost_5 : decode cX2_whoOwesMost 5 = .ok (.invokevirtual 86, 3) := by decide +kernel
theorem dX2_whoOwesMost_8 : decode cX2_whoOwesMost 8 = .ok (.iconst 0, 1) := by decide +kernel
theorem dX2_whoOwesMost_9 : decode cX2_whoOwesMost 9 = .ok (.istore_n 2, 1) := by decide +kernel
theorem dX2_whoOwesMost_10 : decode cX2_whoOwesMost 10 = .ok (.iconst 1, 1) := by decide +kernel
theorem dX2_whoOwesMost_11 : decode cX2_whoOwesMost 11 = .ok (.istore_n 3, 1) := by decide +kernel
theorem dX2_whoOwesMost_12 : decode cX2_whoOwesMost 12 = .ok (.iload_n 3, 1) := by decide +kernel
theorem dX2_whoOwesMost_13 : decode cX2_whoOwesMost 13 = .ok (.aload_n 1, 1) := by decide +kernel
theorem dX2_whoOwesMost_14 : decode cX2_whoOwesMost 14 = .ok (.getfield 66, 3) := by decide +kernel
theorem dX2_whoOwesMost_17 : decode cX2_whoOwesMost 17 = .ok (.if_icmp .ge 32, 3) := by decide +kernel
theorem dX2_whoOwesMost_20 : decode cX2_whoOwesMost 20 = .ok (.aload_n 0, 1) := by decide +kernel
theorem dX2_whoOwesMost_21 : decode cX2_whoOwesMost 21 = .ok (.getfield 21, 3) := by decide +kernel
theorem dX2_whoOwesMost_24 : decode cX2_whoOwesMost 24 = .ok (.getfield 99, 3) := by decide +kernel
theorem dX2_whoOwesMost_27 : decode cX2_whoOwesMost 27 = .ok (.iload_n 3, 1) := by decide +kernel
theorem dX2_whoOwesMost_28 : decode cX2_whoOwesMost 28 = .ok (.iaload, 1) := by decide +kernel
theorem dX2_whoOwesMost_29 : decode cX2_whoOwesMost 29 = .ok (.aload_n 0, 1) := by decide +kernel
theorem dX2_whoOwesMost_30 : decode cX2_whoOwesMost 30 = .ok (.getfield 21, 3) := by decide +kernel
theorem dX2_whoOwesMost_33 : decode cX2_whoOwesMost 33 = .ok (.getfield 99, 3) := by decide +kernel
theorem dX2_whoOwesMost_36 : decode cX2_whoOwesMost 36 = .ok (.iload_n 2, 1) := by decide +kernel
theorem dX2_whoOwesMost_37 : decode cX2_whoOwesMost 37 = .ok (.iaload, 1) := by decide +kernel
theorem dX2_whoOwesMost_38 : decode cX2_whoOwesMost 38 = .ok (.if_icmp .le 5, 3) := by decide +kernel
theorem dX2_whoOwesMost_41 : decode cX2_whoOwesMost 41 = .ok (.iload_n 3, 1) := by decide +kernel
theorem dX2_whoOwesMost_42 : decode cX2_whoOwesMost 42 = .ok (.istore_n 2, 1) := by decide +kernel
theorem dX2_whoOwesMost_43 : decode cX2_whoOwesMost 43 = .ok (.iinc 3 1, 3) := by decide +kernel
theorem dX2_whoOwesMost_46 : decode cX2_whoOwesMost 46 = .ok (.goto (-34), 3) := by decide +kernel
theorem dX2_whoOwesMost_49 : decode cX2_whoOwesMost 49 = .ok (.iload_n 2, 1) := by decide +kernel
theorem dX2_whoOwesMost_50 : decode cX2_whoOwesMost 50 = .ok (.ireturn, 1) := by decide +kernel
theorem dX2_bestWithout_0 : decode cX2_bestWithout 0 = .ok (.iconst (-1), 1) := by decide +kernel
theorem dX2_bestWithout_1 : decode cX2_bestWithout 1 = .ok (.istore_n 2, 1) := by decide +kernel
theorem dX2_bestWithout_2 : decode cX2_bestWithout 2 = .ok (.iconst 0, 1) := by decide +kernel
theorem dX2_bestWithout_3 : decode cX2_bestWithout 3 = .ok (.istore_n 3, 1) := by decide +kernel
theorem dX2_bestWithout_4 : decode cX2_bestWithout 4 = .ok (.iconst 0, 1) := by decide +kernel
theorem dX2_bestWithout_5 : decode cX2_bestWithout 5 = .ok (.istore 4, 2) := by decide +kernel
theorem dX2_bestWithout_7 : decode cX2_bestWithout 7 = .ok (.iload 4, 2) := by decide +kernel
theorem dX2_bestWithout_9 : decode cX2_bestWithout 9 = .ok (.aload_n 1, 1) := by decide +kernel
theorem dX2_bestWithout_10 : decode cX2_bestWithout 10 = .ok (.getfield 66, 3) := by decide +kernel
theorem dX2_bestWithout_13 : decode cX2_bestWithout 13 = .ok (.if_icmp .ge 35, 3) := by decide +kernel
theorem dX2_bestWithout_16 : decode cX2_bestWithout 16 = .ok (.aload_n 0, 1) := by decide +kernel
theorem dX2_bestWithout_17 : decode cX2_bestWithout 17 = .ok (.aload_n 1, 1) := by decide +kernel
theorem dX2_bestWithout_18 : decode cX2_bestWithout 18 = .ok (.iload 4, 2) := by decide +kernel
theorem dX2_bestWithout_20 : decode cX2_bestWithout 20 = .ok (.invokevirtual 102, 3) := by decide +kernel
theorem dX2_bestWithout_23 : decode cX2_bestWithout 23 = .ok (.istore 5, 2) := by decide +kernel
theorem dX2_bestWithout_25 : decode cX2_bestWithout 25 = .ok (.iload_n 2, 1) := by decide +kernel
theorem dX2_bestWithout_26 : decode cX2_bestWithout 26 = .ok (.iconst (-1), 1) := by decide +kernel
theorem dX2_bestWithout_27 : decode cX2_bestWithout 27 = .ok (.if_icmp .eq 9, 3) := by decide +kernel
theorem dX2_bestWithout_30 : decode cX2_bestWithout 30 = .ok (.iload 5, 2) := by decide +kernel
theorem dX2_bestWithout_32 : decode cX2_bestWithout 32 = .ok (.iload_n 3, 1) := by decide +kernel
theorem dX2_bestWithout_33 : decode cX2_bestWithout 33 = .ok (.if_icmp .ge 9, 3) := by decide +kernel
theorem dX2_bestWithout_36 : decode cX2_bestWithout 36 = .ok (.iload 4, 2) := by decide +kernel
theorem dX2_bestWithout_38 : decode cX2_bestWithout 38 = .ok (.istore_n 2, 1) := by decide +kernel
theorem dX2_bestWithout_39 : decode cX2_bestWithout 39 = .ok (.iload 5, 2) := by decide +kernel
theorem dX2_bestWithout_41 : decode cX2_bestWithout 41 = .ok (.istore_n 3, 1) := by decide +kernel
theorem dX2_bestWithout_42 : decode cX2_bestWithout 42 = .ok (.iinc 4 1, 3) := by decide +kernel
theorem dX2_bestWithout_45 : decode cX2_bestWithout 45 = .ok (.goto (-38), 3) := by decide +kernel
theorem dX2_bestWithout_48 : decode cX2_bestWithout 48 = .ok (.iload_n 2, 1) := by decide +kernel
theorem dX2_bestWithout_49 : decode cX2_bestWithout 49 = .ok (.ireturn, 1) := by decide +kernel
theorem dX2_mostSeen_0 : decode cX2_mostSeen 0 = .ok (.iconst (-1), 1) := by decide +kernel
theorem dX2_mostSeen_1 : decode cX2_mostSeen 1 = .ok (.istore_n 2, 1) := by decide +kernel
theorem dX2_mostSeen_2 : decode cX2_mostSeen 2 = .ok (.iconst 0, 1) := by decide +kernel
theorem dX2_mostSeen_3 : decode cX2_mostSeen 3 = .ok (.istore_n 3, 1) := by decide +kernel
theorem dX2_mostSeen_4 : decode cX2_mostSeen 4 = .ok (.iconst 0, 1) := by decide +kernel
theorem dX2_mostSeen_5 : decode cX2_mostSeen 5 = .ok (.istore 4, 2) := by decide +kernel
theorem dX2_mostSeen_7 : decode cX2_mostSeen 7 = .ok (.iload 4, 2) := by decide +kernel
theorem dX2_mostSeen_9 : decode cX2_mostSeen 9 = .ok (.bipush 36, 2) := by decide +kernel
theorem dX2_mostSeen_11 : decode cX2_mostSeen 11 = .ok (.if_icmp .ge 34, 3) := by decide +kernel
theorem dX2_mostSeen_14 : decode cX2_mostSeen 14 = .ok (.aload_n 1, 1) := by decide +kernel
theorem dX2_mostSeen_15 : decode cX2_mostSeen 15 = .ok (.iload 4, 2) := by decide +kernel
theorem dX2_mostSeen_17 : decode cX2_mostSeen 17 = .ok (.invokestatic 105, 3) := by decide +kernel
theorem dX2_mostSeen_20 : decode cX2_mostSeen 20 = .ok (.istore 5, 2) := by decide +kernel
theorem dX2_mostSeen_22 : decode cX2_mostSeen 22 = .ok (.iload_n 2, 1) := by decide +kernel
theorem dX2_mostSeen_23 : decode cX2_mostSeen 23 = .ok (.iconst (-1), 1) := by decide +kernel
theorem dX2_mostSeen_24 : decode cX2_mostSeen 24 = .ok (.if_icmp .eq 9, 3) := by decide +kernel
theorem dX2_mostSeen_27 : decode cX2_mostSeen 27 = .ok (.iload 5, 2) := by decide +kernel
theorem dX2_mostSeen_29 : decode cX2_mostSeen 29 = .ok (.iload_n 3, 1) := by decide +kernel
theorem dX2_mostSeen_30 : decode cX2_mostSeen 30 = .ok (.if_icmp .le 9, 3) := by decide +kernel
theorem dX2_mostSeen_33 : decode cX2_mostSeen 33 = .ok (.iload 4, 2) := by decide +kernel
theorem dX2_mostSeen_35 : decode cX2_mostSeen 35 = .ok (.istore_n 2, 1) := by decide +kernel
theorem dX2_mostSeen_36 : decode cX2_mostSeen 36 = .ok (.iload 5, 2) := by decide +kernel
theorem dX2_mostSeen_38 : decode cX2_mostSeen 38 = .ok (.istore_n 3, 1) := by decide +kernel
theorem dX2_mostSeen_39 : decode cX2_mostSeen 39 = .ok (.iinc 4 1, 3) := by decide +kernel
theorem dX2_mostSeen_42 : decode cX2_mostSeen 42 = .ok (.goto (-35), 3) := by decide +kernel
theorem dX2_mostSeen_45 : decode cX2_mostSeen 45 = .ok (.iload_n 2, 1) := by decide +kernel
theorem dX2_mostSeen_46 : decode cX2_mostSeen 46 = .ok (.ireturn, 1) := by decide +kernel
theorem dX2_seersOf_0 : decode cX2_seersOf 0 = .ok (.aload_n 0, 1) := by decide +kernel
theorem dX2_seersOf_1 : decode cX2_seersOf 1 = .ok (.iload_n 1, 1) := by decide +kernel
theorem dX2_seersOf_2 : decode cX2_seersOf 2 = .ok (.invokevirtual 108, 3) := by decide +kernel
theorem dX2_seersOf_5 : decode cX2_seersOf 5 = .ok (.lstore_n 2, 1) := by decide +kernel
theorem dX2_seersOf_6 : decode cX2_seersOf 6 = .ok (.iconst 0, 1) := by decide +kernel
theorem dX2_seersOf_7 : decode cX2_seersOf 7 = .ok (.istore 4, 2) := by decide +kernel
theorem dX2_seersOf_9 : decode cX2_seersOf 9 = .ok (.iconst 0, 1) := by decide +kernel
theorem dX2_seersOf_10 : decode cX2_seersOf 10 = .ok (.istore 5, 2) := by decide +kernel
theorem dX2_seersOf_12 : decode cX2_seersOf 12 = .ok (.iload 5, 2) := by decide +kernel
theorem dX2_seersOf_14 : decode cX2_seersOf 14 = .ok (.aload_n 0, 1) := by decide +kernel
theorem dX2_seersOf_15 : decode cX2_seersOf 15 = .ok (.getfield 66, 3) := by decide +kernel
theorem dX2_seersOf_18 : decode cX2_seersOf 18 = .ok (.if_icmp .ge 53, 3) := by decide +kernel
theorem dX2_seersOf_21 : decode cX2_seersOf 21 = .ok (.iload 4, 2) := by decide +kernel
theorem dX2_seersOf_23 : decode cX2_seersOf 23 = .ok (.aload_n 0, 1) := by decide +kernel
theorem dX2_seersOf_24 : decode cX2_seersOf 24 = .ok (.getfield 32, 3) := by decide +kernel
theorem dX2_seersOf_27 : decode cX2_seersOf 27 = .ok (.iload 5, 2) := by decide +kernel
theorem dX2_seersOf_29 : decode cX2_seersOf 29 = .ok (.aaload, 1) := by decide +kernel
theorem dX2_seersOf_30 : decode cX2_seersOf 30 = .ok (.iconst 3, 1) := by decide +kernel
theorem dX2_seersOf_31 : decode cX2_seersOf 31 = .ok (.invokevirtual 112, 3) := by decide +kernel
theorem dX2_seersOf_34 : decode cX2_seersOf 34 = .ok (.ifCond .ne 24, 3) := by decide +kernel
theorem dX2_seersOf_37 : decode cX2_seersOf 37 = .ok (.lload_n 2, 1) := by decide +kernel
theorem dX2_seersOf_38 : decode cX2_seersOf 38 = .ok (.aload_n 0, 1) := by decide +kernel
theorem dX2_seersOf_39 : decode cX2_seersOf 39 = .ok (.getfield 32, 3) := by decide +kernel
theorem dX2_seersOf_42 : decode cX2_seersOf 42 = .ok (.iload 5, 2) := by decide +kernel
theorem dX2_seersOf_44 : decode cX2_seersOf 44 = .ok (.aaload, 1) := by decide +kernel
theorem dX2_seersOf_45 : decode cX2_seersOf 45 = .ok (.getfield 36, 3) := by decide +kernel
theorem dX2_seersOf_48 : decode cX2_seersOf 48 = .ok (.invokestatic 115, 3) := by decide +kernel
theorem dX2_seersOf_51 : decode cX2_seersOf 51 = .ok (.ifCond .eq 7, 3) := by decide +kernel
theorem dX2_seersOf_54 : decode cX2_seersOf 54 = .ok (.iconst 1, 1) := by decide +kernel
theorem dX2_seersOf_55 : decode cX2_seersOf 55 = .ok (.goto 4, 3) := by decide +kernel
theorem dX2_seersOf_58 : decode cX2_seersOf 58 = .ok (.iconst 0, 1) := by decide +kernel
theorem dX2_seersOf_59 : decode cX2_seersOf 59 = .ok (.invokestatic 119, 3) := by decide +kernel
theorem dX2_seersOf_62 : decode cX2_seersOf 62 = .ok (.iadd, 1) := by decide +kernel
theorem dX2_seersOf_63 : decode cX2_seersOf 63 = .ok (.istore 4, 2) := by decide +kernel
theorem dX2_seersOf_65 : decode cX2_seersOf 65 = .ok (.iinc 5 1, 3) := by decide +kernel
theorem dX2_seersOf_68 : decode cX2_seersOf 68 = .ok (.goto (-56), 3) := by decide +kernel
theorem dX2_seersOf_71 : decode cX2_seersOf 71 = .ok (.iload 4, 2) := by decide +kernel
theorem dX2_seersOf_73 : decode cX2_seersOf 73 = .ok (.ireturn, 1) := by decide +kernel
theorem dX2_dutyAt_0 : decode cX2_dutyAt 0 = .ok (.aload_n 0, 1) := by decide +kernel
theorem dX2_dutyAt_1 : decode cX2_dutyAt 1 = .ok (.getfield 12, 3) := by decide +kernel
theorem dX2_dutyAt_4 : decode cX2_dutyAt 4 = .ok (.getfield 32, 3) := by decide +kernel
theorem dX2_dutyAt_7 : decode cX2_dutyAt 7 = .ok (.iload_n 1, 1) := by decide +kernel
theorem dX2_dutyAt_8 : decode cX2_dutyAt 8 = .ok (.aaload, 1) := by decide +kernel
theorem dX2_dutyAt_9 : decode cX2_dutyAt 9 = .ok (.iload_n 2, 1) := by decide +kernel
theorem dX2_dutyAt_10 : decode cX2_dutyAt 10 = .ok (.putfield 36, 3) := by decide +kernel
theorem dX2_dutyAt_13 : decode cX2_dutyAt 13 = .ok (.aload_n 0, 1) := by decide +kernel
theorem dX2_dutyAt_14 : decode cX2_dutyAt 14 = .ok (.getfield 21, 3) := by decide +kernel
theorem dX2_dutyAt_17 : decode cX2_dutyAt 17 = .ok (.aload_n 0, 1) := by decide +kernel
theorem dX2_dutyAt_18 : decode cX2_dutyAt 18 = .ok (.getfield 12, 3) := by decide +kernel
theorem dX2_dutyAt_21 : decode cX2_dutyAt 21 = .ok (.invokevirtual 86, 3) := by decide +kernel
theorem dX2_dutyAt_24 : decode cX2_dutyAt 24 = .ok (.aload_n 0, 1) := by decide +kernel
theorem dX2_dutyAt_25 : decode cX2_dutyAt 25 = .ok (.getfield 21, 3) := by decide +kernel
theorem dX2_dutyAt_28 : decode cX2_dutyAt 28 = .ok (.getfield 99, 3) := by decide +kernel
theorem dX2_dutyAt_31 : decode cX2_dutyAt 31 = .ok (.iload_n 1, 1) := by decide +kernel
theorem dX2_dutyAt_32 : decode cX2_dutyAt 32 = .ok (.iaload, 1) := by decide +kernel
theorem dX2_dutyAt_33 : decode cX2_dutyAt 33 = .ok (.ireturn, 1) := by decide +kernel
theorem dX2_dutiesInSacks_0 : decode cX2_dutiesInSacks 0 = .ok (.aload_n 0, 1) := by decide +kernel
theorem dX2_dutiesInSacks_1 : decode cX2_dutiesInSacks 1 = .ok (.getfield 12, 3) := by decide +kernel
theorem dX2_dutiesInSacks_4 : decode cX2_dutiesInSacks 4 = .ok (.aload_n 1, 1) := by decide +kernel
theorem dX2_dutiesInSacks_5 : decode cX2_dutiesInSacks 5 = .ok (.invokevirtual 42, 3) := by decide +kernel
theorem dX2_dutiesInSacks_8 : decode cX2_dutiesInSacks 8 = .ok (.iconst 0, 1) := by decide +kernel
theorem dX2_dutiesInSacks_9 : decode cX2_dutiesInSacks 9 = .ok (.istore_n 3, 1) := by decide +kernel
theorem dX2_dutiesInSacks_10 : decode cX2_dutiesInSacks 10 = .ok (.iload_n 3, 1) := by decide +kernel
theorem dX2_dutiesInSacks_11 : decode cX2_dutiesInSacks 11 = .ok (.aload_n 0, 1) := by decide +kernel
theorem dX2_dutiesInSacks_12 : decode cX2_dutiesInSacks 12 = .ok (.getfield 12, 3) := by decide +kernel
theorem dX2_dutiesInSacks_15 : decode cX2_dutiesInSacks 15 = .ok (.getfield 66, 3) := by decide +kernel
theorem dX2_dutiesInSacks_18 : decode cX2_dutiesInSacks 18 = .ok (.if_icmp .ge 31, 3) := by decide +kernel
theorem dX2_dutiesInSacks_21 : decode cX2_dutiesInSacks 21 = .ok (.iload_n 2, 1) := by decide +kernel
theorem dX2_dutiesInSacks_22 : decode cX2_dutiesInSacks 22 = .ok (.i2l, 1) := by decide +kernel
theorem dX2_dutiesInSacks_23 : decode cX2_dutiesInSacks 23 = .ok (.iload_n 3, 1) := by decide +kernel
theorem dX2_dutiesInSacks_24 : decode cX2_dutiesInSacks 24 = .ok (.invokestatic 115, 3) := by decide +kernel
theorem dX2_dutiesInSacks_27 : decode cX2_dutiesInSacks 27 = .ok (.ifCond .eq 16, 3) := by decide +kernel
theorem dX2_dutiesInSacks_30 : decode cX2_dutiesInSacks 30 = .ok (.aload_n 0, 1) := by decide +kernel
theorem dX2_dutiesInSacks_31 : decode cX2_dutiesInSacks 31 = .ok (.getfield 12, 3) := by decide +kernel
theorem dX2_dutiesInSacks_34 : decode cX2_dutiesInSacks 34 = .ok (.getfield 32, 3) := by decide +kernel
theorem dX2_dutiesInSacks_37 : decode cX2_dutiesInSacks 37 = .ok (.iload_n 3, 1) := by decide +kernel
theorem dX2_dutiesInSacks_38 : decode cX2_dutiesInSacks 38 = .ok (.aaload, 1) := by decide +kernel
theorem dX2_dutiesInSacks_39 : decode cX2_dutiesInSacks 39 = .ok (.iconst 1, 1) := by decide +kernel
theorem dX2_dutiesInSacks_40 : decode cX2_dutiesInSacks 40 = .ok (.putfield 123, 3) := by decide +kernel
theorem dX2_dutiesInSacks_43 : decode cX2_dutiesInSacks 43 = .ok (.iinc 3 1, 3) := by decide +kernel
theorem dX2_dutiesInSacks_46 : decode cX2_dutiesInSacks 46 = .ok (.goto (-36), 3) := by decide +kernel
theorem dX2_dutiesInSacks_49 : decode cX2_dutiesInSacks 49 = .ok (.aload_n 0, 1) := by decide +kernel
theorem dX2_dutiesInSacks_50 : decode cX2_dutiesInSacks 50 = .ok (.getfield 21, 3) := by decide +kernel
theorem dX2_dutiesInSacks_53 : decode cX2_dutiesInSacks 53 = .ok (.aload_n 0, 1) := by decide +kernel
theorem dX2_dutiesInSacks_54 : decode cX2_dutiesInSacks 54 = .ok (.getfield 12, 3) := by decide +kernel
theorem dX2_dutiesInSacks_57 : decode cX2_dutiesInSacks 57 = .ok (.invokevirtual 86, 3) := by decide +kernel
theorem dX2_dutiesInSacks_60 : decode cX2_dutiesInSacks 60 = .ok (.aload_n 0, 1) := by decide +kernel
theorem dX2_dutiesInSacks_61 : decode cX2_dutiesInSacks 61 = .ok (.getfield 21, 3) := by decide +kernel
theorem dX2_dutiesInSacks_64 : decode cX2_dutiesInSacks 64 = .ok (.aload_n 0, 1) := by decide +kernel
theorem dX2_dutiesInSacks_65 : decode cX2_dutiesInSacks 65 = .ok (.getfield 12, 3) := by decide +kernel
theorem dX2_dutiesInSacks_68 : decode cX2_dutiesInSacks 68 = .ok (.invokevirtual 127, 3) := by decide +kernel
theorem dX2_dutiesInSacks_71 : decode cX2_dutiesInSacks 71 = .ok (.ireturn, 1) := by decide +kernel
theorem dX2_dutiesWithout_0 : decode cX2_dutiesWithout 0 = .ok (.aload_n 0, 1) := by decide +kernel
theorem dX2_dutiesWithout_1 : decode cX2_dutiesWithout 1 = .ok (.getfield 12, 3) := by decide +kernel
theorem dX2_dutiesWithout_4 : decode cX2_dutiesWithout 4 = .ok (.aload_n 1, 1) := by decide +kernel
theorem dX2_dutiesWithout_5 : decode cX2_dutiesWithout 5 = .ok (.invokevirtual 42, 3) := by decide +kernel
theorem dX2_dutiesWithout_8 : decode cX2_dutiesWithout 8 = .ok (.aload_n 0, 1) := by decide +kernel
theorem dX2_dutiesWithout_9 : decode cX2_dutiesWithout 9 = .ok (.getfield 12, 3) := by decide +kernel
theorem dX2_dutiesWithout_12 : decode cX2_dutiesWithout 12 = .ok (.getfield 32, 3) := by decide +kernel
theorem dX2_dutiesWithout_15 : decode cX2_dutiesWithout 15 = .ok (.iload_n 2, 1) := by decide +kernel
theorem dX2_dutiesWithout_16 : decode cX2_dutiesWithout 16 = .ok (.aaload, 1) := by decide +kernel
theorem dX2_dutiesWithout_17 : decode cX2_dutiesWithout 17 = .ok (.iconst 1, 1) := by decide +kernel
theorem dX2_dutiesWithout_18 : decode cX2_dutiesWithout 18 = .ok (.putfield 123, 3) := by decide +kernel
theorem dX2_dutiesWithout_21 : decode cX2_dutiesWithout 21 = .ok (.aload_n 0, 1) := by decide +kernel
theorem dX2_dutiesWithout_22 : decode cX2_dutiesWithout 22 = .ok (.getfield 12, 3) := by decide +kernel
theorem dX2_dutiesWithout_25 : decode cX2_dutiesWithout 25 = .ok (.getfield 32, 3) := by decide +kernel
theorem dX2_dutiesWithout_28 : decode cX2_dutiesWithout 28 = .ok (.iload_n 2, 1) := by decide +kernel
theorem dX2_dutiesWithout_29 : decode cX2_dutiesWithout 29 = .ok (.aaload, 1) := by decide +kernel
theorem dX2_dutiesWithout_30 : decode cX2_dutiesWithout 30 = .ok (.iconst 3, 1) := by decide +kernel
theorem dX2_dutiesWithout_31 : decode cX2_dutiesWithout 31 = .ok (.putfield 131, 3) := by decide +kernel
theorem dX2_dutiesWithout_34 : decode cX2_dutiesWithout 34 = .ok (.aload_n 0, 1) := by decide +kernel
theorem dX2_dutiesWithout_35 : decode cX2_dutiesWithout 35 = .ok (.getfield 21, 3) := by decide +kernel
theorem dX2_dutiesWithout_38 : decode cX2_dutiesWithout 38 = .ok (.aload_n 0, 1) := by decide +kernel
theorem dX2_dutiesWithout_39 : decode cX2_dutiesWithout 39 = .ok (.getfield 12, 3) := by decide +kernel
theorem dX2_dutiesWithout_42 : decode cX2_dutiesWithout 42 = .ok (.invokevirtual 86, 3) := by decide +kernel
theorem dX2_dutiesWithout_45 : decode cX2_dutiesWithout 45 = .ok (.aload_n 0, 1) := by decide +kernel
theorem dX2_dutiesWithout_46 : decode cX2_dutiesWithout 46 = .ok (.getfield 21, 3) := by decide +kernel
theorem dX2_dutiesWithout_49 : decode cX2_dutiesWithout 49 = .ok (.aload_n 0, 1) := by decide +kernel
theorem dX2_dutiesWithout_50 : decode cX2_dutiesWithout 50 = .ok (.getfield 12, 3) := by decide +kernel
theorem dX2_dutiesWithout_53 : decode cX2_dutiesWithout 53 = .ok (.invokevirtual 127, 3) := by decide +kernel
theorem dX2_dutiesWithout_56 : decode cX2_dutiesWithout 56 = .ok (.ireturn, 1) := by decide +kernel
theorem dX2_areDuties_0 : decode cX2_areDuties 0 = .ok (.iconst 0, 1) := by decide +kernel
theorem dX2_areDuties_1 : decode cX2_areDuties 1 = .ok (.istore_n 2, 1) := by decide +kernel
theorem dX2_areDuties_2 : decode cX2_areDuties 2 = .ok (.iload_n 2, 1) := by decide +kernel
theorem dX2_areDuties_3 : decode cX2_areDuties 3 = .ok (.aload_n 0, 1) := by decide +kernel
theorem dX2_areDuties_4 : decode cX2_areDuties 4 = .ok (.getfield 12, 3) := by decide +kernel
theorem dX2_areDuties_7 : decode cX2_areDuties 7 = .ok (.getfield 66, 3) := by decide +kernel
theorem dX2_areDuties_10 : decode cX2_areDuties 10 = .ok (.if_icmp .ge 28, 3) := by decide +kernel
theorem dX2_areDuties_13 : decode cX2_areDuties 13 = .ok (.aload_n 1, 1) := by decide +kernel
theorem dX2_areDuties_14 : decode cX2_areDuties 14 = .ok (.iload_n 2, 1) := by decide +kernel
theorem dX2_areDuties_15 : decode cX2_areDuties 15 = .ok (.invokevirtual 134, 3) := by decide +kernel
theorem dX2_areDuties_18 : decode cX2_areDuties 18 = .ok (.aload_n 0, 1) := by decide +kernel
theorem dX2_areDuties_19 : decode cX2_areDuties 19 = .ok (.getfield 21, 3) := by decide +kernel
theorem dX2_areDuties_22 : decode cX2_areDuties 22 = .ok (.getfield 99, 3) := by decide +kernel
theorem dX2_areDuties_25 : decode cX2_areDuties 25 = .ok (.iload_n 2, 1) := by decide +kernel
theorem dX2_areDuties_26 : decode cX2_areDuties 26 = .ok (.iaload, 1) := by decide +kernel
theorem dX2_areDuties_27 : decode cX2_areDuties 27 = .ok (.if_icmp .eq 5, 3) := by decide +kernel
theorem dX2_areDuties_30 : decode cX2_areDuties 30 = .ok (.iconst 0, 1) := by decide +kernel
theorem dX2_areDuties_31 : decode cX2_areDuties 31 = .ok (.ireturn, 1) := by decide +kernel
theorem dX2_areDuties_32 : decode cX2_areDuties 32 = .ok (.iinc 2 1, 3) := by decide +kernel
theorem dX2_areDuties_35 : decode cX2_areDuties 35 = .ok (.goto (-33), 3) := by decide +kernel
theorem dX2_areDuties_38 : decode cX2_areDuties 38 = .ok (.iconst 1, 1) := by decide +kernel
theorem dX2_areDuties_39 : decode cX2_areDuties 39 = .ok (.ireturn, 1) := by decide +kernel
theorem dX2_weigh_0 : decode cX2_weigh 0 = .ok (.iconst 0, 1) := by decide +kernel
theorem dX2_weigh_1 : decode cX2_weigh 1 = .ok (.istore_n 2, 1) := by decide +kernel
theorem dX2_weigh_2 : decode cX2_weigh 2 = .ok (.iload_n 2, 1) := by decide +kernel
theorem dX2_weigh_3 : decode cX2_weigh 3 = .ok (.bipush 36, 2) := by decide +kernel
theorem dX2_weigh_5 : decode cX2_weigh 5 = .ok (.if_icmp .ge 42, 3) := by decide +kernel
theorem dX2_weigh_8 : decode cX2_weigh 8 = .ok (.aload_n 0, 1) := by decide +kernel
theorem dX2_weigh_9 : decode cX2_weigh 9 = .ok (.getfield 25, 3) := by decide +kernel
theorem dX2_weigh_12 : decode cX2_weigh 12 = .ok (.iload_n 2, 1) := by decide +kernel
theorem dX2_weigh_13 : decode cX2_weigh 13 = .ok (.aload_n 0, 1) := by decide +kernel
theorem dX2_weigh_14 : decode cX2_weigh 14 = .ok (.getfield 12, 3) := by decide +kernel
theorem dX2_weigh_17 : decode cX2_weigh 17 = .ok (.iload_n 2, 1) := by decide +kernel
theorem dX2_weigh_18 : decode cX2_weigh 18 = .ok (.invokevirtual 58, 3) := by decide +kernel
theorem dX2_weigh_21 : decode cX2_weigh 21 = .ok (.ifCond .eq 17, 3) := by decide +kernel
theorem dX2_weigh_24 : decode cX2_weigh 24 = .ok (.aload_n 0, 1) := by decide +kernel
theorem dX2_weigh_25 : decode cX2_weigh 25 = .ok (.iload_n 1, 1) := by decide +kernel
theorem dX2_weigh_26 : decode cX2_weigh 26 = .ok (.iload_n 2, 1) := by decide +kernel
theorem dX2_weigh_27 : decode cX2_weigh 27 = .ok (.invokevirtual 62, 3) := by decide +kernel
theorem dX2_weigh_30 : decode cX2_weigh 30 = .ok (.bipush 64, 2) := by decide +kernel
theorem dX2_weigh_32 : decode cX2_weigh 32 = .ok (.imul, 1) := by decide +kernel
theorem dX2_weigh_33 : decode cX2_weigh 33 = .ok (.iconst 1, 1) := by decide +kernel
theorem dX2_weigh_34 : decode cX2_weigh 34 = .ok (.iadd, 1) := by decide +kernel
theorem dX2_weigh_35 : decode cX2_weigh 35 = .ok (.goto 5, 3) := by decide +kernel
theorem dX2_weigh_38 : decode cX2_weigh 38 = .ok (.ldc 53, 2) := by decide +kernel
theorem dX2_weigh_40 : decode cX2_weigh 40 = .ok (.iastore, 1) := by decide +kernel
theorem dX2_weigh_41 : decode cX2_weigh 41 = .ok (.iinc 2 1, 3) := by decide +kernel
theorem dX2_weigh_44 : decode cX2_weigh 44 = .ok (.goto (-42), 3) := by decide +kernel
theorem dX2_weigh_47 : decode cX2_weigh 47 = .ok (.return_, 1) := by decide +kernel
theorem dX2_measure_0 : decode cX2_measure 0 = .ok (.aload_n 0, 1) := by decide +kernel
theorem dX2_measure_1 : decode cX2_measure 1 = .ok (.getfield 29, 3) := by decide +kernel
theorem dX2_measure_4 : decode cX2_measure 4 = .ok (.ldc 53, 2) := by decide +kernel
theorem dX2_measure_6 : decode cX2_measure 6 = .ok (.invokestatic 139, 3) := by decide +kernel
theorem dX2_measure_9 : decode cX2_measure 9 = .ok (.aload_n 0, 1) := by decide +kernel
theorem dX2_measure_10 : decode cX2_measure 10 = .ok (.getfield 29, 3) := by decide +kernel
theorem dX2_measure_13 : decode cX2_measure 13 = .ok (.iload_n 1, 1) := by decide +kernel
theorem dX2_measure_14 : decode cX2_measure 14 = .ok (.iconst 0, 1) := by decide +kernel
theorem dX2_measure_15 : decode cX2_measure 15 = .ok (.iastore, 1) := by decide +kernel
theorem dX2_measure_16 : decode cX2_measure 16 = .ok (.iconst 1, 1) := by decide +kernel
theorem dX2_measure_17 : decode cX2_measure 17 = .ok (.istore_n 2, 1) := by decide +kernel
theorem dX2_measure_18 : decode cX2_measure 18 = .ok (.iconst 0, 1) := by decide +kernel
theorem dX2_measure_19 : decode cX2_measure 19 = .ok (.istore_n 3, 1) := by decide +kernel
theorem dX2_measure_20 : decode cX2_measure 20 = .ok (.iload_n 3, 1) := by decide +kernel
theorem dX2_measure_21 : decode cX2_measure 21 = .ok (.bipush 36, 2) := by decide +kernel
theorem dX2_measure_23 : decode cX2_measure 23 = .ok (.if_icmp .ge 18, 3) := by decide +kernel
theorem dX2_measure_26 : decode cX2_measure 26 = .ok (.iload_n 2, 1) := by decide +kernel
theorem dX2_measure_27 : decode cX2_measure 27 = .ok (.ifCond .eq 14, 3) := by decide +kernel
theorem dX2_measure_30 : decode cX2_measure 30 = .ok (.aload_n 0, 1) := by decide +kernel
theorem dX2_measure_31 : decode cX2_measure 31 = .ok (.invokevirtual 145, 3) := by decide +kernel
theorem dX2_measure_34 : decode cX2_measure 34 = .ok (.istore_n 2, 1) := by decide +kernel
theorem dX2_measure_35 : decode cX2_measure 35 = .ok (.iinc 3 1, 3) := by decide +kernel
theorem dX2_measure_38 : decode cX2_measure 38 = .ok (.goto (-18), 3) := by decide +kernel
theorem dX2_measure_41 : decode cX2_measure 41 = .ok (.return_, 1) := by decide +kernel
theorem dX2_shortenAll_0 : decode cX2_shortenAll 0 = .ok (.iconst 0, 1) := by decide +kernel
theorem dX2_shortenAll_1 : decode cX2_shortenAll 1 = .ok (.istore_n 1, 1) := by decide +kernel
theorem dX2_shortenAll_2 : decode cX2_shortenAll 2 = .ok (.iconst 0, 1) := by decide +kernel
theorem dX2_shortenAll_3 : decode cX2_shortenAll 3 = .ok (.istore_n 2, 1) := by decide +kernel
theorem dX2_shortenAll_4 : decode cX2_shortenAll 4 = .ok (.iload_n 2, 1) := by decide +kernel
theorem dX2_shortenAll_5 : decode cX2_shortenAll 5 = .ok (.bipush 36, 2) := by decide +kernel
theorem dX2_shortenAll_7 : decode cX2_shortenAll 7 = .ok (.if_icmp .ge 86, 3) := by decide +kernel
theorem dX2_shortenAll_10 : decode cX2_shortenAll 10 = .ok (.iconst 0, 1) := by decide +kernel
theorem dX2_shortenAll_11 : decode cX2_shortenAll 11 = .ok (.istore_n 3, 1) := by decide +kernel
theorem dX2_shortenAll_12 : decode cX2_shortenAll 12 = .ok (.iload_n 3, 1) := by decide +kernel
theorem dX2_shortenAll_13 : decode cX2_shortenAll 13 = .ok (.iconst 4, 1) := by decide +kernel
theorem dX2_shortenAll_14 : decode cX2_shortenAll 14 = .ok (.if_icmp .ge 73, 3) := by decide +kernel
theorem dX2_shortenAll_17 : decode cX2_shortenAll 17 = .ok (.aload_n 0, 1) := by decide +kernel
theorem dX2_shortenAll_18 : decode cX2_shortenAll 18 = .ok (.getfield 12, 3) := by decide +kernel
theorem dX2_shortenAll_21 : decode cX2_shortenAll 21 = .ok (.iload_n 2, 1) := by decide +kernel
theorem dX2_shortenAll_22 : decode cX2_shortenAll 22 = .ok (.iload_n 3, 1) := by decide +kernel
theorem dX2_shortenAll_23 : decode cX2_shortenAll 23 = .ok (.invokevirtual 149, 3) := by decide +kernel
theorem dX2_shortenAll_26 : decode cX2_shortenAll 26 = .ok (.istore 4, 2) := by decide +kernel
theorem dX2_shortenAll_28 : decode cX2_shortenAll 28 = .ok (.iload 4, 2) := by decide +kernel
theorem dX2_shortenAll_30 : decode cX2_shortenAll 30 = .ok (.iconst (-1), 1) := by decide +kernel
theorem dX2_shortenAll_31 : decode cX2_shortenAll 31 = .ok (.if_icmp .eq 50, 3) := by decide +kernel
theorem dX2_shortenAll_34 : decode cX2_shortenAll 34 = .ok (.aload_n 0, 1) := by decide +kernel
theorem dX2_shortenAll_35 : decode cX2_shortenAll 35 = .ok (.getfield 29, 3) := by decide +kernel
theorem dX2_shortenAll_38 : decode cX2_shortenAll 38 = .ok (.iload 4, 2) := by decide +kernel
theorem dX2_shortenAll_40 : decode cX2_shortenAll 40 = .ok (.iaload, 1) := by decide +kernel
theorem dX2_shortenAll_41 : decode cX2_shortenAll 41 = .ok (.aload_n 0, 1) := by decide +kernel
theorem dX2_shortenAll_42 : decode cX2_shortenAll 42 = .ok (.getfield 25, 3) := by decide +kernel
theorem dX2_shortenAll_45 : decode cX2_shortenAll 45 = .ok (.iload 4, 2) := by decide +kernel
theorem dX2_shortenAll_47 : decode cX2_shortenAll 47 = .ok (.iaload, 1) := by decide +kernel
theorem dX2_shortenAll_48 : decode cX2_shortenAll 48 = .ok (.iadd, 1) := by decide +kernel
theorem dX2_shortenAll_49 : decode cX2_shortenAll 49 = .ok (.aload_n 0, 1) := by decide +kernel
theorem dX2_shortenAll_50 : decode cX2_shortenAll 50 = .ok (.getfield 29, 3) := by decide +kernel
theorem dX2_shortenAll_53 : decode cX2_shortenAll 53 = .ok (.iload_n 2, 1) := by decide +kernel
theorem dX2_shortenAll_54 : decode cX2_shortenAll 54 = .ok (.iaload, 1) := by decide +kernel
theorem dX2_shortenAll_55 : decode cX2_shortenAll 55 = .ok (.if_icmp .ge 26, 3) := by decide +kernel
theorem dX2_shortenAll_58 : decode cX2_shortenAll 58 = .ok (.aload_n 0, 1) := by decide +kernel
theorem dX2_shortenAll_59 : decode cX2_shortenAll 59 = .ok (.getfield 29, 3) := by decide +kernel
theorem dX2_shortenAll_62 : decode cX2_shortenAll 62 = .ok (.iload_n 2, 1) := by decide +kernel
theorem dX2_shortenAll_63 : decode cX2_shortenAll 63 = .ok (.aload_n 0, 1) := by decide +kernel
theorem dX2_shortenAll_64 : decode cX2_shortenAll 64 = .ok (.getfield 29, 3) := by decide +kernel
theorem dX2_shortenAll_67 : decode cX2_shortenAll 67 = .ok (.iload 4, 2) := by decide +kernel
theorem dX2_shortenAll_69 : decode cX2_shortenAll 69 = .ok (.iaload, 1) := by decide +kernel
theorem dX2_shortenAll_70 : decode cX2_shortenAll 70 = .ok (.aload_n 0, 1) := by decide +kernel
theorem dX2_shortenAll_71 : decode cX2_shortenAll 71 = .ok (.getfield 25, 3) := by decide +kernel
theorem dX2_shortenAll_74 : decode cX2_shortenAll 74 = .ok (.iload 4, 2) := by decide +kernel
theorem dX2_shortenAll_76 : decode cX2_shortenAll 76 = .ok (.iaload, 1) := by decide +kernel
theorem dX2_shortenAll_77 : decode cX2_shortenAll 77 = .ok (.iadd, 1) := by decide +kernel
theorem dX2_shortenAll_78 : decode cX2_shortenAll 78 = .ok (.iastore, 1) := by decide +kernel
theorem dX2_shortenAll_79 : decode cX2_shortenAll 79 = .ok (.iconst 1, 1) := by decide +kernel
theorem dX2_shortenAll_80 : decode cX2_shortenAll 80 = .ok (.istore_n 1, 1) := by decide +kernel
theorem dX2_shortenAll_81 : decode cX2_shortenAll 81 = .ok (.iinc 3 1, 3) := by decide +kernel
theorem dX2_shortenAll_84 : decode cX2_shortenAll 84 = .ok (.goto (-72), 3) := by decide +kernel
theorem dX2_shortenAll_87 : decode cX2_shortenAll 87 = .ok (.iinc 2 1, 3) := by decide +kernel
theorem dX2_shortenAll_90 : decode cX2_shortenAll 90 = .ok (.goto (-86), 3) := by decide +kernel
theorem dX2_shortenAll_93 : decode cX2_shortenAll 93 = .ok (.iload_n 1, 1) := by decide +kernel
theorem dX2_shortenAll_94 : decode cX2_shortenAll 94 = .ok (.ireturn, 1) := by decide +kernel
theorem dX2_firstOn_0 : decode cX2_firstOn 0 = .ok (.iconst (-1), 1) := by decide +kernel
theorem dX2_firstOn_1 : decode cX2_firstOn 1 = .ok (.istore_n 2, 1) := by decide +kernel
theorem dX2_firstOn_2 : decode cX2_firstOn 2 = .ok (.iconst 0, 1) := by decide +kernel
theorem dX2_firstOn_3 : decode cX2_firstOn 3 = .ok (.istore_n 3, 1) := by decide +kernel
theorem dX2_firstOn_4 : decode cX2_firstOn 4 = .ok (.iload_n 3, 1) := by decide +kernel
theorem dX2_firstOn_5 : decode cX2_firstOn 5 = .ok (.iconst 4, 1) := by decide +kernel
theorem dX2_firstOn_6 : decode cX2_firstOn 6 = .ok (.if_icmp .ge 64, 3) := by decide +kernel
theorem dX2_firstOn_9 : decode cX2_firstOn 9 = .ok (.aload_n 0, 1) := by decide +kernel
theorem dX2_firstOn_10 : decode cX2_firstOn 10 = .ok (.getfield 12, 3) := by decide +kernel
theorem dX2_firstOn_13 : decode cX2_firstOn 13 = .ok (.iload_n 1, 1) := by decide +kernel
theorem dX2_firstOn_14 : decode cX2_firstOn 14 = .ok (.iload_n 3, 1) := by decide +kernel
theorem dX2_firstOn_15 : decode cX2_firstOn 15 = .ok (.invokevirtual 149, 3) := by decide +kernel
theorem dX2_firstOn_18 : decode cX2_firstOn 18 = .ok (.istore 4, 2) := by decide +kernel
theorem dX2_firstOn_20 : decode cX2_firstOn 20 = .ok (.iload 4, 2) := by decide +kernel
theorem dX2_firstOn_22 : decode cX2_firstOn 22 = .ok (.iconst (-1), 1) := by decide +kernel
theorem dX2_firstOn_23 : decode cX2_firstOn 23 = .ok (.if_icmp .eq 41, 3) := by decide +kernel
theorem dX2_firstOn_26 : decode cX2_firstOn 26 = .ok (.aload_n 0, 1) := by decide +kernel
theorem dX2_firstOn_27 : decode cX2_firstOn 27 = .ok (.getfield 29, 3) := by decide +kernel
theorem dX2_firstOn_30 : decode cX2_firstOn 30 = .ok (.iload 4, 2) := by decide +kernel
theorem dX2_firstOn_32 : decode cX2_firstOn 32 = .ok (.iaload, 1) := by decide +kernel
theorem dX2_firstOn_33 : decode cX2_firstOn 33 = .ok (.aload_n 0, 1) := by decide +kernel
theorem dX2_firstOn_34 : decode cX2_firstOn 34 = .ok (.getfield 25, 3) := by decide +kernel
theorem dX2_firstOn_37 : decode cX2_firstOn 37 = .ok (.iload 4, 2) := by decide +kernel
theorem dX2_firstOn_39 : decode cX2_firstOn 39 = .ok (.iaload, 1) := by decide +kernel
theorem dX2_firstOn_40 : decode cX2_firstOn 40 = .ok (.iadd, 1) := by decide +kernel
theorem dX2_firstOn_41 : decode cX2_firstOn 41 = .ok (.aload_n 0, 1) := by decide +kernel
theorem dX2_firstOn_42 : decode cX2_firstOn 42 = .ok (.getfield 29, 3) := by decide +kernel
theorem dX2_firstOn_45 : decode cX2_firstOn 45 = .ok (.iload_n 1, 1) := by decide +kernel
theorem dX2_firstOn_46 : decode cX2_firstOn 46 = .ok (.iaload, 1) := by decide +kernel
theorem dX2_firstOn_47 : decode cX2_firstOn 47 = .ok (.if_icmp .ne 17, 3) := by decide +kernel
theorem dX2_firstOn_50 : decode cX2_firstOn 50 = .ok (.iload_n 2, 1) := by decide +kernel
theorem dX2_firstOn_51 : decode cX2_firstOn 51 = .ok (.iconst (-1), 1) := by decide +kernel
theorem dX2_firstOn_52 : decode cX2_firstOn 52 = .ok (.if_icmp .eq 9, 3) := by decide +kernel
theorem dX2_firstOn_55 : decode cX2_firstOn 55 = .ok (.iload 4, 2) := by decide +kernel
theorem dX2_firstOn_57 : decode cX2_firstOn 57 = .ok (.iload_n 2, 1) := by decide +kernel
theorem dX2_firstOn_58 : decode cX2_firstOn 58 = .ok (.if_icmp .ge 6, 3) := by decide +kernel
theorem dX2_firstOn_61 : decode cX2_firstOn 61 = .ok (.iload 4, 2) := by decide +kernel
theorem dX2_firstOn_63 : decode cX2_firstOn 63 = .ok (.istore_n 2, 1) := by decide +kernel
theorem dX2_firstOn_64 : decode cX2_firstOn 64 = .ok (.iinc 3 1, 3) := by decide +kernel
theorem dX2_firstOn_67 : decode cX2_firstOn 67 = .ok (.goto (-63), 3) := by decide +kernel
theorem dX2_firstOn_70 : decode cX2_firstOn 70 = .ok (.iload_n 2, 1) := by decide +kernel
theorem dX2_firstOn_71 : decode cX2_firstOn 71 = .ok (.ireturn, 1) := by decide +kernel
theorem dX3_init_0 : decode cX3_init 0 = .ok (.aload_n 0, 1) := by decide +kernel
theorem dX3_init_1 : decode cX3_init 1 = .ok (.invokespecial 3, 3) := by decide +kernel
theorem dX3_init_4 : decode cX3_init 4 = .ok (.aload_n 0, 1) := by decide +kernel
theorem dX3_init_5 : decode cX3_init 5 = .ok (.iconst (-1), 1) := by decide +kernel
theorem dX3_init_6 : decode cX3_init 6 = .ok (.putfield 9, 3) := by decide +kernel
theorem dX3_init_9 : decode cX3_init 9 = .ok (.return_, 1) := by decide +kernel
theorem dX3_read_0 : decode cX3_read 0 = .ok (.aload_n 0, 1) := by decide +kernel
theorem dX3_read_1 : decode cX3_read 1 = .ok (.aload_n 1, 1) := by decide +kernel
theorem dX3_read_2 : decode cX3_read 2 = .ok (.putfield 15, 3) := by decide +kernel
theorem dX3_read_5 : decode cX3_read 5 = .ok (.aload_n 0, 1) := by decide +kernel
theorem dX3_read_6 : decode cX3_read 6 = .ok (.aload_n 2, 1) := by decide +kernel
theorem dX3_read_7 : decode cX3_read 7 = .ok (.putfield 19, 3) := by decide +kernel
theorem dX3_read_10 : decode cX3_read 10 = .ok (.aload_n 0, 1) := by decide +kernel
theorem dX3_read_11 : decode cX3_read 11 = .ok (.iconst 0, 1) := by decide +kernel
theorem dX3_read_12 : decode cX3_read 12 = .ok (.putfield 23, 3) := by decide +kernel
theorem dX3_read_15 : decode cX3_read 15 = .ok (.aload_n 0, 1) := by decide +kernel
theorem dX3_read_16 : decode cX3_read 16 = .ok (.iconst (-1), 1) := by decide +kernel
theorem dX3_read_17 : decode cX3_read 17 = .ok (.putfield 9, 3) := by decide +kernel
theorem dX3_read_20 : decode cX3_read 20 = .ok (.iconst 1, 1) := by decide +kernel
theorem dX3_read_21 : decode cX3_read 21 = .ok (.istore_n 3, 1) := by decide +kernel
theorem dX3_read_22 : decode cX3_read 22 = .ok (.iload_n 3, 1) := by decide +kernel
theorem dX3_read_23 : decode cX3_read 23 = .ok (.sipush 160, 3) := by decide +kernel
theorem dX3_read_26 : decode cX3_read 26 = .ok (.if_icmp .gt 45, 3) := by decide +kernel
theorem dX3_read_29 : decode cX3_read 29 = .ok (.aload_n 0, 1) := by decide +kernel
theorem dX3_read_30 : decode cX3_read 30 = .ok (.invokevirtual 26, 3) := by decide +kernel
theorem dX3_read_33 : decode cX3_read 33 = .ok (.ifCond .ne 5, 3) := by decide +kernel
theorem dX3_read_36 : decode cX3_read 36 = .ok (.iconst (-1), 1) := by decide +kernel
theorem dX3_read_37 : decode cX3_read 37 = .ok (.ireturn, 1) := by decide +kernel
theorem dX3_read_38 : decode cX3_read 38 = .ok (.aload_n 0, 1) := by decide +kernel
theorem dX3_read_39 : decode cX3_read 39 = .ok (.getfield 23, 3) := by decide +kernel
theorem dX3_read_42 : decode cX3_read 42 = .ok (.aload_n 0, 1) := by decide +kernel
theorem dX3_read_43 : decode cX3_read 43 = .ok (.getfield 15, 3) := by decide +kernel
theorem dX3_read_46 : decode cX3_read 46 = .ok (.getfield 30, 3) := by decide +kernel
theorem dX3_read_49 : decode cX3_read 49 = .ok (.if_icmp .ne 5, 3) := by decide +kernel
theorem dX3_read_52 : decode cX3_read 52 = .ok (.iload_n 3, 1) := by decide +kernel
theorem dX3_read_53 : decode cX3_read 53 = .ok (.ireturn, 1) := by decide +kernel
theorem dX3_read_54 : decode cX3_read 54 = .ok (.aload_n 0, 1) := by decide +kernel
theorem dX3_read_55 : decode cX3_read 55 = .ok (.bipush 59, 2) := by decide +kernel
theorem dX3_read_57 : decode cX3_read 57 = .ok (.invokevirtual 35, 3) := by decide +kernel
theorem dX3_read_60 : decode cX3_read 60 = .ok (.ifCond .ne 5, 3) := by decide +kernel
theorem dX3_read_63 : decode cX3_read 63 = .ok (.iconst (-1), 1) := by decide +kernel
theorem dX3_read_64 : decode cX3_read 64 = .ok (.ireturn, 1) := by decide +kernel
theorem dX3_read_65 : decode cX3_read 65 = .ok (.iinc 3 1, 3) := by decide +kernel
theorem dX3_read_68 : decode cX3_read 68 = .ok (.goto (-46), 3) := by decide +kernel
theorem dX3_read_71 : decode cX3_read 71 = .ok (.iconst (-1), 1) := by decide +kernel
theorem dX3_read_72 : decode cX3_read 72 = .ok (.ireturn, 1) := by decide +kernel
theorem dX3_readItem_0 : decode cX3_readItem 0 = .ok (.aload_n 0, 1) := by decide +kernel
theorem dX3_readItem_1 : decode cX3_readItem 1 = .ok (.getfield 23, 3) := by decide +kernel
theorem dX3_readItem_4 : decode cX3_readItem 4 = .ok (.istore_n 1, 1) := by decide +kernel
theorem dX3_readItem_5 : decode cX3_readItem 5 = .ok (.aload_n 0, 1) := by decide +kernel
theorem dX3_readItem_6 : decode cX3_readItem 6 = .ok (.getfield 15, 3) := by decide +kernel
theorem dX3_readItem_9 : decode cX3_readItem 9 = .ok (.aload_n 0, 1) := by decide +kernel
theorem dX3_readItem_10 : decode cX3_readItem 10 = .ok (.getfield 23, 3) := by decide +kernel
theorem dX3_readItem_13 : decode cX3_readItem 13 = .ok (.invokevirtual 39, 3) := by decide +kernel
theorem dX3_readItem_16 : decode cX3_readItem 16 = .ok (.invokestatic 43, 3) := by decide +kernel
theorem dX3_readItem_19 : decode cX3_readItem 19 = .ok (.astore_n 2, 1) := by decide +kernel
theorem dX3_readItem_20 : decode cX3_readItem 20 = .ok (.aload_n 2, 1) := by decide +kernel
theorem dX3_readItem_21 : decode cX3_readItem 21 = .ok (.invokevirtual 47, 3) := by decide +kernel
theorem dX3_readItem_24 : decode cX3_readItem 24 = .ok (.ifCond .eq 9, 3) := by decide +kernel
theorem dX3_readItem_27 : decode cX3_readItem 27 = .ok (.aload_n 0, 1) := by decide +kernel
theorem dX3_readItem_28 : decode cX3_readItem 28 = .ok (.iload_n 1, 1) := by decide +kernel
theorem dX3_readItem_29 : decode cX3_readItem 29 = .ok (.invokevirtual 52, 3) := by decide +kernel
theorem dX3_readItem_32 : decode cX3_readItem 32 = .ok (.ireturn, 1) := by decide +kernel
theorem dX3_readItem_33 : decode cX3_readItem 33 = .ok (.iconst 0, 1) := by decide +kernel
theorem dX3_readItem_34 : decode cX3_readItem 34 = .ok (.istore_n 3, 1) := by decide +kernel
theorem dX3_readItem_35 : decode cX3_readItem 35 = .ok (.iload_n 3, 1) := by decide +kernel
theorem dX3_readItem_36 : decode cX3_readItem 36 = .ok (.aload_n 2, 1) := by decide +kernel
theorem dX3_readItem_37 : decode cX3_readItem 37 = .ok (.invokevirtual 55, 3) := by decide +kernel
theorem dX3_readItem_40 : decode cX3_readItem 40 = .ok (.if_icmp .ge 23, 3) := by decide +kernel
theorem dX3_readItem_43 : decode cX3_readItem 43 = .ok (.aload_n 0, 1) := by decide +kernel
theorem dX3_readItem_44 : decode cX3_readItem 44 = .ok (.aload_n 2, 1) := by decide +kernel
theorem dX3_readItem_45 : decode cX3_readItem 45 = .ok (.iload_n 3, 1) := by decide +kernel
theorem dX3_readItem_46 : decode cX3_readItem 46 = .ok (.invokevirtual 58, 3) := by decide +kernel
theorem dX3_readItem_49 : decode cX3_readItem 49 = .ok (.invokevirtual 35, 3) := by decide +kernel
theorem dX3_readItem_52 : decode cX3_readItem 52 = .ok (.ifCond .ne 5, 3) := by decide +kernel
theorem dX3_readItem_55 : decode cX3_readItem 55 = .ok (.iconst 0, 1) := by decide +kernel
theorem dX3_readItem_56 : decode cX3_readItem 56 = .ok (.ireturn, 1) := by decide +kernel
theorem dX3_readItem_57 : decode cX3_readItem 57 = .ok (.iinc 3 1, 3) := by decide +kernel
theorem dX3_readItem_60 : decode cX3_readItem 60 = .ok (.goto (-25), 3) := by decide +kernel
theorem dX3_readItem_63 : decode cX3_readItem 63 = .ok (.aload_n 2, 1) := by decide +kernel
theorem dX3_readItem_64 : decode cX3_readItem 64 = .ok (.iconst 0, 1) := by decide +kernel
theorem dX3_readItem_65 : decode cX3_readItem 65 = .ok (.invokevirtual 58, 3) := by decide +kernel
theorem dX3_readItem_68 : decode cX3_readItem 68 = .ok (.tableswitch 65 109 115 #[55, 65, 65, 44, 65, 60, 50], 44) := by decide +kernel
theorem dX3_readItem_112 : decode cX3_readItem 112 = .ok (.aload_n 0, 1) := by decide +kernel
theorem dX3_readItem_113 : decode cX3_readItem 113 = .ok (.iload_n 1, 1) := by decide +kernel
theorem dX3_readItem_114 : decode cX3_readItem 114 = .ok (.invokevirtual 62, 3) := by decide +kernel
theorem dX3_readItem_117 : decode cX3_readItem 117 = .ok (.ireturn, 1) := by decide +kernel
theorem dX3_readItem_118 : decode cX3_readItem 118 = .ok (.aload_n 0, 1) := by decide +kernel
theorem dX3_readItem_119 : decode cX3_readItem 119 = .ok (.invokevirtual 65, 3) := by decide +kernel
theorem dX3_readItem_122 : decode cX3_readItem 122 = .ok (.ireturn, 1) := by decide +kernel
theorem dX3_readItem_123 : decode cX3_readItem 123 = .ok (.aload_n 0, 1) := by decide +kernel
theorem dX3_readItem_124 : decode cX3_readItem 124 = .ok (.invokevirtual 68, 3) := by decide +kernel
theorem dX3_readItem_127 : decode cX3_readItem 127 = .ok (.ireturn, 1) := by decide +kernel
theorem dX3_readItem_128 : decode cX3_readItem 128 = .ok (.aload_n 0, 1) := by decide +kernel
theorem dX3_readItem_129 : decode cX3_readItem 129 = .ok (.invokevirtual 71, 3) := by decide +kernel
theorem dX3_readItem_132 : decode cX3_readItem 132 = .ok (.ireturn, 1) := by decide +kernel
theorem dX3_readItem_133 : decode cX3_readItem 133 = .ok (.aload_n 0, 1) := by decide +kernel
theorem dX3_readItem_134 : decode cX3_readItem 134 = .ok (.aload_n 2, 1) := by decide +kernel
theorem dX3_readItem_135 : decode cX3_readItem 135 = .ok (.iconst 0, 1) := by decide +kernel
theorem dX3_readItem_136 : decode cX3_readItem 136 = .ok (.invokevirtual 58, 3) := by decide +kernel
theorem dX3_readItem_139 : decode cX3_readItem 139 = .ok (.invokevirtual 74, 3) := by decide +kernel
theorem dX3_readItem_142 : decode cX3_readItem 142 = .ok (.ireturn, 1) := by decide +kernel
theorem dX3_wordWith_0 : decode cX3_wordWith 0 = .ok (.iload_n 0, 1) := by decide +kernel
theorem dX3_wordWith_1 : decode cX3_wordWith 1 = .ok (.tableswitch 124 98 119 #[109, 124, 124, 124, 124, 106, 124, 124, 124, 124, 124, 118, 124, 124, 112, 124, 121, 115, 124, 124, 124, 103], 103) := by decide +kernel
theorem dX3_wordWith_104 : decode cX3_wordWith 104 = .ok (.ldc 78, 2) := by decide +kernel
theorem dX3_wordWith_106 : decode cX3_wordWith 106 = .ok (.areturn, 1) := by decide +kernel
theorem dX3_wordWith_107 : decode cX3_wordWith 107 = .ok (.ldc 80, 2) := by decide +kernel
theorem dX3_wordWith_109 : decode cX3_wordWith 109 = .ok (.areturn, 1) := by decide +kernel
theorem dX3_wordWith_110 : decode cX3_wordWith 110 = .ok (.ldc 82, 2) := by decide +kernel
theorem dX3_wordWith_112 : decode cX3_wordWith 112 = .ok (.areturn, 1) := by decide +kernel
theorem dX3_wordWith_113 : decode cX3_wordWith 113 = .ok (.ldc 84, 2) := by decide +kernel
theorem dX3_wordWith_115 : decode cX3_wordWith 115 = .ok (.areturn, 1) := by decide +kernel
theorem dX3_wordWith_116 : decode cX3_wordWith 116 = .ok (.ldc 86, 2) := by decide +kernel
theorem dX3_wordWith_118 : decode cX3_wordWith 118 = .ok (.areturn, 1) := by decide +kernel
theorem dX3_wordWith_119 : decode cX3_wordWith 119 = .ok (.ldc 88, 2) := by decide +kernel
theorem dX3_wordWith_121 : decode cX3_wordWith 121 = .ok (.areturn, 1) := by decide +kernel
theorem dX3_wordWith_122 : decode cX3_wordWith 122 = .ok (.ldc 90, 2) := by decide +kernel
theorem dX3_wordWith_124 : decode cX3_wordWith 124 = .ok (.areturn, 1) := by decide +kernel
theorem dX3_wordWith_125 : decode cX3_wordWith 125 = .ok (.ldc 92, 2) := by decide +kernel
theorem dX3_wordWith_127 : decode cX3_wordWith 127 = .ok (.areturn, 1) := by decide +kernel
theorem dX3_readSquare_0 : decode cX3_readSquare 0 = .ok (.aload_n 0, 1) := by decide +kernel
theorem dX3_readSquare_1 : decode cX3_readSquare 1 = .ok (.iconst 0, 1) := by decide +kernel
theorem dX3_readSquare_2 : decode cX3_readSquare 2 = .ok (.bipush 35, 2) := by decide +kernel
theorem dX3_readSquare_4 : decode cX3_readSquare 4 = .ok (.invokevirtual 94, 3) := by decide +kernel
theorem dX3_readSquare_7 : decode cX3_readSquare 7 = .ok (.istore_n 2, 1) := by decide +kernel
theorem dX3_readSquare_8 : decode cX3_readSquare 8 = .ok (.iload_n 2, 1) := by decide +kernel
theorem dX3_readSquare_9 : decode cX3_readSquare 9 = .ok (.iconst (-1), 1) := by decide +kernel
theorem dX3_readSquare_10 : decode cX3_readSquare 10 = .ok (.if_icmp .ne 5, 3) := by decide +kernel
theorem dX3_readSquare_13 : decode cX3_readSquare 13 = .ok (.iconst 0, 1) := by decide +kernel
theorem dX3_readSquare_14 : decode cX3_readSquare 14 = .ok (.ireturn, 1) := by decide +kernel
theorem dX3_readSquare_15 : decode cX3_readSquare 15 = .ok (.iload_n 1, 1) := by decide +kernel
theorem dX3_readSquare_16 : decode cX3_readSquare 16 = .ok (.bipush 98, 2) := by decide +kernel
theorem dX3_readSquare_18 : decode cX3_readSquare 18 = .ok (.if_icmp .ne 15, 3) := by decide +kernel
theorem dX3_readSquare_21 : decode cX3_readSquare 21 = .ok (.aload_n 0, 1) := by decide +kernel
theorem dX3_readSquare_22 : decode cX3_readSquare 22 = .ok (.getfield 19, 3) := by decide +kernel
theorem dX3_readSquare_25 : decode cX3_readSquare 25 = .ok (.iload_n 2, 1) := by decide +kernel
theorem dX3_readSquare_26 : decode cX3_readSquare 26 = .ok (.iconst 1, 1) := by decide +kernel
theorem dX3_readSquare_27 : decode cX3_readSquare 27 = .ok (.invokevirtual 98, 3) := by decide +kernel
theorem dX3_readSquare_30 : decode cX3_readSquare 30 = .ok (.goto 48, 3) := by decide +kernel
theorem dX3_readSquare_33 : decode cX3_readSquare 33 = .ok (.iload_n 1, 1) := by decide +kernel
theorem dX3_readSquare_34 : decode cX3_readSquare 34 = .ok (.bipush 119, 2) := by decide +kernel
theorem dX3_readSquare_36 : decode cX3_readSquare 36 = .ok (.if_icmp .ne 23, 3) := by decide +kernel
theorem dX3_readSquare_39 : decode cX3_readSquare 39 = .ok (.aload_n 0, 1) := by decide +kernel
theorem dX3_readSquare_40 : decode cX3_readSquare 40 = .ok (.getfield 19, 3) := by decide +kernel
theorem dX3_readSquare_43 : decode cX3_readSquare 43 = .ok (.iload_n 2, 1) := by decide +kernel
theorem dX3_readSquare_44 : decode cX3_readSquare 44 = .ok (.invokevirtual 104, 3) := by decide +kernel
theorem dX3_readSquare_47 : decode cX3_readSquare 47 = .ok (.ifCond .eq 12, 3) := by decide +kernel
theorem dX3_readSquare_50 : decode cX3_readSquare 50 = .ok (.aload_n 0, 1) := by decide +kernel
theorem dX3_readSquare_51 : decode cX3_readSquare 51 = .ok (.aload_n 0, 1) := by decide +kernel
theorem dX3_readSquare_52 : decode cX3_readSquare 52 = .ok (.getfield 107, 3) := by decide +kernel
theorem dX3_readSquare_55 : decode cX3_readSquare 55 = .ok (.invokevirtual 52, 3) := by decide +kernel
theorem dX3_readSquare_58 : decode cX3_readSquare 58 = .ok (.ireturn, 1) := by decide +kernel
theorem dX3_readSquare_59 : decode cX3_readSquare 59 = .ok (.aload_n 0, 1) := by decide +kernel
theorem dX3_readSquare_60 : decode cX3_readSquare 60 = .ok (.getfield 19, 3) := by decide +kernel
theorem dX3_readSquare_63 : decode cX3_readSquare 63 = .ok (.iload_n 2, 1) := by decide +kernel
theorem dX3_readSquare_64 : decode cX3_readSquare 64 = .ok (.iload_n 1, 1) := by decide +kernel
theorem dX3_readSquare_65 : decode cX3_readSquare 65 = .ok (.bipush 119, 2) := by decide +kernel
theorem dX3_readSquare_67 : decode cX3_readSquare 67 = .ok (.if_icmp .ne 7, 3) := by decide +kernel
theorem dX3_readSquare_70 : decode cX3_readSquare 70 = .ok (.iconst 1, 1) := by decide +kernel
theorem dX3_readSquare_71 : decode cX3_readSquare 71 = .ok (.goto 4, 3) := by decide +kernel
theorem dX3_readSquare_74 : decode cX3_readSquare 74 = .ok (.iconst 0, 1) := by decide +kernel
theorem dX3_readSquare_75 : decode cX3_readSquare 75 = .ok (.invokevirtual 110, 3) := by decide +kernel
theorem dX3_readSquare_78 : decode cX3_readSquare 78 = .ok (.iconst 1, 1) := by decide +kernel
theorem dX3_readSquare_79 : decode cX3_readSquare 79 = .ok (.ireturn, 1) := by decide +kernel
theorem dX3_readPerson_0 : decode cX3_readPerson 0 = .ok (.aload_n 0, 1) := by decide +kernel
theorem dX3_readPerson_1 : decode cX3_readPerson 1 = .ok (.getfield 19, 3) := by decide +kernel
theorem dX3_readPerson_4 : decode cX3_readPerson 4 = .ok (.invokevirtual 113, 3) := by decide +kernel
theorem dX3_readPerson_7 : decode cX3_readPerson 7 = .ok (.ifCond .ne 9, 3) := by decide +kernel
theorem dX3_readPerson_10 : decode cX3_readPerson 10 = .ok (.aload_n 0, 1) := by decide +kernel
theorem dX3_readPerson_11 : decode cX3_readPerson 11 = .ok (.iload_n 1, 1) := by decide +kernel
theorem dX3_readPerson_12 : decode cX3_readPerson 12 = .ok (.invokevirtual 52, 3) := by decide +kernel
theorem dX3_readPerson_15 : decode cX3_readPerson 15 = .ok (.ireturn, 1) := by decide +kernel
theorem dX3_readPerson_16 : decode cX3_readPerson 16 = .ok (.aload_n 0, 1) := by decide +kernel
theorem dX3_readPerson_17 : decode cX3_readPerson 17 = .ok (.iconst 0, 1) := by decide +kernel
theorem dX3_readPerson_18 : decode cX3_readPerson 18 = .ok (.bipush 6, 2) := by decide +kernel
theorem dX3_readPerson_20 : decode cX3_readPerson 20 = .ok (.invokevirtual 94, 3) := by decide +kernel
theorem dX3_readPerson_23 : decode cX3_readPerson 23 = .ok (.istore_n 2, 1) := by decide +kernel
theorem dX3_readPerson_24 : decode cX3_readPerson 24 = .ok (.iload_n 2, 1) := by decide +kernel
theorem dX3_readPerson_25 : decode cX3_readPerson 25 = .ok (.iconst (-1), 1) := by decide +kernel
theorem dX3_readPerson_26 : decode cX3_readPerson 26 = .ok (.if_icmp .ne 7, 3) := by decide +kernel
theorem dX3_readPerson_29 : decode cX3_readPerson 29 = .ok (.iconst (-1), 1) := by decide +kernel
theorem dX3_readPerson_30 : decode cX3_readPerson 30 = .ok (.goto 10, 3) := by decide +kernel
theorem dX3_readPerson_33 : decode cX3_readPerson 33 = .ok (.aload_n 0, 1) := by decide +kernel
theorem dX3_readPerson_34 : decode cX3_readPerson 34 = .ok (.iconst 0, 1) := by decide +kernel
theorem dX3_readPerson_35 : decode cX3_readPerson 35 = .ok (.bipush 9, 2) := by decide +kernel
theorem dX3_readPerson_37 : decode cX3_readPerson 37 = .ok (.invokevirtual 94, 3) := by decide +kernel
theorem dX3_readPerson_40 : decode cX3_readPerson 40 = .ok (.istore_n 3, 1) := by decide +kernel
theorem dX3_readPerson_41 : decode cX3_readPerson 41 = .ok (.iload_n 3, 1) := by decide +kernel
theorem dX3_readPerson_42 : decode cX3_readPerson 42 = .ok (.iconst (-1), 1) := by decide +kernel
theorem dX3_readPerson_43 : decode cX3_readPerson 43 = .ok (.if_icmp .ne 7, 3) := by decide +kernel
theorem dX3_readPerson_46 : decode cX3_readPerson 46 = .ok (.iconst (-1), 1) := by decide +kernel
theorem dX3_readPerson_47 : decode cX3_readPerson 47 = .ok (.goto 10, 3) := by decide +kernel
theorem dX3_readPerson_50 : decode cX3_readPerson 50 = .ok (.aload_n 0, 1) := by decide +kernel
theorem dX3_readPerson_51 : decode cX3_readPerson 51 = .ok (.iconst 0, 1) := by decide +kernel
theorem dX3_readPerson_52 : decode cX3_readPerson 52 = .ok (.bipush 20, 2) := by decide +kernel
theorem dX3_readPerson_54 : decode cX3_readPerson 54 = .ok (.invokevirtual 94, 3) := by decide +kernel
theorem dX3_readPerson_57 : decode cX3_readPerson 57 = .ok (.istore 4, 2) := by decide +kernel
theorem dX3_readPerson_59 : decode cX3_readPerson 59 = .ok (.iload 4, 2) := by decide +kernel
theorem dX3_readPerson_61 : decode cX3_readPerson 61 = .ok (.iconst (-1), 1) := by decide +kernel
theorem dX3_readPerson_62 : decode cX3_readPerson 62 = .ok (.if_icmp .ne 7, 3) := by decide +kernel
theorem dX3_readPerson_65 : decode cX3_readPerson 65 = .ok (.iconst (-1), 1) := by decide +kernel
theorem dX3_readPerson_66 : decode cX3_readPerson 66 = .ok (.goto 10, 3) := by decide +kernel
theorem dX3_readPerson_69 : decode cX3_readPerson 69 = .ok (.aload_n 0, 1) := by decide +kernel
theorem dX3_readPerson_70 : decode cX3_readPerson 70 = .ok (.iconst 0, 1) := by decide +kernel
theorem dX3_readPerson_71 : decode cX3_readPerson 71 = .ok (.bipush 9, 2) := by decide +kernel
theorem dX3_readPerson_73 : decode cX3_readPerson 73 = .ok (.invokevirtual 94, 3) := by decide +kernel
theorem dX3_readPerson_76 : decode cX3_readPerson 76 = .ok (.istore 5, 2) := by decide +kernel
theorem dX3_readPerson_78 : decode cX3_readPerson 78 = .ok (.iload 5, 2) := by decide +kernel
theorem dX3_readPerson_80 : decode cX3_readPerson 80 = .ok (.iconst (-1), 1) := by decide +kernel
theorem dX3_readPerson_81 : decode cX3_readPerson 81 = .ok (.if_icmp .ne 7, 3) := by decide +kernel
theorem dX3_readPerson_84 : decode cX3_readPerson 84 = .ok (.iconst (-1), 1) := by decide +kernel
theorem dX3_readPerson_85 : decode cX3_readPerson 85 = .ok (.goto 11, 3) := by decide +kernel
theorem dX3_readPerson_88 : decode cX3_readPerson 88 = .ok (.aload_n 0, 1) := by decide +kernel
theorem dX3_readPerson_89 : decode cX3_readPerson 89 = .ok (.iconst 0, 1) := by decide +kernel
theorem dX3_readPerson_90 : decode cX3_readPerson 90 = .ok (.sipush 9999, 3) := by decide +kernel
theorem dX3_readPerson_93 : decode cX3_readPerson 93 = .ok (.invokevirtual 94, 3) := by decide +kernel
theorem dX3_readPerson_96 : decode cX3_readPerson 96 = .ok (.istore 6, 2) := by decide +kernel
theorem dX3_readPerson_98 : decode cX3_readPerson 98 = .ok (.iload 6, 2) := by decide +kernel
theorem dX3_readPerson_100 : decode cX3_readPerson 100 = .ok (.iconst (-1), 1) := by decide +kernel
theorem dX3_readPerson_101 : decode cX3_readPerson 101 = .ok (.if_icmp .ne 7, 3) := by decide +kernel
theorem dX3_readPerson_104 : decode cX3_readPerson 104 = .ok (.iconst (-1), 1) := by decide +kernel
theorem dX3_readPerson_105 : decode cX3_readPerson 105 = .ok (.goto 10, 3) := by decide +kernel
theorem dX3_readPerson_108 : decode cX3_readPerson 108 = .ok (.aload_n 0, 1) := by decide +kernel
theorem dX3_readPerson_109 : decode cX3_readPerson 109 = .ok (.iconst 0, 1) := by decide +kernel
theorem dX3_readPerson_110 : decode cX3_readPerson 110 = .ok (.bipush 35, 2) := by decide +kernel
theorem dX3_readPerson_112 : decode cX3_readPerson 112 = .ok (.invokevirtual 94, 3) := by decide +kernel
theorem dX3_readPerson_115 : decode cX3_readPerson 115 = .ok (.istore 7, 2) := by decide +kernel
theorem dX3_readPerson_117 : decode cX3_readPerson 117 = .ok (.iload 7, 2) := by decide +kernel
theorem dX3_readPerson_119 : decode cX3_readPerson 119 = .ok (.iconst (-1), 1) := by decide +kernel
theorem dX3_readPerson_120 : decode cX3_readPerson 120 = .ok (.if_icmp .ne 5, 3) := by decide +kernel
theorem dX3_readPerson_123 : decode cX3_readPerson 123 = .ok (.iconst 0, 1) := by decide +kernel
theorem dX3_readPerson_124 : decode cX3_readPerson 124 = .ok (.ireturn, 1) := by decide +kernel
theorem dX3_readPerson_125 : decode cX3_readPerson 125 = .ok (.aload_n 0, 1) := by decide +kernel
theorem dX3_readPerson_126 : decode cX3_readPerson 126 = .ok (.getfield 19, 3) := by decide +kernel
theorem dX3_readPerson_129 : decode cX3_readPerson 129 = .ok (.iload 7, 2) := by decide +kernel
theorem dX3_readPerson_131 : decode cX3_readPerson 131 = .ok (.invokevirtual 116, 3) := by decide +kernel
theorem dX3_readPerson_134 : decode cX3_readPerson 134 = .ok (.ifCond .eq 12, 3) := by decide +kernel
theorem dX3_readPerson_137 : decode cX3_readPerson 137 = .ok (.aload_n 0, 1) := by decide +kernel
theorem dX3_readPerson_138 : decode cX3_readPerson 138 = .ok (.aload_n 0, 1) := by decide +kernel
theorem dX3_readPerson_139 : decode cX3_readPerson 139 = .ok (.getfield 107, 3) := by decide +kernel
theorem dX3_readPerson_142 : decode cX3_readPerson 142 = .ok (.invokevirtual 52, 3) := by decide +kernel
theorem dX3_readPerson_145 : decode cX3_readPerson 145 = .ok (.ireturn, 1) := by decide +kernel
theorem dX3_readPerson_146 : decode cX3_readPerson 146 = .ok (.aload_n 0, 1) := by decide +kernel
theorem dX3_readPerson_147 : decode cX3_readPerson 147 = .ok (.getfield 19, 3) := by decide +kernel
theorem dX3_readPerson_150 : decode cX3_readPerson 150 = .ok (.getfield 119, 3) := by decide +kernel
theorem dX3_readPerson_153 : decode cX3_readPerson 153 = .ok (.aload_n 0, 1) := by decide +kernel
theorem dX3_readPerson_154 : decode cX3_readPerson 154 = .ok (.getfield 19, 3) := by decide +kernel
theorem dX3_readPerson_157 : decode cX3_readPerson 157 = .ok (.getfield 123, 3) := by decide +kernel
theorem dX3_readPerson_160 : decode cX3_readPerson 160 = .ok (.aaload, 1) := by decide +kernel
theorem dX3_readPerson_161 : decode cX3_readPerson 161 = .ok (.astore 8, 2) := by decide +kernel
theorem dX3_readPerson_163 : decode cX3_readPerson 163 = .ok (.aload 8, 2) := by decide +kernel
theorem dX3_readPerson_165 : decode cX3_readPerson 165 = .ok (.iload_n 2, 1) := by decide +kernel
theorem dX3_readPerson_166 : decode cX3_readPerson 166 = .ok (.iload_n 3, 1) := by decide +kernel
theorem dX3_readPerson_167 : decode cX3_readPerson 167 = .ok (.iload 4, 2) := by decide +kernel
theorem dX3_readPerson_169 : decode cX3_readPerson 169 = .ok (.invokevirtual 126, 3) := by decide +kernel
theorem dX3_readPerson_172 : decode cX3_readPerson 172 = .ok (.aload 8, 2) := by decide +kernel
theorem dX3_readPerson_174 : decode cX3_readPerson 174 = .ok (.iload 5, 2) := by decide +kernel
theorem dX3_readPerson_176 : decode cX3_readPerson 176 = .ok (.iload 6, 2) := by decide +kernel
theorem dX3_readPerson_178 : decode cX3_readPerson 178 = .ok (.iload 7, 2) := by decide +kernel
theorem dX3_readPerson_180 : decode cX3_readPerson 180 = .ok (.invokevirtual 132, 3) := by decide +kernel
theorem dX3_readPerson_183 : decode cX3_readPerson 183 = .ok (.aload_n 0, 1) := by decide +kernel
theorem dX3_readPerson_184 : decode cX3_readPerson 184 = .ok (.getfield 19, 3) := by decide +kernel
theorem dX3_readPerson_187 : decode cX3_readPerson 187 = .ok (.dup, 1) := by decide +kernel
theorem dX3_readPerson_188 : decode cX3_readPerson 188 = .ok (.getfield 123, 3) := by decide +kernel
theorem dX3_readPerson_191 : decode cX3_readPerson 191 = .ok (.iconst 1, 1) := by decide +kernel
theorem dX3_readPerson_192 : decode cX3_readPerson 192 = .ok (.iadd, 1) := by decide +kernel
theorem dX3_readPerson_193 : decode cX3_readPerson 193 = .ok (.putfield 123, 3) := by decide +kernel
theorem dX3_readPerson_196 : decode cX3_readPerson 196 = .ok (.iconst 1, 1) := by decide +kernel
theorem dX3_readPerson_197 : decode cX3_readPerson 197 = .ok (.ireturn, 1) := by decide +kernel
theorem dX3_readSack_0 : decode cX3_readSack 0 = .ok (.aload_n 0, 1) := by decide +kernel
theorem dX3_readSack_1 : decode cX3_readSack 1 = .ok (.iconst 0, 1) := by decide +kernel
theorem dX3_readSack_2 : decode cX3_readSack 2 = .ok (.aload_n 0, 1) := by decide +kernel
theorem dX3_readSack_3 : decode cX3_readSack 3 = .ok (.getfield 19, 3) := by decide +kernel
theorem dX3_readSack_6 : decode cX3_readSack 6 = .ok (.getfield 123, 3) := by decide +kernel
theorem dX3_readSack_9 : decode cX3_readSack 9 = .ok (.iconst 1, 1) := by decide +kernel
theorem dX3_readSack_10 : decode cX3_readSack 10 = .ok (.isub, 1) := by decide +kernel
theorem dX3_readSack_11 : decode cX3_readSack 11 = .ok (.invokevirtual 94, 3) := by decide +kernel
theorem dX3_readSack_14 : decode cX3_readSack 14 = .ok (.istore_n 1, 1) := by decide +kernel
theorem dX3_readSack_15 : decode cX3_readSack 15 = .ok (.iload_n 1, 1) := by decide +kernel
theorem dX3_readSack_16 : decode cX3_readSack 16 = .ok (.iconst (-1), 1) := by decide +kernel
theorem dX3_readSack_17 : decode cX3_readSack 17 = .ok (.if_icmp .ne 5, 3) := by decide +kernel
theorem dX3_readSack_20 : decode cX3_readSack 20 = .ok (.iconst 0, 1) := by decide +kernel
theorem dX3_readSack_21 : decode cX3_readSack 21 = .ok (.ireturn, 1) := by decide +kernel
theorem dX3_readSack_22 : decode cX3_readSack 22 = .ok (.aload_n 0, 1) := by decide +kernel
theorem dX3_readSack_23 : decode cX3_readSack 23 = .ok (.getfield 19, 3) := by decide +kernel
theorem dX3_readSack_26 : decode cX3_readSack 26 = .ok (.getfield 119, 3) := by decide +kernel
theorem dX3_readSack_29 : decode cX3_readSack 29 = .ok (.iload_n 1, 1) := by decide +kernel
theorem dX3_readSack_30 : decode cX3_readSack 30 = .ok (.aaload, 1) := by decide +kernel
theorem dX3_readSack_31 : decode cX3_readSack 31 = .ok (.iconst 1, 1) := by decide +kernel
theorem dX3_readSack_32 : decode cX3_readSack 32 = .ok (.putfield 134, 3) := by decide +kernel
theorem dX3_readSack_35 : decode cX3_readSack 35 = .ok (.iconst 1, 1) := by decide +kernel
theorem dX3_readSack_36 : decode cX3_readSack 36 = .ok (.ireturn, 1) := by decide +kernel
theorem dX3_readMite_0 : decode cX3_readMite 0 = .ok (.aload_n 0, 1) := by decide +kernel
theorem dX3_readMite_1 : decode cX3_readMite 1 = .ok (.iconst 1, 1) := by decide +kernel
theorem dX3_readMite_2 : decode cX3_readMite 2 = .ok (.bipush 9, 2) := by decide +kernel
theorem dX3_readMite_4 : decode cX3_readMite 4 = .ok (.invokevirtual 94, 3) := by decide +kernel
theorem dX3_readMite_7 : decode cX3_readMite 7 = .ok (.istore_n 1, 1) := by decide +kernel
theorem dX3_readMite_8 : decode cX3_readMite 8 = .ok (.iload_n 1, 1) := by decide +kernel
theorem dX3_readMite_9 : decode cX3_readMite 9 = .ok (.iconst (-1), 1) := by decide +kernel
theorem dX3_readMite_10 : decode cX3_readMite 10 = .ok (.if_icmp .ne 5, 3) := by decide +kernel
theorem dX3_readMite_13 : decode cX3_readMite 13 = .ok (.iconst 0, 1) := by decide +kernel
theorem dX3_readMite_14 : decode cX3_readMite 14 = .ok (.ireturn, 1) := by decide +kernel
theorem dX3_readMite_15 : decode cX3_readMite 15 = .ok (.aload_n 0, 1) := by decide +kernel
theorem dX3_readMite_16 : decode cX3_readMite 16 = .ok (.getfield 19, 3) := by decide +kernel
theorem dX3_readMite_19 : decode cX3_readMite 19 = .ok (.iload_n 1, 1) := by decide +kernel
theorem dX3_readMite_20 : decode cX3_readMite 20 = .ok (.putfield 138, 3) := by decide +kernel
theorem dX3_readMite_23 : decode cX3_readMite 23 = .ok (.iconst 1, 1) := by decide +kernel
theorem dX3_readMite_24 : decode cX3_readMite 24 = .ok (.ireturn, 1) := by decide +kernel
theorem dX3_readReach_0 : decode cX3_readReach 0 = .ok (.aload_n 0, 1) := by decide +kernel
theorem dX3_readReach_1 : decode cX3_readReach 1 = .ok (.iconst 1, 1) := by decide +kernel
theorem dX3_readReach_2 : decode cX3_readReach 2 = .ok (.iconst 5, 1) := by decide +kernel
theorem dX3_readReach_3 : decode cX3_readReach 3 = .ok (.invokevirtual 94, 3) := by decide +kernel
theorem dX3_readReach_6 : decode cX3_readReach 6 = .ok (.istore_n 1, 1) := by decide +kernel
theorem dX3_readReach_7 : decode cX3_readReach 7 = .ok (.iload_n 1, 1) := by decide +kernel
theorem dX3_readReach_8 : decode cX3_readReach 8 = .ok (.iconst (-1), 1) := by decide +kernel
theorem dX3_readReach_9 : decode cX3_readReach 9 = .ok (.if_icmp .ne 5, 3) := by decide +kernel
theorem dX3_readReach_12 : decode cX3_readReach 12 = .ok (.iconst 0, 1) := by decide +kernel
theorem dX3_readReach_13 : decode cX3_readReach 13 = .ok (.ireturn, 1) := by decide +kernel
theorem dX3_readReach_14 : decode cX3_readReach 14 = .ok (.aload_n 0, 1) := by decide +kernel
theorem dX3_readReach_15 : decode cX3_readReach 15 = .ok (.getfield 19, 3) := by decide +kernel
theorem dX3_readReach_18 : decode cX3_readReach 18 = .ok (.iload_n 1, 1) := by decide +kernel
theorem dX3_readReach_19 : decode cX3_readReach 19 = .ok (.putfield 140, 3) := by decide +kernel
theorem dX3_readReach_22 : decode cX3_readReach 22 = .ok (.iconst 1, 1) := by decide +kernel
theorem dX3_readReach_23 : decode cX3_readReach 23 = .ok (.ireturn, 1) := by decide +kernel
theorem dX3_readNumber_0 : decode cX3_readNumber 0 = .ok (.aload_n 0, 1) := by decide +kernel
theorem dX3_readNumber_1 : decode cX3_readNumber 1 = .ok (.bipush 32, 2) := by decide +kernel
theorem dX3_readNumber_3 : decode cX3_readNumber 3 = .ok (.invokevirtual 35, 3) := by decide +kernel
theorem dX3_readNumber_6 : decode cX3_readNumber 6 = .ok (.ifCond .ne 5, 3) := by decide +kernel
theorem dX3_readNumber_9 : decode cX3_readNumber 9 = .ok (.iconst (-1), 1) := by decide +kernel
theorem dX3_readNumber_10 : decode cX3_readNumber 10 = .ok (.ireturn, 1) := by decide +kernel
theorem dX3_readNumber_11 : decode cX3_readNumber 11 = .ok (.aload_n 0, 1) := by decide +kernel
theorem dX3_readNumber_12 : decode cX3_readNumber 12 = .ok (.aload_n 0, 1) := by decide +kernel
theorem dX3_readNumber_13 : decode cX3_readNumber 13 = .ok (.getfield 23, 3) := by decide +kernel
theorem dX3_readNumber_16 : decode cX3_readNumber 16 = .ok (.putfield 107, 3) := by decide +kernel
theorem dX3_readNumber_19 : decode cX3_readNumber 19 = .ok (.aload_n 0, 1) := by decide +kernel
theorem dX3_readNumber_20 : decode cX3_readNumber 20 = .ok (.invokevirtual 142, 3) := by decide +kernel
theorem dX3_readNumber_23 : decode cX3_readNumber 23 = .ok (.istore_n 3, 1) := by decide +kernel
theorem dX3_readNumber_24 : decode cX3_readNumber 24 = .ok (.iload_n 3, 1) := by decide +kernel
theorem dX3_readNumber_25 : decode cX3_readNumber 25 = .ok (.iconst (-1), 1) := by decide +kernel
theorem dX3_readNumber_26 : decode cX3_readNumber 26 = .ok (.if_icmp .ne 14, 3) := by decide +kernel
theorem dX3_readNumber_29 : decode cX3_readNumber 29 = .ok (.aload_n 0, 1) := by decide +kernel
theorem dX3_readNumber_30 : decode cX3_readNumber 30 = .ok (.aload_n 0, 1) := by decide +kernel
theorem dX3_readNumber_31 : decode cX3_readNumber 31 = .ok (.getfield 23, 3) := by decide +kernel
theorem dX3_readNumber_34 : decode cX3_readNumber 34 = .ok (.invokevirtual 52, 3) := by decide +kernel
theorem dX3_readNumber_37 : decode cX3_readNumber 37 = .ok (.pop, 1) := by decide +kernel
theorem dX3_readNumber_38 : decode cX3_readNumber 38 = .ok (.iconst (-1), 1) := by decide +kernel
theorem dX3_readNumber_39 : decode cX3_readNumber 39 = .ok (.ireturn, 1) := by decide +kernel
theorem dX3_readNumber_40 : decode cX3_readNumber 40 = .ok (.aload_n 0, 1) := by decide +kernel
theorem dX3_readNumber_41 : decode cX3_readNumber 41 = .ok (.invokevirtual 142, 3) := by decide +kernel
theorem dX3_readNumber_44 : decode cX3_readNumber 44 = .ok (.istore 4, 2) := by decide +kernel
theorem dX3_readNumber_46 : decode cX3_readNumber 46 = .ok (.iload 4, 2) := by decide +kernel
theorem dX3_readNumber_48 : decode cX3_readNumber 48 = .ok (.iconst (-1), 1) := by decide +kernel
theorem dX3_readNumber_49 : decode cX3_readNumber 49 = .ok (.if_icmp .eq 11, 3) := by decide +kernel
theorem dX3_readNumber_52 : decode cX3_readNumber 52 = .ok (.iload_n 3, 1) := by decide +kernel
theorem dX3_readNumber_53 : decode cX3_readNumber 53 = .ok (.bipush 10, 2) := by decide +kernel
theorem dX3_readNumber_55 : decode cX3_readNumber 55 = .ok (.imul, 1) := by decide +kernel
theorem dX3_readNumber_56 : decode cX3_readNumber 56 = .ok (.iload 4, 2) := by decide +kernel
theorem dX3_readNumber_58 : decode cX3_readNumber 58 = .ok (.iadd, 1) := by decide +kernel
theorem dX3_readNumber_59 : decode cX3_readNumber 59 = .ok (.istore_n 3, 1) := by decide +kernel
theorem dX3_readNumber_60 : decode cX3_readNumber 60 = .ok (.iload_n 3, 1) := by decide +kernel
theorem dX3_readNumber_61 : decode cX3_readNumber 61 = .ok (.iload_n 1, 1) := by decide +kernel
theorem dX3_readNumber_62 : decode cX3_readNumber 62 = .ok (.if_icmp .lt 8, 3) := by decide +kernel
theorem dX3_readNumber_65 : decode cX3_readNumber 65 = .ok (.iload_n 3, 1) := by decide +kernel
theorem dX3_readNumber_66 : decode cX3_readNumber 66 = .ok (.iload_n 2, 1) := by decide +kernel
theorem dX3_readNumber_67 : decode cX3_readNumber 67 = .ok (.if_icmp .le 14, 3) := by decide +kernel
theorem dX3_readNumber_70 : decode cX3_readNumber 70 = .ok (.aload_n 0, 1) := by decide +kernel
theorem dX3_readNumber_71 : decode cX3_readNumber 71 = .ok (.aload_n 0, 1) := by decide +kernel
theorem dX3_readNumber_72 : decode cX3_readNumber 72 = .ok (.getfield 107, 3) := by decide +kernel
theorem dX3_readNumber_75 : decode cX3_readNumber 75 = .ok (.invokevirtual 52, 3) := by decide +kernel
theorem dX3_readNumber_78 : decode cX3_readNumber 78 = .ok (.pop, 1) := by decide +kernel
theorem dX3_readNumber_79 : decode cX3_readNumber 79 = .ok (.iconst (-1), 1) := by decide +kernel
theorem dX3_readNumber_80 : decode cX3_readNumber 80 = .ok (.ireturn, 1) := by decide +kernel
theorem dX3_readNumber_81 : decode cX3_readNumber 81 = .ok (.iload_n 3, 1) := by decide +kernel
theorem dX3_readNumber_82 : decode cX3_readNumber 82 = .ok (.ireturn, 1) := by decide +kernel
theorem dX3_readDigit_0 : decode cX3_readDigit 0 = .ok (.aload_n 0, 1) := by decide +kernel
theorem dX3_readDigit_1 : decode cX3_readDigit 1 = .ok (.getfield 15, 3) := by decide +kernel
theorem dX3_readDigit_4 : decode cX3_readDigit 4 = .ok (.aload_n 0, 1) := by decide +kernel
theorem dX3_readDigit_5 : decode cX3_readDigit 5 = .ok (.getfield 23, 3) := by decide +kernel
theorem dX3_readDigit_8 : decode cX3_readDigit 8 = .ok (.invokevirtual 39, 3) := by decide +kernel
theorem dX3_readDigit_11 : decode cX3_readDigit 11 = .ok (.istore_n 1, 1) := by decide +kernel
theorem dX3_readDigit_12 : decode cX3_readDigit 12 = .ok (.iload_n 1, 1) := by decide +kernel
theorem dX3_readDigit_13 : decode cX3_readDigit 13 = .ok (.bipush 48, 2) := by decide +kernel
theorem dX3_readDigit_15 : decode cX3_readDigit 15 = .ok (.if_icmp .lt 9, 3) := by decide +kernel
theorem dX3_readDigit_18 : decode cX3_readDigit 18 = .ok (.iload_n 1, 1) := by decide +kernel
theorem dX3_readDigit_19 : decode cX3_readDigit 19 = .ok (.bipush 57, 2) := by decide +kernel
theorem dX3_readDigit_21 : decode cX3_readDigit 21 = .ok (.if_icmp .le 5, 3) := by decide +kernel
theorem dX3_readDigit_24 : decode cX3_readDigit 24 = .ok (.iconst (-1), 1) := by decide +kernel
theorem dX3_readDigit_25 : decode cX3_readDigit 25 = .ok (.ireturn, 1) := by decide +kernel
theorem dX3_readDigit_26 : decode cX3_readDigit 26 = .ok (.aload_n 0, 1) := by decide +kernel
theorem dX3_readDigit_27 : decode cX3_readDigit 27 = .ok (.dup, 1) := by decide +kernel
theorem dX3_readDigit_28 : decode cX3_readDigit 28 = .ok (.getfield 23, 3) := by decide +kernel
theorem dX3_readDigit_31 : decode cX3_readDigit 31 = .ok (.iconst 1, 1) := by decide +kernel
theorem dX3_readDigit_32 : decode cX3_readDigit 32 = .ok (.iadd, 1) := by decide +kernel
theorem dX3_readDigit_33 : decode cX3_readDigit 33 = .ok (.putfield 23, 3) := by decide +kernel
theorem dX3_readDigit_36 : decode cX3_readDigit 36 = .ok (.iload_n 1, 1) := by decide +kernel
theorem dX3_readDigit_37 : decode cX3_readDigit 37 = .ok (.bipush 48, 2) := by decide +kernel
theorem dX3_readDigit_39 : decode cX3_readDigit 39 = .ok (.isub, 1) := by decide +kernel
theorem dX3_readDigit_40 : decode cX3_readDigit 40 = .ok (.ireturn, 1) := by decide +kernel
theorem dX3_readSign_0 : decode cX3_readSign 0 = .ok (.aload_n 0, 1) := by decide +kernel
theorem dX3_readSign_1 : decode cX3_readSign 1 = .ok (.getfield 15, 3) := by decide +kernel
theorem dX3_readSign_4 : decode cX3_readSign 4 = .ok (.aload_n 0, 1) := by decide +kernel
theorem dX3_readSign_5 : decode cX3_readSign 5 = .ok (.getfield 23, 3) := by decide +kernel
theorem dX3_readSign_8 : decode cX3_readSign 8 = .ok (.invokevirtual 39, 3) := by decide +kernel
theorem dX3_readSign_11 : decode cX3_readSign 11 = .ok (.iload_n 1, 1) := by decide +kernel
theorem dX3_readSign_12 : decode cX3_readSign 12 = .ok (.if_icmp .eq 12, 3) := by decide +kernel
theorem dX3_readSign_15 : decode cX3_readSign 15 = .ok (.aload_n 0, 1) := by decide +kernel
theorem dX3_readSign_16 : decode cX3_readSign 16 = .ok (.aload_n 0, 1) := by decide +kernel
theorem dX3_readSign_17 : decode cX3_readSign 17 = .ok (.getfield 23, 3) := by decide +kernel
theorem dX3_readSign_20 : decode cX3_readSign 20 = .ok (.invokevirtual 52, 3) := by decide +kernel
theorem dX3_readSign_23 : decode cX3_readSign 23 = .ok (.ireturn, 1) := by decide +kernel
theorem dX3_readSign_24 : decode cX3_readSign 24 = .ok (.aload_n 0, 1) := by decide +kernel
theorem dX3_readSign_25 : decode cX3_readSign 25 = .ok (.dup, 1) := by decide +kernel
theorem dX3_readSign_26 : decode cX3_readSign 26 = .ok (.getfield 23, 3) := by decide +kernel
theorem dX3_readSign_29 : decode cX3_readSign 29 = .ok (.iconst 1, 1) := by decide +kernel
theorem dX3_readSign_30 : decode cX3_readSign 30 = .ok (.iadd, 1) := by decide +kernel
theorem dX3_readSign_31 : decode cX3_readSign 31 = .ok (.putfield 23, 3) := by decide +kernel
theorem dX3_readSign_34 : decode cX3_readSign 34 = .ok (.iconst 1, 1) := by decide +kernel
theorem dX3_readSign_35 : decode cX3_readSign 35 = .ok (.ireturn, 1) := by decide +kernel
theorem dX3_failAt_0 : decode cX3_failAt 0 = .ok (.aload_n 0, 1) := by decide +kernel
theorem dX3_failAt_1 : decode cX3_failAt 1 = .ok (.iload_n 1, 1) := by decide +kernel
theorem dX3_failAt_2 : decode cX3_failAt 2 = .ok (.putfield 9, 3) := by decide +kernel
theorem dX3_failAt_5 : decode cX3_failAt 5 = .ok (.iconst 0, 1) := by decide +kernel
theorem dX3_failAt_6 : decode cX3_failAt 6 = .ok (.ireturn, 1) := by decide +kernel
theorem dX4_init_0 : decode cX4_init 0 = .ok (.aload_n 0, 1) := by decide +kernel
theorem dX4_init_1 : decode cX4_init 1 = .ok (.invokespecial 3, 3) := by decide +kernel
theorem dX4_init_4 : decode cX4_init 4 = .ok (.aload_n 0, 1) := by decide +kernel
theorem dX4_init_5 : decode cX4_init 5 = .ok (.bipush 7, 2) := by decide +kernel
theorem dX4_init_7 : decode cX4_init 7 = .ok (.newarray .long, 2) := by decide +kernel
theorem dX4_init_9 : decode cX4_init 9 = .ok (.putfield 9, 3) := by decide +kernel
theorem dX4_init_12 : decode cX4_init 12 = .ok (.aload_n 0, 1) := by decide +kernel
theorem dX4_init_13 : decode cX4_init 13 = .ok (.bipush 7, 2) := by decide +kernel
theorem dX4_init_15 : decode cX4_init 15 = .ok (.newarray .int, 2) := by decide +kernel
theorem dX4_init_17 : decode cX4_init 17 = .ok (.putfield 15, 3) := by decide +kernel
theorem dX4_init_20 : decode cX4_init 20 = .ok (.aload_n 0, 1) := by decide +kernel
theorem dX4_init_21 : decode cX4_init 21 = .ok (.bipush 7, 2) := by decide +kernel
theorem dX4_init_23 : decode cX4_init 23 = .ok (.newarray .int, 2) := by decide +kernel
theorem dX4_init_25 : decode cX4_init 25 = .ok (.putfield 19, 3) := by decide +kernel
theorem dX4_init_28 : decode cX4_init 28 = .ok (.aload_n 0, 1) := by decide +kernel
theorem dX4_init_29 : decode cX4_init 29 = .ok (.bipush 7, 2) := by decide +kernel
theorem dX4_init_31 : decode cX4_init 31 = .ok (.newarray .int, 2) := by decide +kernel
theorem dX4_init_33 : decode cX4_init 33 = .ok (.putfield 22, 3) := by decide +kernel
theorem dX4_init_36 : decode cX4_init 36 = .ok (.aload_n 0, 1) := by decide +kernel
theorem dX4_init_37 : decode cX4_init 37 = .ok (.bipush 7, 2) := by decide +kernel
theorem dX4_init_39 : decode cX4_init 39 = .ok (.newarray .int, 2) := by decide +kernel
theorem dX4_init_41 : decode cX4_init 41 = .ok (.putfield 25, 3) := by decide +kernel
theorem dX4_init_44 : decode cX4_init 44 = .ok (.return_, 1) := by decide +kernel
theorem dX4_take_0 : decode cX4_take 0 = .ok (.aload_n 0, 1) := by decide +kernel
theorem dX4_take_1 : decode cX4_take 1 = .ok (.iconst 0, 1) := by decide +kernel
theorem dX4_take_2 : decode cX4_take 2 = .ok (.putfield 28, 3) := by decide +kernel
theorem dX4_take_5 : decode cX4_take 5 = .ok (.iconst 0, 1) := by decide +kernel
theorem dX4_take_6 : decode cX4_take 6 = .ok (.istore_n 2, 1) := by decide +kernel
theorem dX4_take_7 : decode cX4_take 7 = .ok (.iload_n 2, 1) := by decide +kernel
theorem dX4_take_8 : decode cX4_take 8 = .ok (.aload_n 1, 1) := by decide +kernel
theorem dX4_take_9 : decode cX4_take 9 = .ok (.getfield 32, 3) := by decide +kernel
theorem dX4_take_12 : decode cX4_take 12 = .ok (.if_icmp .ge 54, 3) := by decide +kernel
theorem dX4_take_15 : decode cX4_take 15 = .ok (.aload_n 0, 1) := by decide +kernel
theorem dX4_take_16 : decode cX4_take 16 = .ok (.getfield 9, 3) := by decide +kernel
theorem dX4_take_19 : decode cX4_take 19 = .ok (.iload_n 2, 1) := by decide +kernel
theorem dX4_take_20 : decode cX4_take 20 = .ok (.aload_n 1, 1) := by decide +kernel
theorem dX4_take_21 : decode cX4_take 21 = .ok (.aload_n 1, 1) := by decide +kernel
theorem dX4_take_22 : decode cX4_take 22 = .ok (.getfield 37, 3) := by decide +kernel
theorem dX4_take_25 : decode cX4_take 25 = .ok (.iload_n 2, 1) := by decide +kernel
theorem dX4_take_26 : decode cX4_take 26 = .ok (.aaload, 1) := by decide +kernel
theorem dX4_take_27 : decode cX4_take 27 = .ok (.getfield 41, 3) := by decide +kernel
theorem dX4_take_30 : decode cX4_take 30 = .ok (.invokevirtual 46, 3) := by decide +kernel
theorem dX4_take_33 : decode cX4_take 33 = .ok (.lastore, 1) := by decide +kernel
theorem dX4_take_34 : decode cX4_take 34 = .ok (.aload_n 0, 1) := by decide +kernel
theorem dX4_take_35 : decode cX4_take 35 = .ok (.getfield 15, 3) := by decide +kernel
theorem dX4_take_38 : decode cX4_take 38 = .ok (.iload_n 2, 1) := by decide +kernel
theorem dX4_take_39 : decode cX4_take 39 = .ok (.aload_n 1, 1) := by decide +kernel
theorem dX4_take_40 : decode cX4_take 40 = .ok (.getfield 37, 3) := by decide +kernel
theorem dX4_take_43 : decode cX4_take 43 = .ok (.iload_n 2, 1) := by decide +kernel
theorem dX4_take_44 : decode cX4_take 44 = .ok (.aaload, 1) := by decide +kernel
theorem dX4_take_45 : decode cX4_take 45 = .ok (.aload_n 1, 1) := by decide +kernel
theorem dX4_take_46 : decode cX4_take 46 = .ok (.getfield 50, 3) := by decide +kernel
theorem dX4_take_49 : decode cX4_take 49 = .ok (.invokevirtual 54, 3) := by decide +kernel
theorem dX4_take_52 : decode cX4_take 52 = .ok (.iastore, 1) := by decide +kernel
theorem dX4_take_53 : decode cX4_take 53 = .ok (.aload_n 0, 1) := by decide +kernel
theorem dX4_take_54 : decode cX4_take 54 = .ok (.getfield 25, 3) := by decide +kernel
theorem dX4_take_57 : decode cX4_take 57 = .ok (.iload_n 2, 1) := by decide +kernel
theorem dX4_take_58 : decode cX4_take 58 = .ok (.iconst 0, 1) := by decide +kernel
theorem dX4_take_59 : decode cX4_take 59 = .ok (.iastore, 1) := by decide +kernel
theorem dX4_take_60 : decode cX4_take 60 = .ok (.iinc 2 1, 3) := by decide +kernel
theorem dX4_take_63 : decode cX4_take 63 = .ok (.goto (-56), 3) := by decide +kernel
theorem dX4_take_66 : decode cX4_take 66 = .ok (.iconst 0, 1) := by decide +kernel
theorem dX4_take_67 : decode cX4_take 67 = .ok (.istore_n 2, 1) := by decide +kernel
theorem dX4_take_68 : decode cX4_take 68 = .ok (.iload_n 2, 1) := by decide +kernel
theorem dX4_take_69 : decode cX4_take 69 = .ok (.aload_n 1, 1) := by decide +kernel
theorem dX4_take_70 : decode cX4_take 70 = .ok (.getfield 32, 3) := by decide +kernel
theorem dX4_take_73 : decode cX4_take 73 = .ok (.if_icmp .ge 46, 3) := by decide +kernel
theorem dX4_take_76 : decode cX4_take 76 = .ok (.aload_n 0, 1) := by decide +kernel
theorem dX4_take_77 : decode cX4_take 77 = .ok (.aload_n 1, 1) := by decide +kernel
theorem dX4_take_78 : decode cX4_take 78 = .ok (.iload_n 2, 1) := by decide +kernel
theorem dX4_take_79 : decode cX4_take 79 = .ok (.invokevirtual 58, 3) := by decide +kernel
theorem dX4_take_82 : decode cX4_take 82 = .ok (.istore_n 3, 1) := by decide +kernel
theorem dX4_take_83 : decode cX4_take 83 = .ok (.aload_n 0, 1) := by decide +kernel
theorem dX4_take_84 : decode cX4_take 84 = .ok (.getfield 19, 3) := by decide +kernel
theorem dX4_take_87 : decode cX4_take 87 = .ok (.iload_n 2, 1) := by decide +kernel
theorem dX4_take_88 : decode cX4_take 88 = .ok (.aload_n 1, 1) := by decide +kernel
theorem dX4_take_89 : decode cX4_take 89 = .ok (.getfield 37, 3) := by decide +kernel
theorem dX4_take_92 : decode cX4_take 92 = .ok (.iload_n 2, 1) := by decide +kernel
theorem dX4_take_93 : decode cX4_take 93 = .ok (.aaload, 1) := by decide +kernel
theorem dX4_take_94 : decode cX4_take 94 = .ok (.iconst 4, 1) := by decide +kernel
theorem dX4_take_95 : decode cX4_take 95 = .ok (.invokevirtual 62, 3) := by decide +kernel
theorem dX4_take_98 : decode cX4_take 98 = .ok (.ifCond .eq 13, 3) := by decide +kernel
theorem dX4_take_101 : decode cX4_take 101 = .ok (.aload_n 0, 1) := by decide +kernel
theorem dX4_take_102 : decode cX4_take 102 = .ok (.aload_n 1, 1) := by decide +kernel
theorem dX4_take_103 : decode cX4_take 103 = .ok (.iload_n 2, 1) := by decide +kernel
theorem dX4_take_104 : decode cX4_take 104 = .ok (.iload_n 3, 1) := by decide +kernel
theorem dX4_take_105 : decode cX4_take 105 = .ok (.invokevirtual 66, 3) := by decide +kernel
theorem dX4_take_108 : decode cX4_take 108 = .ok (.goto 4, 3) := by decide +kernel
theorem dX4_take_111 : decode cX4_take 111 = .ok (.iload_n 3, 1) := by decide +kernel
theorem dX4_take_112 : decode cX4_take 112 = .ok (.iastore, 1) := by decide +kernel
theorem dX4_take_113 : decode cX4_take 113 = .ok (.iinc 2 1, 3) := by decide +kernel
theorem dX4_take_116 : decode cX4_take 116 = .ok (.goto (-48), 3) := by decide +kernel
theorem dX4_take_119 : decode cX4_take 119 = .ok (.iconst 0, 1) := by decide +kernel
theorem dX4_take_120 : decode cX4_take 120 = .ok (.istore_n 2, 1) := by decide +kernel
theorem dX4_take_121 : decode cX4_take 121 = .ok (.iload_n 2, 1) := by decide +kernel
theorem dX4_take_122 : decode cX4_take 122 = .ok (.aload_n 1, 1) := by decide +kernel
theorem dX4_take_123 : decode cX4_take 123 = .ok (.getfield 32, 3) := by decide +kernel
theorem dX4_take_126 : decode cX4_take 126 = .ok (.if_icmp .ge 82, 3) := by decide +kernel
theorem dX4_take_129 : decode cX4_take 129 = .ok (.aload_n 0, 1) := by decide +kernel
theorem dX4_take_130 : decode cX4_take 130 = .ok (.getfield 9, 3) := by decide +kernel
theorem dX4_take_133 : decode cX4_take 133 = .ok (.iload_n 2, 1) := by decide +kernel
theorem dX4_take_134 : decode cX4_take 134 = .ok (.laload, 1) := by decide +kernel
theorem dX4_take_135 : decode cX4_take 135 = .ok (.aload_n 1, 1) := by decide +kernel
theorem dX4_take_136 : decode cX4_take 136 = .ok (.getfield 70, 3) := by decide +kernel
theorem dX4_take_139 : decode cX4_take 139 = .ok (.land, 1) := by decide +kernel
theorem dX4_take_140 : decode cX4_take 140 = .ok (.lconst 0, 1) := by decide +kernel
theorem dX4_take_141 : decode cX4_take 141 = .ok (.lcmp, 1) := by decide +kernel
theorem dX4_take_142 : decode cX4_take 142 = .ok (.ifCond .eq 7, 3) := by decide +kernel
theorem dX4_take_145 : decode cX4_take 145 = .ok (.iconst 1, 1) := by decide +kernel
theorem dX4_take_146 : decode cX4_take 146 = .ok (.goto 4, 3) := by decide +kernel
theorem dX4_take_149 : decode cX4_take 149 = .ok (.iconst 0, 1) := by decide +kernel
theorem dX4_take_150 : decode cX4_take 150 = .ok (.istore_n 3, 1) := by decide +kernel
theorem dX4_take_151 : decode cX4_take 151 = .ok (.iload_n 3, 1) := by decide +kernel
theorem dX4_take_152 : decode cX4_take 152 = .ok (.ifCond .eq 12, 3) := by decide +kernel
theorem dX4_take_155 : decode cX4_take 155 = .ok (.aload_n 0, 1) := by decide +kernel
theorem dX4_take_156 : decode cX4_take 156 = .ok (.aload_n 1, 1) := by decide +kernel
theorem dX4_take_157 : decode cX4_take 157 = .ok (.iload_n 2, 1) := by decide +kernel
theorem dX4_take_158 : decode cX4_take 158 = .ok (.invokevirtual 74, 3) := by decide +kernel
theorem dX4_take_161 : decode cX4_take 161 = .ok (.goto 4, 3) := by decide +kernel
theorem dX4_take_164 : decode cX4_take 164 = .ok (.iconst 0, 1) := by decide +kernel
theorem dX4_take_165 : decode cX4_take 165 = .ok (.istore 4, 2) := by decide +kernel
theorem dX4_take_167 : decode cX4_take 167 = .ok (.aload_n 0, 1) := by decide +kernel
theorem dX4_take_168 : decode cX4_take 168 = .ok (.aload_n 1, 1) := by decide +kernel
theorem dX4_take_169 : decode cX4_take 169 = .ok (.iload 4, 2) := by decide +kernel
theorem dX4_take_171 : decode cX4_take 171 = .ok (.invokevirtual 77, 3) := by decide +kernel
theorem dX4_take_174 : decode cX4_take 174 = .ok (.aload_n 0, 1) := by decide +kernel
theorem dX4_take_175 : decode cX4_take 175 = .ok (.getfield 22, 3) := by decide +kernel
theorem dX4_take_178 : decode cX4_take 178 = .ok (.iload_n 2, 1) := by decide +kernel
theorem dX4_take_179 : decode cX4_take 179 = .ok (.aload_n 1, 1) := by decide +kernel
theorem dX4_take_180 : decode cX4_take 180 = .ok (.getfield 37, 3) := by decide +kernel
theorem dX4_take_183 : decode cX4_take 183 = .ok (.iload_n 2, 1) := by decide +kernel
theorem dX4_take_184 : decode cX4_take 184 = .ok (.aaload, 1) := by decide +kernel
theorem dX4_take_185 : decode cX4_take 185 = .ok (.getfield 81, 3) := by decide +kernel
theorem dX4_take_188 : decode cX4_take 188 = .ok (.iload 4, 2) := by decide +kernel
theorem dX4_take_190 : decode cX4_take 190 = .ok (.invokestatic 84, 3) := by decide +kernel
theorem dX4_take_193 : decode cX4_take 193 = .ok (.aload_n 1, 1) := by decide +kernel
theorem dX4_take_194 : decode cX4_take 194 = .ok (.getfield 90, 3) := by decide +kernel
theorem dX4_take_197 : decode cX4_take 197 = .ok (.imul, 1) := by decide +kernel
theorem dX4_take_198 : decode cX4_take 198 = .ok (.invokestatic 93, 3) := by decide +kernel
theorem dX4_take_201 : decode cX4_take 201 = .ok (.iastore, 1) := by decide +kernel
theorem dX4_take_202 : decode cX4_take 202 = .ok (.iinc 2 1, 3) := by decide +kernel
theorem dX4_take_205 : decode cX4_take 205 = .ok (.goto (-84), 3) := by decide +kernel
theorem dX4_take_208 : decode cX4_take 208 = .ok (.return_, 1) := by decide +kernel
theorem dX4_lookersAt_0 : decode cX4_lookersAt 0 = .ok (.iconst 0, 1) := by decide +kernel
theorem dX4_lookersAt_1 : decode cX4_lookersAt 1 = .ok (.istore_n 3, 1) := by decide +kernel
theorem dX4_lookersAt_2 : decode cX4_lookersAt 2 = .ok (.iconst 0, 1) := by decide +kernel
theorem dX4_lookersAt_3 : decode cX4_lookersAt 3 = .ok (.istore 4, 2) := by decide +kernel
theorem dX4_lookersAt_5 : decode cX4_lookersAt 5 = .ok (.iload 4, 2) := by decide +kernel
theorem dX4_lookersAt_7 : decode cX4_lookersAt 7 = .ok (.aload_n 1, 1) := by decide +kernel
theorem dX4_lookersAt_8 : decode cX4_lookersAt 8 = .ok (.getfield 32, 3) := by decide +kernel
theorem dX4_lookersAt_11 : decode cX4_lookersAt 11 = .ok (.if_icmp .ge 31, 3) := by decide +kernel
theorem dX4_lookersAt_14 : decode cX4_lookersAt 14 = .ok (.aload_n 0, 1) := by decide +kernel
theorem dX4_lookersAt_15 : decode cX4_lookersAt 15 = .ok (.getfield 19, 3) := by decide +kernel
theorem dX4_lookersAt_18 : decode cX4_lookersAt 18 = .ok (.iload 4, 2) := by decide +kernel
theorem dX4_lookersAt_20 : decode cX4_lookersAt 20 = .ok (.iaload, 1) := by decide +kernel
theorem dX4_lookersAt_21 : decode cX4_lookersAt 21 = .ok (.i2l, 1) := by decide +kernel
theorem dX4_lookersAt_22 : decode cX4_lookersAt 22 = .ok (.iload_n 2, 1) := by decide +kernel
theorem dX4_lookersAt_23 : decode cX4_lookersAt 23 = .ok (.invokestatic 97, 3) := by decide +kernel
theorem dX4_lookersAt_26 : decode cX4_lookersAt 26 = .ok (.ifCond .eq 10, 3) := by decide +kernel
theorem dX4_lookersAt_29 : decode cX4_lookersAt 29 = .ok (.iload_n 3, 1) := by decide +kernel
theorem dX4_lookersAt_30 : decode cX4_lookersAt 30 = .ok (.iconst 1, 1) := by decide +kernel
theorem dX4_lookersAt_31 : decode cX4_lookersAt 31 = .ok (.iload 4, 2) := by decide +kernel
theorem dX4_lookersAt_33 : decode cX4_lookersAt 33 = .ok (.ishl, 1) := by decide +kernel
theorem dX4_lookersAt_34 : decode cX4_lookersAt 34 = .ok (.ior, 1) := by decide +kernel
theorem dX4_lookersAt_35 : decode cX4_lookersAt 35 = .ok (.istore_n 3, 1) := by decide +kernel
theorem dX4_lookersAt_36 : decode cX4_lookersAt 36 = .ok (.iinc 4 1, 3) := by decide +kernel
theorem dX4_lookersAt_39 : decode cX4_lookersAt 39 = .ok (.goto (-34), 3) := by decide +kernel
theorem dX4_lookersAt_42 : decode cX4_lookersAt 42 = .ok (.iload_n 3, 1) := by decide +kernel
theorem dX4_lookersAt_43 : decode cX4_lookersAt 43 = .ok (.ireturn, 1) := by decide +kernel
theorem dX4_dutiesTogether_0 : decode cX4_dutiesTogether 0 = .ok (.iconst 0, 1) := by decide +kernel
theorem dX4_dutiesTogether_1 : decode cX4_dutiesTogether 1 = .ok (.istore_n 2, 1) := by decide +kernel
theorem dX4_dutiesTogether_2 : decode cX4_dutiesTogether 2 = .ok (.iconst 0, 1) := by decide +kernel
theorem dX4_dutiesTogether_3 : decode cX4_dutiesTogether 3 = .ok (.istore_n 3, 1) := by decide +kernel
theorem dX4_dutiesTogether_4 : decode cX4_dutiesTogether 4 = .ok (.iload_n 3, 1) := by decide +kernel
theorem dX4_dutiesTogether_5 : decode cX4_dutiesTogether 5 = .ok (.aload_n 1, 1) := by decide +kernel
theorem dX4_dutiesTogether_6 : decode cX4_dutiesTogether 6 = .ok (.getfield 32, 3) := by decide +kernel
theorem dX4_dutiesTogether_9 : decode cX4_dutiesTogether 9 = .ok (.if_icmp .ge 18, 3) := by decide +kernel
theorem dX4_dutiesTogether_12 : decode cX4_dutiesTogether 12 = .ok (.iload_n 2, 1) := by decide +kernel
theorem dX4_dutiesTogether_13 : decode cX4_dutiesTogether 13 = .ok (.aload_n 0, 1) := by decide +kernel
theorem dX4_dutiesTogether_14 : decode cX4_dutiesTogether 14 = .ok (.getfield 22, 3) := by decide +kernel
theorem dX4_dutiesTogether_17 : decode cX4_dutiesTogether 17 = .ok (.iload_n 3, 1) := by decide +kernel
theorem dX4_dutiesTogether_18 : decode cX4_dutiesTogether 18 = .ok (.iaload, 1) := by decide +kernel
theorem dX4_dutiesTogether_19 : decode cX4_dutiesTogether 19 = .ok (.iadd, 1) := by decide +kernel
theorem dX4_dutiesTogether_20 : decode cX4_dutiesTogether 20 = .ok (.istore_n 2, 1) := by decide +kernel
theorem dX4_dutiesTogether_21 : decode cX4_dutiesTogether 21 = .ok (.iinc 3 1, 3) := by decide +kernel
theorem dX4_dutiesTogether_24 : decode cX4_dutiesTogether 24 = .ok (.goto (-20), 3) := by decide +kernel
theorem dX4_dutiesTogether_27 : decode cX4_dutiesTogether 27 = .ok (.iload_n 2, 1) := by decide +kernel
theorem dX4_dutiesTogether_28 : decode cX4_dutiesTogether 28 = .ok (.ireturn, 1) := by decide +kernel
theorem dX4_ruined_0 : decode cX4_ruined 0 = .ok (.iconst 0, 1) := by decide +kernel
theorem dX4_ruined_1 : decode cX4_ruined 1 = .ok (.istore_n 2, 1) := by decide +kernel
theorem dX4_ruined_2 : decode cX4_ruined 2 = .ok (.iconst 0, 1) := by decide +kernel
theorem dX4_ruined_3 : decode cX4_ruined 3 = .ok (.istore_n 3, 1) := by decide +kernel
theorem dX4_ruined_4 : decode cX4_ruined 4 = .ok (.iload_n 3, 1) := by decide +kernel
theorem dX4_ruined_5 : decode cX4_ruined 5 = .ok (.aload_n 1, 1) := by decide +kernel
theorem dX4_ruined_6 : decode cX4_ruined 6 = .ok (.getfield 32, 3) := by decide +kernel
theorem dX4_ruined_9 : decode cX4_ruined 9 = .ok (.if_icmp .ge 33, 3) := by decide +kernel
theorem dX4_ruined_12 : decode cX4_ruined 12 = .ok (.aload_n 0, 1) := by decide +kernel
theorem dX4_ruined_13 : decode cX4_ruined 13 = .ok (.getfield 22, 3) := by decide +kernel
theorem dX4_ruined_16 : decode cX4_ruined 16 = .ok (.iload_n 3, 1) := by decide +kernel
theorem dX4_ruined_17 : decode cX4_ruined 17 = .ok (.iaload, 1) := by decide +kernel
theorem dX4_ruined_18 : decode cX4_ruined 18 = .ok (.aload_n 1, 1) := by decide +kernel
theorem dX4_ruined_19 : decode cX4_ruined 19 = .ok (.getfield 37, 3) := by decide +kernel
theorem dX4_ruined_22 : decode cX4_ruined 22 = .ok (.iload_n 3, 1) := by decide +kernel
theorem dX4_ruined_23 : decode cX4_ruined 23 = .ok (.aaload, 1) := by decide +kernel
theorem dX4_ruined_24 : decode cX4_ruined 24 = .ok (.getfield 101, 3) := by decide +kernel
theorem dX4_ruined_27 : decode cX4_ruined 27 = .ok (.if_icmp .le 9, 3) := by decide +kernel
theorem dX4_ruined_30 : decode cX4_ruined 30 = .ok (.iload_n 2, 1) := by decide +kernel
theorem dX4_ruined_31 : decode cX4_ruined 31 = .ok (.iconst 1, 1) := by decide +kernel
theorem dX4_ruined_32 : decode cX4_ruined 32 = .ok (.iload_n 3, 1) := by decide +kernel
theorem dX4_ruined_33 : decode cX4_ruined 33 = .ok (.ishl, 1) := by decide +kernel
theorem dX4_ruined_34 : decode cX4_ruined 34 = .ok (.ior, 1) := by decide +kernel
theorem dX4_ruined_35 : decode cX4_ruined 35 = .ok (.istore_n 2, 1) := by decide +kernel
theorem dX4_ruined_36 : decode cX4_ruined 36 = .ok (.iinc 3 1, 3) := by decide +kernel
theorem dX4_ruined_39 : decode cX4_ruined 39 = .ok (.goto (-35), 3) := by decide +kernel
theorem dX4_ruined_42 : decode cX4_ruined 42 = .ok (.iload_n 2, 1) := by decide +kernel
theorem dX4_ruined_43 : decode cX4_ruined 43 = .ok (.ireturn, 1) := by decide +kernel
theorem dX4_solvent_0 : decode cX4_solvent 0 = .ok (.iconst 0, 1) := by decide +kernel
theorem dX4_solvent_1 : decode cX4_solvent 1 = .ok (.istore_n 2, 1) := by decide +kernel
theorem dX4_solvent_2 : decode cX4_solvent 2 = .ok (.iconst 0, 1) := by decide +kernel
theorem dX4_solvent_3 : decode cX4_solvent 3 = .ok (.istore_n 3, 1) := by decide +kernel
theorem dX4_solvent_4 : decode cX4_solvent 4 = .ok (.iload_n 3, 1) := by decide +kernel
theorem dX4_solvent_5 : decode cX4_solvent 5 = .ok (.aload_n 1, 1) := by decide +kernel
theorem dX4_solvent_6 : decode cX4_solvent 6 = .ok (.getfield 32, 3) := by decide +kernel
theorem dX4_solvent_9 : decode cX4_solvent 9 = .ok (.if_icmp .ge 29, 3) := by decide +kernel
theorem dX4_solvent_12 : decode cX4_solvent 12 = .ok (.iload_n 2, 1) := by decide +kernel
theorem dX4_solvent_13 : decode cX4_solvent 13 = .ok (.aload_n 0, 1) := by decide +kernel
theorem dX4_solvent_14 : decode cX4_solvent 14 = .ok (.getfield 22, 3) := by decide +kernel
theorem dX4_solvent_17 : decode cX4_solvent 17 = .ok (.iload_n 3, 1) := by decide +kernel
theorem dX4_solvent_18 : decode cX4_solvent 18 = .ok (.iaload, 1) := by decide +kernel
theorem dX4_solvent_19 : decode cX4_solvent 19 = .ok (.ifCond .ne 7, 3) := by decide +kernel
theorem dX4_solvent_22 : decode cX4_solvent 22 = .ok (.iconst 1, 1) := by decide +kernel
theorem dX4_solvent_23 : decode cX4_solvent 23 = .ok (.goto 4, 3) := by decide +kernel
theorem dX4_solvent_26 : decode cX4_solvent 26 = .ok (.iconst 0, 1) := by decide +kernel
theorem dX4_solvent_27 : decode cX4_solvent 27 = .ok (.invokestatic 104, 3) := by decide +kernel
theorem dX4_solvent_30 : decode cX4_solvent 30 = .ok (.iadd, 1) := by decide +kernel
theorem dX4_solvent_31 : decode cX4_solvent 31 = .ok (.istore_n 2, 1) := by decide +kernel
theorem dX4_solvent_32 : decode cX4_solvent 32 = .ok (.iinc 3 1, 3) := by decide +kernel
theorem dX4_solvent_35 : decode cX4_solvent 35 = .ok (.goto (-31), 3) := by decide +kernel
theorem dX4_solvent_38 : decode cX4_solvent 38 = .ok (.iload_n 2, 1) := by decide +kernel
theorem dX4_solvent_39 : decode cX4_solvent 39 = .ok (.ireturn, 1) := by decide +kernel
theorem dX4_enter_0 : decode cX4_enter 0 = .ok (.aload_n 0, 1) := by decide +kernel
theorem dX4_enter_1 : decode cX4_enter 1 = .ok (.dup, 1) := by decide +kernel
theorem dX4_enter_2 : decode cX4_enter 2 = .ok (.getfield 28, 3) := by decide +kernel
theorem dX4_enter_5 : decode cX4_enter 5 = .ok (.iload_n 2, 1) := by decide +kernel
theorem dX4_enter_6 : decode cX4_enter 6 = .ok (.invokestatic 84, 3) := by decide +kernel
theorem dX4_enter_9 : decode cX4_enter 9 = .ok (.iadd, 1) := by decide +kernel
theorem dX4_enter_10 : decode cX4_enter 10 = .ok (.putfield 28, 3) := by decide +kernel
theorem dX4_enter_13 : decode cX4_enter 13 = .ok (.iconst 0, 1) := by decide +kernel
theorem dX4_enter_14 : decode cX4_enter 14 = .ok (.istore_n 3, 1) := by decide +kernel
theorem dX4_enter_15 : decode cX4_enter 15 = .ok (.iload_n 3, 1) := by decide +kernel
theorem dX4_enter_16 : decode cX4_enter 16 = .ok (.aload_n 1, 1) := by decide +kernel
theorem dX4_enter_17 : decode cX4_enter 17 = .ok (.getfield 32, 3) := by decide +kernel
theorem dX4_enter_20 : decode cX4_enter 20 = .ok (.if_icmp .ge 31, 3) := by decide +kernel
theorem dX4_enter_23 : decode cX4_enter 23 = .ok (.iload_n 2, 1) := by decide +kernel
theorem dX4_enter_24 : decode cX4_enter 24 = .ok (.i2l, 1) := by decide +kernel
theorem dX4_enter_25 : decode cX4_enter 25 = .ok (.iload_n 3, 1) := by decide +kernel
theorem dX4_enter_26 : decode cX4_enter 26 = .ok (.invokestatic 97, 3) := by decide +kernel
theorem dX4_enter_29 : decode cX4_enter 29 = .ok (.ifCond .eq 16, 3) := by decide +kernel
theorem dX4_enter_32 : decode cX4_enter 32 = .ok (.aload_n 0, 1) := by decide +kernel
theorem dX4_enter_33 : decode cX4_enter 33 = .ok (.getfield 25, 3) := by decide +kernel
theorem dX4_enter_36 : decode cX4_enter 36 = .ok (.iload_n 3, 1) := by decide +kernel
theorem dX4_enter_37 : decode cX4_enter 37 = .ok (.dup2, 1) := by decide +kernel
theorem dX4_enter_38 : decode cX4_enter 38 = .ok (.iaload, 1) := by decide +kernel
theorem dX4_enter_39 : decode cX4_enter 39 = .ok (.aload_n 1, 1) := by decide +kernel
theorem dX4_enter_40 : decode cX4_enter 40 = .ok (.getfield 90, 3) := by decide +kernel
theorem dX4_enter_43 : decode cX4_enter 43 = .ok (.iadd, 1) := by decide +kernel
theorem dX4_enter_44 : decode cX4_enter 44 = .ok (.iastore, 1) := by decide +kernel
theorem dX4_enter_45 : decode cX4_enter 45 = .ok (.iinc 3 1, 3) := by decide +kernel
theorem dX4_enter_48 : decode cX4_enter 48 = .ok (.goto (-33), 3) := by decide +kernel
theorem dX4_enter_51 : decode cX4_enter 51 = .ok (.return_, 1) := by decide +kernel
theorem dX4_dutyFor_0 : decode cX4_dutyFor 0 = .ok (.iload_n 0, 1) := by decide +kernel
theorem dX4_dutyFor_1 : decode cX4_dutyFor 1 = .ok (.lookupswitch 36 #[(2, 27), (5, 34)], 27) := by decide +kernel
theorem dX4_dutyFor_28 : decode cX4_dutyFor 28 = .ok (.iload_n 1, 1) := by decide +kernel
theorem dX4_dutyFor_29 : decode cX4_dutyFor 29 = .ok (.iload_n 1, 1) := by decide +kernel
theorem dX4_dutyFor_30 : decode cX4_dutyFor 30 = .ok (.bipush 9, 2) := by decide +kernel
theorem dX4_dutyFor_32 : decode cX4_dutyFor 32 = .ok (.idiv, 1) := by decide +kernel
theorem dX4_dutyFor_33 : decode cX4_dutyFor 33 = .ok (.isub, 1) := by decide +kernel
theorem dX4_dutyFor_34 : decode cX4_dutyFor 34 = .ok (.ireturn, 1) := by decide +kernel
theorem dX4_dutyFor_35 : decode cX4_dutyFor 35 = .ok (.iconst 0, 1) := by decide +kernel
theorem dX4_dutyFor_36 : decode cX4_dutyFor 36 = .ok (.ireturn, 1) := by decide +kernel
theorem dX4_dutyFor_37 : decode cX4_dutyFor 37 = .ok (.iload_n 1, 1) := by decide +kernel
theorem dX4_dutyFor_38 : decode cX4_dutyFor 38 = .ok (.ireturn, 1) := by decide +kernel
theorem dX4_worthAGlance_0 : decode cX4_worthAGlance 0 = .ok (.aload_n 1, 1) := by decide +kernel
theorem dX4_worthAGlance_1 : decode cX4_worthAGlance 1 = .ok (.getfield 37, 3) := by decide +kernel
theorem dX4_worthAGlance_4 : decode cX4_worthAGlance 4 = .ok (.iload_n 2, 1) := by decide +kernel
theorem dX4_worthAGlance_5 : decode cX4_worthAGlance 5 = .ok (.aaload, 1) := by decide +kernel
theorem dX4_worthAGlance_6 : decode cX4_worthAGlance 6 = .ok (.astore_n 3, 1) := by decide +kernel
theorem dX4_worthAGlance_7 : decode cX4_worthAGlance 7 = .ok (.aload_n 3, 1) := by decide +kernel
theorem dX4_worthAGlance_8 : decode cX4_worthAGlance 8 = .ok (.iconst 3, 1) := by decide +kernel
theorem dX4_worthAGlance_9 : decode cX4_worthAGlance 9 = .ok (.invokevirtual 62, 3) := by decide +kernel
theorem dX4_worthAGlance_12 : decode cX4_worthAGlance 12 = .ok (.ifCond .eq 5, 3) := by decide +kernel
theorem dX4_worthAGlance_15 : decode cX4_worthAGlance 15 = .ok (.iconst 0, 1) := by decide +kernel
theorem dX4_worthAGlance_16 : decode cX4_worthAGlance 16 = .ok (.ireturn, 1) := by decide +kernel
theorem dX4_worthAGlance_17 : decode cX4_worthAGlance 17 = .ok (.iconst 0, 1) := by decide +kernel
theorem dX4_worthAGlance_18 : decode cX4_worthAGlance 18 = .ok (.istore 4, 2) := by decide +kernel
theorem dX4_worthAGlance_20 : decode cX4_worthAGlance 20 = .ok (.iconst 0, 1) := by decide +kernel
theorem dX4_worthAGlance_21 : decode cX4_worthAGlance 21 = .ok (.istore 5, 2) := by decide +kernel
theorem dX4_worthAGlance_23 : decode cX4_worthAGlance 23 = .ok (.iload 5, 2) := by decide +kernel
theorem dX4_worthAGlance_25 : decode cX4_worthAGlance 25 = .ok (.aload_n 1, 1) := by decide +kernel
theorem dX4_worthAGlance_26 : decode cX4_worthAGlance 26 = .ok (.getfield 32, 3) := by decide +kernel
theorem dX4_worthAGlance_29 : decode cX4_worthAGlance 29 = .ok (.if_icmp .ge 74, 3) := by decide +kernel
theorem dX4_worthAGlance_32 : decode cX4_worthAGlance 32 = .ok (.aload_n 1, 1) := by decide +kernel
theorem dX4_worthAGlance_33 : decode cX4_worthAGlance 33 = .ok (.getfield 37, 3) := by decide +kernel
theorem dX4_worthAGlance_36 : decode cX4_worthAGlance 36 = .ok (.iload 5, 2) := by decide +kernel
theorem dX4_worthAGlance_38 : decode cX4_worthAGlance 38 = .ok (.aaload, 1) := by decide +kernel
theorem dX4_worthAGlance_39 : decode cX4_worthAGlance 39 = .ok (.getfield 41, 3) := by decide +kernel
theorem dX4_worthAGlance_42 : decode cX4_worthAGlance 42 = .ok (.istore 6, 2) := by decide +kernel
theorem dX4_worthAGlance_44 : decode cX4_worthAGlance 44 = .ok (.iload 5, 2) := by decide +kernel
theorem dX4_worthAGlance_46 : decode cX4_worthAGlance 46 = .ok (.iload_n 2, 1) := by decide +kernel
theorem dX4_worthAGlance_47 : decode cX4_worthAGlance 47 = .ok (.if_icmp .eq 50, 3) := by decide +kernel
theorem dX4_worthAGlance_50 : decode cX4_worthAGlance 50 = .ok (.aload_n 0, 1) := by decide +kernel
theorem dX4_worthAGlance_51 : decode cX4_worthAGlance 51 = .ok (.getfield 9, 3) := by decide +kernel
theorem dX4_worthAGlance_54 : decode cX4_worthAGlance 54 = .ok (.iload_n 2, 1) := by decide +kernel
theorem dX4_worthAGlance_55 : decode cX4_worthAGlance 55 = .ok (.laload, 1) := by decide +kernel
theorem dX4_worthAGlance_56 : decode cX4_worthAGlance 56 = .ok (.iload 6, 2) := by decide +kernel
theorem dX4_worthAGlance_58 : decode cX4_worthAGlance 58 = .ok (.invokestatic 97, 3) := by decide +kernel
theorem dX4_worthAGlance_61 : decode cX4_worthAGlance 61 = .ok (.ifCond .eq 36, 3) := by decide +kernel
theorem dX4_worthAGlance_64 : decode cX4_worthAGlance 64 = .ok (.aload_n 0, 1) := by decide +kernel
theorem dX4_worthAGlance_65 : decode cX4_worthAGlance 65 = .ok (.getfield 15, 3) := by decide +kernel
theorem dX4_worthAGlance_68 : decode cX4_worthAGlance 68 = .ok (.iload 5, 2) := by decide +kernel
theorem dX4_worthAGlance_70 : decode cX4_worthAGlance 70 = .ok (.iaload, 1) := by decide +kernel
theorem dX4_worthAGlance_71 : decode cX4_worthAGlance 71 = .ok (.aload_n 3, 1) := by decide +kernel
theorem dX4_worthAGlance_72 : decode cX4_worthAGlance 72 = .ok (.getfield 107, 3) := by decide +kernel
theorem dX4_worthAGlance_75 : decode cX4_worthAGlance 75 = .ok (.aload_n 3, 1) := by decide +kernel
theorem dX4_worthAGlance_76 : decode cX4_worthAGlance 76 = .ok (.getfield 41, 3) := by decide +kernel
theorem dX4_worthAGlance_79 : decode cX4_worthAGlance 79 = .ok (.iload 6, 2) := by decide +kernel
theorem dX4_worthAGlance_81 : decode cX4_worthAGlance 81 = .ok (.invokestatic 110, 3) := by decide +kernel
theorem dX4_worthAGlance_84 : decode cX4_worthAGlance 84 = .ok (.iadd, 1) := by decide +kernel
theorem dX4_worthAGlance_85 : decode cX4_worthAGlance 85 = .ok (.if_icmp .le 12, 3) := by decide +kernel
theorem dX4_worthAGlance_88 : decode cX4_worthAGlance 88 = .ok (.iload 4, 2) := by decide +kernel
theorem dX4_worthAGlance_90 : decode cX4_worthAGlance 90 = .ok (.iconst 1, 1) := by decide +kernel
theorem dX4_worthAGlance_91 : decode cX4_worthAGlance 91 = .ok (.iload 5, 2) := by decide +kernel
theorem dX4_worthAGlance_93 : decode cX4_worthAGlance 93 = .ok (.ishl, 1) := by decide +kernel
theorem dX4_worthAGlance_94 : decode cX4_worthAGlance 94 = .ok (.ior, 1) := by decide +kernel
theorem dX4_worthAGlance_95 : decode cX4_worthAGlance 95 = .ok (.istore 4, 2) := by decide +kernel
theorem dX4_worthAGlance_97 : decode cX4_worthAGlance 97 = .ok (.iinc 5 1, 3) := by decide +kernel
theorem dX4_worthAGlance_100 : decode cX4_worthAGlance 100 = .ok (.goto (-77), 3) := by decide +kernel
theorem dX4_worthAGlance_103 : decode cX4_worthAGlance 103 = .ok (.iload 4, 2) := by decide +kernel
theorem dX4_worthAGlance_105 : decode cX4_worthAGlance 105 = .ok (.ireturn, 1) := by decide +kernel
theorem dX4_dearestOf_0 : decode cX4_dearestOf 0 = .ok (.iconst 0, 1) := by decide +kernel
theorem dX4_dearestOf_1 : decode cX4_dearestOf 1 = .ok (.istore 4, 2) := by decide +kernel
theorem dX4_dearestOf_3 : decode cX4_dearestOf 3 = .ok (.iconst 0, 1) := by decide +kernel
theorem dX4_dearestOf_4 : decode cX4_dearestOf 4 = .ok (.istore 5, 2) := by decide +kernel
theorem dX4_dearestOf_6 : decode cX4_dearestOf 6 = .ok (.iconst 0, 1) := by decide +kernel
theorem dX4_dearestOf_7 : decode cX4_dearestOf 7 = .ok (.istore 6, 2) := by decide +kernel
theorem dX4_dearestOf_9 : decode cX4_dearestOf 9 = .ok (.iconst 0, 1) := by decide +kernel
theorem dX4_dearestOf_10 : decode cX4_dearestOf 10 = .ok (.istore 7, 2) := by decide +kernel
theorem dX4_dearestOf_12 : decode cX4_dearestOf 12 = .ok (.iload 7, 2) := by decide +kernel
theorem dX4_dearestOf_14 : decode cX4_dearestOf 14 = .ok (.aload_n 1, 1) := by decide +kernel
theorem dX4_dearestOf_15 : decode cX4_dearestOf 15 = .ok (.getfield 32, 3) := by decide +kernel
theorem dX4_dearestOf_18 : decode cX4_dearestOf 18 = .ok (.if_icmp .ge 93, 3) := by decide +kernel
theorem dX4_dearestOf_21 : decode cX4_dearestOf 21 = .ok (.aload_n 1, 1) := by decide +kernel
theorem dX4_dearestOf_22 : decode cX4_dearestOf 22 = .ok (.getfield 37, 3) := by decide +kernel
theorem dX4_dearestOf_25 : decode cX4_dearestOf 25 = .ok (.iload_n 2, 1) := by decide +kernel
theorem dX4_dearestOf_26 : decode cX4_dearestOf 26 = .ok (.aaload, 1) := by decide +kernel
theorem dX4_dearestOf_27 : decode cX4_dearestOf 27 = .ok (.getfield 41, 3) := by decide +kernel
theorem dX4_dearestOf_30 : decode cX4_dearestOf 30 = .ok (.aload_n 1, 1) := by decide +kernel
theorem dX4_dearestOf_31 : decode cX4_dearestOf 31 = .ok (.getfield 37, 3) := by decide +kernel
theorem dX4_dearestOf_34 : decode cX4_dearestOf 34 = .ok (.iload 7, 2) := by decide +kernel
theorem dX4_dearestOf_36 : decode cX4_dearestOf 36 = .ok (.aaload, 1) := by decide +kernel
theorem dX4_dearestOf_37 : decode cX4_dearestOf 37 = .ok (.getfield 41, 3) := by decide +kernel
theorem dX4_dearestOf_40 : decode cX4_dearestOf 40 = .ok (.invokestatic 110, 3) := by decide +kernel
theorem dX4_dearestOf_43 : decode cX4_dearestOf 43 = .ok (.istore 8, 2) := by decide +kernel
theorem dX4_dearestOf_45 : decode cX4_dearestOf 45 = .ok (.iload_n 3, 1) := by decide +kernel
theorem dX4_dearestOf_46 : decode cX4_dearestOf 46 = .ok (.i2l, 1) := by decide +kernel
theorem dX4_dearestOf_47 : decode cX4_dearestOf 47 = .ok (.iload 7, 2) := by decide +kernel
theorem dX4_dearestOf_49 : decode cX4_dearestOf 49 = .ok (.invokestatic 97, 3) := by decide +kernel
theorem dX4_dearestOf_52 : decode cX4_dearestOf 52 = .ok (.ifCond .eq 53, 3) := by decide +kernel
theorem dX4_dearestOf_55 : decode cX4_dearestOf 55 = .ok (.iload 4, 2) := by decide +kernel
theorem dX4_dearestOf_57 : decode cX4_dearestOf 57 = .ok (.ifCond .eq 29, 3) := by decide +kernel
theorem dX4_dearestOf_60 : decode cX4_dearestOf 60 = .ok (.iload 8, 2) := by decide +kernel
theorem dX4_dearestOf_62 : decode cX4_dearestOf 62 = .ok (.iload 5, 2) := by decide +kernel
theorem dX4_dearestOf_64 : decode cX4_dearestOf 64 = .ok (.if_icmp .lt 22, 3) := by decide +kernel
theorem dX4_dearestOf_67 : decode cX4_dearestOf 67 = .ok (.iload 8, 2) := by decide +kernel
theorem dX4_dearestOf_69 : decode cX4_dearestOf 69 = .ok (.iload 5, 2) := by decide +kernel
theorem dX4_dearestOf_71 : decode cX4_dearestOf 71 = .ok (.if_icmp .ne 34, 3) := by decide +kernel
theorem dX4_dearestOf_74 : decode cX4_dearestOf 74 = .ok (.aload_n 0, 1) := by decide +kernel
theorem dX4_dearestOf_75 : decode cX4_dearestOf 75 = .ok (.getfield 15, 3) := by decide +kernel
theorem dX4_dearestOf_78 : decode cX4_dearestOf 78 = .ok (.iload 7, 2) := by decide +kernel
theorem dX4_dearestOf_80 : decode cX4_dearestOf 80 = .ok (.iaload, 1) := by decide +kernel
theorem dX4_dearestOf_81 : decode cX4_dearestOf 81 = .ok (.iload 6, 2) := by decide +kernel
theorem dX4_dearestOf_83 : decode cX4_dearestOf 83 = .ok (.if_icmp .le 22, 3) := by decide +kernel
theorem dX4_dearestOf_86 : decode cX4_dearestOf 86 = .ok (.iconst 1, 1) := by decide +kernel
theorem dX4_dearestOf_87 : decode cX4_dearestOf 87 = .ok (.iload 7, 2) := by decide +kernel
theorem dX4_dearestOf_89 : decode cX4_dearestOf 89 = .ok (.ishl, 1) := by decide +kernel
theorem dX4_dearestOf_90 : decode cX4_dearestOf 90 = .ok (.istore 4, 2) := by decide +kernel
theorem dX4_dearestOf_92 : decode cX4_dearestOf 92 = .ok (.iload 8, 2) := by decide +kernel
theorem dX4_dearestOf_94 : decode cX4_dearestOf 94 = .ok (.istore 5, 2) := by decide +kernel
theorem dX4_dearestOf_96 : decode cX4_dearestOf 96 = .ok (.aload_n 0, 1) := by decide +kernel
theorem dX4_dearestOf_97 : decode cX4_dearestOf 97 = .ok (.getfield 15, 3) := by decide +kernel
theorem dX4_dearestOf_100 : decode cX4_dearestOf 100 = .ok (.iload 7, 2) := by decide +kernel
theorem dX4_dearestOf_102 : decode cX4_dearestOf 102 = .ok (.iaload, 1) := by decide +kernel
theorem dX4_dearestOf_103 : decode cX4_dearestOf 103 = .ok (.istore 6, 2) := by decide +kernel
theorem dX4_dearestOf_105 : decode cX4_dearestOf 105 = .ok (.iinc 7 1, 3) := by decide +kernel
theorem dX4_dearestOf_108 : decode cX4_dearestOf 108 = .ok (.goto (-96), 3) := by decide +kernel
theorem dX4_dearestOf_111 : decode cX4_dearestOf 111 = .ok (.iload 4, 2) := by decide +kernel
theorem dX4_dearestOf_113 : decode cX4_dearestOf 113 = .ok (.ireturn, 1) := by decide +kernel
theorem dX5_init_0 : decode cX5_init 0 = .ok (.aload_n 0, 1) := by decide +kernel
theorem dX5_init_1 : decode cX5_init 1 = .ok (.invokespecial 3, 3) := by decide +kernel
theorem dX5_init_4 : decode cX5_init 4 = .ok (.aload_n 0, 1) := by decide +kernel
theorem dX5_init_5 : decode cX5_init 5 = .ok (.iconst (-1), 1) := by decide +kernel
theorem dX5_init_6 : decode cX5_init 6 = .ok (.putfield 11, 3) := by decide +kernel
theorem dX5_init_9 : decode cX5_init 9 = .ok (.aload_n 0, 1) := by decide +kernel
theorem dX5_init_10 : decode cX5_init 10 = .ok (.sipush 160, 3) := by decide +kernel
theorem dX5_init_13 : decode cX5_init 13 = .ok (.newarray .long, 2) := by decide +kernel
theorem dX5_init_15 : decode cX5_init 15 = .ok (.putfield 15, 3) := by decide +kernel
theorem dX5_init_18 : decode cX5_init 18 = .ok (.return_, 1) := by decide +kernel
theorem dX5_isRow_0 : decode cX5_isRow 0 = .ok (.aload_n 0, 1) := by decide +kernel
theorem dX5_isRow_1 : decode cX5_isRow 1 = .ok (.getfield 11, 3) := by decide +kernel
theorem dX5_isRow_4 : decode cX5_isRow 4 = .ok (.ifCond .lt 7, 3) := by decide +kernel
theorem dX5_isRow_7 : decode cX5_isRow 7 = .ok (.iconst 1, 1) := by decide +kernel
theorem dX5_isRow_8 : decode cX5_isRow 8 = .ok (.goto 4, 3) := by decide +kernel
theorem dX5_isRow_11 : decode cX5_isRow 11 = .ok (.iconst 0, 1) := by decide +kernel
theorem dX5_isRow_12 : decode cX5_isRow 12 = .ok (.ireturn, 1) := by decide +kernel
theorem dX5_isPerson_0 : decode cX5_isPerson 0 = .ok (.aload_n 0, 1) := by decide +kernel
theorem dX5_isPerson_1 : decode cX5_isPerson 1 = .ok (.getfield 11, 3) := by decide +kernel
theorem dX5_isPerson_4 : decode cX5_isPerson 4 = .ok (.bipush (-2), 2) := by decide +kernel
theorem dX5_isPerson_6 : decode cX5_isPerson 6 = .ok (.if_icmp .ne 7, 3) := by decide +kernel
theorem dX5_isPerson_9 : decode cX5_isPerson 9 = .ok (.iconst 1, 1) := by decide +kernel
theorem dX5_isPerson_10 : decode cX5_isPerson 10 = .ok (.goto 4, 3) := by decide +kernel
theorem dX5_isPerson_13 : decode cX5_isPerson 13 = .ok (.iconst 0, 1) := by decide +kernel
theorem dX5_isPerson_14 : decode cX5_isPerson 14 = .ok (.ireturn, 1) := by decide +kernel
theorem dX5_holdNothing_0 : decode cX5_holdNothing 0 = .ok (.aload_n 0, 1) := by decide +kernel
theorem dX5_holdNothing_1 : decode cX5_holdNothing 1 = .ok (.iconst (-1), 1) := by decide +kernel
theorem dX5_holdNothing_2 : decode cX5_holdNothing 2 = .ok (.putfield 11, 3) := by decide +kernel
theorem dX5_holdNothing_5 : decode cX5_holdNothing 5 = .ok (.aload_n 0, 1) := by decide +kernel
theorem dX5_holdNothing_6 : decode cX5_holdNothing 6 = .ok (.iconst 0, 1) := by decide +kernel
theorem dX5_holdNothing_7 : decode cX5_holdNothing 7 = .ok (.putfield 19, 3) := by decide +kernel
theorem dX5_holdNothing_10 : decode cX5_holdNothing 10 = .ok (.return_, 1) := by decide +kernel
theorem dX5_holdPerson_0 : decode cX5_holdPerson 0 = .ok (.aload_n 0, 1) := by decide +kernel
theorem dX5_holdPerson_1 : decode cX5_holdPerson 1 = .ok (.bipush (-2), 2) := by decide +kernel
theorem dX5_holdPerson_3 : decode cX5_holdPerson 3 = .ok (.putfield 11, 3) := by decide +kernel
theorem dX5_holdPerson_6 : decode cX5_holdPerson 6 = .ok (.aload_n 0, 1) := by decide +kernel
theorem dX5_holdPerson_7 : decode cX5_holdPerson 7 = .ok (.iconst 0, 1) := by decide +kernel
theorem dX5_holdPerson_8 : decode cX5_holdPerson 8 = .ok (.putfield 19, 3) := by decide +kernel
theorem dX5_holdPerson_11 : decode cX5_holdPerson 11 = .ok (.aload_n 0, 1) := by decide +kernel
theorem dX5_holdPerson_12 : decode cX5_holdPerson 12 = .ok (.iload_n 1, 1) := by decide +kernel
theorem dX5_holdPerson_13 : decode cX5_holdPerson 13 = .ok (.putfield 22, 3) := by decide +kernel
theorem dX5_holdPerson_16 : decode cX5_holdPerson 16 = .ok (.return_, 1) := by decide +kernel
theorem dX5_holdRow_0 : decode cX5_holdRow 0 = .ok (.aload_n 0, 1) := by decide +kernel
theorem dX5_holdRow_1 : decode cX5_holdRow 1 = .ok (.iload_n 1, 1) := by decide +kernel
theorem dX5_holdRow_2 : decode cX5_holdRow 2 = .ok (.putfield 11, 3) := by decide +kernel
theorem dX5_holdRow_5 : decode cX5_holdRow 5 = .ok (.aload_n 0, 1) := by decide +kernel
theorem dX5_holdRow_6 : decode cX5_holdRow 6 = .ok (.iload_n 2, 1) := by decide +kernel
theorem dX5_holdRow_7 : decode cX5_holdRow 7 = .ok (.putfield 19, 3) := by decide +kernel
theorem dX5_holdRow_10 : decode cX5_holdRow 10 = .ok (.aload_n 0, 1) := by decide +kernel
theorem dX5_holdRow_11 : decode cX5_holdRow 11 = .ok (.getfield 15, 3) := by decide +kernel
theorem dX5_holdRow_14 : decode cX5_holdRow 14 = .ok (.lconst 0, 1) := by decide +kernel
theorem dX5_holdRow_15 : decode cX5_holdRow 15 = .ok (.invokestatic 25, 3) := by decide +kernel
theorem dX5_holdRow_18 : decode cX5_holdRow 18 = .ok (.return_, 1) := by decide +kernel
theorem dX5_told_0 : decode cX5_told 0 = .ok (.aload_n 0, 1) := by decide +kernel
theorem dX5_told_1 : decode cX5_told 1 = .ok (.invokevirtual 31, 3) := by decide +kernel
theorem dX5_told_4 : decode cX5_told 4 = .ok (.ifCond .eq 11, 3) := by decide +kernel
theorem dX5_told_7 : decode cX5_told 7 = .ok (.bipush 100, 2) := by decide +kernel
theorem dX5_told_9 : decode cX5_told 9 = .ok (.aload_n 0, 1) := by decide +kernel
theorem dX5_told_10 : decode cX5_told 10 = .ok (.getfield 11, 3) := by decide +kernel
theorem dX5_told_13 : decode cX5_told 13 = .ok (.iadd, 1) := by decide +kernel
theorem dX5_told_14 : decode cX5_told 14 = .ok (.ireturn, 1) := by decide +kernel
theorem dX5_told_15 : decode cX5_told 15 = .ok (.aload_n 0, 1) := by decide +kernel
theorem dX5_told_16 : decode cX5_told 16 = .ok (.invokevirtual 35, 3) := by decide +kernel
theorem dX5_told_19 : decode cX5_told 19 = .ok (.ifCond .eq 10, 3) := by decide +kernel
theorem dX5_told_22 : decode cX5_told 22 = .ok (.aload_n 0, 1) := by decide +kernel
theorem dX5_told_23 : decode cX5_told 23 = .ok (.getfield 22, 3) := by decide +kernel
theorem dX5_told_26 : decode cX5_told 26 = .ok (.goto 4, 3) := by decide +kernel
theorem dX5_told_29 : decode cX5_told 29 = .ok (.iconst (-1), 1) := by decide +kernel
theorem dX5_told_30 : decode cX5_told 30 = .ok (.ireturn, 1) := by decide +kernel
theorem dX5_hasElement_0 : decode cX5_hasElement 0 = .ok (.iload_n 1, 1) := by decide +kernel
theorem dX5_hasElement_1 : decode cX5_hasElement 1 = .ok (.ifCond .lt 15, 3) := by decide +kernel
theorem dX5_hasElement_4 : decode cX5_hasElement 4 = .ok (.iload_n 1, 1) := by decide +kernel
theorem dX5_hasElement_5 : decode cX5_hasElement 5 = .ok (.aload_n 0, 1) := by decide +kernel
theorem dX5_hasElement_6 : decode cX5_hasElement 6 = .ok (.getfield 19, 3) := by decide +kernel
theorem dX5_hasElement_9 : decode cX5_hasElement 9 = .ok (.if_icmp .ge 7, 3) := by decide +kernel
theorem dX5_hasElement_12 : decode cX5_hasElement 12 = .ok (.iconst 1, 1) := by decide +kernel
theorem dX5_hasElement_13 : decode cX5_hasElement 13 = .ok (.goto 4, 3) := by decide +kernel
theorem dX5_hasElement_16 : decode cX5_hasElement 16 = .ok (.iconst 0, 1) := by decide +kernel
theorem dX5_hasElement_17 : decode cX5_hasElement 17 = .ok (.ireturn, 1) := by decide +kernel
theorem dX5_hasElements_0 : decode cX5_hasElements 0 = .ok (.iload_n 1, 1) := by decide +kernel
theorem dX5_hasElements_1 : decode cX5_hasElements 1 = .ok (.ifCond .lt 29, 3) := by decide +kernel
theorem dX5_hasElements_4 : decode cX5_hasElements 4 = .ok (.iload_n 2, 1) := by decide +kernel
theorem dX5_hasElements_5 : decode cX5_hasElements 5 = .ok (.ifCond .lt 25, 3) := by decide +kernel
theorem dX5_hasElements_8 : decode cX5_hasElements 8 = .ok (.iload_n 1, 1) := by decide +kernel
theorem dX5_hasElements_9 : decode cX5_hasElements 9 = .ok (.aload_n 0, 1) := by decide +kernel
theorem dX5_hasElements_10 : decode cX5_hasElements 10 = .ok (.getfield 19, 3) := by decide +kernel
theorem dX5_hasElements_13 : decode cX5_hasElements 13 = .ok (.if_icmp .gt 17, 3) := by decide +kernel
theorem dX5_hasElements_16 : decode cX5_hasElements 16 = .ok (.iload_n 2, 1) := by decide +kernel
theorem dX5_hasElements_17 : decode cX5_hasElements 17 = .ok (.aload_n 0, 1) := by decide +kernel
theorem dX5_hasElements_18 : decode cX5_hasElements 18 = .ok (.getfield 19, 3) := by decide +kernel
theorem dX5_hasElements_21 : decode cX5_hasElements 21 = .ok (.iload_n 1, 1) := by decide +kernel
theorem dX5_hasElements_22 : decode cX5_hasElements 22 = .ok (.isub, 1) := by decide +kernel
theorem dX5_hasElements_23 : decode cX5_hasElements 23 = .ok (.if_icmp .gt 7, 3) := by decide +kernel
theorem dX5_hasElements_26 : decode cX5_hasElements 26 = .ok (.iconst 1, 1) := by decide +kernel
theorem dX5_hasElements_27 : decode cX5_hasElements 27 = .ok (.goto 4, 3) := by decide +kernel
theorem dX5_hasElements_30 : decode cX5_hasElements 30 = .ok (.iconst 0, 1) := by decide +kernel
theorem dX5_hasElements_31 : decode cX5_hasElements 31 = .ok (.ireturn, 1) := by decide +kernel
theorem dX5_putElement_0 : decode cX5_putElement 0 = .ok (.aload_n 0, 1) := by decide +kernel
theorem dX5_putElement_1 : decode cX5_putElement 1 = .ok (.getfield 11, 3) := by decide +kernel
theorem dX5_putElement_4 : decode cX5_putElement 4 = .ok (.tableswitch 66 0 2 #[28, 41, 54], 28) := by decide +kernel
theorem dX5_putElement_32 : decode cX5_putElement 32 = .ok (.aload_n 0, 1) := by decide +kernel
theorem dX5_putElement_33 : decode cX5_putElement 33 = .ok (.getfield 15, 3) := by decide +kernel
theorem dX5_putElement_36 : decode cX5_putElement 36 = .ok (.iload_n 1, 1) := by decide +kernel
theorem dX5_putElement_37 : decode cX5_putElement 37 = .ok (.lload_n 2, 1) := by decide +kernel
theorem dX5_putElement_38 : decode cX5_putElement 38 = .ok (.l2i, 1) := by decide +kernel
theorem dX5_putElement_39 : decode cX5_putElement 39 = .ok (.i2b, 1) := by decide +kernel
theorem dX5_putElement_40 : decode cX5_putElement 40 = .ok (.i2l, 1) := by decide +kernel
theorem dX5_putElement_41 : decode cX5_putElement 41 = .ok (.lastore, 1) := by decide +kernel
theorem dX5_putElement_42 : decode cX5_putElement 42 = .ok (.goto 35, 3) := by decide +kernel
theorem dX5_putElement_45 : decode cX5_putElement 45 = .ok (.aload_n 0, 1) := by decide +kernel
theorem dX5_putElement_46 : decode cX5_putElement 46 = .ok (.getfield 15, 3) := by decide +kernel
theorem dX5_putElement_49 : decode cX5_putElement 49 = .ok (.iload_n 1, 1) := by decide +kernel
theorem dX5_putElement_50 : decode cX5_putElement 50 = .ok (.lload_n 2, 1) := by decide +kernel
theorem dX5_putElement_51 : decode cX5_putElement 51 = .ok (.l2i, 1) := by decide +kernel
theorem dX5_putElement_52 : decode cX5_putElement 52 = .ok (.i2s, 1) := by decide +kernel
theorem dX5_putElement_53 : decode cX5_putElement 53 = .ok (.i2l, 1) := by decide +kernel
theorem dX5_putElement_54 : decode cX5_putElement 54 = .ok (.lastore, 1) := by decide +kernel
theorem dX5_putElement_55 : decode cX5_putElement 55 = .ok (.goto 22, 3) := by decide +kernel
theorem dX5_putElement_58 : decode cX5_putElement 58 = .ok (.aload_n 0, 1) := by decide +kernel
theorem dX5_putElement_59 : decode cX5_putElement 59 = .ok (.getfield 15, 3) := by decide +kernel
theorem dX5_putElement_62 : decode cX5_putElement 62 = .ok (.iload_n 1, 1) := by decide +kernel
theorem dX5_putElement_63 : decode cX5_putElement 63 = .ok (.lload_n 2, 1) := by decide +kernel
theorem dX5_putElement_64 : decode cX5_putElement 64 = .ok (.l2i, 1) := by decide +kernel
theorem dX5_putElement_65 : decode cX5_putElement 65 = .ok (.i2l, 1) := by decide +kernel
theorem dX5_putElement_66 : decode cX5_putElement 66 = .ok (.lastore, 1) := by decide +kernel
theorem dX5_putElement_67 : decode cX5_putElement 67 = .ok (.goto 10, 3) := by decide +kernel
theorem dX5_putElement_70 : decode cX5_putElement 70 = .ok (.aload_n 0, 1) := by decide +kernel
theorem dX5_putElement_71 : decode cX5_putElement 71 = .ok (.getfield 15, 3) := by decide +kernel
theorem dX5_putElement_74 : decode cX5_putElement 74 = .ok (.iload_n 1, 1) := by decide +kernel
theorem dX5_putElement_75 : decode cX5_putElement 75 = .ok (.lload_n 2, 1) := by decide +kernel
theorem dX5_putElement_76 : decode cX5_putElement 76 = .ok (.lastore, 1) := by decide +kernel
theorem dX5_putElement_77 : decode cX5_putElement 77 = .ok (.return_, 1) := by decide +kernel
theorem dX5_readAt_0 : decode cX5_readAt 0 = .ok (.iload_n 1, 1) := by decide +kernel
theorem dX5_readAt_1 : decode cX5_readAt 1 = .ok (.ifCond .lt 21, 3) := by decide +kernel
theorem dX5_readAt_4 : decode cX5_readAt 4 = .ok (.iload_n 1, 1) := by decide +kernel
theorem dX5_readAt_5 : decode cX5_readAt 5 = .ok (.aload_n 0, 1) := by decide +kernel
theorem dX5_readAt_6 : decode cX5_readAt 6 = .ok (.getfield 19, 3) := by decide +kernel
theorem dX5_readAt_9 : decode cX5_readAt 9 = .ok (.if_icmp .ge 13, 3) := by decide +kernel
theorem dX5_readAt_12 : decode cX5_readAt 12 = .ok (.aload_n 0, 1) := by decide +kernel
theorem dX5_readAt_13 : decode cX5_readAt 13 = .ok (.getfield 15, 3) := by decide +kernel
theorem dX5_readAt_16 : decode cX5_readAt 16 = .ok (.iload_n 1, 1) := by decide +kernel
theorem dX5_readAt_17 : decode cX5_readAt 17 = .ok (.laload, 1) := by decide +kernel
theorem dX5_readAt_18 : decode cX5_readAt 18 = .ok (.l2i, 1) := by decide +kernel
theorem dX5_readAt_19 : decode cX5_readAt 19 = .ok (.goto 4, 3) := by decide +kernel
theorem dX5_readAt_22 : decode cX5_readAt 22 = .ok (.iconst (-1), 1) := by decide +kernel
theorem dX5_readAt_23 : decode cX5_readAt 23 = .ok (.ireturn, 1) := by decide +kernel
theorem dX6_init_0 : decode cX6_init 0 = .ok (.aload_n 0, 1) := by decide +kernel
theorem dX6_init_1 : decode cX6_init 1 = .ok (.invokespecial 3, 3) := by decide +kernel
theorem dX6_init_4 : decode cX6_init 4 = .ok (.aload_n 0, 1) := by decide +kernel
theorem dX6_init_5 : decode cX6_init 5 = .ok (.new 9, 3) := by decide +kernel
theorem dX6_init_8 : decode cX6_init 8 = .ok (.dup, 1) := by decide +kernel
theorem dX6_init_9 : decode cX6_init 9 = .ok (.invokespecial 11, 3) := by decide +kernel
theorem dX6_init_12 : decode cX6_init 12 = .ok (.putfield 12, 3) := by decide +kernel
theorem dX6_init_15 : decode cX6_init 15 = .ok (.return_, 1) := by decide +kernel
theorem dX6_follow_0 : decode cX6_follow 0 = .ok (.iconst 0, 1) := by decide +kernel
theorem dX6_follow_1 : decode cX6_follow 1 = .ok (.istore 4, 2) := by decide +kernel
theorem dX6_follow_3 : decode cX6_follow 3 = .ok (.iload 4, 2) := by decide +kernel
theorem dX6_follow_5 : decode cX6_follow 5 = .ok (.iload_n 3, 1) := by decide +kernel
theorem dX6_follow_6 : decode cX6_follow 6 = .ok (.if_icmp .ge 89, 3) := by decide +kernel
theorem dX6_follow_9 : decode cX6_follow 9 = .ok (.aload_n 2, 1) := by decide +kernel
theorem dX6_follow_10 : decode cX6_follow 10 = .ok (.iload 4, 2) := by decide +kernel
theorem dX6_follow_12 : decode cX6_follow 12 = .ok (.invokevirtual 18, 3) := by decide +kernel
theorem dX6_follow_15 : decode cX6_follow 15 = .ok (.istore 5, 2) := by decide +kernel
theorem dX6_follow_17 : decode cX6_follow 17 = .ok (.iload 5, 2) := by decide +kernel
theorem dX6_follow_19 : decode cX6_follow 19 = .ok (.bipush 10, 2) := by decide +kernel
theorem dX6_follow_21 : decode cX6_follow 21 = .ok (.idiv, 1) := by decide +kernel
theorem dX6_follow_22 : decode cX6_follow 22 = .ok (.istore 6, 2) := by decide +kernel
theorem dX6_follow_24 : decode cX6_follow 24 = .ok (.iload 5, 2) := by decide +kernel
theorem dX6_follow_26 : decode cX6_follow 26 = .ok (.ifCond .lt 31, 3) := by decide +kernel
theorem dX6_follow_29 : decode cX6_follow 29 = .ok (.iload 6, 2) := by decide +kernel
theorem dX6_follow_31 : decode cX6_follow 31 = .ok (.aload_n 1, 1) := by decide +kernel
theorem dX6_follow_32 : decode cX6_follow 32 = .ok (.getfield 24, 3) := by decide +kernel
theorem dX6_follow_35 : decode cX6_follow 35 = .ok (.if_icmp .ge 22, 3) := by decide +kernel
theorem dX6_follow_38 : decode cX6_follow 38 = .ok (.aload_n 1, 1) := by decide +kernel
theorem dX6_follow_39 : decode cX6_follow 39 = .ok (.getfield 30, 3) := by decide +kernel
theorem dX6_follow_42 : decode cX6_follow 42 = .ok (.iload 6, 2) := by decide +kernel
theorem dX6_follow_44 : decode cX6_follow 44 = .ok (.aaload, 1) := by decide +kernel
theorem dX6_follow_45 : decode cX6_follow 45 = .ok (.aload_n 1, 1) := by decide +kernel
theorem dX6_follow_46 : decode cX6_follow 46 = .ok (.iload 5, 2) := by decide +kernel
theorem dX6_follow_48 : decode cX6_follow 48 = .ok (.bipush 10, 2) := by decide +kernel
theorem dX6_follow_50 : decode cX6_follow 50 = .ok (.irem, 1) := by decide +kernel
theorem dX6_follow_51 : decode cX6_follow 51 = .ok (.invokestatic 34, 3) := by decide +kernel
theorem dX6_follow_54 : decode cX6_follow 54 = .ok (.ifCond .ne 6, 3) := by decide +kernel
theorem dX6_follow_57 : decode cX6_follow 57 = .ok (.iload 4, 2) := by decide +kernel
theorem dX6_follow_59 : decode cX6_follow 59 = .ok (.ireturn, 1) := by decide +kernel
theorem dX6_follow_60 : decode cX6_follow 60 = .ok (.aload_n 0, 1) := by decide +kernel
theorem dX6_follow_61 : decode cX6_follow 61 = .ok (.getfield 12, 3) := by decide +kernel
theorem dX6_follow_64 : decode cX6_follow 64 = .ok (.aload_n 1, 1) := by decide +kernel
theorem dX6_follow_65 : decode cX6_follow 65 = .ok (.invokevirtual 38, 3) := by decide +kernel
theorem dX6_follow_68 : decode cX6_follow 68 = .ok (.aload_n 1, 1) := by decide +kernel
theorem dX6_follow_69 : decode cX6_follow 69 = .ok (.aload_n 1, 1) := by decide +kernel
theorem dX6_follow_70 : decode cX6_follow 70 = .ok (.getfield 30, 3) := by decide +kernel
theorem dX6_follow_73 : decode cX6_follow 73 = .ok (.iload 6, 2) := by decide +kernel
theorem dX6_follow_75 : decode cX6_follow 75 = .ok (.aaload, 1) := by decide +kernel
theorem dX6_follow_76 : decode cX6_follow 76 = .ok (.aload_n 0, 1) := by decide +kernel
theorem dX6_follow_77 : decode cX6_follow 77 = .ok (.getfield 12, 3) := by decide +kernel
theorem dX6_follow_80 : decode cX6_follow 80 = .ok (.getfield 42, 3) := by decide +kernel
theorem dX6_follow_83 : decode cX6_follow 83 = .ok (.iload 6, 2) := by decide +kernel
theorem dX6_follow_85 : decode cX6_follow 85 = .ok (.iaload, 1) := by decide +kernel
theorem dX6_follow_86 : decode cX6_follow 86 = .ok (.invokevirtual 46, 3) := by decide +kernel
theorem dX6_follow_89 : decode cX6_follow 89 = .ok (.iinc 4 1, 3) := by decide +kernel
theorem dX6_follow_92 : decode cX6_follow 92 = .ok (.goto (-89), 3) := by decide +kernel
theorem dX6_follow_95 : decode cX6_follow 95 = .ok (.iconst (-1), 1) := by decide +kernel
theorem dX6_follow_96 : decode cX6_follow 96 = .ok (.ireturn, 1) := by decide +kernel
theorem dX6_passHour_0 : decode cX6_passHour 0 = .ok (.aload_n 1, 1) := by decide +kernel
theorem dX6_passHour_1 : decode cX6_passHour 1 = .ok (.aload_n 1, 1) := by decide +kernel
theorem dX6_passHour_2 : decode cX6_passHour 2 = .ok (.iconst 4, 1) := by decide +kernel
theorem dX6_passHour_3 : decode cX6_passHour 3 = .ok (.invokevirtual 50, 3) := by decide +kernel
theorem dX6_passHour_6 : decode cX6_passHour 6 = .ok (.ifCond .ne 7, 3) := by decide +kernel
theorem dX6_passHour_9 : decode cX6_passHour 9 = .ok (.iconst 1, 1) := by decide +kernel
theorem dX6_passHour_10 : decode cX6_passHour 10 = .ok (.goto 4, 3) := by decide +kernel
theorem dX6_passHour_13 : decode cX6_passHour 13 = .ok (.iconst 0, 1) := by decide +kernel
theorem dX6_passHour_14 : decode cX6_passHour 14 = .ok (.putfield 53, 3) := by decide +kernel
theorem dX6_passHour_17 : decode cX6_passHour 17 = .ok (.iconst 0, 1) := by decide +kernel
theorem dX6_passHour_18 : decode cX6_passHour 18 = .ok (.istore_n 2, 1) := by decide +kernel
theorem dX6_passHour_19 : decode cX6_passHour 19 = .ok (.iload_n 2, 1) := by decide +kernel
theorem dX6_passHour_20 : decode cX6_passHour 20 = .ok (.aload_n 1, 1) := by decide +kernel
theorem dX6_passHour_21 : decode cX6_passHour 21 = .ok (.getfield 24, 3) := by decide +kernel
theorem dX6_passHour_24 : decode cX6_passHour 24 = .ok (.if_icmp .ge 25, 3) := by decide +kernel
theorem dX6_passHour_27 : decode cX6_passHour 27 = .ok (.aload_n 1, 1) := by decide +kernel
theorem dX6_passHour_28 : decode cX6_passHour 28 = .ok (.getfield 30, 3) := by decide +kernel
theorem dX6_passHour_31 : decode cX6_passHour 31 = .ok (.iload_n 2, 1) := by decide +kernel
theorem dX6_passHour_32 : decode cX6_passHour 32 = .ok (.aaload, 1) := by decide +kernel
theorem dX6_passHour_33 : decode cX6_passHour 33 = .ok (.aload_n 1, 1) := by decide +kernel
theorem dX6_passHour_34 : decode cX6_passHour 34 = .ok (.aload_n 1, 1) := by decide +kernel
theorem dX6_passHour_35 : decode cX6_passHour 35 = .ok (.iconst 5, 1) := by decide +kernel
theorem dX6_passHour_36 : decode cX6_passHour 36 = .ok (.invokevirtual 50, 3) := by decide +kernel
theorem dX6_passHour_39 : decode cX6_passHour 39 = .ok (.invokestatic 34, 3) := by decide +kernel
theorem dX6_passHour_42 : decode cX6_passHour 42 = .ok (.pop, 1) := by decide +kernel
theorem dX6_passHour_43 : decode cX6_passHour 43 = .ok (.iinc 2 1, 3) := by decide +kernel
theorem dX6_passHour_46 : decode cX6_passHour 46 = .ok (.goto (-27), 3) := by decide +kernel
theorem dX6_passHour_49 : decode cX6_passHour 49 = .ok (.aload_n 0, 1) := by decide +kernel
theorem dX6_passHour_50 : decode cX6_passHour 50 = .ok (.getfield 12, 3) := by decide +kernel
theorem dX6_passHour_53 : decode cX6_passHour 53 = .ok (.aload_n 1, 1) := by decide +kernel
theorem dX6_passHour_54 : decode cX6_passHour 54 = .ok (.invokevirtual 38, 3) := by decide +kernel
theorem dX6_passHour_57 : decode cX6_passHour 57 = .ok (.iconst 0, 1) := by decide +kernel
theorem dX6_passHour_58 : decode cX6_passHour 58 = .ok (.istore_n 2, 1) := by decide +kernel
theorem dX6_passHour_59 : decode cX6_passHour 59 = .ok (.iload_n 2, 1) := by decide +kernel
theorem dX6_passHour_60 : decode cX6_passHour 60 = .ok (.aload_n 1, 1) := by decide +kernel
theorem dX6_passHour_61 : decode cX6_passHour 61 = .ok (.getfield 24, 3) := by decide +kernel
theorem dX6_passHour_64 : decode cX6_passHour 64 = .ok (.if_icmp .ge 28, 3) := by decide +kernel
theorem dX6_passHour_67 : decode cX6_passHour 67 = .ok (.aload_n 1, 1) := by decide +kernel
theorem dX6_passHour_68 : decode cX6_passHour 68 = .ok (.aload_n 1, 1) := by decide +kernel
theorem dX6_passHour_69 : decode cX6_passHour 69 = .ok (.getfield 30, 3) := by decide +kernel
theorem dX6_passHour_72 : decode cX6_passHour 72 = .ok (.iload_n 2, 1) := by decide +kernel
theorem dX6_passHour_73 : decode cX6_passHour 73 = .ok (.aaload, 1) := by decide +kernel
theorem dX6_passHour_74 : decode cX6_passHour 74 = .ok (.aload_n 0, 1) := by decide +kernel
theorem dX6_passHour_75 : decode cX6_passHour 75 = .ok (.getfield 12, 3) := by decide +kernel
theorem dX6_passHour_78 : decode cX6_passHour 78 = .ok (.getfield 42, 3) := by decide +kernel
theorem dX6_passHour_81 : decode cX6_passHour 81 = .ok (.iload_n 2, 1) := by decide +kernel
theorem dX6_passHour_82 : decode cX6_passHour 82 = .ok (.iaload, 1) := by decide +kernel
theorem dX6_passHour_83 : decode cX6_passHour 83 = .ok (.invokevirtual 46, 3) := by decide +kernel
theorem dX6_passHour_86 : decode cX6_passHour 86 = .ok (.iinc 2 1, 3) := by decide +kernel
theorem dX6_passHour_89 : decode cX6_passHour 89 = .ok (.goto (-30), 3) := by decide +kernel
theorem dX6_passHour_92 : decode cX6_passHour 92 = .ok (.aload_n 1, 1) := by decide +kernel
theorem dX6_passHour_93 : decode cX6_passHour 93 = .ok (.dup, 1) := by decide +kernel
theorem dX6_passHour_94 : decode cX6_passHour 94 = .ok (.getfield 57, 3) := by decide +kernel
theorem dX6_passHour_97 : decode cX6_passHour 97 = .ok (.iconst 1, 1) := by decide +kernel
theorem dX6_passHour_98 : decode cX6_passHour 98 = .ok (.iadd, 1) := by decide +kernel
theorem dX6_passHour_99 : decode cX6_passHour 99 = .ok (.putfield 57, 3) := by decide +kernel
theorem dX6_passHour_102 : decode cX6_passHour 102 = .ok (.return_, 1) := by decide +kernel
theorem dX6_stepped_0 : decode cX6_stepped 0 = .ok (.aload_n 1, 1) := by decide +kernel
theorem dX6_stepped_1 : decode cX6_stepped 1 = .ok (.aload_n 0, 1) := by decide +kernel
theorem dX6_stepped_2 : decode cX6_stepped 2 = .ok (.getfield 60, 3) := by decide +kernel
theorem dX6_stepped_5 : decode cX6_stepped 5 = .ok (.iload_n 2, 1) := by decide +kernel
theorem dX6_stepped_6 : decode cX6_stepped 6 = .ok (.invokevirtual 65, 3) := by decide +kernel
theorem dX6_stepped_9 : decode cX6_stepped 9 = .ok (.istore_n 3, 1) := by decide +kernel
theorem dX6_stepped_10 : decode cX6_stepped 10 = .ok (.iload_n 3, 1) := by decide +kernel
theorem dX6_stepped_11 : decode cX6_stepped 11 = .ok (.iconst (-1), 1) := by decide +kernel
theorem dX6_stepped_12 : decode cX6_stepped 12 = .ok (.if_icmp .ne 5, 3) := by decide +kernel
theorem dX6_stepped_15 : decode cX6_stepped 15 = .ok (.iconst 0, 1) := by decide +kernel
theorem dX6_stepped_16 : decode cX6_stepped 16 = .ok (.ireturn, 1) := by decide +kernel
theorem dX6_stepped_17 : decode cX6_stepped 17 = .ok (.aload_n 0, 1) := by decide +kernel
theorem dX6_stepped_18 : decode cX6_stepped 18 = .ok (.iload_n 3, 1) := by decide +kernel
theorem dX6_stepped_19 : decode cX6_stepped 19 = .ok (.putfield 60, 3) := by decide +kernel
theorem dX6_stepped_22 : decode cX6_stepped 22 = .ok (.iconst 1, 1) := by decide +kernel
theorem dX6_stepped_23 : decode cX6_stepped 23 = .ok (.ireturn, 1) := by decide +kernel
theorem dX7_init_0 : decode cX7_init 0 = .ok (.aload_n 0, 1) := by decide +kernel
theorem dX7_init_1 : decode cX7_init 1 = .ok (.invokespecial 3, 3) := by decide +kernel
theorem dX7_init_4 : decode cX7_init 4 = .ok (.aload_n 0, 1) := by decide +kernel
theorem dX7_init_5 : decode cX7_init 5 = .ok (.bipush 7, 2) := by decide +kernel
theorem dX7_init_7 : decode cX7_init 7 = .ok (.anewarray 9, 3) := by decide +kernel
theorem dX7_init_10 : decode cX7_init 10 = .ok (.putfield 11, 3) := by decide +kernel
theorem dX7_init_13 : decode cX7_init 13 = .ok (.aload_n 0, 1) := by decide +kernel
theorem dX7_init_14 : decode cX7_init 14 = .ok (.iconst 1, 1) := by decide +kernel
theorem dX7_init_15 : decode cX7_init 15 = .ok (.putfield 17, 3) := by decide +kernel
theorem dX7_init_18 : decode cX7_init 18 = .ok (.aload_n 0, 1) := by decide +kernel
theorem dX7_init_19 : decode cX7_init 19 = .ok (.iconst 5, 1) := by decide +kernel
theorem dX7_init_20 : decode cX7_init 20 = .ok (.putfield 21, 3) := by decide +kernel
theorem dX7_init_23 : decode cX7_init 23 = .ok (.aload_n 0, 1) := by decide +kernel
theorem dX7_init_24 : decode cX7_init 24 = .ok (.iconst 1, 1) := by decide +kernel
theorem dX7_init_25 : decode cX7_init 25 = .ok (.putfield 24, 3) := by decide +kernel
theorem dX7_init_28 : decode cX7_init 28 = .ok (.iconst 0, 1) := by decide +kernel
theorem dX7_init_29 : decode cX7_init 29 = .ok (.istore_n 1, 1) := by decide +kernel
theorem dX7_init_30 : decode cX7_init 30 = .ok (.iload_n 1, 1) := by decide +kernel
theorem dX7_init_31 : decode cX7_init 31 = .ok (.bipush 7, 2) := by decide +kernel
theorem dX7_init_33 : decode cX7_init 33 = .ok (.if_icmp .ge 22, 3) := by decide +kernel
theorem dX7_init_36 : decode cX7_init 36 = .ok (.aload_n 0, 1) := by decide +kernel
theorem dX7_init_37 : decode cX7_init 37 = .ok (.getfield 11, 3) := by decide +kernel
theorem dX7_init_40 : decode cX7_init 40 = .ok (.iload_n 1, 1) := by decide +kernel
theorem dX7_init_41 : decode cX7_init 41 = .ok (.new 9, 3) := by decide +kernel
theorem dX7_init_44 : decode cX7_init 44 = .ok (.dup, 1) := by decide +kernel
theorem dX7_init_45 : decode cX7_init 45 = .ok (.invokespecial 27, 3) := by decide +kernel
theorem dX7_init_48 : decode cX7_init 48 = .ok (.aastore, 1) := by decide +kernel
theorem dX7_init_49 : decode cX7_init 49 = .ok (.iinc 1 1, 3) := by decide +kernel
theorem dX7_init_52 : decode cX7_init 52 = .ok (.goto (-22), 3) := by decide +kernel
theorem dX7_init_55 : decode cX7_init 55 = .ok (.return_, 1) := by decide +kernel
theorem dX7_copyFrom_0 : decode cX7_copyFrom 0 = .ok (.iconst 0, 1) := by decide +kernel
theorem dX7_copyFrom_1 : decode cX7_copyFrom 1 = .ok (.istore_n 2, 1) := by decide +kernel
theorem dX7_copyFrom_2 : decode cX7_copyFrom 2 = .ok (.iload_n 2, 1) := by decide +kernel
theorem dX7_copyFrom_3 : decode cX7_copyFrom 3 = .ok (.aload_n 1, 1) := by decide +kernel
theorem dX7_copyFrom_4 : decode cX7_copyFrom 4 = .ok (.getfield 28, 3) := by decide +kernel
theorem dX7_copyFrom_7 : decode cX7_copyFrom 7 = .ok (.if_icmp .ge 24, 3) := by decide +kernel
theorem dX7_copyFrom_10 : decode cX7_copyFrom 10 = .ok (.aload_n 0, 1) := by decide +kernel
theorem dX7_copyFrom_11 : decode cX7_copyFrom 11 = .ok (.getfield 11, 3) := by decide +kernel
theorem dX7_copyFrom_14 : decode cX7_copyFrom 14 = .ok (.iload_n 2, 1) := by decide +kernel
theorem dX7_copyFrom_15 : decode cX7_copyFrom 15 = .ok (.aaload, 1) := by decide +kernel
theorem dX7_copyFrom_16 : decode cX7_copyFrom 16 = .ok (.aload_n 1, 1) := by decide +kernel
theorem dX7_copyFrom_17 : decode cX7_copyFrom 17 = .ok (.getfield 11, 3) := by decide +kernel
theorem dX7_copyFrom_20 : decode cX7_copyFrom 20 = .ok (.iload_n 2, 1) := by decide +kernel
theorem dX7_copyFrom_21 : decode cX7_copyFrom 21 = .ok (.aaload, 1) := by decide +kernel
theorem dX7_copyFrom_22 : decode cX7_copyFrom 22 = .ok (.invokevirtual 31, 3) := by decide +kernel
theorem dX7_copyFrom_25 : decode cX7_copyFrom 25 = .ok (.iinc 2 1, 3) := by decide +kernel
theorem dX7_copyFrom_28 : decode cX7_copyFrom 28 = .ok (.goto (-26), 3) := by decide +kernel
theorem dX7_copyFrom_31 : decode cX7_copyFrom 31 = .ok (.aload_n 0, 1) := by decide +kernel
theorem dX7_copyFrom_32 : decode cX7_copyFrom 32 = .ok (.aload_n 1, 1) := by decide +kernel
theorem dX7_copyFrom_33 : decode cX7_copyFrom 33 = .ok (.getfield 28, 3) := by decide +kernel
theorem dX7_copyFrom_36 : decode cX7_copyFrom 36 = .ok (.putfield 28, 3) := by decide +kernel
theorem dX7_copyFrom_39 : decode cX7_copyFrom 39 = .ok (.aload_n 0, 1) := by decide +kernel
theorem dX7_copyFrom_40 : decode cX7_copyFrom 40 = .ok (.aload_n 1, 1) := by decide +kernel
theorem dX7_copyFrom_41 : decode cX7_copyFrom 41 = .ok (.getfield 35, 3) := by decide +kernel
theorem dX7_copyFrom_44 : decode cX7_copyFrom 44 = .ok (.putfield 35, 3) := by decide +kernel
theorem dX7_copyFrom_47 : decode cX7_copyFrom 47 = .ok (.aload_n 0, 1) := by decide +kernel
theorem dX7_copyFrom_48 : decode cX7_copyFrom 48 = .ok (.aload_n 1, 1) := by decide +kernel
theorem dX7_copyFrom_49 : decode cX7_copyFrom 49 = .ok (.getfield 39, 3) := by decide +kernel
theorem dX7_copyFrom_52 : decode cX7_copyFrom 52 = .ok (.putfield 39, 3) := by decide +kernel
theorem dX7_copyFrom_55 : decode cX7_copyFrom 55 = .ok (.aload_n 0, 1) := by decide +kernel
theorem dX7_copyFrom_56 : decode cX7_copyFrom 56 = .ok (.aload_n 1, 1) := by decide +kernel
theorem dX7_copyFrom_57 : decode cX7_copyFrom 57 = .ok (.getfield 17, 3) := by decide +kernel
theorem dX7_copyFrom_60 : decode cX7_copyFrom 60 = .ok (.putfield 17, 3) := by decide +kernel
theorem dX7_copyFrom_63 : decode cX7_copyFrom 63 = .ok (.aload_n 0, 1) := by decide +kernel
theorem dX7_copyFrom_64 : decode cX7_copyFrom 64 = .ok (.aload_n 1, 1) := by decide +kernel
theorem dX7_copyFrom_65 : decode cX7_copyFrom 65 = .ok (.getfield 21, 3) := by decide +kernel
theorem dX7_copyFrom_68 : decode cX7_copyFrom 68 = .ok (.putfield 21, 3) := by decide +kernel
theorem dX7_copyFrom_71 : decode cX7_copyFrom 71 = .ok (.aload_n 0, 1) := by decide +kernel
theorem dX7_copyFrom_72 : decode cX7_copyFrom 72 = .ok (.aload_n 1, 1) := by decide +kernel
theorem dX7_copyFrom_73 : decode cX7_copyFrom 73 = .ok (.getfield 42, 3) := by decide +kernel
theorem dX7_copyFrom_76 : decode cX7_copyFrom 76 = .ok (.putfield 42, 3) := by decide +kernel
theorem dX7_copyFrom_79 : decode cX7_copyFrom 79 = .ok (.aload_n 0, 1) := by decide +kernel
theorem dX7_copyFrom_80 : decode cX7_copyFrom 80 = .ok (.aload_n 1, 1) := by decide +kernel
theorem dX7_copyFrom_81 : decode cX7_copyFrom 81 = .ok (.getfield 46, 3) := by decide +kernel
theorem dX7_copyFrom_84 : decode cX7_copyFrom 84 = .ok (.putfield 46, 3) := by decide +kernel
theorem dX7_copyFrom_87 : decode cX7_copyFrom 87 = .ok (.aload_n 0, 1) := by decide +kernel
theorem dX7_copyFrom_88 : decode cX7_copyFrom 88 = .ok (.aload_n 1, 1) := by decide +kernel
theorem dX7_copyFrom_89 : decode cX7_copyFrom 89 = .ok (.getfield 49, 3) := by decide +kernel
theorem dX7_copyFrom_92 : decode cX7_copyFrom 92 = .ok (.putfield 49, 3) := by decide +kernel
theorem dX7_copyFrom_95 : decode cX7_copyFrom 95 = .ok (.aload_n 0, 1) := by decide +kernel
theorem dX7_copyFrom_96 : decode cX7_copyFrom 96 = .ok (.aload_n 1, 1) := by decide +kernel
theorem dX7_copyFrom_97 : decode cX7_copyFrom 97 = .ok (.getfield 24, 3) := by decide +kernel
theorem dX7_copyFrom_100 : decode cX7_copyFrom 100 = .ok (.putfield 24, 3) := by decide +kernel
theorem dX7_copyFrom_103 : decode cX7_copyFrom 103 = .ok (.return_, 1) := by decide +kernel
theorem dX7_hasRoom_0 : decode cX7_hasRoom 0 = .ok (.aload_n 0, 1) := by decide +kernel
theorem dX7_hasRoom_1 : decode cX7_hasRoom 1 = .ok (.getfield 28, 3) := by decide +kernel
theorem dX7_hasRoom_4 : decode cX7_hasRoom 4 = .ok (.bipush 7, 2) := by decide +kernel
theorem dX7_hasRoom_6 : decode cX7_hasRoom 6 = .ok (.if_icmp .ge 7, 3) := by decide +kernel
theorem dX7_hasRoom_9 : decode cX7_hasRoom 9 = .ok (.iconst 1, 1) := by decide +kernel
theorem dX7_hasRoom_10 : decode cX7_hasRoom 10 = .ok (.goto 4, 3) := by decide +kernel
theorem dX7_hasRoom_13 : decode cX7_hasRoom 13 = .ok (.iconst 0, 1) := by decide +kernel
theorem dX7_hasRoom_14 : decode cX7_hasRoom 14 = .ok (.ireturn, 1) := by decide +kernel
theorem dX7_isWall_0 : decode cX7_isWall 0 = .ok (.aload_n 0, 1) := by decide +kernel
theorem dX7_isWall_1 : decode cX7_isWall 1 = .ok (.getfield 35, 3) := by decide +kernel
theorem dX7_isWall_4 : decode cX7_isWall 4 = .ok (.iload_n 1, 1) := by decide +kernel
theorem dX7_isWall_5 : decode cX7_isWall 5 = .ok (.lushr, 1) := by decide +kernel
theorem dX7_isWall_6 : decode cX7_isWall 6 = .ok (.lconst 1, 1) := by decide +kernel
theorem dX7_isWall_7 : decode cX7_isWall 7 = .ok (.land, 1) := by decide +kernel
theorem dX7_isWall_8 : decode cX7_isWall 8 = .ok (.lconst 0, 1) := by decide +kernel
theorem dX7_isWall_9 : decode cX7_isWall 9 = .ok (.lcmp, 1) := by decide +kernel
theorem dX7_isWall_10 : decode cX7_isWall 10 = .ok (.ifCond .eq 7, 3) := by decide +kernel
theorem dX7_isWall_13 : decode cX7_isWall 13 = .ok (.iconst 1, 1) := by decide +kernel
theorem dX7_isWall_14 : decode cX7_isWall 14 = .ok (.goto 4, 3) := by decide +kernel
theorem dX7_isWall_17 : decode cX7_isWall 17 = .ok (.iconst 0, 1) := by decide +kernel
theorem dX7_isWall_18 : decode cX7_isWall 18 = .ok (.ireturn, 1) := by decide +kernel
theorem dX7_hasBalcony_0 : decode cX7_hasBalcony 0 = .ok (.aload_n 0, 1) := by decide +kernel
theorem dX7_hasBalcony_1 : decode cX7_hasBalcony 1 = .ok (.getfield 39, 3) := by decide +kernel
theorem dX7_hasBalcony_4 : decode cX7_hasBalcony 4 = .ok (.iload_n 1, 1) := by decide +kernel
theorem dX7_hasBalcony_5 : decode cX7_hasBalcony 5 = .ok (.invokestatic 52, 3) := by decide +kernel
theorem dX7_hasBalcony_8 : decode cX7_hasBalcony 8 = .ok (.ireturn, 1) := by decide +kernel
theorem dX7_isOpen_0 : decode cX7_isOpen 0 = .ok (.iload_n 1, 1) := by decide +kernel
theorem dX7_isOpen_1 : decode cX7_isOpen 1 = .ok (.invokestatic 56, 3) := by decide +kernel
theorem dX7_isOpen_4 : decode cX7_isOpen 4 = .ok (.ifCond .eq 15, 3) := by decide +kernel
theorem dX7_isOpen_7 : decode cX7_isOpen 7 = .ok (.aload_n 0, 1) := by decide +kernel
theorem dX7_isOpen_8 : decode cX7_isOpen 8 = .ok (.iload_n 1, 1) := by decide +kernel
theorem dX7_isOpen_9 : decode cX7_isOpen 9 = .ok (.invokevirtual 60, 3) := by decide +kernel
theorem dX7_isOpen_12 : decode cX7_isOpen 12 = .ok (.ifCond .ne 7, 3) := by decide +kernel
theorem dX7_isOpen_15 : decode cX7_isOpen 15 = .ok (.iconst 1, 1) := by decide +kernel
theorem dX7_isOpen_16 : decode cX7_isOpen 16 = .ok (.goto 4, 3) := by decide +kernel
theorem dX7_isOpen_19 : decode cX7_isOpen 19 = .ok (.iconst 0, 1) := by decide +kernel
theorem dX7_isOpen_20 : decode cX7_isOpen 20 = .ok (.ireturn, 1) := by decide +kernel
theorem dX7_putWall_0 : decode cX7_putWall 0 = .ok (.aload_n 0, 1) := by decide +kernel
theorem dX7_putWall_1 : decode cX7_putWall 1 = .ok (.aload_n 0, 1) := by decide +kernel
theorem dX7_putWall_2 : decode cX7_putWall 2 = .ok (.getfield 35, 3) := by decide +kernel
theorem dX7_putWall_5 : decode cX7_putWall 5 = .ok (.iload_n 1, 1) := by decide +kernel
theorem dX7_putWall_6 : decode cX7_putWall 6 = .ok (.iload_n 2, 1) := by decide +kernel
theorem dX7_putWall_7 : decode cX7_putWall 7 = .ok (.invokestatic 63, 3) := by decide +kernel
theorem dX7_putWall_10 : decode cX7_putWall 10 = .ok (.putfield 35, 3) := by decide +kernel
theorem dX7_putWall_13 : decode cX7_putWall 13 = .ok (.return_, 1) := by decide +kernel
theorem dX7_putBalcony_0 : decode cX7_putBalcony 0 = .ok (.aload_n 0, 1) := by decide +kernel
theorem dX7_putBalcony_1 : decode cX7_putBalcony 1 = .ok (.aload_n 0, 1) := by decide +kernel
theorem dX7_putBalcony_2 : decode cX7_putBalcony 2 = .ok (.getfield 39, 3) := by decide +kernel
theorem dX7_putBalcony_5 : decode cX7_putBalcony 5 = .ok (.iload_n 1, 1) := by decide +kernel
theorem dX7_putBalcony_6 : decode cX7_putBalcony 6 = .ok (.iload_n 2, 1) := by decide +kernel
theorem dX7_putBalcony_7 : decode cX7_putBalcony 7 = .ok (.invokestatic 63, 3) := by decide +kernel
theorem dX7_putBalcony_10 : decode cX7_putBalcony 10 = .ok (.putfield 39, 3) := by decide +kernel
theorem dX7_putBalcony_13 : decode cX7_putBalcony 13 = .ok (.return_, 1) := by decide +kernel
theorem dX7_peopleAt_0 : decode cX7_peopleAt 0 = .ok (.iconst 0, 1) := by decide +kernel
theorem dX7_peopleAt_1 : decode cX7_peopleAt 1 = .ok (.istore_n 2, 1) := by decide +kernel
theorem dX7_peopleAt_2 : decode cX7_peopleAt 2 = .ok (.iconst 0, 1) := by decide +kernel
theorem dX7_peopleAt_3 : decode cX7_peopleAt 3 = .ok (.istore_n 3, 1) := by decide +kernel
theorem dX7_peopleAt_4 : decode cX7_peopleAt 4 = .ok (.iload_n 3, 1) := by decide +kernel
theorem dX7_peopleAt_5 : decode cX7_peopleAt 5 = .ok (.aload_n 0, 1) := by decide +kernel
theorem dX7_peopleAt_6 : decode cX7_peopleAt 6 = .ok (.getfield 28, 3) := by decide +kernel
theorem dX7_peopleAt_9 : decode cX7_peopleAt 9 = .ok (.if_icmp .ge 28, 3) := by decide +kernel
theorem dX7_peopleAt_12 : decode cX7_peopleAt 12 = .ok (.aload_n 0, 1) := by decide +kernel
theorem dX7_peopleAt_13 : decode cX7_peopleAt 13 = .ok (.getfield 11, 3) := by decide +kernel
theorem dX7_peopleAt_16 : decode cX7_peopleAt 16 = .ok (.iload_n 3, 1) := by decide +kernel
theorem dX7_peopleAt_17 : decode cX7_peopleAt 17 = .ok (.aaload, 1) := by decide +kernel
theorem dX7_peopleAt_18 : decode cX7_peopleAt 18 = .ok (.getfield 67, 3) := by decide +kernel
theorem dX7_peopleAt_21 : decode cX7_peopleAt 21 = .ok (.iload_n 1, 1) := by decide +kernel
theorem dX7_peopleAt_22 : decode cX7_peopleAt 22 = .ok (.if_icmp .ne 9, 3) := by decide +kernel
theorem dX7_peopleAt_25 : decode cX7_peopleAt 25 = .ok (.iload_n 2, 1) := by decide +kernel
theorem dX7_peopleAt_26 : decode cX7_peopleAt 26 = .ok (.iconst 1, 1) := by decide +kernel
theorem dX7_peopleAt_27 : decode cX7_peopleAt 27 = .ok (.iload_n 3, 1) := by decide +kernel
theorem dX7_peopleAt_28 : decode cX7_peopleAt 28 = .ok (.ishl, 1) := by decide +kernel
theorem dX7_peopleAt_29 : decode cX7_peopleAt 29 = .ok (.ior, 1) := by decide +kernel
theorem dX7_peopleAt_30 : decode cX7_peopleAt 30 = .ok (.istore_n 2, 1) := by decide +kernel
theorem dX7_peopleAt_31 : decode cX7_peopleAt 31 = .ok (.iinc 3 1, 3) := by decide +kernel
theorem dX7_peopleAt_34 : decode cX7_peopleAt 34 = .ok (.goto (-30), 3) := by decide +kernel
theorem dX7_peopleAt_37 : decode cX7_peopleAt 37 = .ok (.iload_n 2, 1) := by decide +kernel
theorem dX7_peopleAt_38 : decode cX7_peopleAt 38 = .ok (.ireturn, 1) := by decide +kernel
theorem dX7_stepFrom_0 : decode cX7_stepFrom 0 = .ok (.iload_n 1, 1) := by decide +kernel
theorem dX7_stepFrom_1 : decode cX7_stepFrom 1 = .ok (.iload_n 2, 1) := by decide +kernel
theorem dX7_stepFrom_2 : decode cX7_stepFrom 2 = .ok (.invokestatic 70, 3) := by decide +kernel
theorem dX7_stepFrom_5 : decode cX7_stepFrom 5 = .ok (.istore_n 3, 1) := by decide +kernel
theorem dX7_stepFrom_6 : decode cX7_stepFrom 6 = .ok (.aload_n 0, 1) := by decide +kernel
theorem dX7_stepFrom_7 : decode cX7_stepFrom 7 = .ok (.iload_n 3, 1) := by decide +kernel
theorem dX7_stepFrom_8 : decode cX7_stepFrom 8 = .ok (.invokevirtual 74, 3) := by decide +kernel
theorem dX7_stepFrom_11 : decode cX7_stepFrom 11 = .ok (.ifCond .eq 7, 3) := by decide +kernel
theorem dX7_stepFrom_14 : decode cX7_stepFrom 14 = .ok (.iload_n 3, 1) := by decide +kernel
theorem dX7_stepFrom_15 : decode cX7_stepFrom 15 = .ok (.goto 4, 3) := by decide +kernel
theorem dX7_stepFrom_18 : decode cX7_stepFrom 18 = .ok (.iconst (-1), 1) := by decide +kernel
theorem dX7_stepFrom_19 : decode cX7_stepFrom 19 = .ok (.ireturn, 1) := by decide +kernel
theorem dX7_viewFrom_0 : decode cX7_viewFrom 0 = .ok (.lconst 1, 1) := by decide +kernel
theorem dX7_viewFrom_1 : decode cX7_viewFrom 1 = .ok (.iload_n 1, 1) := by decide +kernel
theorem dX7_viewFrom_2 : decode cX7_viewFrom 2 = .ok (.lshl, 1) := by decide +kernel
theorem dX7_viewFrom_3 : decode cX7_viewFrom 3 = .ok (.lstore_n 2, 1) := by decide +kernel
theorem dX7_viewFrom_4 : decode cX7_viewFrom 4 = .ok (.iconst 0, 1) := by decide +kernel
theorem dX7_viewFrom_5 : decode cX7_viewFrom 5 = .ok (.istore 4, 2) := by decide +kernel
theorem dX7_viewFrom_7 : decode cX7_viewFrom 7 = .ok (.iload 4, 2) := by decide +kernel
theorem dX7_viewFrom_9 : decode cX7_viewFrom 9 = .ok (.iconst 4, 1) := by decide +kernel
theorem dX7_viewFrom_10 : decode cX7_viewFrom 10 = .ok (.if_icmp .ge 70, 3) := by decide +kernel
theorem dX7_viewFrom_13 : decode cX7_viewFrom 13 = .ok (.iload_n 1, 1) := by decide +kernel
theorem dX7_viewFrom_14 : decode cX7_viewFrom 14 = .ok (.iload 4, 2) := by decide +kernel
theorem dX7_viewFrom_16 : decode cX7_viewFrom 16 = .ok (.invokestatic 70, 3) := by decide +kernel
theorem dX7_viewFrom_19 : decode cX7_viewFrom 19 = .ok (.istore 5, 2) := by decide +kernel
theorem dX7_viewFrom_21 : decode cX7_viewFrom 21 = .ok (.iconst 1, 1) := by decide +kernel
theorem dX7_viewFrom_22 : decode cX7_viewFrom 22 = .ok (.istore 6, 2) := by decide +kernel
theorem dX7_viewFrom_24 : decode cX7_viewFrom 24 = .ok (.iload 6, 2) := by decide +kernel
theorem dX7_viewFrom_26 : decode cX7_viewFrom 26 = .ok (.aload_n 0, 1) := by decide +kernel
theorem dX7_viewFrom_27 : decode cX7_viewFrom 27 = .ok (.getfield 21, 3) := by decide +kernel
theorem dX7_viewFrom_30 : decode cX7_viewFrom 30 = .ok (.if_icmp .gt 44, 3) := by decide +kernel
theorem dX7_viewFrom_33 : decode cX7_viewFrom 33 = .ok (.iload 5, 2) := by decide +kernel
theorem dX7_viewFrom_35 : decode cX7_viewFrom 35 = .ok (.iconst (-1), 1) := by decide +kernel
theorem dX7_viewFrom_36 : decode cX7_viewFrom 36 = .ok (.if_icmp .eq 38, 3) := by decide +kernel
theorem dX7_viewFrom_39 : decode cX7_viewFrom 39 = .ok (.lload_n 2, 1) := by decide +kernel
theorem dX7_viewFrom_40 : decode cX7_viewFrom 40 = .ok (.lconst 1, 1) := by decide +kernel
theorem dX7_viewFrom_41 : decode cX7_viewFrom 41 = .ok (.iload 5, 2) := by decide +kernel
theorem dX7_viewFrom_43 : decode cX7_viewFrom 43 = .ok (.lshl, 1) := by decide +kernel
theorem dX7_viewFrom_44 : decode cX7_viewFrom 44 = .ok (.lor, 1) := by decide +kernel
theorem dX7_viewFrom_45 : decode cX7_viewFrom 45 = .ok (.lstore_n 2, 1) := by decide +kernel
theorem dX7_viewFrom_46 : decode cX7_viewFrom 46 = .ok (.aload_n 0, 1) := by decide +kernel
theorem dX7_viewFrom_47 : decode cX7_viewFrom 47 = .ok (.iload 5, 2) := by decide +kernel
theorem dX7_viewFrom_49 : decode cX7_viewFrom 49 = .ok (.invokevirtual 60, 3) := by decide +kernel
theorem dX7_viewFrom_52 : decode cX7_viewFrom 52 = .ok (.ifCond .eq 7, 3) := by decide +kernel
theorem dX7_viewFrom_55 : decode cX7_viewFrom 55 = .ok (.iconst (-1), 1) := by decide +kernel
theorem dX7_viewFrom_56 : decode cX7_viewFrom 56 = .ok (.goto 10, 3) := by decide +kernel
theorem dX7_viewFrom_59 : decode cX7_viewFrom 59 = .ok (.iload 5, 2) := by decide +kernel
theorem dX7_viewFrom_61 : decode cX7_viewFrom 61 = .ok (.iload 4, 2) := by decide +kernel
theorem dX7_viewFrom_63 : decode cX7_viewFrom 63 = .ok (.invokestatic 70, 3) := by decide +kernel
theorem dX7_viewFrom_66 : decode cX7_viewFrom 66 = .ok (.istore 5, 2) := by decide +kernel
theorem dX7_viewFrom_68 : decode cX7_viewFrom 68 = .ok (.iinc 6 1, 3) := by decide +kernel
theorem dX7_viewFrom_71 : decode cX7_viewFrom 71 = .ok (.goto (-47), 3) := by decide +kernel
theorem dX7_viewFrom_74 : decode cX7_viewFrom 74 = .ok (.iinc 4 1, 3) := by decide +kernel
theorem dX7_viewFrom_77 : decode cX7_viewFrom 77 = .ok (.goto (-70), 3) := by decide +kernel
theorem dX7_viewFrom_80 : decode cX7_viewFrom 80 = .ok (.lload_n 2, 1) := by decide +kernel
theorem dX7_viewFrom_81 : decode cX7_viewFrom 81 = .ok (.lreturn, 1) := by decide +kernel
theorem dX7_isLit_0 : decode cX7_isLit 0 = .ok (.aload_n 0, 1) := by decide +kernel
theorem dX7_isLit_1 : decode cX7_isLit 1 = .ok (.iload_n 1, 1) := by decide +kernel
theorem dX7_isLit_2 : decode cX7_isLit 2 = .ok (.invokevirtual 77, 3) := by decide +kernel
theorem dX7_isLit_5 : decode cX7_isLit 5 = .ok (.aload_n 0, 1) := by decide +kernel
theorem dX7_isLit_6 : decode cX7_isLit 6 = .ok (.getfield 39, 3) := by decide +kernel
theorem dX7_isLit_9 : decode cX7_isLit 9 = .ok (.land, 1) := by decide +kernel
theorem dX7_isLit_10 : decode cX7_isLit 10 = .ok (.lconst 0, 1) := by decide +kernel
theorem dX7_isLit_11 : decode cX7_isLit 11 = .ok (.lcmp, 1) := by decide +kernel
theorem dX7_isLit_12 : decode cX7_isLit 12 = .ok (.ifCond .eq 7, 3) := by decide +kernel
theorem dX7_isLit_15 : decode cX7_isLit 15 = .ok (.iconst 1, 1) := by decide +kernel
theorem dX7_isLit_16 : decode cX7_isLit 16 = .ok (.goto 4, 3) := by decide +kernel
theorem dX7_isLit_19 : decode cX7_isLit 19 = .ok (.iconst 0, 1) := by decide +kernel
theorem dX7_isLit_20 : decode cX7_isLit 20 = .ok (.ireturn, 1) := by decide +kernel
theorem dX7_lit_0 : decode cX7_lit 0 = .ok (.lconst 0, 1) := by decide +kernel
theorem dX7_lit_1 : decode cX7_lit 1 = .ok (.lstore_n 1, 1) := by decide +kernel
theorem dX7_lit_2 : decode cX7_lit 2 = .ok (.iconst 0, 1) := by decide +kernel
theorem dX7_lit_3 : decode cX7_lit 3 = .ok (.istore_n 3, 1) := by decide +kernel
theorem dX7_lit_4 : decode cX7_lit 4 = .ok (.iload_n 3, 1) := by decide +kernel
theorem dX7_lit_5 : decode cX7_lit 5 = .ok (.bipush 36, 2) := by decide +kernel
theorem dX7_lit_7 : decode cX7_lit 7 = .ok (.if_icmp .ge 23, 3) := by decide +kernel
theorem dX7_lit_10 : decode cX7_lit 10 = .ok (.aload_n 0, 1) := by decide +kernel
theorem dX7_lit_11 : decode cX7_lit 11 = .ok (.iload_n 3, 1) := by decide +kernel
theorem dX7_lit_12 : decode cX7_lit 12 = .ok (.invokevirtual 81, 3) := by decide +kernel
theorem dX7_lit_15 : decode cX7_lit 15 = .ok (.ifCond .eq 9, 3) := by decide +kernel
theorem dX7_lit_18 : decode cX7_lit 18 = .ok (.lload_n 1, 1) := by decide +kernel
theorem dX7_lit_19 : decode cX7_lit 19 = .ok (.lconst 1, 1) := by decide +kernel
theorem dX7_lit_20 : decode cX7_lit 20 = .ok (.iload_n 3, 1) := by decide +kernel
theorem dX7_lit_21 : decode cX7_lit 21 = .ok (.lshl, 1) := by decide +kernel
theorem dX7_lit_22 : decode cX7_lit 22 = .ok (.lor, 1) := by decide +kernel
theorem dX7_lit_23 : decode cX7_lit 23 = .ok (.lstore_n 1, 1) := by decide +kernel
theorem dX7_lit_24 : decode cX7_lit 24 = .ok (.iinc 3 1, 3) := by decide +kernel
theorem dX7_lit_27 : decode cX7_lit 27 = .ok (.goto (-23), 3) := by decide +kernel
theorem dX7_lit_30 : decode cX7_lit 30 = .ok (.lload_n 1, 1) := by decide +kernel
theorem dX7_lit_31 : decode cX7_lit 31 = .ok (.lreturn, 1) := by decide +kernel
theorem dX7_pursesTogether_0 : decode cX7_pursesTogether 0 = .ok (.iconst 0, 1) := by decide +kernel
theorem dX7_pursesTogether_1 : decode cX7_pursesTogether 1 = .ok (.istore_n 1, 1) := by decide +kernel
theorem dX7_pursesTogether_2 : decode cX7_pursesTogether 2 = .ok (.iconst 0, 1) := by decide +kernel
theorem dX7_pursesTogether_3 : decode cX7_pursesTogether 3 = .ok (.istore_n 2, 1) := by decide +kernel
theorem dX7_pursesTogether_4 : decode cX7_pursesTogether 4 = .ok (.iload_n 2, 1) := by decide +kernel
theorem dX7_pursesTogether_5 : decode cX7_pursesTogether 5 = .ok (.aload_n 0, 1) := by decide +kernel
theorem dX7_pursesTogether_6 : decode cX7_pursesTogether 6 = .ok (.getfield 28, 3) := by decide +kernel
theorem dX7_pursesTogether_9 : decode cX7_pursesTogether 9 = .ok (.if_icmp .ge 21, 3) := by decide +kernel
theorem dX7_pursesTogether_12 : decode cX7_pursesTogether 12 = .ok (.iload_n 1, 1) := by decide +kernel
theorem dX7_pursesTogether_13 : decode cX7_pursesTogether 13 = .ok (.aload_n 0, 1) := by decide +kernel
theorem dX7_pursesTogether_14 : decode cX7_pursesTogether 14 = .ok (.getfield 11, 3) := by decide +kernel
theorem dX7_pursesTogether_17 : decode cX7_pursesTogether 17 = .ok (.iload_n 2, 1) := by decide +kernel
theorem dX7_pursesTogether_18 : decode cX7_pursesTogether 18 = .ok (.aaload, 1) := by decide +kernel
theorem dX7_pursesTogether_19 : decode cX7_pursesTogether 19 = .ok (.getfield 84, 3) := by decide +kernel
theorem dX7_pursesTogether_22 : decode cX7_pursesTogether 22 = .ok (.iadd, 1) := by decide +kernel
theorem dX7_pursesTogether_23 : decode cX7_pursesTogether 23 = .ok (.istore_n 1, 1) := by decide +kernel
theorem dX7_pursesTogether_24 : decode cX7_pursesTogether 24 = .ok (.iinc 2 1, 3) := by decide +kernel
theorem dX7_pursesTogether_27 : decode cX7_pursesTogether 27 = .ok (.goto (-23), 3) := by decide +kernel
theorem dX7_pursesTogether_30 : decode cX7_pursesTogether 30 = .ok (.iload_n 1, 1) := by decide +kernel
theorem dX7_pursesTogether_31 : decode cX7_pursesTogether 31 = .ok (.ireturn, 1) := by decide +kernel
theorem dX7_emptyPurses_0 : decode cX7_emptyPurses 0 = .ok (.iconst 0, 1) := by decide +kernel
theorem dX7_emptyPurses_1 : decode cX7_emptyPurses 1 = .ok (.istore_n 1, 1) := by decide +kernel
theorem dX7_emptyPurses_2 : decode cX7_emptyPurses 2 = .ok (.iconst 0, 1) := by decide +kernel
theorem dX7_emptyPurses_3 : decode cX7_emptyPurses 3 = .ok (.istore_n 2, 1) := by decide +kernel
theorem dX7_emptyPurses_4 : decode cX7_emptyPurses 4 = .ok (.iload_n 2, 1) := by decide +kernel
theorem dX7_emptyPurses_5 : decode cX7_emptyPurses 5 = .ok (.aload_n 0, 1) := by decide +kernel
theorem dX7_emptyPurses_6 : decode cX7_emptyPurses 6 = .ok (.getfield 28, 3) := by decide +kernel
theorem dX7_emptyPurses_9 : decode cX7_emptyPurses 9 = .ok (.if_icmp .ge 32, 3) := by decide +kernel
theorem dX7_emptyPurses_12 : decode cX7_emptyPurses 12 = .ok (.iload_n 1, 1) := by decide +kernel
theorem dX7_emptyPurses_13 : decode cX7_emptyPurses 13 = .ok (.aload_n 0, 1) := by decide +kernel
theorem dX7_emptyPurses_14 : decode cX7_emptyPurses 14 = .ok (.getfield 11, 3) := by decide +kernel
theorem dX7_emptyPurses_17 : decode cX7_emptyPurses 17 = .ok (.iload_n 2, 1) := by decide +kernel
theorem dX7_emptyPurses_18 : decode cX7_emptyPurses 18 = .ok (.aaload, 1) := by decide +kernel
theorem dX7_emptyPurses_19 : decode cX7_emptyPurses 19 = .ok (.getfield 84, 3) := by decide +kernel
theorem dX7_emptyPurses_22 : decode cX7_emptyPurses 22 = .ok (.ifCond .ne 7, 3) := by decide +kernel
theorem dX7_emptyPurses_25 : decode cX7_emptyPurses 25 = .ok (.iconst 1, 1) := by decide +kernel
theorem dX7_emptyPurses_26 : decode cX7_emptyPurses 26 = .ok (.goto 4, 3) := by decide +kernel
theorem dX7_emptyPurses_29 : decode cX7_emptyPurses 29 = .ok (.iconst 0, 1) := by decide +kernel
theorem dX7_emptyPurses_30 : decode cX7_emptyPurses 30 = .ok (.invokestatic 87, 3) := by decide +kernel
theorem dX7_emptyPurses_33 : decode cX7_emptyPurses 33 = .ok (.iadd, 1) := by decide +kernel
theorem dX7_emptyPurses_34 : decode cX7_emptyPurses 34 = .ok (.istore_n 1, 1) := by decide +kernel
theorem dX7_emptyPurses_35 : decode cX7_emptyPurses 35 = .ok (.iinc 2 1, 3) := by decide +kernel
theorem dX7_emptyPurses_38 : decode cX7_emptyPurses 38 = .ok (.goto (-34), 3) := by decide +kernel
theorem dX7_emptyPurses_41 : decode cX7_emptyPurses 41 = .ok (.iload_n 1, 1) := by decide +kernel
theorem dX7_emptyPurses_42 : decode cX7_emptyPurses 42 = .ok (.ireturn, 1) := by decide +kernel
theorem dX7_pay_0 : decode cX7_pay 0 = .ok (.iload_n 2, 1) := by decide +kernel
theorem dX7_pay_1 : decode cX7_pay 1 = .ok (.aload_n 1, 1) := by decide +kernel
theorem dX7_pay_2 : decode cX7_pay 2 = .ok (.getfield 84, 3) := by decide +kernel
theorem dX7_pay_5 : decode cX7_pay 5 = .ok (.invokestatic 91, 3) := by decide +kernel
theorem dX7_pay_8 : decode cX7_pay 8 = .ok (.istore_n 3, 1) := by decide +kernel
theorem dX7_pay_9 : decode cX7_pay 9 = .ok (.aload_n 1, 1) := by decide +kernel
theorem dX7_pay_10 : decode cX7_pay 10 = .ok (.dup, 1) := by decide +kernel
theorem dX7_pay_11 : decode cX7_pay 11 = .ok (.getfield 84, 3) := by decide +kernel
theorem dX7_pay_14 : decode cX7_pay 14 = .ok (.iload_n 3, 1) := by decide +kernel
theorem dX7_pay_15 : decode cX7_pay 15 = .ok (.isub, 1) := by decide +kernel
theorem dX7_pay_16 : decode cX7_pay 16 = .ok (.putfield 84, 3) := by decide +kernel
theorem dX7_pay_19 : decode cX7_pay 19 = .ok (.aload_n 0, 1) := by decide +kernel
theorem dX7_pay_20 : decode cX7_pay 20 = .ok (.dup, 1) := by decide +kernel
theorem dX7_pay_21 : decode cX7_pay 21 = .ok (.getfield 49, 3) := by decide +kernel
theorem dX7_pay_24 : decode cX7_pay 24 = .ok (.iload_n 3, 1) := by decide +kernel
theorem dX7_pay_25 : decode cX7_pay 25 = .ok (.iadd, 1) := by decide +kernel
theorem dX7_pay_26 : decode cX7_pay 26 = .ok (.putfield 49, 3) := by decide +kernel
theorem dX7_pay_29 : decode cX7_pay 29 = .ok (.return_, 1) := by decide +kernel
theorem dX7_draw_0 : decode cX7_draw 0 = .ok (.aload_n 0, 1) := by decide +kernel
theorem dX7_draw_1 : decode cX7_draw 1 = .ok (.aload_n 0, 1) := by decide +kernel
theorem dX7_draw_2 : decode cX7_draw 2 = .ok (.getfield 24, 3) := by decide +kernel
theorem dX7_draw_5 : decode cX7_draw 5 = .ok (.ldc 96, 2) := by decide +kernel
theorem dX7_draw_7 : decode cX7_draw 7 = .ok (.imul, 1) := by decide +kernel
theorem dX7_draw_8 : decode cX7_draw 8 = .ok (.sipush 12345, 3) := by decide +kernel
theorem dX7_draw_11 : decode cX7_draw 11 = .ok (.iadd, 1) := by decide +kernel
theorem dX7_draw_12 : decode cX7_draw 12 = .ok (.putfield 24, 3) := by decide +kernel
theorem dX7_draw_15 : decode cX7_draw 15 = .ok (.iload_n 1, 1) := by decide +kernel
theorem dX7_draw_16 : decode cX7_draw 16 = .ok (.ifCond .le 15, 3) := by decide +kernel
theorem dX7_draw_19 : decode cX7_draw 19 = .ok (.aload_n 0, 1) := by decide +kernel
theorem dX7_draw_20 : decode cX7_draw 20 = .ok (.getfield 24, 3) := by decide +kernel
theorem dX7_draw_23 : decode cX7_draw 23 = .ok (.bipush 16, 2) := by decide +kernel
theorem dX7_draw_25 : decode cX7_draw 25 = .ok (.iushr, 1) := by decide +kernel
theorem dX7_draw_26 : decode cX7_draw 26 = .ok (.iload_n 1, 1) := by decide +kernel
theorem dX7_draw_27 : decode cX7_draw 27 = .ok (.irem, 1) := by decide +kernel
theorem dX7_draw_28 : decode cX7_draw 28 = .ok (.goto 4, 3) := by decide +kernel
theorem dX7_draw_31 : decode cX7_draw 31 = .ok (.iconst 0, 1) := by decide +kernel
theorem dX7_draw_32 : decode cX7_draw 32 = .ok (.ireturn, 1) := by decide +kernel
theorem dX8_init_0 : decode cX8_init 0 = .ok (.aload_n 0, 1) := by decide +kernel
theorem dX8_init_1 : decode cX8_init 1 = .ok (.invokespecial 1, 3) := by decide +kernel
theorem dX8_init_4 : decode cX8_init 4 = .ok (.aload_n 0, 1) := by decide +kernel
theorem dX8_init_5 : decode cX8_init 5 = .ok (.new 7, 3) := by decide +kernel
theorem dX8_init_8 : decode cX8_init 8 = .ok (.dup, 1) := by decide +kernel
theorem dX8_init_9 : decode cX8_init 9 = .ok (.invokespecial 9, 3) := by decide +kernel
theorem dX8_init_12 : decode cX8_init 12 = .ok (.putfield 10, 3) := by decide +kernel
theorem dX8_init_15 : decode cX8_init 15 = .ok (.aload_n 0, 1) := by decide +kernel
theorem dX8_init_16 : decode cX8_init 16 = .ok (.new 7, 3) := by decide +kernel
theorem dX8_init_19 : decode cX8_init 19 = .ok (.dup, 1) := by decide +kernel
theorem dX8_init_20 : decode cX8_init 20 = .ok (.invokespecial 9, 3) := by decide +kernel
theorem dX8_init_23 : decode cX8_init 23 = .ok (.putfield 16, 3) := by decide +kernel
theorem dX8_init_26 : decode cX8_init 26 = .ok (.aload_n 0, 1) := by decide +kernel
theorem dX8_init_27 : decode cX8_init 27 = .ok (.new 7, 3) := by decide +kernel
theorem dX8_init_30 : decode cX8_init 30 = .ok (.dup, 1) := by decide +kernel
theorem dX8_init_31 : decode cX8_init 31 = .ok (.invokespecial 9, 3) := by decide +kernel
theorem dX8_init_34 : decode cX8_init 34 = .ok (.putfield 19, 3) := by decide +kernel
theorem dX8_init_37 : decode cX8_init 37 = .ok (.aload_n 0, 1) := by decide +kernel
theorem dX8_init_38 : decode cX8_init 38 = .ok (.new 22, 3) := by decide +kernel
