theorem dX9_init_0 : decode cX9_init 0 = .ok (.aload_n 0, 1) := by decide +kernel
theorem dX9_init_1 : decode cX9_init 1 = .ok (.invokespecial 1, 3) := by decide +kernel
theorem dX9_init_4 : decode cX9_init 4 = .ok (.aload_n 0, 1) := by decide +kernel
theorem dX9_init_5 : decode cX9_init 5 = .ok (.bipush 10, 2) := by decide +kernel
theorem dX9_init_7 : decode cX9_init 7 = .ok (.newarray .int, 2) := by decide +kernel
theorem dX9_init_9 : decode cX9_init 9 = .ok (.putfield 7, 3) := by decide +kernel
theorem dX9_init_12 : decode cX9_init 12 = .ok (.aload_n 0, 1) := by decide +kernel
theorem dX9_init_13 : decode cX9_init 13 = .ok (.bipush 100, 2) := by decide +kernel
theorem dX9_init_15 : decode cX9_init 15 = .ok (.newarray .int, 2) := by decide +kernel
theorem dX9_init_17 : decode cX9_init 17 = .ok (.putfield 13, 3) := by decide +kernel
theorem dX9_init_20 : decode cX9_init 20 = .ok (.aload_n 0, 1) := by decide +kernel
theorem dX9_init_21 : decode cX9_init 21 = .ok (.bipush 20, 2) := by decide +kernel
theorem dX9_init_23 : decode cX9_init 23 = .ok (.newarray .int, 2) := by decide +kernel
theorem dX9_init_25 : decode cX9_init 25 = .ok (.putfield 16, 3) := by decide +kernel
theorem dX9_init_28 : decode cX9_init 28 = .ok (.aload_n 0, 1) := by decide +kernel
theorem dX9_init_29 : decode cX9_init 29 = .ok (.bipush 20, 2) := by decide +kernel
theorem dX9_init_31 : decode cX9_init 31 = .ok (.newarray .int, 2) := by decide +kernel
theorem dX9_init_33 : decode cX9_init 33 = .ok (.putfield 19, 3) := by decide +kernel
theorem dX9_init_36 : decode cX9_init 36 = .ok (.aload_n 0, 1) := by decide +kernel
theorem dX9_init_37 : decode cX9_init 37 = .ok (.bipush 20, 2) := by decide +kernel
theorem dX9_init_39 : decode cX9_init 39 = .ok (.newarray .int, 2) := by decide +kernel
theorem dX9_init_41 : decode cX9_init 41 = .ok (.putfield 22, 3) := by decide +kernel
theorem dX9_init_44 : decode cX9_init 44 = .ok (.aload_n 0, 1) := by decide +kernel
theorem dX9_init_45 : decode cX9_init 45 = .ok (.bipush 20, 2) := by decide +kernel
theorem dX9_init_47 : decode cX9_init 47 = .ok (.newarray .int, 2) := by decide +kernel
theorem dX9_init_49 : decode cX9_init 49 = .ok (.putfield 25, 3) := by decide +kernel
theorem dX9_init_52 : decode cX9_init 52 = .ok (.aload_n 0, 1) := by decide +kernel
theorem dX9_init_53 : decode cX9_init 53 = .ok (.bipush 20, 2) := by decide +kernel
theorem dX9_init_55 : decode cX9_init 55 = .ok (.newarray .int, 2) := by decide +kernel
theorem dX9_init_57 : decode cX9_init 57 = .ok (.putfield 28, 3) := by decide +kernel
theorem dX9_init_60 : decode cX9_init 60 = .ok (.aload_n 0, 1) := by decide +kernel
theorem dX9_init_61 : decode cX9_init 61 = .ok (.bipush 120, 2) := by decide +kernel
theorem dX9_init_63 : decode cX9_init 63 = .ok (.newarray .int, 2) := by decide +kernel
theorem dX9_init_65 : decode cX9_init 65 = .ok (.putfield 31, 3) := by decide +kernel
theorem dX9_init_68 : decode cX9_init 68 = .ok (.aload_n 0, 1) := by decide +kernel
theorem dX9_init_69 : decode cX9_init 69 = .ok (.bipush 120, 2) := by decide +kernel
theorem dX9_init_71 : decode cX9_init 71 = .ok (.newarray .int, 2) := by decide +kernel
theorem dX9_init_73 : decode cX9_init 73 = .ok (.putfield 34, 3) := by decide +kernel
theorem dX9_init_76 : decode cX9_init 76 = .ok (.aload_n 0, 1) := by decide +kernel
theorem dX9_init_77 : decode cX9_init 77 = .ok (.bipush 120, 2) := by decide +kernel
theorem dX9_init_79 : decode cX9_init 79 = .ok (.newarray .int, 2) := by decide +kernel
theorem dX9_init_81 : decode cX9_init 81 = .ok (.putfield 37, 3) := by decide +kernel
theorem dX9_init_84 : decode cX9_init 84 = .ok (.aload_n 0, 1) := by decide +kernel
theorem dX9_init_85 : decode cX9_init 85 = .ok (.sipush 2000, 3) := by decide +kernel
theorem dX9_init_88 : decode cX9_init 88 = .ok (.newarray .int, 2) := by decide +kernel
theorem dX9_init_90 : decode cX9_init 90 = .ok (.putfield 40, 3) := by decide +kernel
theorem dX9_init_93 : decode cX9_init 93 = .ok (.aload_n 0, 1) := by decide +kernel
theorem dX9_init_94 : decode cX9_init 94 = .ok (.sipush 2000, 3) := by decide +kernel
theorem dX9_init_97 : decode cX9_init 97 = .ok (.newarray .int, 2) := by decide +kernel
theorem dX9_init_99 : decode cX9_init 99 = .ok (.putfield 43, 3) := by decide +kernel
theorem dX9_init_102 : decode cX9_init 102 = .ok (.aload_n 0, 1) := by decide +kernel
theorem dX9_init_103 : decode cX9_init 103 = .ok (.bipush 20, 2) := by decide +kernel
theorem dX9_init_105 : decode cX9_init 105 = .ok (.newarray .int, 2) := by decide +kernel
theorem dX9_init_107 : decode cX9_init 107 = .ok (.putfield 46, 3) := by decide +kernel
theorem dX9_init_110 : decode cX9_init 110 = .ok (.aload_n 0, 1) := by decide +kernel
theorem dX9_init_111 : decode cX9_init 111 = .ok (.sipush 600, 3) := by decide +kernel
theorem dX9_init_114 : decode cX9_init 114 = .ok (.newarray .int, 2) := by decide +kernel
theorem dX9_init_116 : decode cX9_init 116 = .ok (.putfield 49, 3) := by decide +kernel
theorem dX9_init_119 : decode cX9_init 119 = .ok (.aload_n 0, 1) := by decide +kernel
theorem dX9_init_120 : decode cX9_init 120 = .ok (.iconst 3, 1) := by decide +kernel
theorem dX9_init_121 : decode cX9_init 121 = .ok (.newarray .int, 2) := by decide +kernel
theorem dX9_init_123 : decode cX9_init 123 = .ok (.putfield 52, 3) := by decide +kernel
theorem dX9_init_126 : decode cX9_init 126 = .ok (.aload_n 0, 1) := by decide +kernel
theorem dX9_init_127 : decode cX9_init 127 = .ok (.iconst 3, 1) := by decide +kernel
theorem dX9_init_128 : decode cX9_init 128 = .ok (.newarray .int, 2) := by decide +kernel
theorem dX9_init_130 : decode cX9_init 130 = .ok (.putfield 55, 3) := by decide +kernel
theorem dX9_init_133 : decode cX9_init 133 = .ok (.aload_n 0, 1) := by decide +kernel
theorem dX9_init_134 : decode cX9_init 134 = .ok (.iconst 3, 1) := by decide +kernel
theorem dX9_init_135 : decode cX9_init 135 = .ok (.newarray .int, 2) := by decide +kernel
theorem dX9_init_137 : decode cX9_init 137 = .ok (.putfield 58, 3) := by decide +kernel
theorem dX9_init_140 : decode cX9_init 140 = .ok (.aload_n 0, 1) := by decide +kernel
theorem dX9_init_141 : decode cX9_init 141 = .ok (.bipush 50, 2) := by decide +kernel
theorem dX9_init_143 : decode cX9_init 143 = .ok (.newarray .int, 2) := by decide +kernel
theorem dX9_init_145 : decode cX9_init 145 = .ok (.putfield 61, 3) := by decide +kernel
theorem dX9_init_148 : decode cX9_init 148 = .ok (.aload_n 0, 1) := by decide +kernel
theorem dX9_init_149 : decode cX9_init 149 = .ok (.bipush 50, 2) := by decide +kernel
theorem dX9_init_151 : decode cX9_init 151 = .ok (.newarray .int, 2) := by decide +kernel
theorem dX9_init_153 : decode cX9_init 153 = .ok (.putfield 64, 3) := by decide +kernel
theorem dX9_init_156 : decode cX9_init 156 = .ok (.aload_n 0, 1) := by decide +kernel
theorem dX9_init_157 : decode cX9_init 157 = .ok (.iconst 4, 1) := by decide +kernel
theorem dX9_init_158 : decode cX9_init 158 = .ok (.newarray .int, 2) := by decide +kernel
theorem dX9_init_160 : decode cX9_init 160 = .ok (.putfield 67, 3) := by decide +kernel
theorem dX9_init_163 : decode cX9_init 163 = .ok (.aload_n 0, 1) := by decide +kernel
theorem dX9_init_164 : decode cX9_init 164 = .ok (.iconst 4, 1) := by decide +kernel
theorem dX9_init_165 : decode cX9_init 165 = .ok (.newarray .int, 2) := by decide +kernel
theorem dX9_init_167 : decode cX9_init 167 = .ok (.putfield 70, 3) := by decide +kernel
theorem dX9_init_170 : decode cX9_init 170 = .ok (.aload_n 0, 1) := by decide +kernel
theorem dX9_init_171 : decode cX9_init 171 = .ok (.iconst 4, 1) := by decide +kernel
theorem dX9_init_172 : decode cX9_init 172 = .ok (.newarray .int, 2) := by decide +kernel
theorem dX9_init_174 : decode cX9_init 174 = .ok (.putfield 73, 3) := by decide +kernel
theorem dX9_init_177 : decode cX9_init 177 = .ok (.aload_n 0, 1) := by decide +kernel
theorem dX9_init_178 : decode cX9_init 178 = .ok (.iconst 4, 1) := by decide +kernel
theorem dX9_init_179 : decode cX9_init 179 = .ok (.newarray .int, 2) := by decide +kernel
theorem dX9_init_181 : decode cX9_init 181 = .ok (.putfield 76, 3) := by decide +kernel
theorem dX9_init_184 : decode cX9_init 184 = .ok (.aload_n 0, 1) := by decide +kernel
theorem dX9_init_185 : decode cX9_init 185 = .ok (.iconst 5, 1) := by decide +kernel
theorem dX9_init_186 : decode cX9_init 186 = .ok (.newarray .int, 2) := by decide +kernel
theorem dX9_init_188 : decode cX9_init 188 = .ok (.putfield 79, 3) := by decide +kernel
theorem dX9_init_191 : decode cX9_init 191 = .ok (.aload_n 0, 1) := by decide +kernel
theorem dX9_init_192 : decode cX9_init 192 = .ok (.iconst 5, 1) := by decide +kernel
theorem dX9_init_193 : decode cX9_init 193 = .ok (.newarray .int, 2) := by decide +kernel
theorem dX9_init_195 : decode cX9_init 195 = .ok (.putfield 82, 3) := by decide +kernel
theorem dX9_init_198 : decode cX9_init 198 = .ok (.aload_n 0, 1) := by decide +kernel
theorem dX9_init_199 : decode cX9_init 199 = .ok (.bipush 30, 2) := by decide +kernel
theorem dX9_init_201 : decode cX9_init 201 = .ok (.newarray .int, 2) := by decide +kernel
theorem dX9_init_203 : decode cX9_init 203 = .ok (.putfield 85, 3) := by decide +kernel
theorem dX9_init_206 : decode cX9_init 206 = .ok (.aload_n 0, 1) := by decide +kernel
theorem dX9_init_207 : decode cX9_init 207 = .ok (.bipush 30, 2) := by decide +kernel
theorem dX9_init_209 : decode cX9_init 209 = .ok (.newarray .int, 2) := by decide +kernel
theorem dX9_init_211 : decode cX9_init 211 = .ok (.putfield 88, 3) := by decide +kernel
theorem dX9_init_214 : decode cX9_init 214 = .ok (.aload_n 0, 1) := by decide +kernel
theorem dX9_init_215 : decode cX9_init 215 = .ok (.bipush 30, 2) := by decide +kernel
theorem dX9_init_217 : decode cX9_init 217 = .ok (.newarray .int, 2) := by decide +kernel
theorem dX9_init_219 : decode cX9_init 219 = .ok (.putfield 91, 3) := by decide +kernel
theorem dX9_init_222 : decode cX9_init 222 = .ok (.aload_n 0, 1) := by decide +kernel
theorem dX9_init_223 : decode cX9_init 223 = .ok (.bipush 30, 2) := by decide +kernel
theorem dX9_init_225 : decode cX9_init 225 = .ok (.newarray .int, 2) := by decide +kernel
theorem dX9_init_227 : decode cX9_init 227 = .ok (.putfield 94, 3) := by decide +kernel
theorem dX9_init_230 : decode cX9_init 230 = .ok (.aload_n 0, 1) := by decide +kernel
theorem dX9_init_231 : decode cX9_init 231 = .ok (.bipush 30, 2) := by decide +kernel
theorem dX9_init_233 : decode cX9_init 233 = .ok (.newarray .int, 2) := by decide +kernel
theorem dX9_init_235 : decode cX9_init 235 = .ok (.putfield 97, 3) := by decide +kernel
theorem dX9_init_238 : decode cX9_init 238 = .ok (.aload_n 0, 1) := by decide +kernel
theorem dX9_init_239 : decode cX9_init 239 = .ok (.bipush 30, 2) := by decide +kernel
theorem dX9_init_241 : decode cX9_init 241 = .ok (.newarray .int, 2) := by decide +kernel
theorem dX9_init_243 : decode cX9_init 243 = .ok (.putfield 100, 3) := by decide +kernel
theorem dX9_init_246 : decode cX9_init 246 = .ok (.aload_n 0, 1) := by decide +kernel
theorem dX9_init_247 : decode cX9_init 247 = .ok (.bipush 120, 2) := by decide +kernel
theorem dX9_init_249 : decode cX9_init 249 = .ok (.newarray .int, 2) := by decide +kernel
theorem dX9_init_251 : decode cX9_init 251 = .ok (.putfield 103, 3) := by decide +kernel
theorem dX9_init_254 : decode cX9_init 254 = .ok (.aload_n 0, 1) := by decide +kernel
theorem dX9_init_255 : decode cX9_init 255 = .ok (.bipush 120, 2) := by decide +kernel
theorem dX9_init_257 : decode cX9_init 257 = .ok (.newarray .int, 2) := by decide +kernel
theorem dX9_init_259 : decode cX9_init 259 = .ok (.putfield 106, 3) := by decide +kernel
theorem dX9_init_262 : decode cX9_init 262 = .ok (.aload_n 0, 1) := by decide +kernel
theorem dX9_init_263 : decode cX9_init 263 = .ok (.bipush 120, 2) := by decide +kernel
theorem dX9_init_265 : decode cX9_init 265 = .ok (.newarray .int, 2) := by decide +kernel
theorem dX9_init_267 : decode cX9_init 267 = .ok (.putfield 109, 3) := by decide +kernel
theorem dX9_init_270 : decode cX9_init 270 = .ok (.aload_n 0, 1) := by decide +kernel
theorem dX9_init_271 : decode cX9_init 271 = .ok (.bipush 120, 2) := by decide +kernel
theorem dX9_init_273 : decode cX9_init 273 = .ok (.newarray .int, 2) := by decide +kernel
theorem dX9_init_275 : decode cX9_init 275 = .ok (.putfield 112, 3) := by decide +kernel
theorem dX9_init_278 : decode cX9_init 278 = .ok (.aload_n 0, 1) := by decide +kernel
theorem dX9_init_279 : decode cX9_init 279 = .ok (.sipush 150, 3) := by decide +kernel
theorem dX9_init_282 : decode cX9_init 282 = .ok (.newarray .int, 2) := by decide +kernel
theorem dX9_init_284 : decode cX9_init 284 = .ok (.putfield 115, 3) := by decide +kernel
theorem dX9_init_287 : decode cX9_init 287 = .ok (.aload_n 0, 1) := by decide +kernel
theorem dX9_init_288 : decode cX9_init 288 = .ok (.iconst 0, 1) := by decide +kernel
theorem dX9_init_289 : decode cX9_init 289 = .ok (.putfield 118, 3) := by decide +kernel
theorem dX9_init_292 : decode cX9_init 292 = .ok (.return_, 1) := by decide +kernel
theorem dX9_thrown_0 : decode cX9_thrown 0 = .ok (.aload_n 0, 1) := by decide +kernel
theorem dX9_thrown_1 : decode cX9_thrown 1 = .ok (.getfield 122, 3) := by decide +kernel
theorem dX9_thrown_4 : decode cX9_thrown 4 = .ok (.ireturn, 1) := by decide +kernel
theorem dX9_fails_0 : decode cX9_fails 0 = .ok (.aload_n 0, 1) := by decide +kernel
theorem dX9_fails_1 : decode cX9_fails 1 = .ok (.iload_n 1, 1) := by decide +kernel
theorem dX9_fails_2 : decode cX9_fails 2 = .ok (.putfield 122, 3) := by decide +kernel
theorem dX9_fails_5 : decode cX9_fails 5 = .ok (.iconst 0, 1) := by decide +kernel
theorem dX9_fails_6 : decode cX9_fails 6 = .ok (.ireturn, 1) := by decide +kernel
theorem dX9_asks_0 : decode cX9_asks 0 = .ok (.aload_n 0, 1) := by decide +kernel
theorem dX9_asks_1 : decode cX9_asks 1 = .ok (.iload_n 1, 1) := by decide +kernel
theorem dX9_asks_2 : decode cX9_asks 2 = .ok (.ifCond .eq 7, 3) := by decide +kernel
theorem dX9_asks_5 : decode cX9_asks 5 = .ok (.iconst 0, 1) := by decide +kernel
theorem dX9_asks_6 : decode cX9_asks 6 = .ok (.goto 4, 3) := by decide +kernel
theorem dX9_asks_9 : decode cX9_asks 9 = .ok (.iconst 1, 1) := by decide +kernel
theorem dX9_asks_10 : decode cX9_asks 10 = .ok (.putfield 122, 3) := by decide +kernel
theorem dX9_asks_13 : decode cX9_asks 13 = .ok (.iload_n 1, 1) := by decide +kernel
theorem dX9_asks_14 : decode cX9_asks 14 = .ok (.ireturn, 1) := by decide +kernel
theorem dX9_in_0 : decode cX9_in 0 = .ok (.iload_n 0, 1) := by decide +kernel
theorem dX9_in_1 : decode cX9_in 1 = .ok (.iload_n 1, 1) := by decide +kernel
theorem dX9_in_2 : decode cX9_in 2 = .ok (.if_icmp .lt 12, 3) := by decide +kernel
theorem dX9_in_5 : decode cX9_in 5 = .ok (.iload_n 0, 1) := by decide +kernel
theorem dX9_in_6 : decode cX9_in 6 = .ok (.iload_n 2, 1) := by decide +kernel
theorem dX9_in_7 : decode cX9_in 7 = .ok (.if_icmp .gt 7, 3) := by decide +kernel
theorem dX9_in_10 : decode cX9_in 10 = .ok (.iconst 1, 1) := by decide +kernel
theorem dX9_in_11 : decode cX9_in 11 = .ok (.goto 4, 3) := by decide +kernel
theorem dX9_in_14 : decode cX9_in 14 = .ok (.iconst 0, 1) := by decide +kernel
theorem dX9_in_15 : decode cX9_in 15 = .ok (.ireturn, 1) := by decide +kernel
theorem dX9_isStop_0 : decode cX9_isStop 0 = .ok (.iload_n 1, 1) := by decide +kernel
theorem dX9_isStop_1 : decode cX9_isStop 1 = .ok (.iconst 0, 1) := by decide +kernel
theorem dX9_isStop_2 : decode cX9_isStop 2 = .ok (.aload_n 0, 1) := by decide +kernel
theorem dX9_isStop_3 : decode cX9_isStop 3 = .ok (.getfield 125, 3) := by decide +kernel
theorem dX9_isStop_6 : decode cX9_isStop 6 = .ok (.iconst 1, 1) := by decide +kernel
theorem dX9_isStop_7 : decode cX9_isStop 7 = .ok (.isub, 1) := by decide +kernel
theorem dX9_isStop_8 : decode cX9_isStop 8 = .ok (.invokestatic 128, 3) := by decide +kernel
theorem dX9_isStop_11 : decode cX9_isStop 11 = .ok (.ireturn, 1) := by decide +kernel
theorem dX9_isTrip_0 : decode cX9_isTrip 0 = .ok (.iload_n 1, 1) := by decide +kernel
theorem dX9_isTrip_1 : decode cX9_isTrip 1 = .ok (.iconst 0, 1) := by decide +kernel
theorem dX9_isTrip_2 : decode cX9_isTrip 2 = .ok (.aload_n 0, 1) := by decide +kernel
theorem dX9_isTrip_3 : decode cX9_isTrip 3 = .ok (.getfield 132, 3) := by decide +kernel
theorem dX9_isTrip_6 : decode cX9_isTrip 6 = .ok (.iconst 1, 1) := by decide +kernel
theorem dX9_isTrip_7 : decode cX9_isTrip 7 = .ok (.isub, 1) := by decide +kernel
theorem dX9_isTrip_8 : decode cX9_isTrip 8 = .ok (.invokestatic 128, 3) := by decide +kernel
theorem dX9_isTrip_11 : decode cX9_isTrip 11 = .ok (.ireturn, 1) := by decide +kernel
theorem dX9_isFirm_0 : decode cX9_isFirm 0 = .ok (.iload_n 0, 1) := by decide +kernel
theorem dX9_isFirm_1 : decode cX9_isFirm 1 = .ok (.iconst 0, 1) := by decide +kernel
theorem dX9_isFirm_2 : decode cX9_isFirm 2 = .ok (.iconst 2, 1) := by decide +kernel
theorem dX9_isFirm_3 : decode cX9_isFirm 3 = .ok (.invokestatic 128, 3) := by decide +kernel
theorem dX9_isFirm_6 : decode cX9_isFirm 6 = .ok (.ireturn, 1) := by decide +kernel
theorem dX9_isDay_0 : decode cX9_isDay 0 = .ok (.iload_n 0, 1) := by decide +kernel
theorem dX9_isDay_1 : decode cX9_isDay 1 = .ok (.iconst 0, 1) := by decide +kernel
theorem dX9_isDay_2 : decode cX9_isDay 2 = .ok (.bipush 99, 2) := by decide +kernel
theorem dX9_isDay_4 : decode cX9_isDay 4 = .ok (.invokestatic 128, 3) := by decide +kernel
theorem dX9_isDay_7 : decode cX9_isDay 7 = .ok (.ireturn, 1) := by decide +kernel
theorem dX9_isBooking_0 : decode cX9_isBooking 0 = .ok (.iload_n 1, 1) := by decide +kernel
theorem dX9_isBooking_1 : decode cX9_isBooking 1 = .ok (.iconst 0, 1) := by decide +kernel
theorem dX9_isBooking_2 : decode cX9_isBooking 2 = .ok (.aload_n 0, 1) := by decide +kernel
theorem dX9_isBooking_3 : decode cX9_isBooking 3 = .ok (.getfield 135, 3) := by decide +kernel
theorem dX9_isBooking_6 : decode cX9_isBooking 6 = .ok (.iconst 1, 1) := by decide +kernel
theorem dX9_isBooking_7 : decode cX9_isBooking 7 = .ok (.isub, 1) := by decide +kernel
theorem dX9_isBooking_8 : decode cX9_isBooking 8 = .ok (.invokestatic 128, 3) := by decide +kernel
theorem dX9_isBooking_11 : decode cX9_isBooking 11 = .ok (.ireturn, 1) := by decide +kernel
theorem dX9_stop_0 : decode cX9_stop 0 = .ok (.aload_n 0, 1) := by decide +kernel
theorem dX9_stop_1 : decode cX9_stop 1 = .ok (.iload_n 1, 1) := by decide +kernel
theorem dX9_stop_2 : decode cX9_stop 2 = .ok (.iconst 0, 1) := by decide +kernel
theorem dX9_stop_3 : decode cX9_stop 3 = .ok (.bipush 60, 2) := by decide +kernel
theorem dX9_stop_5 : decode cX9_stop 5 = .ok (.invokestatic 128, 3) := by decide +kernel
theorem dX9_stop_8 : decode cX9_stop 8 = .ok (.invokevirtual 138, 3) := by decide +kernel
theorem dX9_stop_11 : decode cX9_stop 11 = .ok (.ifCond .ne 5, 3) := by decide +kernel
theorem dX9_stop_14 : decode cX9_stop 14 = .ok (.iconst 0, 1) := by decide +kernel
theorem dX9_stop_15 : decode cX9_stop 15 = .ok (.ireturn, 1) := by decide +kernel
theorem dX9_stop_16 : decode cX9_stop 16 = .ok (.aload_n 0, 1) := by decide +kernel
theorem dX9_stop_17 : decode cX9_stop 17 = .ok (.getfield 125, 3) := by decide +kernel
theorem dX9_stop_20 : decode cX9_stop 20 = .ok (.bipush 10, 2) := by decide +kernel
theorem dX9_stop_22 : decode cX9_stop 22 = .ok (.if_icmp .ne 9, 3) := by decide +kernel
theorem dX9_stop_25 : decode cX9_stop 25 = .ok (.aload_n 0, 1) := by decide +kernel
theorem dX9_stop_26 : decode cX9_stop 26 = .ok (.iconst 2, 1) := by decide +kernel
theorem dX9_stop_27 : decode cX9_stop 27 = .ok (.invokevirtual 142, 3) := by decide +kernel
theorem dX9_stop_30 : decode cX9_stop 30 = .ok (.ireturn, 1) := by decide +kernel
theorem dX9_stop_31 : decode cX9_stop 31 = .ok (.aload_n 0, 1) := by decide +kernel
theorem dX9_stop_32 : decode cX9_stop 32 = .ok (.getfield 7, 3) := by decide +kernel
theorem dX9_stop_35 : decode cX9_stop 35 = .ok (.aload_n 0, 1) := by decide +kernel
theorem dX9_stop_36 : decode cX9_stop 36 = .ok (.getfield 125, 3) := by decide +kernel
theorem dX9_stop_39 : decode cX9_stop 39 = .ok (.iload_n 1, 1) := by decide +kernel
theorem dX9_stop_40 : decode cX9_stop 40 = .ok (.iastore, 1) := by decide +kernel
theorem dX9_stop_41 : decode cX9_stop 41 = .ok (.aload_n 0, 1) := by decide +kernel
theorem dX9_stop_42 : decode cX9_stop 42 = .ok (.dup, 1) := by decide +kernel
theorem dX9_stop_43 : decode cX9_stop 43 = .ok (.getfield 125, 3) := by decide +kernel
theorem dX9_stop_46 : decode cX9_stop 46 = .ok (.iconst 1, 1) := by decide +kernel
theorem dX9_stop_47 : decode cX9_stop 47 = .ok (.iadd, 1) := by decide +kernel
theorem dX9_stop_48 : decode cX9_stop 48 = .ok (.putfield 125, 3) := by decide +kernel
theorem dX9_stop_51 : decode cX9_stop 51 = .ok (.aload_n 0, 1) := by decide +kernel
theorem dX9_stop_52 : decode cX9_stop 52 = .ok (.getfield 125, 3) := by decide +kernel
theorem dX9_stop_55 : decode cX9_stop 55 = .ok (.iconst 1, 1) := by decide +kernel
theorem dX9_stop_56 : decode cX9_stop 56 = .ok (.isub, 1) := by decide +kernel
theorem dX9_stop_57 : decode cX9_stop 57 = .ok (.ireturn, 1) := by decide +kernel
theorem dX9_footway_0 : decode cX9_footway 0 = .ok (.aload_n 0, 1) := by decide +kernel
theorem dX9_footway_1 : decode cX9_footway 1 = .ok (.aload_n 0, 1) := by decide +kernel
theorem dX9_footway_2 : decode cX9_footway 2 = .ok (.iload_n 1, 1) := by decide +kernel
theorem dX9_footway_3 : decode cX9_footway 3 = .ok (.invokevirtual 146, 3) := by decide +kernel
theorem dX9_footway_6 : decode cX9_footway 6 = .ok (.ifCond .eq 15, 3) := by decide +kernel
theorem dX9_footway_9 : decode cX9_footway 9 = .ok (.aload_n 0, 1) := by decide +kernel
theorem dX9_footway_10 : decode cX9_footway 10 = .ok (.iload_n 2, 1) := by decide +kernel
theorem dX9_footway_11 : decode cX9_footway 11 = .ok (.invokevirtual 146, 3) := by decide +kernel
theorem dX9_footway_14 : decode cX9_footway 14 = .ok (.ifCond .eq 7, 3) := by decide +kernel
theorem dX9_footway_17 : decode cX9_footway 17 = .ok (.iconst 1, 1) := by decide +kernel
theorem dX9_footway_18 : decode cX9_footway 18 = .ok (.goto 4, 3) := by decide +kernel
theorem dX9_footway_21 : decode cX9_footway 21 = .ok (.iconst 0, 1) := by decide +kernel
theorem dX9_footway_22 : decode cX9_footway 22 = .ok (.invokevirtual 138, 3) := by decide +kernel
theorem dX9_footway_25 : decode cX9_footway 25 = .ok (.ifCond .ne 5, 3) := by decide +kernel
theorem dX9_footway_28 : decode cX9_footway 28 = .ok (.iconst 0, 1) := by decide +kernel
theorem dX9_footway_29 : decode cX9_footway 29 = .ok (.ireturn, 1) := by decide +kernel
theorem dX9_footway_30 : decode cX9_footway 30 = .ok (.iload_n 1, 1) := by decide +kernel
theorem dX9_footway_31 : decode cX9_footway 31 = .ok (.iload_n 2, 1) := by decide +kernel
theorem dX9_footway_32 : decode cX9_footway 32 = .ok (.if_icmp .eq 18, 3) := by decide +kernel
theorem dX9_footway_35 : decode cX9_footway 35 = .ok (.iload_n 3, 1) := by decide +kernel
theorem dX9_footway_36 : decode cX9_footway 36 = .ok (.iconst (-1), 1) := by decide +kernel
theorem dX9_footway_37 : decode cX9_footway 37 = .ok (.if_icmp .eq 19, 3) := by decide +kernel
theorem dX9_footway_40 : decode cX9_footway 40 = .ok (.iload_n 3, 1) := by decide +kernel
theorem dX9_footway_41 : decode cX9_footway 41 = .ok (.iconst 1, 1) := by decide +kernel
theorem dX9_footway_42 : decode cX9_footway 42 = .ok (.bipush 120, 2) := by decide +kernel
theorem dX9_footway_44 : decode cX9_footway 44 = .ok (.invokestatic 128, 3) := by decide +kernel
theorem dX9_footway_47 : decode cX9_footway 47 = .ok (.ifCond .ne 9, 3) := by decide +kernel
theorem dX9_footway_50 : decode cX9_footway 50 = .ok (.aload_n 0, 1) := by decide +kernel
theorem dX9_footway_51 : decode cX9_footway 51 = .ok (.iconst 2, 1) := by decide +kernel
theorem dX9_footway_52 : decode cX9_footway 52 = .ok (.invokevirtual 142, 3) := by decide +kernel
theorem dX9_footway_55 : decode cX9_footway 55 = .ok (.ireturn, 1) := by decide +kernel
theorem dX9_footway_56 : decode cX9_footway 56 = .ok (.aload_n 0, 1) := by decide +kernel
theorem dX9_footway_57 : decode cX9_footway 57 = .ok (.getfield 13, 3) := by decide +kernel
theorem dX9_footway_60 : decode cX9_footway 60 = .ok (.bipush 10, 2) := by decide +kernel
theorem dX9_footway_62 : decode cX9_footway 62 = .ok (.iload_n 1, 1) := by decide +kernel
theorem dX9_footway_63 : decode cX9_footway 63 = .ok (.imul, 1) := by decide +kernel
theorem dX9_footway_64 : decode cX9_footway 64 = .ok (.iload_n 2, 1) := by decide +kernel
theorem dX9_footway_65 : decode cX9_footway 65 = .ok (.iadd, 1) := by decide +kernel
theorem dX9_footway_66 : decode cX9_footway 66 = .ok (.iaload, 1) := by decide +kernel
theorem dX9_footway_67 : decode cX9_footway 67 = .ok (.istore 4, 2) := by decide +kernel
theorem dX9_footway_69 : decode cX9_footway 69 = .ok (.aload_n 0, 1) := by decide +kernel
theorem dX9_footway_70 : decode cX9_footway 70 = .ok (.getfield 13, 3) := by decide +kernel
theorem dX9_footway_73 : decode cX9_footway 73 = .ok (.bipush 10, 2) := by decide +kernel
theorem dX9_footway_75 : decode cX9_footway 75 = .ok (.iload_n 1, 1) := by decide +kernel
theorem dX9_footway_76 : decode cX9_footway 76 = .ok (.imul, 1) := by decide +kernel
theorem dX9_footway_77 : decode cX9_footway 77 = .ok (.iload_n 2, 1) := by decide +kernel
theorem dX9_footway_78 : decode cX9_footway 78 = .ok (.iadd, 1) := by decide +kernel
theorem dX9_footway_79 : decode cX9_footway 79 = .ok (.iload_n 3, 1) := by decide +kernel
theorem dX9_footway_80 : decode cX9_footway 80 = .ok (.iconst (-1), 1) := by decide +kernel
theorem dX9_footway_81 : decode cX9_footway 81 = .ok (.if_icmp .ne 7, 3) := by decide +kernel
theorem dX9_footway_84 : decode cX9_footway 84 = .ok (.iconst 0, 1) := by decide +kernel
theorem dX9_footway_85 : decode cX9_footway 85 = .ok (.goto 4, 3) := by decide +kernel
theorem dX9_footway_88 : decode cX9_footway 88 = .ok (.iload_n 3, 1) := by decide +kernel
theorem dX9_footway_89 : decode cX9_footway 89 = .ok (.iastore, 1) := by decide +kernel
theorem dX9_footway_90 : decode cX9_footway 90 = .ok (.aload_n 0, 1) := by decide +kernel
theorem dX9_footway_91 : decode cX9_footway 91 = .ok (.getfield 13, 3) := by decide +kernel
theorem dX9_footway_94 : decode cX9_footway 94 = .ok (.bipush 10, 2) := by decide +kernel
theorem dX9_footway_96 : decode cX9_footway 96 = .ok (.iload_n 2, 1) := by decide +kernel
theorem dX9_footway_97 : decode cX9_footway 97 = .ok (.imul, 1) := by decide +kernel
theorem dX9_footway_98 : decode cX9_footway 98 = .ok (.iload_n 1, 1) := by decide +kernel
theorem dX9_footway_99 : decode cX9_footway 99 = .ok (.iadd, 1) := by decide +kernel
theorem dX9_footway_100 : decode cX9_footway 100 = .ok (.iload_n 3, 1) := by decide +kernel
theorem dX9_footway_101 : decode cX9_footway 101 = .ok (.iconst (-1), 1) := by decide +kernel
theorem dX9_footway_102 : decode cX9_footway 102 = .ok (.if_icmp .ne 7, 3) := by decide +kernel
theorem dX9_footway_105 : decode cX9_footway 105 = .ok (.iconst 0, 1) := by decide +kernel
theorem dX9_footway_106 : decode cX9_footway 106 = .ok (.goto 4, 3) := by decide +kernel
theorem dX9_footway_109 : decode cX9_footway 109 = .ok (.iload_n 3, 1) := by decide +kernel
theorem dX9_footway_110 : decode cX9_footway 110 = .ok (.iastore, 1) := by decide +kernel
theorem dX9_footway_111 : decode cX9_footway 111 = .ok (.iload 4, 2) := by decide +kernel
theorem dX9_footway_113 : decode cX9_footway 113 = .ok (.ifCond .ne 7, 3) := by decide +kernel
theorem dX9_footway_116 : decode cX9_footway 116 = .ok (.iconst (-1), 1) := by decide +kernel
theorem dX9_footway_117 : decode cX9_footway 117 = .ok (.goto 5, 3) := by decide +kernel
theorem dX9_footway_120 : decode cX9_footway 120 = .ok (.iload 4, 2) := by decide +kernel
theorem dX9_footway_122 : decode cX9_footway 122 = .ok (.ireturn, 1) := by decide +kernel
theorem dX9_trip_0 : decode cX9_trip 0 = .ok (.aload_n 0, 1) := by decide +kernel
theorem dX9_trip_1 : decode cX9_trip 1 = .ok (.iload_n 2, 1) := by decide +kernel
theorem dX9_trip_2 : decode cX9_trip 2 = .ok (.invokestatic 150, 3) := by decide +kernel
theorem dX9_trip_5 : decode cX9_trip 5 = .ok (.ifCond .eq 16, 3) := by decide +kernel
theorem dX9_trip_8 : decode cX9_trip 8 = .ok (.aload_n 0, 1) := by decide +kernel
theorem dX9_trip_9 : decode cX9_trip 9 = .ok (.iload 5, 2) := by decide +kernel
theorem dX9_trip_11 : decode cX9_trip 11 = .ok (.invokevirtual 146, 3) := by decide +kernel
theorem dX9_trip_14 : decode cX9_trip 14 = .ok (.ifCond .eq 7, 3) := by decide +kernel
theorem dX9_trip_17 : decode cX9_trip 17 = .ok (.iconst 1, 1) := by decide +kernel
theorem dX9_trip_18 : decode cX9_trip 18 = .ok (.goto 4, 3) := by decide +kernel
theorem dX9_trip_21 : decode cX9_trip 21 = .ok (.iconst 0, 1) := by decide +kernel
theorem dX9_trip_22 : decode cX9_trip 22 = .ok (.invokevirtual 138, 3) := by decide +kernel
theorem dX9_trip_25 : decode cX9_trip 25 = .ok (.ifCond .ne 5, 3) := by decide +kernel
theorem dX9_trip_28 : decode cX9_trip 28 = .ok (.iconst 0, 1) := by decide +kernel
theorem dX9_trip_29 : decode cX9_trip 29 = .ok (.ireturn, 1) := by decide +kernel
theorem dX9_trip_30 : decode cX9_trip 30 = .ok (.iload_n 1, 1) := by decide +kernel
theorem dX9_trip_31 : decode cX9_trip 31 = .ok (.iconst 0, 1) := by decide +kernel
theorem dX9_trip_32 : decode cX9_trip 32 = .ok (.iconst 2, 1) := by decide +kernel
theorem dX9_trip_33 : decode cX9_trip 33 = .ok (.invokestatic 128, 3) := by decide +kernel
theorem dX9_trip_36 : decode cX9_trip 36 = .ok (.ifCond .eq 36, 3) := by decide +kernel
theorem dX9_trip_39 : decode cX9_trip 39 = .ok (.iload_n 3, 1) := by decide +kernel
theorem dX9_trip_40 : decode cX9_trip 40 = .ok (.iconst 1, 1) := by decide +kernel
theorem dX9_trip_41 : decode cX9_trip 41 = .ok (.bipush 100, 2) := by decide +kernel
theorem dX9_trip_43 : decode cX9_trip 43 = .ok (.invokestatic 128, 3) := by decide +kernel
theorem dX9_trip_46 : decode cX9_trip 46 = .ok (.ifCond .eq 26, 3) := by decide +kernel
theorem dX9_trip_49 : decode cX9_trip 49 = .ok (.iload 4, 2) := by decide +kernel
theorem dX9_trip_51 : decode cX9_trip 51 = .ok (.iconst 1, 1) := by decide +kernel
theorem dX9_trip_52 : decode cX9_trip 52 = .ok (.bipush 127, 2) := by decide +kernel
theorem dX9_trip_54 : decode cX9_trip 54 = .ok (.invokestatic 128, 3) := by decide +kernel
theorem dX9_trip_57 : decode cX9_trip 57 = .ok (.ifCond .eq 15, 3) := by decide +kernel
theorem dX9_trip_60 : decode cX9_trip 60 = .ok (.iload 6, 2) := by decide +kernel
theorem dX9_trip_62 : decode cX9_trip 62 = .ok (.iconst 0, 1) := by decide +kernel
theorem dX9_trip_63 : decode cX9_trip 63 = .ok (.sipush 1439, 3) := by decide +kernel
theorem dX9_trip_66 : decode cX9_trip 66 = .ok (.invokestatic 128, 3) := by decide +kernel
theorem dX9_trip_69 : decode cX9_trip 69 = .ok (.ifCond .ne 9, 3) := by decide +kernel
theorem dX9_trip_72 : decode cX9_trip 72 = .ok (.aload_n 0, 1) := by decide +kernel
theorem dX9_trip_73 : decode cX9_trip 73 = .ok (.iconst 2, 1) := by decide +kernel
theorem dX9_trip_74 : decode cX9_trip 74 = .ok (.invokevirtual 142, 3) := by decide +kernel
theorem dX9_trip_77 : decode cX9_trip 77 = .ok (.ireturn, 1) := by decide +kernel
theorem dX9_trip_78 : decode cX9_trip 78 = .ok (.aload_n 0, 1) := by decide +kernel
theorem dX9_trip_79 : decode cX9_trip 79 = .ok (.getfield 132, 3) := by decide +kernel
theorem dX9_trip_82 : decode cX9_trip 82 = .ok (.bipush 20, 2) := by decide +kernel
theorem dX9_trip_84 : decode cX9_trip 84 = .ok (.if_icmp .ne 9, 3) := by decide +kernel
theorem dX9_trip_87 : decode cX9_trip 87 = .ok (.aload_n 0, 1) := by decide +kernel
theorem dX9_trip_88 : decode cX9_trip 88 = .ok (.iconst 3, 1) := by decide +kernel
theorem dX9_trip_89 : decode cX9_trip 89 = .ok (.invokevirtual 142, 3) := by decide +kernel
theorem dX9_trip_92 : decode cX9_trip 92 = .ok (.ireturn, 1) := by decide +kernel
theorem dX9_trip_93 : decode cX9_trip 93 = .ok (.aload_n 0, 1) := by decide +kernel
theorem dX9_trip_94 : decode cX9_trip 94 = .ok (.getfield 16, 3) := by decide +kernel
theorem dX9_trip_97 : decode cX9_trip 97 = .ok (.aload_n 0, 1) := by decide +kernel
theorem dX9_trip_98 : decode cX9_trip 98 = .ok (.getfield 132, 3) := by decide +kernel
theorem dX9_trip_101 : decode cX9_trip 101 = .ok (.iload_n 1, 1) := by decide +kernel
theorem dX9_trip_102 : decode cX9_trip 102 = .ok (.iastore, 1) := by decide +kernel
theorem dX9_trip_103 : decode cX9_trip 103 = .ok (.aload_n 0, 1) := by decide +kernel
theorem dX9_trip_104 : decode cX9_trip 104 = .ok (.getfield 19, 3) := by decide +kernel
theorem dX9_trip_107 : decode cX9_trip 107 = .ok (.aload_n 0, 1) := by decide +kernel
theorem dX9_trip_108 : decode cX9_trip 108 = .ok (.getfield 132, 3) := by decide +kernel
theorem dX9_trip_111 : decode cX9_trip 111 = .ok (.iload_n 2, 1) := by decide +kernel
theorem dX9_trip_112 : decode cX9_trip 112 = .ok (.iastore, 1) := by decide +kernel
theorem dX9_trip_113 : decode cX9_trip 113 = .ok (.aload_n 0, 1) := by decide +kernel
theorem dX9_trip_114 : decode cX9_trip 114 = .ok (.getfield 22, 3) := by decide +kernel
theorem dX9_trip_117 : decode cX9_trip 117 = .ok (.aload_n 0, 1) := by decide +kernel
theorem dX9_trip_118 : decode cX9_trip 118 = .ok (.getfield 132, 3) := by decide +kernel
theorem dX9_trip_121 : decode cX9_trip 121 = .ok (.iload_n 3, 1) := by decide +kernel
theorem dX9_trip_122 : decode cX9_trip 122 = .ok (.iastore, 1) := by decide +kernel
theorem dX9_trip_123 : decode cX9_trip 123 = .ok (.aload_n 0, 1) := by decide +kernel
theorem dX9_trip_124 : decode cX9_trip 124 = .ok (.getfield 25, 3) := by decide +kernel
theorem dX9_trip_127 : decode cX9_trip 127 = .ok (.aload_n 0, 1) := by decide +kernel
theorem dX9_trip_128 : decode cX9_trip 128 = .ok (.getfield 132, 3) := by decide +kernel
theorem dX9_trip_131 : decode cX9_trip 131 = .ok (.iload 4, 2) := by decide +kernel
theorem dX9_trip_133 : decode cX9_trip 133 = .ok (.iastore, 1) := by decide +kernel
theorem dX9_trip_134 : decode cX9_trip 134 = .ok (.aload_n 0, 1) := by decide +kernel
theorem dX9_trip_135 : decode cX9_trip 135 = .ok (.getfield 28, 3) := by decide +kernel
theorem dX9_trip_138 : decode cX9_trip 138 = .ok (.aload_n 0, 1) := by decide +kernel
theorem dX9_trip_139 : decode cX9_trip 139 = .ok (.getfield 132, 3) := by decide +kernel
theorem dX9_trip_142 : decode cX9_trip 142 = .ok (.iconst 1, 1) := by decide +kernel
theorem dX9_trip_143 : decode cX9_trip 143 = .ok (.iastore, 1) := by decide +kernel
theorem dX9_trip_144 : decode cX9_trip 144 = .ok (.aload_n 0, 1) := by decide +kernel
theorem dX9_trip_145 : decode cX9_trip 145 = .ok (.getfield 31, 3) := by decide +kernel
theorem dX9_trip_148 : decode cX9_trip 148 = .ok (.bipush 6, 2) := by decide +kernel
theorem dX9_trip_150 : decode cX9_trip 150 = .ok (.aload_n 0, 1) := by decide +kernel
theorem dX9_trip_151 : decode cX9_trip 151 = .ok (.getfield 132, 3) := by decide +kernel
theorem dX9_trip_154 : decode cX9_trip 154 = .ok (.imul, 1) := by decide +kernel
theorem dX9_trip_155 : decode cX9_trip 155 = .ok (.iload 5, 2) := by decide +kernel
theorem dX9_trip_157 : decode cX9_trip 157 = .ok (.iastore, 1) := by decide +kernel
theorem dX9_trip_158 : decode cX9_trip 158 = .ok (.aload_n 0, 1) := by decide +kernel
theorem dX9_trip_159 : decode cX9_trip 159 = .ok (.getfield 37, 3) := by decide +kernel
theorem dX9_trip_162 : decode cX9_trip 162 = .ok (.bipush 6, 2) := by decide +kernel
theorem dX9_trip_164 : decode cX9_trip 164 = .ok (.aload_n 0, 1) := by decide +kernel
theorem dX9_trip_165 : decode cX9_trip 165 = .ok (.getfield 132, 3) := by decide +kernel
theorem dX9_trip_168 : decode cX9_trip 168 = .ok (.imul, 1) := by decide +kernel
theorem dX9_trip_169 : decode cX9_trip 169 = .ok (.iload 6, 2) := by decide +kernel
theorem dX9_trip_171 : decode cX9_trip 171 = .ok (.iastore, 1) := by decide +kernel
theorem dX9_trip_172 : decode cX9_trip 172 = .ok (.aload_n 0, 1) := by decide +kernel
theorem dX9_trip_173 : decode cX9_trip 173 = .ok (.dup, 1) := by decide +kernel
theorem dX9_trip_174 : decode cX9_trip 174 = .ok (.getfield 132, 3) := by decide +kernel
theorem dX9_trip_177 : decode cX9_trip 177 = .ok (.iconst 1, 1) := by decide +kernel
theorem dX9_trip_178 : decode cX9_trip 178 = .ok (.iadd, 1) := by decide +kernel
theorem dX9_trip_179 : decode cX9_trip 179 = .ok (.putfield 132, 3) := by decide +kernel
theorem dX9_trip_182 : decode cX9_trip 182 = .ok (.aload_n 0, 1) := by decide +kernel
theorem dX9_trip_183 : decode cX9_trip 183 = .ok (.getfield 132, 3) := by decide +kernel
theorem dX9_trip_186 : decode cX9_trip 186 = .ok (.iconst 1, 1) := by decide +kernel
theorem dX9_trip_187 : decode cX9_trip 187 = .ok (.isub, 1) := by decide +kernel
theorem dX9_trip_188 : decode cX9_trip 188 = .ok (.ireturn, 1) := by decide +kernel
theorem dX9_calls_0 : decode cX9_calls 0 = .ok (.aload_n 0, 1) := by decide +kernel
theorem dX9_calls_1 : decode cX9_calls 1 = .ok (.aload_n 0, 1) := by decide +kernel
theorem dX9_calls_2 : decode cX9_calls 2 = .ok (.iload_n 1, 1) := by decide +kernel
theorem dX9_calls_3 : decode cX9_calls 3 = .ok (.invokevirtual 153, 3) := by decide +kernel
theorem dX9_calls_6 : decode cX9_calls 6 = .ok (.ifCond .eq 15, 3) := by decide +kernel
theorem dX9_calls_9 : decode cX9_calls 9 = .ok (.aload_n 0, 1) := by decide +kernel
theorem dX9_calls_10 : decode cX9_calls 10 = .ok (.iload_n 2, 1) := by decide +kernel
theorem dX9_calls_11 : decode cX9_calls 11 = .ok (.invokevirtual 146, 3) := by decide +kernel
theorem dX9_calls_14 : decode cX9_calls 14 = .ok (.ifCond .eq 7, 3) := by decide +kernel
theorem dX9_calls_17 : decode cX9_calls 17 = .ok (.iconst 1, 1) := by decide +kernel
theorem dX9_calls_18 : decode cX9_calls 18 = .ok (.goto 4, 3) := by decide +kernel
theorem dX9_calls_21 : decode cX9_calls 21 = .ok (.iconst 0, 1) := by decide +kernel
theorem dX9_calls_22 : decode cX9_calls 22 = .ok (.invokevirtual 138, 3) := by decide +kernel
theorem dX9_calls_25 : decode cX9_calls 25 = .ok (.ifCond .ne 5, 3) := by decide +kernel
theorem dX9_calls_28 : decode cX9_calls 28 = .ok (.iconst 0, 1) := by decide +kernel
theorem dX9_calls_29 : decode cX9_calls 29 = .ok (.ireturn, 1) := by decide +kernel
theorem dX9_calls_30 : decode cX9_calls 30 = .ok (.iload_n 3, 1) := by decide +kernel
theorem dX9_calls_31 : decode cX9_calls 31 = .ok (.iconst 1, 1) := by decide +kernel
theorem dX9_calls_32 : decode cX9_calls 32 = .ok (.sipush 300, 3) := by decide +kernel
theorem dX9_calls_35 : decode cX9_calls 35 = .ok (.invokestatic 128, 3) := by decide +kernel
theorem dX9_calls_38 : decode cX9_calls 38 = .ok (.ifCond .eq 14, 3) := by decide +kernel
theorem dX9_calls_41 : decode cX9_calls 41 = .ok (.iload 4, 2) := by decide +kernel
theorem dX9_calls_43 : decode cX9_calls 43 = .ok (.iconst 0, 1) := by decide +kernel
theorem dX9_calls_44 : decode cX9_calls 44 = .ok (.bipush 60, 2) := by decide +kernel
theorem dX9_calls_46 : decode cX9_calls 46 = .ok (.invokestatic 128, 3) := by decide +kernel
theorem dX9_calls_49 : decode cX9_calls 49 = .ok (.ifCond .ne 9, 3) := by decide +kernel
theorem dX9_calls_52 : decode cX9_calls 52 = .ok (.aload_n 0, 1) := by decide +kernel
theorem dX9_calls_53 : decode cX9_calls 53 = .ok (.iconst 2, 1) := by decide +kernel
theorem dX9_calls_54 : decode cX9_calls 54 = .ok (.invokevirtual 142, 3) := by decide +kernel
theorem dX9_calls_57 : decode cX9_calls 57 = .ok (.ireturn, 1) := by decide +kernel
theorem dX9_calls_58 : decode cX9_calls 58 = .ok (.iconst 0, 1) := by decide +kernel
theorem dX9_calls_59 : decode cX9_calls 59 = .ok (.istore 5, 2) := by decide +kernel
theorem dX9_calls_61 : decode cX9_calls 61 = .ok (.iconst 0, 1) := by decide +kernel
theorem dX9_calls_62 : decode cX9_calls 62 = .ok (.istore 6, 2) := by decide +kernel
theorem dX9_calls_64 : decode cX9_calls 64 = .ok (.iload 6, 2) := by decide +kernel
theorem dX9_calls_66 : decode cX9_calls 66 = .ok (.aload_n 0, 1) := by decide +kernel
theorem dX9_calls_67 : decode cX9_calls 67 = .ok (.getfield 135, 3) := by decide +kernel
theorem dX9_calls_70 : decode cX9_calls 70 = .ok (.if_icmp .ge 58, 3) := by decide +kernel
theorem dX9_calls_73 : decode cX9_calls 73 = .ok (.iconst 0, 1) := by decide +kernel
theorem dX9_calls_74 : decode cX9_calls 74 = .ok (.istore 7, 2) := by decide +kernel
theorem dX9_calls_76 : decode cX9_calls 76 = .ok (.iload 7, 2) := by decide +kernel
theorem dX9_calls_78 : decode cX9_calls 78 = .ok (.aload_n 0, 1) := by decide +kernel
theorem dX9_calls_79 : decode cX9_calls 79 = .ok (.getfield 91, 3) := by decide +kernel
theorem dX9_calls_82 : decode cX9_calls 82 = .ok (.iload 6, 2) := by decide +kernel
theorem dX9_calls_84 : decode cX9_calls 84 = .ok (.iaload, 1) := by decide +kernel
theorem dX9_calls_85 : decode cX9_calls 85 = .ok (.if_icmp .ge 37, 3) := by decide +kernel
theorem dX9_calls_88 : decode cX9_calls 88 = .ok (.iload 5, 2) := by decide +kernel
theorem dX9_calls_90 : decode cX9_calls 90 = .ok (.ifCond .ne 19, 3) := by decide +kernel
theorem dX9_calls_93 : decode cX9_calls 93 = .ok (.aload_n 0, 1) := by decide +kernel
theorem dX9_calls_94 : decode cX9_calls 94 = .ok (.getfield 103, 3) := by decide +kernel
theorem dX9_calls_97 : decode cX9_calls 97 = .ok (.iconst 4, 1) := by decide +kernel
theorem dX9_calls_98 : decode cX9_calls 98 = .ok (.iload 6, 2) := by decide +kernel
theorem dX9_calls_100 : decode cX9_calls 100 = .ok (.imul, 1) := by decide +kernel
theorem dX9_calls_101 : decode cX9_calls 101 = .ok (.iload 7, 2) := by decide +kernel
theorem dX9_calls_103 : decode cX9_calls 103 = .ok (.iadd, 1) := by decide +kernel
theorem dX9_calls_104 : decode cX9_calls 104 = .ok (.iaload, 1) := by decide +kernel
theorem dX9_calls_105 : decode cX9_calls 105 = .ok (.iload_n 1, 1) := by decide +kernel
theorem dX9_calls_106 : decode cX9_calls 106 = .ok (.if_icmp .ne 7, 3) := by decide +kernel
theorem dX9_calls_109 : decode cX9_calls 109 = .ok (.iconst 1, 1) := by decide +kernel
theorem dX9_calls_110 : decode cX9_calls 110 = .ok (.goto 4, 3) := by decide +kernel
theorem dX9_calls_113 : decode cX9_calls 113 = .ok (.iconst 0, 1) := by decide +kernel
theorem dX9_calls_114 : decode cX9_calls 114 = .ok (.istore 5, 2) := by decide +kernel
theorem dX9_calls_116 : decode cX9_calls 116 = .ok (.iinc 7 1, 3) := by decide +kernel
theorem dX9_calls_119 : decode cX9_calls 119 = .ok (.goto (-43), 3) := by decide +kernel
theorem dX9_calls_122 : decode cX9_calls 122 = .ok (.iinc 6 1, 3) := by decide +kernel
theorem dX9_calls_125 : decode cX9_calls 125 = .ok (.goto (-61), 3) := by decide +kernel
theorem dX9_calls_128 : decode cX9_calls 128 = .ok (.aload_n 0, 1) := by decide +kernel
theorem dX9_calls_129 : decode cX9_calls 129 = .ok (.getfield 28, 3) := by decide +kernel
theorem dX9_calls_132 : decode cX9_calls 132 = .ok (.iload_n 1, 1) := by decide +kernel
theorem dX9_calls_133 : decode cX9_calls 133 = .ok (.iaload, 1) := by decide +kernel
theorem dX9_calls_134 : decode cX9_calls 134 = .ok (.bipush 6, 2) := by decide +kernel
theorem dX9_calls_136 : decode cX9_calls 136 = .ok (.if_icmp .eq 8, 3) := by decide +kernel
theorem dX9_calls_139 : decode cX9_calls 139 = .ok (.iload 5, 2) := by decide +kernel
theorem dX9_calls_141 : decode cX9_calls 141 = .ok (.ifCond .eq 9, 3) := by decide +kernel
theorem dX9_calls_144 : decode cX9_calls 144 = .ok (.aload_n 0, 1) := by decide +kernel
theorem dX9_calls_145 : decode cX9_calls 145 = .ok (.iconst 3, 1) := by decide +kernel
theorem dX9_calls_146 : decode cX9_calls 146 = .ok (.invokevirtual 142, 3) := by decide +kernel
theorem dX9_calls_149 : decode cX9_calls 149 = .ok (.ireturn, 1) := by decide +kernel
theorem dX9_calls_150 : decode cX9_calls 150 = .ok (.bipush 6, 2) := by decide +kernel
theorem dX9_calls_152 : decode cX9_calls 152 = .ok (.iload_n 1, 1) := by decide +kernel
theorem dX9_calls_153 : decode cX9_calls 153 = .ok (.imul, 1) := by decide +kernel
theorem dX9_calls_154 : decode cX9_calls 154 = .ok (.aload_n 0, 1) := by decide +kernel
theorem dX9_calls_155 : decode cX9_calls 155 = .ok (.getfield 28, 3) := by decide +kernel
theorem dX9_calls_158 : decode cX9_calls 158 = .ok (.iload_n 1, 1) := by decide +kernel
theorem dX9_calls_159 : decode cX9_calls 159 = .ok (.iaload, 1) := by decide +kernel
theorem dX9_calls_160 : decode cX9_calls 160 = .ok (.iadd, 1) := by decide +kernel
theorem dX9_calls_161 : decode cX9_calls 161 = .ok (.istore 6, 2) := by decide +kernel
theorem dX9_calls_163 : decode cX9_calls 163 = .ok (.aload_n 0, 1) := by decide +kernel
theorem dX9_calls_164 : decode cX9_calls 164 = .ok (.getfield 31, 3) := by decide +kernel
theorem dX9_calls_167 : decode cX9_calls 167 = .ok (.iload 6, 2) := by decide +kernel
theorem dX9_calls_169 : decode cX9_calls 169 = .ok (.iload_n 2, 1) := by decide +kernel
theorem dX9_calls_170 : decode cX9_calls 170 = .ok (.iastore, 1) := by decide +kernel
theorem dX9_calls_171 : decode cX9_calls 171 = .ok (.aload_n 0, 1) := by decide +kernel
theorem dX9_calls_172 : decode cX9_calls 172 = .ok (.getfield 34, 3) := by decide +kernel
theorem dX9_calls_175 : decode cX9_calls 175 = .ok (.iload 6, 2) := by decide +kernel
theorem dX9_calls_177 : decode cX9_calls 177 = .ok (.aload_n 0, 1) := by decide +kernel
theorem dX9_calls_178 : decode cX9_calls 178 = .ok (.getfield 37, 3) := by decide +kernel
theorem dX9_calls_181 : decode cX9_calls 181 = .ok (.iload 6, 2) := by decide +kernel
theorem dX9_calls_183 : decode cX9_calls 183 = .ok (.iconst 1, 1) := by decide +kernel
theorem dX9_calls_184 : decode cX9_calls 184 = .ok (.isub, 1) := by decide +kernel
theorem dX9_calls_185 : decode cX9_calls 185 = .ok (.iaload, 1) := by decide +kernel
theorem dX9_calls_186 : decode cX9_calls 186 = .ok (.iload_n 3, 1) := by decide +kernel
theorem dX9_calls_187 : decode cX9_calls 187 = .ok (.iadd, 1) := by decide +kernel
theorem dX9_calls_188 : decode cX9_calls 188 = .ok (.iastore, 1) := by decide +kernel
theorem dX9_calls_189 : decode cX9_calls 189 = .ok (.aload_n 0, 1) := by decide +kernel
theorem dX9_calls_190 : decode cX9_calls 190 = .ok (.getfield 37, 3) := by decide +kernel
theorem dX9_calls_193 : decode cX9_calls 193 = .ok (.iload 6, 2) := by decide +kernel
theorem dX9_calls_195 : decode cX9_calls 195 = .ok (.aload_n 0, 1) := by decide +kernel
theorem dX9_calls_196 : decode cX9_calls 196 = .ok (.getfield 34, 3) := by decide +kernel
theorem dX9_calls_199 : decode cX9_calls 199 = .ok (.iload 6, 2) := by decide +kernel
theorem dX9_calls_201 : decode cX9_calls 201 = .ok (.iaload, 1) := by decide +kernel
theorem dX9_calls_202 : decode cX9_calls 202 = .ok (.iload 4, 2) := by decide +kernel
theorem dX9_calls_204 : decode cX9_calls 204 = .ok (.iadd, 1) := by decide +kernel
theorem dX9_calls_205 : decode cX9_calls 205 = .ok (.iastore, 1) := by decide +kernel
theorem dX9_calls_206 : decode cX9_calls 206 = .ok (.aload_n 0, 1) := by decide +kernel
theorem dX9_calls_207 : decode cX9_calls 207 = .ok (.getfield 28, 3) := by decide +kernel
theorem dX9_calls_210 : decode cX9_calls 210 = .ok (.iload_n 1, 1) := by decide +kernel
theorem dX9_calls_211 : decode cX9_calls 211 = .ok (.dup2, 1) := by decide +kernel
theorem dX9_calls_212 : decode cX9_calls 212 = .ok (.iaload, 1) := by decide +kernel
theorem dX9_calls_213 : decode cX9_calls 213 = .ok (.iconst 1, 1) := by decide +kernel
theorem dX9_calls_214 : decode cX9_calls 214 = .ok (.iadd, 1) := by decide +kernel
theorem dX9_calls_215 : decode cX9_calls 215 = .ok (.iastore, 1) := by decide +kernel
theorem dX9_calls_216 : decode cX9_calls 216 = .ok (.aload_n 0, 1) := by decide +kernel
theorem dX9_calls_217 : decode cX9_calls 217 = .ok (.getfield 28, 3) := by decide +kernel
theorem dX9_calls_220 : decode cX9_calls 220 = .ok (.iload_n 1, 1) := by decide +kernel
theorem dX9_calls_221 : decode cX9_calls 221 = .ok (.iaload, 1) := by decide +kernel
theorem dX9_calls_222 : decode cX9_calls 222 = .ok (.ireturn, 1) := by decide +kernel
theorem dX9_isRun_0 : decode cX9_isRun 0 = .ok (.aload_n 0, 1) := by decide +kernel
theorem dX9_isRun_1 : decode cX9_isRun 1 = .ok (.getfield 40, 3) := by decide +kernel
theorem dX9_isRun_4 : decode cX9_isRun 4 = .ok (.bipush 100, 2) := by decide +kernel
theorem dX9_isRun_6 : decode cX9_isRun 6 = .ok (.iload_n 1, 1) := by decide +kernel
theorem dX9_isRun_7 : decode cX9_isRun 7 = .ok (.imul, 1) := by decide +kernel
theorem dX9_isRun_8 : decode cX9_isRun 8 = .ok (.iload_n 2, 1) := by decide +kernel
theorem dX9_isRun_9 : decode cX9_isRun 9 = .ok (.iadd, 1) := by decide +kernel
theorem dX9_isRun_10 : decode cX9_isRun 10 = .ok (.iaload, 1) := by decide +kernel
theorem dX9_isRun_11 : decode cX9_isRun 11 = .ok (.istore_n 3, 1) := by decide +kernel
theorem dX9_isRun_12 : decode cX9_isRun 12 = .ok (.iload_n 3, 1) := by decide +kernel
theorem dX9_isRun_13 : decode cX9_isRun 13 = .ok (.ifCond .ne 28, 3) := by decide +kernel
theorem dX9_isRun_16 : decode cX9_isRun 16 = .ok (.aload_n 0, 1) := by decide +kernel
theorem dX9_isRun_17 : decode cX9_isRun 17 = .ok (.getfield 25, 3) := by decide +kernel
theorem dX9_isRun_20 : decode cX9_isRun 20 = .ok (.iload_n 1, 1) := by decide +kernel
theorem dX9_isRun_21 : decode cX9_isRun 21 = .ok (.iaload, 1) := by decide +kernel
theorem dX9_isRun_22 : decode cX9_isRun 22 = .ok (.iload_n 2, 1) := by decide +kernel
theorem dX9_isRun_23 : decode cX9_isRun 23 = .ok (.bipush 7, 2) := by decide +kernel
theorem dX9_isRun_25 : decode cX9_isRun 25 = .ok (.irem, 1) := by decide +kernel
theorem dX9_isRun_26 : decode cX9_isRun 26 = .ok (.ishr, 1) := by decide +kernel
theorem dX9_isRun_27 : decode cX9_isRun 27 = .ok (.iconst 1, 1) := by decide +kernel
theorem dX9_isRun_28 : decode cX9_isRun 28 = .ok (.iand, 1) := by decide +kernel
theorem dX9_isRun_29 : decode cX9_isRun 29 = .ok (.iconst 1, 1) := by decide +kernel
theorem dX9_isRun_30 : decode cX9_isRun 30 = .ok (.if_icmp .ne 7, 3) := by decide +kernel
theorem dX9_isRun_33 : decode cX9_isRun 33 = .ok (.iconst 1, 1) := by decide +kernel
theorem dX9_isRun_34 : decode cX9_isRun 34 = .ok (.goto 17, 3) := by decide +kernel
theorem dX9_isRun_37 : decode cX9_isRun 37 = .ok (.iconst 0, 1) := by decide +kernel
theorem dX9_isRun_38 : decode cX9_isRun 38 = .ok (.goto 13, 3) := by decide +kernel
theorem dX9_isRun_41 : decode cX9_isRun 41 = .ok (.iload_n 3, 1) := by decide +kernel
theorem dX9_isRun_42 : decode cX9_isRun 42 = .ok (.iconst 1, 1) := by decide +kernel
theorem dX9_isRun_43 : decode cX9_isRun 43 = .ok (.if_icmp .ne 7, 3) := by decide +kernel
theorem dX9_isRun_46 : decode cX9_isRun 46 = .ok (.iconst 1, 1) := by decide +kernel
theorem dX9_isRun_47 : decode cX9_isRun 47 = .ok (.goto 4, 3) := by decide +kernel
theorem dX9_isRun_50 : decode cX9_isRun 50 = .ok (.iconst 0, 1) := by decide +kernel
theorem dX9_isRun_51 : decode cX9_isRun 51 = .ok (.ireturn, 1) := by decide +kernel
theorem dX9_runs_0 : decode cX9_runs 0 = .ok (.aload_n 0, 1) := by decide +kernel
theorem dX9_runs_1 : decode cX9_runs 1 = .ok (.aload_n 0, 1) := by decide +kernel
theorem dX9_runs_2 : decode cX9_runs 2 = .ok (.iload_n 1, 1) := by decide +kernel
theorem dX9_runs_3 : decode cX9_runs 3 = .ok (.invokevirtual 153, 3) := by decide +kernel
theorem dX9_runs_6 : decode cX9_runs 6 = .ok (.invokevirtual 138, 3) := by decide +kernel
theorem dX9_runs_9 : decode cX9_runs 9 = .ok (.ifCond .ne 5, 3) := by decide +kernel
theorem dX9_runs_12 : decode cX9_runs 12 = .ok (.iconst 0, 1) := by decide +kernel
theorem dX9_runs_13 : decode cX9_runs 13 = .ok (.ireturn, 1) := by decide +kernel
theorem dX9_runs_14 : decode cX9_runs 14 = .ok (.iload_n 2, 1) := by decide +kernel
theorem dX9_runs_15 : decode cX9_runs 15 = .ok (.invokestatic 156, 3) := by decide +kernel
theorem dX9_runs_18 : decode cX9_runs 18 = .ok (.ifCond .ne 10, 3) := by decide +kernel
theorem dX9_runs_21 : decode cX9_runs 21 = .ok (.aload_n 0, 1) := by decide +kernel
theorem dX9_runs_22 : decode cX9_runs 22 = .ok (.iconst 2, 1) := by decide +kernel
theorem dX9_runs_23 : decode cX9_runs 23 = .ok (.putfield 122, 3) := by decide +kernel
theorem dX9_runs_26 : decode cX9_runs 26 = .ok (.iconst 0, 1) := by decide +kernel
theorem dX9_runs_27 : decode cX9_runs 27 = .ok (.ireturn, 1) := by decide +kernel
theorem dX9_runs_28 : decode cX9_runs 28 = .ok (.aload_n 0, 1) := by decide +kernel
theorem dX9_runs_29 : decode cX9_runs 29 = .ok (.iload_n 1, 1) := by decide +kernel
theorem dX9_runs_30 : decode cX9_runs 30 = .ok (.iload_n 2, 1) := by decide +kernel
theorem dX9_runs_31 : decode cX9_runs 31 = .ok (.invokevirtual 159, 3) := by decide +kernel
theorem dX9_runs_34 : decode cX9_runs 34 = .ok (.istore 4, 2) := by decide +kernel
theorem dX9_runs_36 : decode cX9_runs 36 = .ok (.aload_n 0, 1) := by decide +kernel
theorem dX9_runs_37 : decode cX9_runs 37 = .ok (.getfield 40, 3) := by decide +kernel
theorem dX9_runs_40 : decode cX9_runs 40 = .ok (.bipush 100, 2) := by decide +kernel
theorem dX9_runs_42 : decode cX9_runs 42 = .ok (.iload_n 1, 1) := by decide +kernel
theorem dX9_runs_43 : decode cX9_runs 43 = .ok (.imul, 1) := by decide +kernel
theorem dX9_runs_44 : decode cX9_runs 44 = .ok (.iload_n 2, 1) := by decide +kernel
theorem dX9_runs_45 : decode cX9_runs 45 = .ok (.iadd, 1) := by decide +kernel
theorem dX9_runs_46 : decode cX9_runs 46 = .ok (.iload_n 3, 1) := by decide +kernel
theorem dX9_runs_47 : decode cX9_runs 47 = .ok (.ifCond .eq 7, 3) := by decide +kernel
theorem dX9_runs_50 : decode cX9_runs 50 = .ok (.iconst 1, 1) := by decide +kernel
theorem dX9_runs_51 : decode cX9_runs 51 = .ok (.goto 4, 3) := by decide +kernel
theorem dX9_runs_54 : decode cX9_runs 54 = .ok (.iconst 2, 1) := by decide +kernel
theorem dX9_runs_55 : decode cX9_runs 55 = .ok (.iastore, 1) := by decide +kernel
theorem dX9_runs_56 : decode cX9_runs 56 = .ok (.iload 4, 2) := by decide +kernel
theorem dX9_runs_58 : decode cX9_runs 58 = .ok (.ireturn, 1) := by decide +kernel
theorem dX9_delay_0 : decode cX9_delay 0 = .ok (.aload_n 0, 1) := by decide +kernel
theorem dX9_delay_1 : decode cX9_delay 1 = .ok (.aload_n 0, 1) := by decide +kernel
theorem dX9_delay_2 : decode cX9_delay 2 = .ok (.iload_n 1, 1) := by decide +kernel
theorem dX9_delay_3 : decode cX9_delay 3 = .ok (.invokevirtual 153, 3) := by decide +kernel
theorem dX9_delay_6 : decode cX9_delay 6 = .ok (.invokevirtual 138, 3) := by decide +kernel
theorem dX9_delay_9 : decode cX9_delay 9 = .ok (.ifCond .ne 5, 3) := by decide +kernel
theorem dX9_delay_12 : decode cX9_delay 12 = .ok (.iconst 0, 1) := by decide +kernel
theorem dX9_delay_13 : decode cX9_delay 13 = .ok (.ireturn, 1) := by decide +kernel
theorem dX9_delay_14 : decode cX9_delay 14 = .ok (.iload_n 2, 1) := by decide +kernel
theorem dX9_delay_15 : decode cX9_delay 15 = .ok (.invokestatic 156, 3) := by decide +kernel
theorem dX9_delay_18 : decode cX9_delay 18 = .ok (.ifCond .eq 14, 3) := by decide +kernel
theorem dX9_delay_21 : decode cX9_delay 21 = .ok (.iload_n 3, 1) := by decide +kernel
theorem dX9_delay_22 : decode cX9_delay 22 = .ok (.iconst (-1), 1) := by decide +kernel
theorem dX9_delay_23 : decode cX9_delay 23 = .ok (.sipush 600, 3) := by decide +kernel
theorem dX9_delay_26 : decode cX9_delay 26 = .ok (.invokestatic 128, 3) := by decide +kernel
theorem dX9_delay_29 : decode cX9_delay 29 = .ok (.ifCond .ne 9, 3) := by decide +kernel
theorem dX9_delay_32 : decode cX9_delay 32 = .ok (.aload_n 0, 1) := by decide +kernel
theorem dX9_delay_33 : decode cX9_delay 33 = .ok (.iconst 2, 1) := by decide +kernel
theorem dX9_delay_34 : decode cX9_delay 34 = .ok (.invokevirtual 142, 3) := by decide +kernel
theorem dX9_delay_37 : decode cX9_delay 37 = .ok (.ireturn, 1) := by decide +kernel
theorem dX9_delay_38 : decode cX9_delay 38 = .ok (.aload_n 0, 1) := by decide +kernel
theorem dX9_delay_39 : decode cX9_delay 39 = .ok (.getfield 43, 3) := by decide +kernel
theorem dX9_delay_42 : decode cX9_delay 42 = .ok (.bipush 100, 2) := by decide +kernel
theorem dX9_delay_44 : decode cX9_delay 44 = .ok (.iload_n 1, 1) := by decide +kernel
theorem dX9_delay_45 : decode cX9_delay 45 = .ok (.imul, 1) := by decide +kernel
theorem dX9_delay_46 : decode cX9_delay 46 = .ok (.iload_n 2, 1) := by decide +kernel
theorem dX9_delay_47 : decode cX9_delay 47 = .ok (.iadd, 1) := by decide +kernel
theorem dX9_delay_48 : decode cX9_delay 48 = .ok (.iaload, 1) := by decide +kernel
theorem dX9_delay_49 : decode cX9_delay 49 = .ok (.istore 4, 2) := by decide +kernel
theorem dX9_delay_51 : decode cX9_delay 51 = .ok (.aload_n 0, 1) := by decide +kernel
theorem dX9_delay_52 : decode cX9_delay 52 = .ok (.getfield 43, 3) := by decide +kernel
theorem dX9_delay_55 : decode cX9_delay 55 = .ok (.bipush 100, 2) := by decide +kernel
theorem dX9_delay_57 : decode cX9_delay 57 = .ok (.iload_n 1, 1) := by decide +kernel
theorem dX9_delay_58 : decode cX9_delay 58 = .ok (.imul, 1) := by decide +kernel
theorem dX9_delay_59 : decode cX9_delay 59 = .ok (.iload_n 2, 1) := by decide +kernel
theorem dX9_delay_60 : decode cX9_delay 60 = .ok (.iadd, 1) := by decide +kernel
theorem dX9_delay_61 : decode cX9_delay 61 = .ok (.iload_n 3, 1) := by decide +kernel
theorem dX9_delay_62 : decode cX9_delay 62 = .ok (.iastore, 1) := by decide +kernel
theorem dX9_delay_63 : decode cX9_delay 63 = .ok (.iload 4, 2) := by decide +kernel
theorem dX9_delay_65 : decode cX9_delay 65 = .ok (.ireturn, 1) := by decide +kernel
theorem dX9_note_0 : decode cX9_note 0 = .ok (.aload_n 0, 1) := by decide +kernel
theorem dX9_note_1 : decode cX9_note 1 = .ok (.aload_n 0, 1) := by decide +kernel
theorem dX9_note_2 : decode cX9_note 2 = .ok (.iload_n 1, 1) := by decide +kernel
theorem dX9_note_3 : decode cX9_note 3 = .ok (.invokevirtual 153, 3) := by decide +kernel
theorem dX9_note_6 : decode cX9_note 6 = .ok (.invokevirtual 138, 3) := by decide +kernel
theorem dX9_note_9 : decode cX9_note 9 = .ok (.ifCond .ne 5, 3) := by decide +kernel
theorem dX9_note_12 : decode cX9_note 12 = .ok (.iconst 0, 1) := by decide +kernel
theorem dX9_note_13 : decode cX9_note 13 = .ok (.ireturn, 1) := by decide +kernel
theorem dX9_note_14 : decode cX9_note 14 = .ok (.iload_n 2, 1) := by decide +kernel
theorem dX9_note_15 : decode cX9_note 15 = .ok (.iconst 0, 1) := by decide +kernel
theorem dX9_note_16 : decode cX9_note 16 = .ok (.sipush 600, 3) := by decide +kernel
theorem dX9_note_19 : decode cX9_note 19 = .ok (.invokestatic 128, 3) := by decide +kernel
theorem dX9_note_22 : decode cX9_note 22 = .ok (.ifCond .ne 9, 3) := by decide +kernel
theorem dX9_note_25 : decode cX9_note 25 = .ok (.aload_n 0, 1) := by decide +kernel
theorem dX9_note_26 : decode cX9_note 26 = .ok (.iconst 2, 1) := by decide +kernel
theorem dX9_note_27 : decode cX9_note 27 = .ok (.invokevirtual 142, 3) := by decide +kernel
theorem dX9_note_30 : decode cX9_note 30 = .ok (.ireturn, 1) := by decide +kernel
theorem dX9_note_31 : decode cX9_note 31 = .ok (.aload_n 0, 1) := by decide +kernel
theorem dX9_note_32 : decode cX9_note 32 = .ok (.getfield 46, 3) := by decide +kernel
theorem dX9_note_35 : decode cX9_note 35 = .ok (.iload_n 1, 1) := by decide +kernel
theorem dX9_note_36 : decode cX9_note 36 = .ok (.iaload, 1) := by decide +kernel
theorem dX9_note_37 : decode cX9_note 37 = .ok (.bipush 30, 2) := by decide +kernel
theorem dX9_note_39 : decode cX9_note 39 = .ok (.if_icmp .ne 9, 3) := by decide +kernel
theorem dX9_note_42 : decode cX9_note 42 = .ok (.aload_n 0, 1) := by decide +kernel
theorem dX9_note_43 : decode cX9_note 43 = .ok (.iconst 3, 1) := by decide +kernel
theorem dX9_note_44 : decode cX9_note 44 = .ok (.invokevirtual 142, 3) := by decide +kernel
theorem dX9_note_47 : decode cX9_note 47 = .ok (.ireturn, 1) := by decide +kernel
theorem dX9_note_48 : decode cX9_note 48 = .ok (.aload_n 0, 1) := by decide +kernel
theorem dX9_note_49 : decode cX9_note 49 = .ok (.getfield 49, 3) := by decide +kernel
theorem dX9_note_52 : decode cX9_note 52 = .ok (.bipush 30, 2) := by decide +kernel
theorem dX9_note_54 : decode cX9_note 54 = .ok (.iload_n 1, 1) := by decide +kernel
theorem dX9_note_55 : decode cX9_note 55 = .ok (.imul, 1) := by decide +kernel
theorem dX9_note_56 : decode cX9_note 56 = .ok (.aload_n 0, 1) := by decide +kernel
theorem dX9_note_57 : decode cX9_note 57 = .ok (.getfield 46, 3) := by decide +kernel
theorem dX9_note_60 : decode cX9_note 60 = .ok (.iload_n 1, 1) := by decide +kernel
theorem dX9_note_61 : decode cX9_note 61 = .ok (.iaload, 1) := by decide +kernel
theorem dX9_note_62 : decode cX9_note 62 = .ok (.iadd, 1) := by decide +kernel
theorem dX9_note_63 : decode cX9_note 63 = .ok (.iload_n 2, 1) := by decide +kernel
theorem dX9_note_64 : decode cX9_note 64 = .ok (.iastore, 1) := by decide +kernel
theorem dX9_note_65 : decode cX9_note 65 = .ok (.aload_n 0, 1) := by decide +kernel
theorem dX9_note_66 : decode cX9_note 66 = .ok (.getfield 46, 3) := by decide +kernel
theorem dX9_note_69 : decode cX9_note 69 = .ok (.iload_n 1, 1) := by decide +kernel
theorem dX9_note_70 : decode cX9_note 70 = .ok (.dup2, 1) := by decide +kernel
theorem dX9_note_71 : decode cX9_note 71 = .ok (.iaload, 1) := by decide +kernel
theorem dX9_note_72 : decode cX9_note 72 = .ok (.iconst 1, 1) := by decide +kernel
theorem dX9_note_73 : decode cX9_note 73 = .ok (.iadd, 1) := by decide +kernel
theorem dX9_note_74 : decode cX9_note 74 = .ok (.iastore, 1) := by decide +kernel
theorem dX9_note_75 : decode cX9_note 75 = .ok (.aload_n 0, 1) := by decide +kernel
theorem dX9_note_76 : decode cX9_note 76 = .ok (.getfield 46, 3) := by decide +kernel
theorem dX9_note_79 : decode cX9_note 79 = .ok (.iload_n 1, 1) := by decide +kernel
theorem dX9_note_80 : decode cX9_note 80 = .ok (.iaload, 1) := by decide +kernel
theorem dX9_note_81 : decode cX9_note 81 = .ok (.ireturn, 1) := by decide +kernel
theorem dX9_prices_0 : decode cX9_prices 0 = .ok (.aload_n 0, 1) := by decide +kernel
theorem dX9_prices_1 : decode cX9_prices 1 = .ok (.iload_n 1, 1) := by decide +kernel
theorem dX9_prices_2 : decode cX9_prices 2 = .ok (.invokestatic 150, 3) := by decide +kernel
theorem dX9_prices_5 : decode cX9_prices 5 = .ok (.invokevirtual 138, 3) := by decide +kernel
theorem dX9_prices_8 : decode cX9_prices 8 = .ok (.ifCond .ne 4, 3) := by decide +kernel
theorem dX9_prices_11 : decode cX9_prices 11 = .ok (.return_, 1) := by decide +kernel
theorem dX9_prices_12 : decode cX9_prices 12 = .ok (.iload_n 2, 1) := by decide +kernel
theorem dX9_prices_13 : decode cX9_prices 13 = .ok (.iconst 0, 1) := by decide +kernel
theorem dX9_prices_14 : decode cX9_prices 14 = .ok (.sipush 10000, 3) := by decide +kernel
theorem dX9_prices_17 : decode cX9_prices 17 = .ok (.invokestatic 128, 3) := by decide +kernel
theorem dX9_prices_20 : decode cX9_prices 20 = .ok (.ifCond .eq 26, 3) := by decide +kernel
theorem dX9_prices_23 : decode cX9_prices 23 = .ok (.iload_n 3, 1) := by decide +kernel
theorem dX9_prices_24 : decode cX9_prices 24 = .ok (.iconst 0, 1) := by decide +kernel
theorem dX9_prices_25 : decode cX9_prices 25 = .ok (.sipush 1000, 3) := by decide +kernel
theorem dX9_prices_28 : decode cX9_prices 28 = .ok (.invokestatic 128, 3) := by decide +kernel
theorem dX9_prices_31 : decode cX9_prices 31 = .ok (.ifCond .eq 15, 3) := by decide +kernel
theorem dX9_prices_34 : decode cX9_prices 34 = .ok (.iload 4, 2) := by decide +kernel
theorem dX9_prices_36 : decode cX9_prices 36 = .ok (.iconst 0, 1) := by decide +kernel
theorem dX9_prices_37 : decode cX9_prices 37 = .ok (.sipush 10000, 3) := by decide +kernel
theorem dX9_prices_40 : decode cX9_prices 40 = .ok (.invokestatic 128, 3) := by decide +kernel
theorem dX9_prices_43 : decode cX9_prices 43 = .ok (.ifCond .ne 9, 3) := by decide +kernel
theorem dX9_prices_46 : decode cX9_prices 46 = .ok (.aload_n 0, 1) := by decide +kernel
theorem dX9_prices_47 : decode cX9_prices 47 = .ok (.iconst 2, 1) := by decide +kernel
theorem dX9_prices_48 : decode cX9_prices 48 = .ok (.putfield 122, 3) := by decide +kernel
theorem dX9_prices_51 : decode cX9_prices 51 = .ok (.return_, 1) := by decide +kernel
theorem dX9_prices_52 : decode cX9_prices 52 = .ok (.aload_n 0, 1) := by decide +kernel
theorem dX9_prices_53 : decode cX9_prices 53 = .ok (.getfield 52, 3) := by decide +kernel
theorem dX9_prices_56 : decode cX9_prices 56 = .ok (.iload_n 1, 1) := by decide +kernel
theorem dX9_prices_57 : decode cX9_prices 57 = .ok (.iload_n 2, 1) := by decide +kernel
theorem dX9_prices_58 : decode cX9_prices 58 = .ok (.iastore, 1) := by decide +kernel
theorem dX9_prices_59 : decode cX9_prices 59 = .ok (.aload_n 0, 1) := by decide +kernel
theorem dX9_prices_60 : decode cX9_prices 60 = .ok (.getfield 55, 3) := by decide +kernel
theorem dX9_prices_63 : decode cX9_prices 63 = .ok (.iload_n 1, 1) := by decide +kernel
theorem dX9_prices_64 : decode cX9_prices 64 = .ok (.iload_n 3, 1) := by decide +kernel
theorem dX9_prices_65 : decode cX9_prices 65 = .ok (.iastore, 1) := by decide +kernel
theorem dX9_prices_66 : decode cX9_prices 66 = .ok (.aload_n 0, 1) := by decide +kernel
theorem dX9_prices_67 : decode cX9_prices 67 = .ok (.getfield 58, 3) := by decide +kernel
theorem dX9_prices_70 : decode cX9_prices 70 = .ok (.iload_n 1, 1) := by decide +kernel
theorem dX9_prices_71 : decode cX9_prices 71 = .ok (.iload 4, 2) := by decide +kernel
theorem dX9_prices_73 : decode cX9_prices 73 = .ok (.iastore, 1) := by decide +kernel
theorem dX9_prices_74 : decode cX9_prices 74 = .ok (.return_, 1) := by decide +kernel
theorem dX9_goes_0 : decode cX9_goes 0 = .ok (.aload_n 0, 1) := by decide +kernel
theorem dX9_goes_1 : decode cX9_goes 1 = .ok (.iload_n 1, 1) := by decide +kernel
theorem dX9_goes_2 : decode cX9_goes 2 = .ok (.iload_n 2, 1) := by decide +kernel
theorem dX9_goes_3 : decode cX9_goes 3 = .ok (.invokevirtual 159, 3) := by decide +kernel
theorem dX9_goes_6 : decode cX9_goes 6 = .ok (.ifCond .eq 22, 3) := by decide +kernel
theorem dX9_goes_9 : decode cX9_goes 9 = .ok (.aload_n 0, 1) := by decide +kernel
theorem dX9_goes_10 : decode cX9_goes 10 = .ok (.getfield 43, 3) := by decide +kernel
theorem dX9_goes_13 : decode cX9_goes 13 = .ok (.bipush 100, 2) := by decide +kernel
theorem dX9_goes_15 : decode cX9_goes 15 = .ok (.iload_n 1, 1) := by decide +kernel
theorem dX9_goes_16 : decode cX9_goes 16 = .ok (.imul, 1) := by decide +kernel
theorem dX9_goes_17 : decode cX9_goes 17 = .ok (.iload_n 2, 1) := by decide +kernel
theorem dX9_goes_18 : decode cX9_goes 18 = .ok (.iadd, 1) := by decide +kernel
theorem dX9_goes_19 : decode cX9_goes 19 = .ok (.iaload, 1) := by decide +kernel
theorem dX9_goes_20 : decode cX9_goes 20 = .ok (.iconst (-1), 1) := by decide +kernel
theorem dX9_goes_21 : decode cX9_goes 21 = .ok (.if_icmp .eq 7, 3) := by decide +kernel
theorem dX9_goes_24 : decode cX9_goes 24 = .ok (.iconst 1, 1) := by decide +kernel
theorem dX9_goes_25 : decode cX9_goes 25 = .ok (.goto 4, 3) := by decide +kernel
theorem dX9_goes_28 : decode cX9_goes 28 = .ok (.iconst 0, 1) := by decide +kernel
theorem dX9_goes_29 : decode cX9_goes 29 = .ok (.ireturn, 1) := by decide +kernel
theorem dX9_departure_0 : decode cX9_departure 0 = .ok (.sipush 1440, 3) := by decide +kernel
theorem dX9_departure_3 : decode cX9_departure 3 = .ok (.iload_n 2, 1) := by decide +kernel
theorem dX9_departure_4 : decode cX9_departure 4 = .ok (.imul, 1) := by decide +kernel
theorem dX9_departure_5 : decode cX9_departure 5 = .ok (.aload_n 0, 1) := by decide +kernel
theorem dX9_departure_6 : decode cX9_departure 6 = .ok (.getfield 37, 3) := by decide +kernel
theorem dX9_departure_9 : decode cX9_departure 9 = .ok (.bipush 6, 2) := by decide +kernel
theorem dX9_departure_11 : decode cX9_departure 11 = .ok (.iload_n 1, 1) := by decide +kernel
theorem dX9_departure_12 : decode cX9_departure 12 = .ok (.imul, 1) := by decide +kernel
theorem dX9_departure_13 : decode cX9_departure 13 = .ok (.iload_n 3, 1) := by decide +kernel
theorem dX9_departure_14 : decode cX9_departure 14 = .ok (.iadd, 1) := by decide +kernel
theorem dX9_departure_15 : decode cX9_departure 15 = .ok (.iaload, 1) := by decide +kernel
theorem dX9_departure_16 : decode cX9_departure 16 = .ok (.iadd, 1) := by decide +kernel
theorem dX9_departure_17 : decode cX9_departure 17 = .ok (.aload_n 0, 1) := by decide +kernel
theorem dX9_departure_18 : decode cX9_departure 18 = .ok (.getfield 43, 3) := by decide +kernel
theorem dX9_departure_21 : decode cX9_departure 21 = .ok (.bipush 100, 2) := by decide +kernel
theorem dX9_departure_23 : decode cX9_departure 23 = .ok (.iload_n 1, 1) := by decide +kernel
theorem dX9_departure_24 : decode cX9_departure 24 = .ok (.imul, 1) := by decide +kernel
theorem dX9_departure_25 : decode cX9_departure 25 = .ok (.iload_n 2, 1) := by decide +kernel
theorem dX9_departure_26 : decode cX9_departure 26 = .ok (.iadd, 1) := by decide +kernel
theorem dX9_departure_27 : decode cX9_departure 27 = .ok (.iaload, 1) := by decide +kernel
theorem dX9_departure_28 : decode cX9_departure 28 = .ok (.iadd, 1) := by decide +kernel
theorem dX9_departure_29 : decode cX9_departure 29 = .ok (.ireturn, 1) := by decide +kernel
theorem dX9_arrivalOf_0 : decode cX9_arrivalOf 0 = .ok (.sipush 1440, 3) := by decide +kernel
theorem dX9_arrivalOf_3 : decode cX9_arrivalOf 3 = .ok (.iload_n 2, 1) := by decide +kernel
theorem dX9_arrivalOf_4 : decode cX9_arrivalOf 4 = .ok (.imul, 1) := by decide +kernel
theorem dX9_arrivalOf_5 : decode cX9_arrivalOf 5 = .ok (.aload_n 0, 1) := by decide +kernel
theorem dX9_arrivalOf_6 : decode cX9_arrivalOf 6 = .ok (.getfield 34, 3) := by decide +kernel
theorem dX9_arrivalOf_9 : decode cX9_arrivalOf 9 = .ok (.bipush 6, 2) := by decide +kernel
theorem dX9_arrivalOf_11 : decode cX9_arrivalOf 11 = .ok (.iload_n 1, 1) := by decide +kernel
theorem dX9_arrivalOf_12 : decode cX9_arrivalOf 12 = .ok (.imul, 1) := by decide +kernel
theorem dX9_arrivalOf_13 : decode cX9_arrivalOf 13 = .ok (.iload_n 3, 1) := by decide +kernel
theorem dX9_arrivalOf_14 : decode cX9_arrivalOf 14 = .ok (.iadd, 1) := by decide +kernel
theorem dX9_arrivalOf_15 : decode cX9_arrivalOf 15 = .ok (.iaload, 1) := by decide +kernel
theorem dX9_arrivalOf_16 : decode cX9_arrivalOf 16 = .ok (.iadd, 1) := by decide +kernel
theorem dX9_arrivalOf_17 : decode cX9_arrivalOf 17 = .ok (.aload_n 0, 1) := by decide +kernel
theorem dX9_arrivalOf_18 : decode cX9_arrivalOf 18 = .ok (.getfield 43, 3) := by decide +kernel
theorem dX9_arrivalOf_21 : decode cX9_arrivalOf 21 = .ok (.bipush 100, 2) := by decide +kernel
theorem dX9_arrivalOf_23 : decode cX9_arrivalOf 23 = .ok (.iload_n 1, 1) := by decide +kernel
theorem dX9_arrivalOf_24 : decode cX9_arrivalOf 24 = .ok (.imul, 1) := by decide +kernel
theorem dX9_arrivalOf_25 : decode cX9_arrivalOf 25 = .ok (.iload_n 2, 1) := by decide +kernel
theorem dX9_arrivalOf_26 : decode cX9_arrivalOf 26 = .ok (.iadd, 1) := by decide +kernel
theorem dX9_arrivalOf_27 : decode cX9_arrivalOf 27 = .ok (.iaload, 1) := by decide +kernel
theorem dX9_arrivalOf_28 : decode cX9_arrivalOf 28 = .ok (.iadd, 1) := by decide +kernel
theorem dX9_arrivalOf_29 : decode cX9_arrivalOf 29 = .ok (.ireturn, 1) := by decide +kernel
theorem dX9_isLooked_0 : decode cX9_isLooked 0 = .ok (.iload_n 2, 1) := by decide +kernel
theorem dX9_isLooked_1 : decode cX9_isLooked 1 = .ok (.invokestatic 156, 3) := by decide +kernel
theorem dX9_isLooked_4 : decode cX9_isLooked 4 = .ok (.ifCond .eq 43, 3) := by decide +kernel
theorem dX9_isLooked_7 : decode cX9_isLooked 7 = .ok (.iload_n 2, 1) := by decide +kernel
theorem dX9_isLooked_8 : decode cX9_isLooked 8 = .ok (.aload_n 0, 1) := by decide +kernel
theorem dX9_isLooked_9 : decode cX9_isLooked 9 = .ok (.getfield 163, 3) := by decide +kernel
theorem dX9_isLooked_12 : decode cX9_isLooked 12 = .ok (.sipush 1440, 3) := by decide +kernel
theorem dX9_isLooked_15 : decode cX9_isLooked 15 = .ok (.idiv, 1) := by decide +kernel
theorem dX9_isLooked_16 : decode cX9_isLooked 16 = .ok (.iconst 1, 1) := by decide +kernel
theorem dX9_isLooked_17 : decode cX9_isLooked 17 = .ok (.isub, 1) := by decide +kernel
theorem dX9_isLooked_18 : decode cX9_isLooked 18 = .ok (.aload_n 0, 1) := by decide +kernel
theorem dX9_isLooked_19 : decode cX9_isLooked 19 = .ok (.getfield 163, 3) := by decide +kernel
theorem dX9_isLooked_22 : decode cX9_isLooked 22 = .ok (.sipush 1440, 3) := by decide +kernel
theorem dX9_isLooked_25 : decode cX9_isLooked 25 = .ok (.idiv, 1) := by decide +kernel
theorem dX9_isLooked_26 : decode cX9_isLooked 26 = .ok (.iconst 1, 1) := by decide +kernel
theorem dX9_isLooked_27 : decode cX9_isLooked 27 = .ok (.iadd, 1) := by decide +kernel
theorem dX9_isLooked_28 : decode cX9_isLooked 28 = .ok (.invokestatic 128, 3) := by decide +kernel
theorem dX9_isLooked_31 : decode cX9_isLooked 31 = .ok (.ifCond .eq 16, 3) := by decide +kernel
theorem dX9_isLooked_34 : decode cX9_isLooked 34 = .ok (.aload_n 0, 1) := by decide +kernel
theorem dX9_isLooked_35 : decode cX9_isLooked 35 = .ok (.iload_n 1, 1) := by decide +kernel
theorem dX9_isLooked_36 : decode cX9_isLooked 36 = .ok (.iload_n 2, 1) := by decide +kernel
theorem dX9_isLooked_37 : decode cX9_isLooked 37 = .ok (.invokevirtual 166, 3) := by decide +kernel
theorem dX9_isLooked_40 : decode cX9_isLooked 40 = .ok (.ifCond .eq 7, 3) := by decide +kernel
theorem dX9_isLooked_43 : decode cX9_isLooked 43 = .ok (.iconst 1, 1) := by decide +kernel
theorem dX9_isLooked_44 : decode cX9_isLooked 44 = .ok (.goto 4, 3) := by decide +kernel
theorem dX9_isLooked_47 : decode cX9_isLooked 47 = .ok (.iconst 0, 1) := by decide +kernel
theorem dX9_isLooked_48 : decode cX9_isLooked 48 = .ok (.ireturn, 1) := by decide +kernel
theorem dX9_rides_0 : decode cX9_rides 0 = .ok (.iconst 0, 1) := by decide +kernel
theorem dX9_rides_1 : decode cX9_rides 1 = .ok (.istore 4, 2) := by decide +kernel
theorem dX9_rides_3 : decode cX9_rides 3 = .ok (.iload 4, 2) := by decide +kernel
theorem dX9_rides_5 : decode cX9_rides 5 = .ok (.aload_n 0, 1) := by decide +kernel
theorem dX9_rides_6 : decode cX9_rides 6 = .ok (.getfield 28, 3) := by decide +kernel
theorem dX9_rides_9 : decode cX9_rides 9 = .ok (.iload_n 2, 1) := by decide +kernel
theorem dX9_rides_10 : decode cX9_rides 10 = .ok (.iaload, 1) := by decide +kernel
theorem dX9_rides_11 : decode cX9_rides 11 = .ok (.if_icmp .ge 143, 3) := by decide +kernel
theorem dX9_rides_14 : decode cX9_rides 14 = .ok (.aload_n 0, 1) := by decide +kernel
theorem dX9_rides_15 : decode cX9_rides 15 = .ok (.getfield 31, 3) := by decide +kernel
theorem dX9_rides_18 : decode cX9_rides 18 = .ok (.bipush 6, 2) := by decide +kernel
theorem dX9_rides_20 : decode cX9_rides 20 = .ok (.iload_n 2, 1) := by decide +kernel
theorem dX9_rides_21 : decode cX9_rides 21 = .ok (.imul, 1) := by decide +kernel
theorem dX9_rides_22 : decode cX9_rides 22 = .ok (.iload 4, 2) := by decide +kernel
theorem dX9_rides_24 : decode cX9_rides 24 = .ok (.iadd, 1) := by decide +kernel
theorem dX9_rides_25 : decode cX9_rides 25 = .ok (.iaload, 1) := by decide +kernel
theorem dX9_rides_26 : decode cX9_rides 26 = .ok (.istore 5, 2) := by decide +kernel
theorem dX9_rides_28 : decode cX9_rides 28 = .ok (.aload_n 0, 1) := by decide +kernel
theorem dX9_rides_29 : decode cX9_rides 29 = .ok (.iload_n 2, 1) := by decide +kernel
theorem dX9_rides_30 : decode cX9_rides 30 = .ok (.iload_n 3, 1) := by decide +kernel
theorem dX9_rides_31 : decode cX9_rides 31 = .ok (.iload 4, 2) := by decide +kernel
theorem dX9_rides_33 : decode cX9_rides 33 = .ok (.invokevirtual 169, 3) := by decide +kernel
theorem dX9_rides_36 : decode cX9_rides 36 = .ok (.aload_n 0, 1) := by decide +kernel
theorem dX9_rides_37 : decode cX9_rides 37 = .ok (.getfield 64, 3) := by decide +kernel
theorem dX9_rides_40 : decode cX9_rides 40 = .ok (.bipush 10, 2) := by decide +kernel
theorem dX9_rides_42 : decode cX9_rides 42 = .ok (.iload_n 1, 1) := by decide +kernel
theorem dX9_rides_43 : decode cX9_rides 43 = .ok (.iconst 1, 1) := by decide +kernel
theorem dX9_rides_44 : decode cX9_rides 44 = .ok (.isub, 1) := by decide +kernel
theorem dX9_rides_45 : decode cX9_rides 45 = .ok (.imul, 1) := by decide +kernel
theorem dX9_rides_46 : decode cX9_rides 46 = .ok (.iload 5, 2) := by decide +kernel
theorem dX9_rides_48 : decode cX9_rides 48 = .ok (.iadd, 1) := by decide +kernel
theorem dX9_rides_49 : decode cX9_rides 49 = .ok (.iaload, 1) := by decide +kernel
theorem dX9_rides_50 : decode cX9_rides 50 = .ok (.if_icmp .lt 7, 3) := by decide +kernel
theorem dX9_rides_53 : decode cX9_rides 53 = .ok (.iconst 1, 1) := by decide +kernel
theorem dX9_rides_54 : decode cX9_rides 54 = .ok (.goto 4, 3) := by decide +kernel
theorem dX9_rides_57 : decode cX9_rides 57 = .ok (.iconst 0, 1) := by decide +kernel
theorem dX9_rides_58 : decode cX9_rides 58 = .ok (.istore 6, 2) := by decide +kernel
theorem dX9_rides_60 : decode cX9_rides 60 = .ok (.iload 4, 2) := by decide +kernel
theorem dX9_rides_62 : decode cX9_rides 62 = .ok (.iconst 1, 1) := by decide +kernel
theorem dX9_rides_63 : decode cX9_rides 63 = .ok (.iadd, 1) := by decide +kernel
theorem dX9_rides_64 : decode cX9_rides 64 = .ok (.istore 7, 2) := by decide +kernel
theorem dX9_rides_66 : decode cX9_rides 66 = .ok (.iload 7, 2) := by decide +kernel
theorem dX9_rides_68 : decode cX9_rides 68 = .ok (.aload_n 0, 1) := by decide +kernel
theorem dX9_rides_69 : decode cX9_rides 69 = .ok (.getfield 28, 3) := by decide +kernel
theorem dX9_rides_72 : decode cX9_rides 72 = .ok (.iload_n 2, 1) := by decide +kernel
theorem dX9_rides_73 : decode cX9_rides 73 = .ok (.iaload, 1) := by decide +kernel
theorem dX9_rides_74 : decode cX9_rides 74 = .ok (.if_icmp .ge 74, 3) := by decide +kernel
theorem dX9_rides_77 : decode cX9_rides 77 = .ok (.iload 6, 2) := by decide +kernel
theorem dX9_rides_79 : decode cX9_rides 79 = .ok (.ifCond .eq 69, 3) := by decide +kernel
theorem dX9_rides_82 : decode cX9_rides 82 = .ok (.bipush 10, 2) := by decide +kernel
theorem dX9_rides_84 : decode cX9_rides 84 = .ok (.iload_n 1, 1) := by decide +kernel
theorem dX9_rides_85 : decode cX9_rides 85 = .ok (.imul, 1) := by decide +kernel
theorem dX9_rides_86 : decode cX9_rides 86 = .ok (.aload_n 0, 1) := by decide +kernel
theorem dX9_rides_87 : decode cX9_rides 87 = .ok (.getfield 31, 3) := by decide +kernel
theorem dX9_rides_90 : decode cX9_rides 90 = .ok (.bipush 6, 2) := by decide +kernel
theorem dX9_rides_92 : decode cX9_rides 92 = .ok (.iload_n 2, 1) := by decide +kernel
theorem dX9_rides_93 : decode cX9_rides 93 = .ok (.imul, 1) := by decide +kernel
theorem dX9_rides_94 : decode cX9_rides 94 = .ok (.iload 7, 2) := by decide +kernel
theorem dX9_rides_96 : decode cX9_rides 96 = .ok (.iadd, 1) := by decide +kernel
theorem dX9_rides_97 : decode cX9_rides 97 = .ok (.iaload, 1) := by decide +kernel
theorem dX9_rides_98 : decode cX9_rides 98 = .ok (.iadd, 1) := by decide +kernel
theorem dX9_rides_99 : decode cX9_rides 99 = .ok (.istore 8, 2) := by decide +kernel
theorem dX9_rides_101 : decode cX9_rides 101 = .ok (.aload_n 0, 1) := by decide +kernel
theorem dX9_rides_102 : decode cX9_rides 102 = .ok (.iload_n 2, 1) := by decide +kernel
theorem dX9_rides_103 : decode cX9_rides 103 = .ok (.iload_n 3, 1) := by decide +kernel
theorem dX9_rides_104 : decode cX9_rides 104 = .ok (.iload 7, 2) := by decide +kernel
theorem dX9_rides_106 : decode cX9_rides 106 = .ok (.invokevirtual 173, 3) := by decide +kernel
theorem dX9_rides_109 : decode cX9_rides 109 = .ok (.istore 9, 2) := by decide +kernel
theorem dX9_rides_111 : decode cX9_rides 111 = .ok (.aload_n 0, 1) := by decide +kernel
theorem dX9_rides_112 : decode cX9_rides 112 = .ok (.getfield 61, 3) := by decide +kernel
theorem dX9_rides_115 : decode cX9_rides 115 = .ok (.iload 8, 2) := by decide +kernel
theorem dX9_rides_117 : decode cX9_rides 117 = .ok (.iload 9, 2) := by decide +kernel
theorem dX9_rides_119 : decode cX9_rides 119 = .ok (.aload_n 0, 1) := by decide +kernel
theorem dX9_rides_120 : decode cX9_rides 120 = .ok (.getfield 61, 3) := by decide +kernel
theorem dX9_rides_123 : decode cX9_rides 123 = .ok (.iload 8, 2) := by decide +kernel
theorem dX9_rides_125 : decode cX9_rides 125 = .ok (.iaload, 1) := by decide +kernel
theorem dX9_rides_126 : decode cX9_rides 126 = .ok (.if_icmp .ge 8, 3) := by decide +kernel
theorem dX9_rides_129 : decode cX9_rides 129 = .ok (.iload 9, 2) := by decide +kernel
theorem dX9_rides_131 : decode cX9_rides 131 = .ok (.goto 10, 3) := by decide +kernel
theorem dX9_rides_134 : decode cX9_rides 134 = .ok (.aload_n 0, 1) := by decide +kernel
theorem dX9_rides_135 : decode cX9_rides 135 = .ok (.getfield 61, 3) := by decide +kernel
theorem dX9_rides_138 : decode cX9_rides 138 = .ok (.iload 8, 2) := by decide +kernel
theorem dX9_rides_140 : decode cX9_rides 140 = .ok (.iaload, 1) := by decide +kernel
theorem dX9_rides_141 : decode cX9_rides 141 = .ok (.iastore, 1) := by decide +kernel
theorem dX9_rides_142 : decode cX9_rides 142 = .ok (.iinc 7 1, 3) := by decide +kernel
theorem dX9_rides_145 : decode cX9_rides 145 = .ok (.goto (-79), 3) := by decide +kernel
theorem dX9_rides_148 : decode cX9_rides 148 = .ok (.iinc 4 1, 3) := by decide +kernel
theorem dX9_rides_151 : decode cX9_rides 151 = .ok (.goto (-148), 3) := by decide +kernel
theorem dX9_rides_154 : decode cX9_rides 154 = .ok (.return_, 1) := by decide +kernel
theorem dX9_readies_0 : decode cX9_readies 0 = .ok (.iconst 0, 1) := by decide +kernel
theorem dX9_readies_1 : decode cX9_readies 1 = .ok (.istore_n 2, 1) := by decide +kernel
theorem dX9_readies_2 : decode cX9_readies 2 = .ok (.iload_n 2, 1) := by decide +kernel
theorem dX9_readies_3 : decode cX9_readies 3 = .ok (.aload_n 0, 1) := by decide +kernel
theorem dX9_readies_4 : decode cX9_readies 4 = .ok (.getfield 125, 3) := by decide +kernel
theorem dX9_readies_7 : decode cX9_readies 7 = .ok (.if_icmp .ge 118, 3) := by decide +kernel
theorem dX9_readies_10 : decode cX9_readies 10 = .ok (.aload_n 0, 1) := by decide +kernel
theorem dX9_readies_11 : decode cX9_readies 11 = .ok (.getfield 61, 3) := by decide +kernel
theorem dX9_readies_14 : decode cX9_readies 14 = .ok (.bipush 10, 2) := by decide +kernel
theorem dX9_readies_16 : decode cX9_readies 16 = .ok (.iload_n 1, 1) := by decide +kernel
theorem dX9_readies_17 : decode cX9_readies 17 = .ok (.imul, 1) := by decide +kernel
theorem dX9_readies_18 : decode cX9_readies 18 = .ok (.iload_n 2, 1) := by decide +kernel
theorem dX9_readies_19 : decode cX9_readies 19 = .ok (.iadd, 1) := by decide +kernel
theorem dX9_readies_20 : decode cX9_readies 20 = .ok (.iaload, 1) := by decide +kernel
theorem dX9_readies_21 : decode cX9_readies 21 = .ok (.aload_n 0, 1) := by decide +kernel
theorem dX9_readies_22 : decode cX9_readies 22 = .ok (.getfield 7, 3) := by decide +kernel
theorem dX9_readies_25 : decode cX9_readies 25 = .ok (.iload_n 2, 1) := by decide +kernel
theorem dX9_readies_26 : decode cX9_readies 26 = .ok (.iaload, 1) := by decide +kernel
theorem dX9_readies_27 : decode cX9_readies 27 = .ok (.iadd, 1) := by decide +kernel
theorem dX9_readies_28 : decode cX9_readies 28 = .ok (.istore_n 3, 1) := by decide +kernel
theorem dX9_readies_29 : decode cX9_readies 29 = .ok (.iconst 0, 1) := by decide +kernel
theorem dX9_readies_30 : decode cX9_readies 30 = .ok (.istore 4, 2) := by decide +kernel
theorem dX9_readies_32 : decode cX9_readies 32 = .ok (.iload 4, 2) := by decide +kernel
theorem dX9_readies_34 : decode cX9_readies 34 = .ok (.aload_n 0, 1) := by decide +kernel
theorem dX9_readies_35 : decode cX9_readies 35 = .ok (.getfield 125, 3) := by decide +kernel
theorem dX9_readies_38 : decode cX9_readies 38 = .ok (.if_icmp .ge 58, 3) := by decide +kernel
theorem dX9_readies_41 : decode cX9_readies 41 = .ok (.aload_n 0, 1) := by decide +kernel
theorem dX9_readies_42 : decode cX9_readies 42 = .ok (.getfield 13, 3) := by decide +kernel
theorem dX9_readies_45 : decode cX9_readies 45 = .ok (.bipush 10, 2) := by decide +kernel
theorem dX9_readies_47 : decode cX9_readies 47 = .ok (.iload 4, 2) := by decide +kernel
theorem dX9_readies_49 : decode cX9_readies 49 = .ok (.imul, 1) := by decide +kernel
theorem dX9_readies_50 : decode cX9_readies 50 = .ok (.iload_n 2, 1) := by decide +kernel
theorem dX9_readies_51 : decode cX9_readies 51 = .ok (.iadd, 1) := by decide +kernel
theorem dX9_readies_52 : decode cX9_readies 52 = .ok (.iaload, 1) := by decide +kernel
theorem dX9_readies_53 : decode cX9_readies 53 = .ok (.istore 5, 2) := by decide +kernel
theorem dX9_readies_55 : decode cX9_readies 55 = .ok (.aload_n 0, 1) := by decide +kernel
theorem dX9_readies_56 : decode cX9_readies 56 = .ok (.getfield 61, 3) := by decide +kernel
theorem dX9_readies_59 : decode cX9_readies 59 = .ok (.bipush 10, 2) := by decide +kernel
theorem dX9_readies_61 : decode cX9_readies 61 = .ok (.iload_n 1, 1) := by decide +kernel
theorem dX9_readies_62 : decode cX9_readies 62 = .ok (.imul, 1) := by decide +kernel
theorem dX9_readies_63 : decode cX9_readies 63 = .ok (.iload 4, 2) := by decide +kernel
theorem dX9_readies_65 : decode cX9_readies 65 = .ok (.iadd, 1) := by decide +kernel
theorem dX9_readies_66 : decode cX9_readies 66 = .ok (.iaload, 1) := by decide +kernel
theorem dX9_readies_67 : decode cX9_readies 67 = .ok (.iload 5, 2) := by decide +kernel
theorem dX9_readies_69 : decode cX9_readies 69 = .ok (.iadd, 1) := by decide +kernel
theorem dX9_readies_70 : decode cX9_readies 70 = .ok (.istore 6, 2) := by decide +kernel
theorem dX9_readies_72 : decode cX9_readies 72 = .ok (.iload 5, 2) := by decide +kernel
theorem dX9_readies_74 : decode cX9_readies 74 = .ok (.ifCond .le 14, 3) := by decide +kernel
theorem dX9_readies_77 : decode cX9_readies 77 = .ok (.iload 6, 2) := by decide +kernel
theorem dX9_readies_79 : decode cX9_readies 79 = .ok (.iload_n 3, 1) := by decide +kernel
theorem dX9_readies_80 : decode cX9_readies 80 = .ok (.if_icmp .ge 8, 3) := by decide +kernel
theorem dX9_readies_83 : decode cX9_readies 83 = .ok (.iload 6, 2) := by decide +kernel
theorem dX9_readies_85 : decode cX9_readies 85 = .ok (.goto 4, 3) := by decide +kernel
theorem dX9_readies_88 : decode cX9_readies 88 = .ok (.iload_n 3, 1) := by decide +kernel
theorem dX9_readies_89 : decode cX9_readies 89 = .ok (.istore_n 3, 1) := by decide +kernel
theorem dX9_readies_90 : decode cX9_readies 90 = .ok (.iinc 4 1, 3) := by decide +kernel
theorem dX9_readies_93 : decode cX9_readies 93 = .ok (.goto (-61), 3) := by decide +kernel
theorem dX9_readies_96 : decode cX9_readies 96 = .ok (.aload_n 0, 1) := by decide +kernel
theorem dX9_readies_97 : decode cX9_readies 97 = .ok (.getfield 64, 3) := by decide +kernel
theorem dX9_readies_100 : decode cX9_readies 100 = .ok (.bipush 10, 2) := by decide +kernel
theorem dX9_readies_102 : decode cX9_readies 102 = .ok (.iload_n 1, 1) := by decide +kernel
theorem dX9_readies_103 : decode cX9_readies 103 = .ok (.imul, 1) := by decide +kernel
theorem dX9_readies_104 : decode cX9_readies 104 = .ok (.iload_n 2, 1) := by decide +kernel
theorem dX9_readies_105 : decode cX9_readies 105 = .ok (.iadd, 1) := by decide +kernel
theorem dX9_readies_106 : decode cX9_readies 106 = .ok (.iload_n 3, 1) := by decide +kernel
theorem dX9_readies_107 : decode cX9_readies 107 = .ok (.ldc 176, 2) := by decide +kernel
theorem dX9_readies_109 : decode cX9_readies 109 = .ok (.if_icmp .ge 7, 3) := by decide +kernel
theorem dX9_readies_112 : decode cX9_readies 112 = .ok (.iload_n 3, 1) := by decide +kernel
theorem dX9_readies_113 : decode cX9_readies 113 = .ok (.goto 5, 3) := by decide +kernel
theorem dX9_readies_116 : decode cX9_readies 116 = .ok (.ldc 176, 2) := by decide +kernel
theorem dX9_readies_118 : decode cX9_readies 118 = .ok (.iastore, 1) := by decide +kernel
theorem dX9_readies_119 : decode cX9_readies 119 = .ok (.iinc 2 1, 3) := by decide +kernel
theorem dX9_readies_122 : decode cX9_readies 122 = .ok (.goto (-120), 3) := by decide +kernel
theorem dX9_readies_125 : decode cX9_readies 125 = .ok (.return_, 1) := by decide +kernel
theorem dX9_reaches_0 : decode cX9_reaches 0 = .ok (.aload_n 0, 1) := by decide +kernel
theorem dX9_reaches_1 : decode cX9_reaches 1 = .ok (.iload_n 2, 1) := by decide +kernel
theorem dX9_reaches_2 : decode cX9_reaches 2 = .ok (.putfield 163, 3) := by decide +kernel
theorem dX9_reaches_5 : decode cX9_reaches 5 = .ok (.iconst 0, 1) := by decide +kernel
theorem dX9_reaches_6 : decode cX9_reaches 6 = .ok (.istore 4, 2) := by decide +kernel
theorem dX9_reaches_8 : decode cX9_reaches 8 = .ok (.iload 4, 2) := by decide +kernel
theorem dX9_reaches_10 : decode cX9_reaches 10 = .ok (.bipush 50, 2) := by decide +kernel
theorem dX9_reaches_12 : decode cX9_reaches 12 = .ok (.if_icmp .ge 27, 3) := by decide +kernel
theorem dX9_reaches_15 : decode cX9_reaches 15 = .ok (.aload_n 0, 1) := by decide +kernel
theorem dX9_reaches_16 : decode cX9_reaches 16 = .ok (.getfield 61, 3) := by decide +kernel
theorem dX9_reaches_19 : decode cX9_reaches 19 = .ok (.iload 4, 2) := by decide +kernel
theorem dX9_reaches_21 : decode cX9_reaches 21 = .ok (.ldc 176, 2) := by decide +kernel
theorem dX9_reaches_23 : decode cX9_reaches 23 = .ok (.iastore, 1) := by decide +kernel
theorem dX9_reaches_24 : decode cX9_reaches 24 = .ok (.aload_n 0, 1) := by decide +kernel
theorem dX9_reaches_25 : decode cX9_reaches 25 = .ok (.getfield 64, 3) := by decide +kernel
theorem dX9_reaches_28 : decode cX9_reaches 28 = .ok (.iload 4, 2) := by decide +kernel
theorem dX9_reaches_30 : decode cX9_reaches 30 = .ok (.ldc 176, 2) := by decide +kernel
theorem dX9_reaches_32 : decode cX9_reaches 32 = .ok (.iastore, 1) := by decide +kernel
theorem dX9_reaches_33 : decode cX9_reaches 33 = .ok (.iinc 4 1, 3) := by decide +kernel
theorem dX9_reaches_36 : decode cX9_reaches 36 = .ok (.goto (-28), 3) := by decide +kernel
theorem dX9_reaches_39 : decode cX9_reaches 39 = .ok (.iconst 0, 1) := by decide +kernel
theorem dX9_reaches_40 : decode cX9_reaches 40 = .ok (.istore 4, 2) := by decide +kernel
theorem dX9_reaches_42 : decode cX9_reaches 42 = .ok (.iload 4, 2) := by decide +kernel
theorem dX9_reaches_44 : decode cX9_reaches 44 = .ok (.aload_n 0, 1) := by decide +kernel
theorem dX9_reaches_45 : decode cX9_reaches 45 = .ok (.getfield 125, 3) := by decide +kernel
theorem dX9_reaches_48 : decode cX9_reaches 48 = .ok (.if_icmp .ge 54, 3) := by decide +kernel
theorem dX9_reaches_51 : decode cX9_reaches 51 = .ok (.aload_n 0, 1) := by decide +kernel
theorem dX9_reaches_52 : decode cX9_reaches 52 = .ok (.getfield 13, 3) := by decide +kernel
theorem dX9_reaches_55 : decode cX9_reaches 55 = .ok (.bipush 10, 2) := by decide +kernel
theorem dX9_reaches_57 : decode cX9_reaches 57 = .ok (.iload_n 1, 1) := by decide +kernel
theorem dX9_reaches_58 : decode cX9_reaches 58 = .ok (.imul, 1) := by decide +kernel
theorem dX9_reaches_59 : decode cX9_reaches 59 = .ok (.iload 4, 2) := by decide +kernel
theorem dX9_reaches_61 : decode cX9_reaches 61 = .ok (.iadd, 1) := by decide +kernel
theorem dX9_reaches_62 : decode cX9_reaches 62 = .ok (.iaload, 1) := by decide +kernel
theorem dX9_reaches_63 : decode cX9_reaches 63 = .ok (.istore 5, 2) := by decide +kernel
theorem dX9_reaches_65 : decode cX9_reaches 65 = .ok (.aload_n 0, 1) := by decide +kernel
theorem dX9_reaches_66 : decode cX9_reaches 66 = .ok (.getfield 64, 3) := by decide +kernel
theorem dX9_reaches_69 : decode cX9_reaches 69 = .ok (.iload 4, 2) := by decide +kernel
theorem dX9_reaches_71 : decode cX9_reaches 71 = .ok (.iload 4, 2) := by decide +kernel
theorem dX9_reaches_73 : decode cX9_reaches 73 = .ok (.iload_n 1, 1) := by decide +kernel
theorem dX9_reaches_74 : decode cX9_reaches 74 = .ok (.if_icmp .ne 7, 3) := by decide +kernel
theorem dX9_reaches_77 : decode cX9_reaches 77 = .ok (.iload_n 2, 1) := by decide +kernel
theorem dX9_reaches_78 : decode cX9_reaches 78 = .ok (.goto 17, 3) := by decide +kernel
theorem dX9_reaches_81 : decode cX9_reaches 81 = .ok (.iload 5, 2) := by decide +kernel
theorem dX9_reaches_83 : decode cX9_reaches 83 = .ok (.ifCond .le 10, 3) := by decide +kernel
theorem dX9_reaches_86 : decode cX9_reaches 86 = .ok (.iload_n 2, 1) := by decide +kernel
theorem dX9_reaches_87 : decode cX9_reaches 87 = .ok (.iload 5, 2) := by decide +kernel
theorem dX9_reaches_89 : decode cX9_reaches 89 = .ok (.iadd, 1) := by decide +kernel
theorem dX9_reaches_90 : decode cX9_reaches 90 = .ok (.goto 5, 3) := by decide +kernel
theorem dX9_reaches_93 : decode cX9_reaches 93 = .ok (.ldc 176, 2) := by decide +kernel
theorem dX9_reaches_95 : decode cX9_reaches 95 = .ok (.iastore, 1) := by decide +kernel
theorem dX9_reaches_96 : decode cX9_reaches 96 = .ok (.iinc 4 1, 3) := by decide +kernel
theorem dX9_reaches_99 : decode cX9_reaches 99 = .ok (.goto (-57), 3) := by decide +kernel
theorem dX9_reaches_102 : decode cX9_reaches 102 = .ok (.iconst 1, 1) := by decide +kernel
theorem dX9_reaches_103 : decode cX9_reaches 103 = .ok (.istore 4, 2) := by decide +kernel
theorem dX9_reaches_105 : decode cX9_reaches 105 = .ok (.iload 4, 2) := by decide +kernel
theorem dX9_reaches_107 : decode cX9_reaches 107 = .ok (.iload_n 3, 1) := by decide +kernel
theorem dX9_reaches_108 : decode cX9_reaches 108 = .ok (.if_icmp .gt 81, 3) := by decide +kernel
theorem dX9_reaches_111 : decode cX9_reaches 111 = .ok (.iconst 0, 1) := by decide +kernel
theorem dX9_reaches_112 : decode cX9_reaches 112 = .ok (.istore 5, 2) := by decide +kernel
theorem dX9_reaches_114 : decode cX9_reaches 114 = .ok (.iload 5, 2) := by decide +kernel
theorem dX9_reaches_116 : decode cX9_reaches 116 = .ok (.aload_n 0, 1) := by decide +kernel
theorem dX9_reaches_117 : decode cX9_reaches 117 = .ok (.getfield 132, 3) := by decide +kernel
theorem dX9_reaches_120 : decode cX9_reaches 120 = .ok (.if_icmp .ge 57, 3) := by decide +kernel
theorem dX9_reaches_123 : decode cX9_reaches 123 = .ok (.iload_n 2, 1) := by decide +kernel
theorem dX9_reaches_124 : decode cX9_reaches 124 = .ok (.sipush 1440, 3) := by decide +kernel
theorem dX9_reaches_127 : decode cX9_reaches 127 = .ok (.idiv, 1) := by decide +kernel
theorem dX9_reaches_128 : decode cX9_reaches 128 = .ok (.iconst 1, 1) := by decide +kernel
theorem dX9_reaches_129 : decode cX9_reaches 129 = .ok (.isub, 1) := by decide +kernel
theorem dX9_reaches_130 : decode cX9_reaches 130 = .ok (.istore 6, 2) := by decide +kernel
theorem dX9_reaches_132 : decode cX9_reaches 132 = .ok (.iload 6, 2) := by decide +kernel
theorem dX9_reaches_134 : decode cX9_reaches 134 = .ok (.iload_n 2, 1) := by decide +kernel
theorem dX9_reaches_135 : decode cX9_reaches 135 = .ok (.sipush 1440, 3) := by decide +kernel
theorem dX9_reaches_138 : decode cX9_reaches 138 = .ok (.idiv, 1) := by decide +kernel
theorem dX9_reaches_139 : decode cX9_reaches 139 = .ok (.iconst 1, 1) := by decide +kernel
theorem dX9_reaches_140 : decode cX9_reaches 140 = .ok (.iadd, 1) := by decide +kernel
theorem dX9_reaches_141 : decode cX9_reaches 141 = .ok (.if_icmp .gt 30, 3) := by decide +kernel
theorem dX9_reaches_144 : decode cX9_reaches 144 = .ok (.aload_n 0, 1) := by decide +kernel
theorem dX9_reaches_145 : decode cX9_reaches 145 = .ok (.iload 5, 2) := by decide +kernel
theorem dX9_reaches_147 : decode cX9_reaches 147 = .ok (.iload 6, 2) := by decide +kernel
theorem dX9_reaches_149 : decode cX9_reaches 149 = .ok (.invokevirtual 177, 3) := by decide +kernel
theorem dX9_reaches_152 : decode cX9_reaches 152 = .ok (.ifCond .eq 13, 3) := by decide +kernel
theorem dX9_reaches_155 : decode cX9_reaches 155 = .ok (.aload_n 0, 1) := by decide +kernel
theorem dX9_reaches_156 : decode cX9_reaches 156 = .ok (.iload 4, 2) := by decide +kernel
theorem dX9_reaches_158 : decode cX9_reaches 158 = .ok (.iload 5, 2) := by decide +kernel
theorem dX9_reaches_160 : decode cX9_reaches 160 = .ok (.iload 6, 2) := by decide +kernel
theorem dX9_reaches_162 : decode cX9_reaches 162 = .ok (.invokevirtual 180, 3) := by decide +kernel
theorem dX9_reaches_165 : decode cX9_reaches 165 = .ok (.iinc 6 1, 3) := by decide +kernel
theorem dX9_reaches_168 : decode cX9_reaches 168 = .ok (.goto (-36), 3) := by decide +kernel
theorem dX9_reaches_171 : decode cX9_reaches 171 = .ok (.iinc 5 1, 3) := by decide +kernel
theorem dX9_reaches_174 : decode cX9_reaches 174 = .ok (.goto (-60), 3) := by decide +kernel
theorem dX9_reaches_177 : decode cX9_reaches 177 = .ok (.aload_n 0, 1) := by decide +kernel
theorem dX9_reaches_178 : decode cX9_reaches 178 = .ok (.iload 4, 2) := by decide +kernel
theorem dX9_reaches_180 : decode cX9_reaches 180 = .ok (.invokevirtual 183, 3) := by decide +kernel
theorem dX9_reaches_183 : decode cX9_reaches 183 = .ok (.iinc 4 1, 3) := by decide +kernel
theorem dX9_reaches_186 : decode cX9_reaches 186 = .ok (.goto (-81), 3) := by decide +kernel
theorem dX9_reaches_189 : decode cX9_reaches 189 = .ok (.return_, 1) := by decide +kernel
theorem dX9_timeBy_0 : decode cX9_timeBy 0 = .ok (.aload_n 0, 1) := by decide +kernel
theorem dX9_timeBy_1 : decode cX9_timeBy 1 = .ok (.getfield 61, 3) := by decide +kernel
theorem dX9_timeBy_4 : decode cX9_timeBy 4 = .ok (.bipush 10, 2) := by decide +kernel
theorem dX9_timeBy_6 : decode cX9_timeBy 6 = .ok (.iload_n 2, 1) := by decide +kernel
theorem dX9_timeBy_7 : decode cX9_timeBy 7 = .ok (.imul, 1) := by decide +kernel
theorem dX9_timeBy_8 : decode cX9_timeBy 8 = .ok (.iload_n 1, 1) := by decide +kernel
theorem dX9_timeBy_9 : decode cX9_timeBy 9 = .ok (.iadd, 1) := by decide +kernel
theorem dX9_timeBy_10 : decode cX9_timeBy 10 = .ok (.iaload, 1) := by decide +kernel
theorem dX9_timeBy_11 : decode cX9_timeBy 11 = .ok (.istore_n 3, 1) := by decide +kernel
theorem dX9_timeBy_12 : decode cX9_timeBy 12 = .ok (.iconst 0, 1) := by decide +kernel
theorem dX9_timeBy_13 : decode cX9_timeBy 13 = .ok (.istore 4, 2) := by decide +kernel
theorem dX9_timeBy_15 : decode cX9_timeBy 15 = .ok (.iload 4, 2) := by decide +kernel
theorem dX9_timeBy_17 : decode cX9_timeBy 17 = .ok (.aload_n 0, 1) := by decide +kernel
theorem dX9_timeBy_18 : decode cX9_timeBy 18 = .ok (.getfield 125, 3) := by decide +kernel
theorem dX9_timeBy_21 : decode cX9_timeBy 21 = .ok (.if_icmp .ge 58, 3) := by decide +kernel
theorem dX9_timeBy_24 : decode cX9_timeBy 24 = .ok (.aload_n 0, 1) := by decide +kernel
theorem dX9_timeBy_25 : decode cX9_timeBy 25 = .ok (.getfield 13, 3) := by decide +kernel
theorem dX9_timeBy_28 : decode cX9_timeBy 28 = .ok (.bipush 10, 2) := by decide +kernel
theorem dX9_timeBy_30 : decode cX9_timeBy 30 = .ok (.iload 4, 2) := by decide +kernel
theorem dX9_timeBy_32 : decode cX9_timeBy 32 = .ok (.imul, 1) := by decide +kernel
theorem dX9_timeBy_33 : decode cX9_timeBy 33 = .ok (.iload_n 1, 1) := by decide +kernel
theorem dX9_timeBy_34 : decode cX9_timeBy 34 = .ok (.iadd, 1) := by decide +kernel
theorem dX9_timeBy_35 : decode cX9_timeBy 35 = .ok (.iaload, 1) := by decide +kernel
theorem dX9_timeBy_36 : decode cX9_timeBy 36 = .ok (.istore 5, 2) := by decide +kernel
theorem dX9_timeBy_38 : decode cX9_timeBy 38 = .ok (.aload_n 0, 1) := by decide +kernel
theorem dX9_timeBy_39 : decode cX9_timeBy 39 = .ok (.getfield 61, 3) := by decide +kernel
theorem dX9_timeBy_42 : decode cX9_timeBy 42 = .ok (.bipush 10, 2) := by decide +kernel
theorem dX9_timeBy_44 : decode cX9_timeBy 44 = .ok (.iload_n 2, 1) := by decide +kernel
theorem dX9_timeBy_45 : decode cX9_timeBy 45 = .ok (.imul, 1) := by decide +kernel
theorem dX9_timeBy_46 : decode cX9_timeBy 46 = .ok (.iload 4, 2) := by decide +kernel
theorem dX9_timeBy_48 : decode cX9_timeBy 48 = .ok (.iadd, 1) := by decide +kernel
theorem dX9_timeBy_49 : decode cX9_timeBy 49 = .ok (.iaload, 1) := by decide +kernel
theorem dX9_timeBy_50 : decode cX9_timeBy 50 = .ok (.iload 5, 2) := by decide +kernel
theorem dX9_timeBy_52 : decode cX9_timeBy 52 = .ok (.iadd, 1) := by decide +kernel
theorem dX9_timeBy_53 : decode cX9_timeBy 53 = .ok (.istore 6, 2) := by decide +kernel
theorem dX9_timeBy_55 : decode cX9_timeBy 55 = .ok (.iload 5, 2) := by decide +kernel
theorem dX9_timeBy_57 : decode cX9_timeBy 57 = .ok (.ifCond .le 14, 3) := by decide +kernel
theorem dX9_timeBy_60 : decode cX9_timeBy 60 = .ok (.iload 6, 2) := by decide +kernel
theorem dX9_timeBy_62 : decode cX9_timeBy 62 = .ok (.iload_n 3, 1) := by decide +kernel
theorem dX9_timeBy_63 : decode cX9_timeBy 63 = .ok (.if_icmp .ge 8, 3) := by decide +kernel
theorem dX9_timeBy_66 : decode cX9_timeBy 66 = .ok (.iload 6, 2) := by decide +kernel
theorem dX9_timeBy_68 : decode cX9_timeBy 68 = .ok (.goto 4, 3) := by decide +kernel
theorem dX9_timeBy_71 : decode cX9_timeBy 71 = .ok (.iload_n 3, 1) := by decide +kernel
theorem dX9_timeBy_72 : decode cX9_timeBy 72 = .ok (.istore_n 3, 1) := by decide +kernel
theorem dX9_timeBy_73 : decode cX9_timeBy 73 = .ok (.iinc 4 1, 3) := by decide +kernel
theorem dX9_timeBy_76 : decode cX9_timeBy 76 = .ok (.goto (-61), 3) := by decide +kernel
theorem dX9_timeBy_79 : decode cX9_timeBy 79 = .ok (.iload_n 3, 1) := by decide +kernel
theorem dX9_timeBy_80 : decode cX9_timeBy 80 = .ok (.ldc 176, 2) := by decide +kernel
theorem dX9_timeBy_82 : decode cX9_timeBy 82 = .ok (.if_icmp .ge 7, 3) := by decide +kernel
theorem dX9_timeBy_85 : decode cX9_timeBy 85 = .ok (.iload_n 3, 1) := by decide +kernel
theorem dX9_timeBy_86 : decode cX9_timeBy 86 = .ok (.goto 5, 3) := by decide +kernel
theorem dX9_timeBy_89 : decode cX9_timeBy 89 = .ok (.ldc 176, 2) := by decide +kernel
theorem dX9_timeBy_91 : decode cX9_timeBy 91 = .ok (.ireturn, 1) := by decide +kernel
theorem dX9_asksWay_0 : decode cX9_asksWay 0 = .ok (.aload_n 0, 1) := by decide +kernel
theorem dX9_asksWay_1 : decode cX9_asksWay 1 = .ok (.aload_n 0, 1) := by decide +kernel
theorem dX9_asksWay_2 : decode cX9_asksWay 2 = .ok (.iload_n 1, 1) := by decide +kernel
theorem dX9_asksWay_3 : decode cX9_asksWay 3 = .ok (.invokevirtual 146, 3) := by decide +kernel
theorem dX9_asksWay_6 : decode cX9_asksWay 6 = .ok (.ifCond .eq 15, 3) := by decide +kernel
theorem dX9_asksWay_9 : decode cX9_asksWay 9 = .ok (.aload_n 0, 1) := by decide +kernel
theorem dX9_asksWay_10 : decode cX9_asksWay 10 = .ok (.iload_n 2, 1) := by decide +kernel
theorem dX9_asksWay_11 : decode cX9_asksWay 11 = .ok (.invokevirtual 146, 3) := by decide +kernel
theorem dX9_asksWay_14 : decode cX9_asksWay 14 = .ok (.ifCond .eq 7, 3) := by decide +kernel
theorem dX9_asksWay_17 : decode cX9_asksWay 17 = .ok (.iconst 1, 1) := by decide +kernel
theorem dX9_asksWay_18 : decode cX9_asksWay 18 = .ok (.goto 4, 3) := by decide +kernel
theorem dX9_asksWay_21 : decode cX9_asksWay 21 = .ok (.iconst 0, 1) := by decide +kernel
theorem dX9_asksWay_22 : decode cX9_asksWay 22 = .ok (.invokevirtual 138, 3) := by decide +kernel
theorem dX9_asksWay_25 : decode cX9_asksWay 25 = .ok (.ifCond .ne 5, 3) := by decide +kernel
theorem dX9_asksWay_28 : decode cX9_asksWay 28 = .ok (.iconst 0, 1) := by decide +kernel
theorem dX9_asksWay_29 : decode cX9_asksWay 29 = .ok (.ireturn, 1) := by decide +kernel
theorem dX9_asksWay_30 : decode cX9_asksWay 30 = .ok (.aload_n 0, 1) := by decide +kernel
theorem dX9_asksWay_31 : decode cX9_asksWay 31 = .ok (.iload_n 1, 1) := by decide +kernel
theorem dX9_asksWay_32 : decode cX9_asksWay 32 = .ok (.iload_n 2, 1) := by decide +kernel
theorem dX9_asksWay_33 : decode cX9_asksWay 33 = .ok (.if_icmp .eq 18, 3) := by decide +kernel
theorem dX9_asksWay_36 : decode cX9_asksWay 36 = .ok (.iload_n 3, 1) := by decide +kernel
theorem dX9_asksWay_37 : decode cX9_asksWay 37 = .ok (.iconst 0, 1) := by decide +kernel
theorem dX9_asksWay_38 : decode cX9_asksWay 38 = .ok (.ldc 187, 2) := by decide +kernel
theorem dX9_asksWay_40 : decode cX9_asksWay 40 = .ok (.invokestatic 128, 3) := by decide +kernel
theorem dX9_asksWay_43 : decode cX9_asksWay 43 = .ok (.ifCond .eq 8, 3) := by decide +kernel
theorem dX9_asksWay_46 : decode cX9_asksWay 46 = .ok (.iload 4, 2) := by decide +kernel
theorem dX9_asksWay_48 : decode cX9_asksWay 48 = .ok (.ifCond .ne 7, 3) := by decide +kernel
theorem dX9_asksWay_51 : decode cX9_asksWay 51 = .ok (.iconst 2, 1) := by decide +kernel
theorem dX9_asksWay_52 : decode cX9_asksWay 52 = .ok (.goto 4, 3) := by decide +kernel
theorem dX9_asksWay_55 : decode cX9_asksWay 55 = .ok (.iconst 0, 1) := by decide +kernel
theorem dX9_asksWay_56 : decode cX9_asksWay 56 = .ok (.putfield 122, 3) := by decide +kernel
theorem dX9_asksWay_59 : decode cX9_asksWay 59 = .ok (.aload_n 0, 1) := by decide +kernel
theorem dX9_asksWay_60 : decode cX9_asksWay 60 = .ok (.getfield 122, 3) := by decide +kernel
theorem dX9_asksWay_63 : decode cX9_asksWay 63 = .ok (.ifCond .ne 7, 3) := by decide +kernel
theorem dX9_asksWay_66 : decode cX9_asksWay 66 = .ok (.iconst 1, 1) := by decide +kernel
theorem dX9_asksWay_67 : decode cX9_asksWay 67 = .ok (.goto 4, 3) := by decide +kernel
theorem dX9_asksWay_70 : decode cX9_asksWay 70 = .ok (.iconst 0, 1) := by decide +kernel
theorem dX9_asksWay_71 : decode cX9_asksWay 71 = .ok (.ireturn, 1) := by decide +kernel
theorem dX9_arrival_0 : decode cX9_arrival 0 = .ok (.aload_n 0, 1) := by decide +kernel
theorem dX9_arrival_1 : decode cX9_arrival 1 = .ok (.iload_n 1, 1) := by decide +kernel
theorem dX9_arrival_2 : decode cX9_arrival 2 = .ok (.iload_n 2, 1) := by decide +kernel
theorem dX9_arrival_3 : decode cX9_arrival 3 = .ok (.iload_n 3, 1) := by decide +kernel
theorem dX9_arrival_4 : decode cX9_arrival 4 = .ok (.iload 4, 2) := by decide +kernel
theorem dX9_arrival_6 : decode cX9_arrival 6 = .ok (.iconst 1, 1) := by decide +kernel
theorem dX9_arrival_7 : decode cX9_arrival 7 = .ok (.iconst 4, 1) := by decide +kernel
theorem dX9_arrival_8 : decode cX9_arrival 8 = .ok (.invokestatic 128, 3) := by decide +kernel
theorem dX9_arrival_11 : decode cX9_arrival 11 = .ok (.invokevirtual 188, 3) := by decide +kernel
theorem dX9_arrival_14 : decode cX9_arrival 14 = .ok (.ifCond .ne 5, 3) := by decide +kernel
theorem dX9_arrival_17 : decode cX9_arrival 17 = .ok (.iconst 0, 1) := by decide +kernel
theorem dX9_arrival_18 : decode cX9_arrival 18 = .ok (.ireturn, 1) := by decide +kernel
theorem dX9_arrival_19 : decode cX9_arrival 19 = .ok (.aload_n 0, 1) := by decide +kernel
theorem dX9_arrival_20 : decode cX9_arrival 20 = .ok (.iload_n 1, 1) := by decide +kernel
theorem dX9_arrival_21 : decode cX9_arrival 21 = .ok (.iload_n 3, 1) := by decide +kernel
theorem dX9_arrival_22 : decode cX9_arrival 22 = .ok (.iload 4, 2) := by decide +kernel
theorem dX9_arrival_24 : decode cX9_arrival 24 = .ok (.invokevirtual 192, 3) := by decide +kernel
theorem dX9_arrival_27 : decode cX9_arrival 27 = .ok (.aload_n 0, 1) := by decide +kernel
theorem dX9_arrival_28 : decode cX9_arrival 28 = .ok (.iload_n 2, 1) := by decide +kernel
theorem dX9_arrival_29 : decode cX9_arrival 29 = .ok (.iload 4, 2) := by decide +kernel
theorem dX9_arrival_31 : decode cX9_arrival 31 = .ok (.invokevirtual 195, 3) := by decide +kernel
theorem dX9_arrival_34 : decode cX9_arrival 34 = .ok (.istore 5, 2) := by decide +kernel
theorem dX9_arrival_36 : decode cX9_arrival 36 = .ok (.iload 5, 2) := by decide +kernel
theorem dX9_arrival_38 : decode cX9_arrival 38 = .ok (.ldc 176, 2) := by decide +kernel
theorem dX9_arrival_40 : decode cX9_arrival 40 = .ok (.if_icmp .ne 7, 3) := by decide +kernel
theorem dX9_arrival_43 : decode cX9_arrival 43 = .ok (.iconst (-1), 1) := by decide +kernel
theorem dX9_arrival_44 : decode cX9_arrival 44 = .ok (.goto 5, 3) := by decide +kernel
theorem dX9_arrival_47 : decode cX9_arrival 47 = .ok (.iload 5, 2) := by decide +kernel
theorem dX9_arrival_49 : decode cX9_arrival 49 = .ok (.ireturn, 1) := by decide +kernel
theorem dX9_arrivalAnew_0 : decode cX9_arrivalAnew 0 = .ok (.aload_n 0, 1) := by decide +kernel
theorem dX9_arrivalAnew_1 : decode cX9_arrivalAnew 1 = .ok (.iload_n 1, 1) := by decide +kernel
theorem dX9_arrivalAnew_2 : decode cX9_arrivalAnew 2 = .ok (.iload_n 2, 1) := by decide +kernel
theorem dX9_arrivalAnew_3 : decode cX9_arrivalAnew 3 = .ok (.iload_n 3, 1) := by decide +kernel
theorem dX9_arrivalAnew_4 : decode cX9_arrivalAnew 4 = .ok (.iload 4, 2) := by decide +kernel
theorem dX9_arrivalAnew_6 : decode cX9_arrivalAnew 6 = .ok (.iconst 1, 1) := by decide +kernel
theorem dX9_arrivalAnew_7 : decode cX9_arrivalAnew 7 = .ok (.iconst 2, 1) := by decide +kernel
theorem dX9_arrivalAnew_8 : decode cX9_arrivalAnew 8 = .ok (.invokestatic 128, 3) := by decide +kernel
theorem dX9_arrivalAnew_11 : decode cX9_arrivalAnew 11 = .ok (.invokevirtual 188, 3) := by decide +kernel
theorem dX9_arrivalAnew_14 : decode cX9_arrivalAnew 14 = .ok (.ifCond .ne 5, 3) := by decide +kernel
theorem dX9_arrivalAnew_17 : decode cX9_arrivalAnew 17 = .ok (.iconst 0, 1) := by decide +kernel
theorem dX9_arrivalAnew_18 : decode cX9_arrivalAnew 18 = .ok (.ireturn, 1) := by decide +kernel
theorem dX9_arrivalAnew_19 : decode cX9_arrivalAnew 19 = .ok (.aload_n 0, 1) := by decide +kernel
theorem dX9_arrivalAnew_20 : decode cX9_arrivalAnew 20 = .ok (.iload_n 1, 1) := by decide +kernel
theorem dX9_arrivalAnew_21 : decode cX9_arrivalAnew 21 = .ok (.iload_n 3, 1) := by decide +kernel
theorem dX9_arrivalAnew_22 : decode cX9_arrivalAnew 22 = .ok (.iload 4, 2) := by decide +kernel
theorem dX9_arrivalAnew_24 : decode cX9_arrivalAnew 24 = .ok (.invokevirtual 192, 3) := by decide +kernel
theorem dX9_arrivalAnew_27 : decode cX9_arrivalAnew 27 = .ok (.aload_n 0, 1) := by decide +kernel
theorem dX9_arrivalAnew_28 : decode cX9_arrivalAnew 28 = .ok (.iload_n 2, 1) := by decide +kernel
theorem dX9_arrivalAnew_29 : decode cX9_arrivalAnew 29 = .ok (.iload 4, 2) := by decide +kernel
theorem dX9_arrivalAnew_31 : decode cX9_arrivalAnew 31 = .ok (.invokevirtual 195, 3) := by decide +kernel
theorem dX9_arrivalAnew_34 : decode cX9_arrivalAnew 34 = .ok (.istore 5, 2) := by decide +kernel
theorem dX9_arrivalAnew_36 : decode cX9_arrivalAnew 36 = .ok (.iload 5, 2) := by decide +kernel
theorem dX9_arrivalAnew_38 : decode cX9_arrivalAnew 38 = .ok (.ldc 176, 2) := by decide +kernel
theorem dX9_arrivalAnew_40 : decode cX9_arrivalAnew 40 = .ok (.if_icmp .ne 7, 3) := by decide +kernel
theorem dX9_arrivalAnew_43 : decode cX9_arrivalAnew 43 = .ok (.iconst (-1), 1) := by decide +kernel
theorem dX9_arrivalAnew_44 : decode cX9_arrivalAnew 44 = .ok (.goto 5, 3) := by decide +kernel
theorem dX9_arrivalAnew_47 : decode cX9_arrivalAnew 47 = .ok (.iload 5, 2) := by decide +kernel
theorem dX9_arrivalAnew_49 : decode cX9_arrivalAnew 49 = .ok (.ireturn, 1) := by decide +kernel
theorem dX9_front_0 : decode cX9_front 0 = .ok (.aload_n 0, 1) := by decide +kernel
theorem dX9_front_1 : decode cX9_front 1 = .ok (.iload_n 1, 1) := by decide +kernel
theorem dX9_front_2 : decode cX9_front 2 = .ok (.iload_n 2, 1) := by decide +kernel
theorem dX9_front_3 : decode cX9_front 3 = .ok (.iload_n 3, 1) := by decide +kernel
theorem dX9_front_4 : decode cX9_front 4 = .ok (.iconst 1, 1) := by decide +kernel
theorem dX9_front_5 : decode cX9_front 5 = .ok (.invokevirtual 188, 3) := by decide +kernel
theorem dX9_front_8 : decode cX9_front 8 = .ok (.ifCond .ne 5, 3) := by decide +kernel
theorem dX9_front_11 : decode cX9_front 11 = .ok (.iconst 0, 1) := by decide +kernel
theorem dX9_front_12 : decode cX9_front 12 = .ok (.ireturn, 1) := by decide +kernel
theorem dX9_front_13 : decode cX9_front 13 = .ok (.aload_n 0, 1) := by decide +kernel
theorem dX9_front_14 : decode cX9_front 14 = .ok (.iload_n 1, 1) := by decide +kernel
theorem dX9_front_15 : decode cX9_front 15 = .ok (.iload_n 3, 1) := by decide +kernel
theorem dX9_front_16 : decode cX9_front 16 = .ok (.iconst 4, 1) := by decide +kernel
theorem dX9_front_17 : decode cX9_front 17 = .ok (.invokevirtual 192, 3) := by decide +kernel
theorem dX9_front_20 : decode cX9_front 20 = .ok (.iconst 0, 1) := by decide +kernel
theorem dX9_front_21 : decode cX9_front 21 = .ok (.istore 4, 2) := by decide +kernel
theorem dX9_front_23 : decode cX9_front 23 = .ok (.ldc 176, 2) := by decide +kernel
theorem dX9_front_25 : decode cX9_front 25 = .ok (.istore 5, 2) := by decide +kernel
theorem dX9_front_27 : decode cX9_front 27 = .ok (.iconst 1, 1) := by decide +kernel
theorem dX9_front_28 : decode cX9_front 28 = .ok (.istore 6, 2) := by decide +kernel
theorem dX9_front_30 : decode cX9_front 30 = .ok (.iload 6, 2) := by decide +kernel
theorem dX9_front_32 : decode cX9_front 32 = .ok (.iconst 4, 1) := by decide +kernel
theorem dX9_front_33 : decode cX9_front 33 = .ok (.if_icmp .gt 54, 3) := by decide +kernel
theorem dX9_front_36 : decode cX9_front 36 = .ok (.aload_n 0, 1) := by decide +kernel
theorem dX9_front_37 : decode cX9_front 37 = .ok (.iload_n 2, 1) := by decide +kernel
theorem dX9_front_38 : decode cX9_front 38 = .ok (.iload 6, 2) := by decide +kernel
theorem dX9_front_40 : decode cX9_front 40 = .ok (.invokevirtual 195, 3) := by decide +kernel
theorem dX9_front_43 : decode cX9_front 43 = .ok (.istore 7, 2) := by decide +kernel
theorem dX9_front_45 : decode cX9_front 45 = .ok (.iload 4, 2) := by decide +kernel
theorem dX9_front_47 : decode cX9_front 47 = .ok (.iload 7, 2) := by decide +kernel
theorem dX9_front_49 : decode cX9_front 49 = .ok (.iload 5, 2) := by decide +kernel
theorem dX9_front_51 : decode cX9_front 51 = .ok (.if_icmp .ge 10, 3) := by decide +kernel
theorem dX9_front_54 : decode cX9_front 54 = .ok (.iconst 1, 1) := by decide +kernel
theorem dX9_front_55 : decode cX9_front 55 = .ok (.iload 6, 2) := by decide +kernel
theorem dX9_front_57 : decode cX9_front 57 = .ok (.ishl, 1) := by decide +kernel
theorem dX9_front_58 : decode cX9_front 58 = .ok (.goto 4, 3) := by decide +kernel
theorem dX9_front_61 : decode cX9_front 61 = .ok (.iconst 0, 1) := by decide +kernel
theorem dX9_front_62 : decode cX9_front 62 = .ok (.ior, 1) := by decide +kernel
theorem dX9_front_63 : decode cX9_front 63 = .ok (.istore 4, 2) := by decide +kernel
theorem dX9_front_65 : decode cX9_front 65 = .ok (.iload 7, 2) := by decide +kernel
theorem dX9_front_67 : decode cX9_front 67 = .ok (.iload 5, 2) := by decide +kernel
theorem dX9_front_69 : decode cX9_front 69 = .ok (.if_icmp .ge 8, 3) := by decide +kernel
theorem dX9_front_72 : decode cX9_front 72 = .ok (.iload 7, 2) := by decide +kernel
theorem dX9_front_74 : decode cX9_front 74 = .ok (.goto 5, 3) := by decide +kernel
theorem dX9_front_77 : decode cX9_front 77 = .ok (.iload 5, 2) := by decide +kernel
theorem dX9_front_79 : decode cX9_front 79 = .ok (.istore 5, 2) := by decide +kernel
theorem dX9_front_81 : decode cX9_front 81 = .ok (.iinc 6 1, 3) := by decide +kernel
theorem dX9_front_84 : decode cX9_front 84 = .ok (.goto (-54), 3) := by decide +kernel
theorem dX9_front_87 : decode cX9_front 87 = .ok (.iload 4, 2) := by decide +kernel
theorem dX9_front_89 : decode cX9_front 89 = .ok (.ireturn, 1) := by decide +kernel
theorem dX9_isRide_0 : decode cX9_isRide 0 = .ok (.bipush 6, 2) := by decide +kernel
theorem dX9_isRide_2 : decode cX9_isRide 2 = .ok (.iload_n 3, 1) := by decide +kernel
theorem dX9_isRide_3 : decode cX9_isRide 3 = .ok (.imul, 1) := by decide +kernel
theorem dX9_isRide_4 : decode cX9_isRide 4 = .ok (.istore 7, 2) := by decide +kernel
theorem dX9_isRide_6 : decode cX9_isRide 6 = .ok (.aload_n 0, 1) := by decide +kernel
theorem dX9_isRide_7 : decode cX9_isRide 7 = .ok (.getfield 31, 3) := by decide +kernel
theorem dX9_isRide_10 : decode cX9_isRide 10 = .ok (.iload 7, 2) := by decide +kernel
theorem dX9_isRide_12 : decode cX9_isRide 12 = .ok (.iload 6, 2) := by decide +kernel
theorem dX9_isRide_14 : decode cX9_isRide 14 = .ok (.iadd, 1) := by decide +kernel
theorem dX9_isRide_15 : decode cX9_isRide 15 = .ok (.iaload, 1) := by decide +kernel
theorem dX9_isRide_16 : decode cX9_isRide 16 = .ok (.iload_n 2, 1) := by decide +kernel
theorem dX9_isRide_17 : decode cX9_isRide 17 = .ok (.if_icmp .ne 64, 3) := by decide +kernel
theorem dX9_isRide_20 : decode cX9_isRide 20 = .ok (.aload_n 0, 1) := by decide +kernel
theorem dX9_isRide_21 : decode cX9_isRide 21 = .ok (.iload_n 3, 1) := by decide +kernel
theorem dX9_isRide_22 : decode cX9_isRide 22 = .ok (.iload 4, 2) := by decide +kernel
theorem dX9_isRide_24 : decode cX9_isRide 24 = .ok (.iload 6, 2) := by decide +kernel
theorem dX9_isRide_26 : decode cX9_isRide 26 = .ok (.invokevirtual 173, 3) := by decide +kernel
theorem dX9_isRide_29 : decode cX9_isRide 29 = .ok (.aload_n 0, 1) := by decide +kernel
theorem dX9_isRide_30 : decode cX9_isRide 30 = .ok (.getfield 61, 3) := by decide +kernel
theorem dX9_isRide_33 : decode cX9_isRide 33 = .ok (.bipush 10, 2) := by decide +kernel
theorem dX9_isRide_35 : decode cX9_isRide 35 = .ok (.iload_n 1, 1) := by decide +kernel
theorem dX9_isRide_36 : decode cX9_isRide 36 = .ok (.imul, 1) := by decide +kernel
theorem dX9_isRide_37 : decode cX9_isRide 37 = .ok (.iload_n 2, 1) := by decide +kernel
theorem dX9_isRide_38 : decode cX9_isRide 38 = .ok (.iadd, 1) := by decide +kernel
theorem dX9_isRide_39 : decode cX9_isRide 39 = .ok (.iaload, 1) := by decide +kernel
theorem dX9_isRide_40 : decode cX9_isRide 40 = .ok (.if_icmp .ne 41, 3) := by decide +kernel
theorem dX9_isRide_43 : decode cX9_isRide 43 = .ok (.aload_n 0, 1) := by decide +kernel
theorem dX9_isRide_44 : decode cX9_isRide 44 = .ok (.iload_n 3, 1) := by decide +kernel
theorem dX9_isRide_45 : decode cX9_isRide 45 = .ok (.iload 4, 2) := by decide +kernel
theorem dX9_isRide_47 : decode cX9_isRide 47 = .ok (.iload 5, 2) := by decide +kernel
theorem dX9_isRide_49 : decode cX9_isRide 49 = .ok (.invokevirtual 169, 3) := by decide +kernel
theorem dX9_isRide_52 : decode cX9_isRide 52 = .ok (.aload_n 0, 1) := by decide +kernel
theorem dX9_isRide_53 : decode cX9_isRide 53 = .ok (.getfield 64, 3) := by decide +kernel
theorem dX9_isRide_56 : decode cX9_isRide 56 = .ok (.bipush 10, 2) := by decide +kernel
theorem dX9_isRide_58 : decode cX9_isRide 58 = .ok (.iload_n 1, 1) := by decide +kernel
theorem dX9_isRide_59 : decode cX9_isRide 59 = .ok (.iconst 1, 1) := by decide +kernel
theorem dX9_isRide_60 : decode cX9_isRide 60 = .ok (.isub, 1) := by decide +kernel
theorem dX9_isRide_61 : decode cX9_isRide 61 = .ok (.imul, 1) := by decide +kernel
theorem dX9_isRide_62 : decode cX9_isRide 62 = .ok (.aload_n 0, 1) := by decide +kernel
theorem dX9_isRide_63 : decode cX9_isRide 63 = .ok (.getfield 31, 3) := by decide +kernel
theorem dX9_isRide_66 : decode cX9_isRide 66 = .ok (.iload 7, 2) := by decide +kernel
theorem dX9_isRide_68 : decode cX9_isRide 68 = .ok (.iload 5, 2) := by decide +kernel
theorem dX9_isRide_70 : decode cX9_isRide 70 = .ok (.iadd, 1) := by decide +kernel
theorem dX9_isRide_71 : decode cX9_isRide 71 = .ok (.iaload, 1) := by decide +kernel
theorem dX9_isRide_72 : decode cX9_isRide 72 = .ok (.iadd, 1) := by decide +kernel
theorem dX9_isRide_73 : decode cX9_isRide 73 = .ok (.iaload, 1) := by decide +kernel
theorem dX9_isRide_74 : decode cX9_isRide 74 = .ok (.if_icmp .lt 7, 3) := by decide +kernel
theorem dX9_isRide_77 : decode cX9_isRide 77 = .ok (.iconst 1, 1) := by decide +kernel
theorem dX9_isRide_78 : decode cX9_isRide 78 = .ok (.goto 4, 3) := by decide +kernel
theorem dX9_isRide_81 : decode cX9_isRide 81 = .ok (.iconst 0, 1) := by decide +kernel
theorem dX9_isRide_82 : decode cX9_isRide 82 = .ok (.ireturn, 1) := by decide +kernel
theorem dX9_findsRide_0 : decode cX9_findsRide 0 = .ok (.iconst 0, 1) := by decide +kernel
theorem dX9_findsRide_1 : decode cX9_findsRide 1 = .ok (.istore_n 3, 1) := by decide +kernel
theorem dX9_findsRide_2 : decode cX9_findsRide 2 = .ok (.iconst 0, 1) := by decide +kernel
theorem dX9_findsRide_3 : decode cX9_findsRide 3 = .ok (.istore 4, 2) := by decide +kernel
theorem dX9_findsRide_5 : decode cX9_findsRide 5 = .ok (.iload 4, 2) := by decide +kernel
theorem dX9_findsRide_7 : decode cX9_findsRide 7 = .ok (.aload_n 0, 1) := by decide +kernel
theorem dX9_findsRide_8 : decode cX9_findsRide 8 = .ok (.getfield 132, 3) := by decide +kernel
theorem dX9_findsRide_11 : decode cX9_findsRide 11 = .ok (.if_icmp .ge 181, 3) := by decide +kernel
theorem dX9_findsRide_14 : decode cX9_findsRide 14 = .ok (.iload_n 3, 1) := by decide +kernel
theorem dX9_findsRide_15 : decode cX9_findsRide 15 = .ok (.ifCond .ne 177, 3) := by decide +kernel
theorem dX9_findsRide_18 : decode cX9_findsRide 18 = .ok (.aload_n 0, 1) := by decide +kernel
theorem dX9_findsRide_19 : decode cX9_findsRide 19 = .ok (.getfield 163, 3) := by decide +kernel
theorem dX9_findsRide_22 : decode cX9_findsRide 22 = .ok (.sipush 1440, 3) := by decide +kernel
theorem dX9_findsRide_25 : decode cX9_findsRide 25 = .ok (.idiv, 1) := by decide +kernel
theorem dX9_findsRide_26 : decode cX9_findsRide 26 = .ok (.iconst 1, 1) := by decide +kernel
theorem dX9_findsRide_27 : decode cX9_findsRide 27 = .ok (.isub, 1) := by decide +kernel
theorem dX9_findsRide_28 : decode cX9_findsRide 28 = .ok (.istore 5, 2) := by decide +kernel
theorem dX9_findsRide_30 : decode cX9_findsRide 30 = .ok (.iload 5, 2) := by decide +kernel
theorem dX9_findsRide_32 : decode cX9_findsRide 32 = .ok (.aload_n 0, 1) := by decide +kernel
theorem dX9_findsRide_33 : decode cX9_findsRide 33 = .ok (.getfield 163, 3) := by decide +kernel
theorem dX9_findsRide_36 : decode cX9_findsRide 36 = .ok (.sipush 1440, 3) := by decide +kernel
theorem dX9_findsRide_39 : decode cX9_findsRide 39 = .ok (.idiv, 1) := by decide +kernel
theorem dX9_findsRide_40 : decode cX9_findsRide 40 = .ok (.iconst 1, 1) := by decide +kernel
theorem dX9_findsRide_41 : decode cX9_findsRide 41 = .ok (.iadd, 1) := by decide +kernel
theorem dX9_findsRide_42 : decode cX9_findsRide 42 = .ok (.if_icmp .gt 144, 3) := by decide +kernel
theorem dX9_findsRide_45 : decode cX9_findsRide 45 = .ok (.iload_n 3, 1) := by decide +kernel
theorem dX9_findsRide_46 : decode cX9_findsRide 46 = .ok (.ifCond .ne 140, 3) := by decide +kernel
theorem dX9_findsRide_49 : decode cX9_findsRide 49 = .ok (.iconst 0, 1) := by decide +kernel
theorem dX9_findsRide_50 : decode cX9_findsRide 50 = .ok (.istore 6, 2) := by decide +kernel
theorem dX9_findsRide_52 : decode cX9_findsRide 52 = .ok (.iload 6, 2) := by decide +kernel
theorem dX9_findsRide_54 : decode cX9_findsRide 54 = .ok (.bipush 36, 2) := by decide +kernel
theorem dX9_findsRide_56 : decode cX9_findsRide 56 = .ok (.if_icmp .ge 124, 3) := by decide +kernel
theorem dX9_findsRide_59 : decode cX9_findsRide 59 = .ok (.iload_n 3, 1) := by decide +kernel
theorem dX9_findsRide_60 : decode cX9_findsRide 60 = .ok (.ifCond .ne 120, 3) := by decide +kernel
theorem dX9_findsRide_63 : decode cX9_findsRide 63 = .ok (.aload_n 0, 1) := by decide +kernel
theorem dX9_findsRide_64 : decode cX9_findsRide 64 = .ok (.iload 4, 2) := by decide +kernel
theorem dX9_findsRide_66 : decode cX9_findsRide 66 = .ok (.iload 5, 2) := by decide +kernel
theorem dX9_findsRide_68 : decode cX9_findsRide 68 = .ok (.invokevirtual 177, 3) := by decide +kernel
theorem dX9_findsRide_71 : decode cX9_findsRide 71 = .ok (.ifCond .eq 109, 3) := by decide +kernel
theorem dX9_findsRide_74 : decode cX9_findsRide 74 = .ok (.iload 6, 2) := by decide +kernel
theorem dX9_findsRide_76 : decode cX9_findsRide 76 = .ok (.bipush 6, 2) := by decide +kernel
theorem dX9_findsRide_78 : decode cX9_findsRide 78 = .ok (.idiv, 1) := by decide +kernel
theorem dX9_findsRide_79 : decode cX9_findsRide 79 = .ok (.istore 7, 2) := by decide +kernel
theorem dX9_findsRide_81 : decode cX9_findsRide 81 = .ok (.iload 6, 2) := by decide +kernel
theorem dX9_findsRide_83 : decode cX9_findsRide 83 = .ok (.bipush 6, 2) := by decide +kernel
theorem dX9_findsRide_85 : decode cX9_findsRide 85 = .ok (.irem, 1) := by decide +kernel
theorem dX9_findsRide_86 : decode cX9_findsRide 86 = .ok (.istore 8, 2) := by decide +kernel
theorem dX9_findsRide_88 : decode cX9_findsRide 88 = .ok (.iload 7, 2) := by decide +kernel
theorem dX9_findsRide_90 : decode cX9_findsRide 90 = .ok (.iload 8, 2) := by decide +kernel
theorem dX9_findsRide_92 : decode cX9_findsRide 92 = .ok (.if_icmp .ge 36, 3) := by decide +kernel
theorem dX9_findsRide_95 : decode cX9_findsRide 95 = .ok (.iload 8, 2) := by decide +kernel
theorem dX9_findsRide_97 : decode cX9_findsRide 97 = .ok (.aload_n 0, 1) := by decide +kernel
theorem dX9_findsRide_98 : decode cX9_findsRide 98 = .ok (.getfield 28, 3) := by decide +kernel
theorem dX9_findsRide_101 : decode cX9_findsRide 101 = .ok (.iload 4, 2) := by decide +kernel
theorem dX9_findsRide_103 : decode cX9_findsRide 103 = .ok (.iaload, 1) := by decide +kernel
theorem dX9_findsRide_104 : decode cX9_findsRide 104 = .ok (.if_icmp .ge 24, 3) := by decide +kernel
theorem dX9_findsRide_107 : decode cX9_findsRide 107 = .ok (.aload_n 0, 1) := by decide +kernel
theorem dX9_findsRide_108 : decode cX9_findsRide 108 = .ok (.iload_n 1, 1) := by decide +kernel
theorem dX9_findsRide_109 : decode cX9_findsRide 109 = .ok (.iload_n 2, 1) := by decide +kernel
theorem dX9_findsRide_110 : decode cX9_findsRide 110 = .ok (.iload 4, 2) := by decide +kernel
theorem dX9_findsRide_112 : decode cX9_findsRide 112 = .ok (.iload 5, 2) := by decide +kernel
theorem dX9_findsRide_114 : decode cX9_findsRide 114 = .ok (.iload 7, 2) := by decide +kernel
theorem dX9_findsRide_116 : decode cX9_findsRide 116 = .ok (.iload 8, 2) := by decide +kernel
theorem dX9_findsRide_118 : decode cX9_findsRide 118 = .ok (.invokevirtual 199, 3) := by decide +kernel
theorem dX9_findsRide_121 : decode cX9_findsRide 121 = .ok (.ifCond .eq 7, 3) := by decide +kernel
theorem dX9_findsRide_124 : decode cX9_findsRide 124 = .ok (.iconst 1, 1) := by decide +kernel
theorem dX9_findsRide_125 : decode cX9_findsRide 125 = .ok (.goto 4, 3) := by decide +kernel
theorem dX9_findsRide_128 : decode cX9_findsRide 128 = .ok (.iconst 0, 1) := by decide +kernel
theorem dX9_findsRide_129 : decode cX9_findsRide 129 = .ok (.istore_n 3, 1) := by decide +kernel
theorem dX9_findsRide_130 : decode cX9_findsRide 130 = .ok (.iload_n 3, 1) := by decide +kernel
theorem dX9_findsRide_131 : decode cX9_findsRide 131 = .ok (.ifCond .eq 43, 3) := by decide +kernel
theorem dX9_findsRide_134 : decode cX9_findsRide 134 = .ok (.aload_n 0, 1) := by decide +kernel
theorem dX9_findsRide_135 : decode cX9_findsRide 135 = .ok (.getfield 67, 3) := by decide +kernel
theorem dX9_findsRide_138 : decode cX9_findsRide 138 = .ok (.iload_n 1, 1) := by decide +kernel
theorem dX9_findsRide_139 : decode cX9_findsRide 139 = .ok (.iconst 1, 1) := by decide +kernel
theorem dX9_findsRide_140 : decode cX9_findsRide 140 = .ok (.isub, 1) := by decide +kernel
theorem dX9_findsRide_141 : decode cX9_findsRide 141 = .ok (.iload 4, 2) := by decide +kernel
theorem dX9_findsRide_143 : decode cX9_findsRide 143 = .ok (.iastore, 1) := by decide +kernel
theorem dX9_findsRide_144 : decode cX9_findsRide 144 = .ok (.aload_n 0, 1) := by decide +kernel
theorem dX9_findsRide_145 : decode cX9_findsRide 145 = .ok (.getfield 70, 3) := by decide +kernel
theorem dX9_findsRide_148 : decode cX9_findsRide 148 = .ok (.iload_n 1, 1) := by decide +kernel
theorem dX9_findsRide_149 : decode cX9_findsRide 149 = .ok (.iconst 1, 1) := by decide +kernel
theorem dX9_findsRide_150 : decode cX9_findsRide 150 = .ok (.isub, 1) := by decide +kernel
theorem dX9_findsRide_151 : decode cX9_findsRide 151 = .ok (.iload 5, 2) := by decide +kernel
theorem dX9_findsRide_153 : decode cX9_findsRide 153 = .ok (.iastore, 1) := by decide +kernel
theorem dX9_findsRide_154 : decode cX9_findsRide 154 = .ok (.aload_n 0, 1) := by decide +kernel
theorem dX9_findsRide_155 : decode cX9_findsRide 155 = .ok (.getfield 73, 3) := by decide +kernel
theorem dX9_findsRide_158 : decode cX9_findsRide 158 = .ok (.iload_n 1, 1) := by decide +kernel
theorem dX9_findsRide_159 : decode cX9_findsRide 159 = .ok (.iconst 1, 1) := by decide +kernel
theorem dX9_findsRide_160 : decode cX9_findsRide 160 = .ok (.isub, 1) := by decide +kernel
theorem dX9_findsRide_161 : decode cX9_findsRide 161 = .ok (.iload 7, 2) := by decide +kernel
theorem dX9_findsRide_163 : decode cX9_findsRide 163 = .ok (.iastore, 1) := by decide +kernel
theorem dX9_findsRide_164 : decode cX9_findsRide 164 = .ok (.aload_n 0, 1) := by decide +kernel
theorem dX9_findsRide_165 : decode cX9_findsRide 165 = .ok (.getfield 76, 3) := by decide +kernel
theorem dX9_findsRide_168 : decode cX9_findsRide 168 = .ok (.iload_n 1, 1) := by decide +kernel
theorem dX9_findsRide_169 : decode cX9_findsRide 169 = .ok (.iconst 1, 1) := by decide +kernel
theorem dX9_findsRide_170 : decode cX9_findsRide 170 = .ok (.isub, 1) := by decide +kernel
theorem dX9_findsRide_171 : decode cX9_findsRide 171 = .ok (.iload 8, 2) := by decide +kernel
theorem dX9_findsRide_173 : decode cX9_findsRide 173 = .ok (.iastore, 1) := by decide +kernel
theorem dX9_findsRide_174 : decode cX9_findsRide 174 = .ok (.iinc 6 1, 3) := by decide +kernel
theorem dX9_findsRide_177 : decode cX9_findsRide 177 = .ok (.goto (-125), 3) := by decide +kernel
theorem dX9_findsRide_180 : decode cX9_findsRide 180 = .ok (.iinc 5 1, 3) := by decide +kernel
theorem dX9_findsRide_183 : decode cX9_findsRide 183 = .ok (.goto (-153), 3) := by decide +kernel
theorem dX9_findsRide_186 : decode cX9_findsRide 186 = .ok (.iinc 4 1, 3) := by decide +kernel
theorem dX9_findsRide_189 : decode cX9_findsRide 189 = .ok (.goto (-184), 3) := by decide +kernel
theorem dX9_findsRide_192 : decode cX9_findsRide 192 = .ok (.return_, 1) := by decide +kernel
theorem dX9_aheadOf_0 : decode cX9_aheadOf 0 = .ok (.aload_n 0, 1) := by decide +kernel
theorem dX9_aheadOf_1 : decode cX9_aheadOf 1 = .ok (.getfield 31, 3) := by decide +kernel
theorem dX9_aheadOf_4 : decode cX9_aheadOf 4 = .ok (.bipush 6, 2) := by decide +kernel
theorem dX9_aheadOf_6 : decode cX9_aheadOf 6 = .ok (.aload_n 0, 1) := by decide +kernel
theorem dX9_aheadOf_7 : decode cX9_aheadOf 7 = .ok (.getfield 67, 3) := by decide +kernel
theorem dX9_aheadOf_10 : decode cX9_aheadOf 10 = .ok (.iload_n 1, 1) := by decide +kernel
theorem dX9_aheadOf_11 : decode cX9_aheadOf 11 = .ok (.iconst 1, 1) := by decide +kernel
theorem dX9_aheadOf_12 : decode cX9_aheadOf 12 = .ok (.isub, 1) := by decide +kernel
theorem dX9_aheadOf_13 : decode cX9_aheadOf 13 = .ok (.iaload, 1) := by decide +kernel
theorem dX9_aheadOf_14 : decode cX9_aheadOf 14 = .ok (.imul, 1) := by decide +kernel
theorem dX9_aheadOf_15 : decode cX9_aheadOf 15 = .ok (.aload_n 0, 1) := by decide +kernel
theorem dX9_aheadOf_16 : decode cX9_aheadOf 16 = .ok (.getfield 73, 3) := by decide +kernel
theorem dX9_aheadOf_19 : decode cX9_aheadOf 19 = .ok (.iload_n 1, 1) := by decide +kernel
theorem dX9_aheadOf_20 : decode cX9_aheadOf 20 = .ok (.iconst 1, 1) := by decide +kernel
theorem dX9_aheadOf_21 : decode cX9_aheadOf 21 = .ok (.isub, 1) := by decide +kernel
theorem dX9_aheadOf_22 : decode cX9_aheadOf 22 = .ok (.iaload, 1) := by decide +kernel
theorem dX9_aheadOf_23 : decode cX9_aheadOf 23 = .ok (.iadd, 1) := by decide +kernel
theorem dX9_aheadOf_24 : decode cX9_aheadOf 24 = .ok (.iaload, 1) := by decide +kernel
theorem dX9_aheadOf_25 : decode cX9_aheadOf 25 = .ok (.istore_n 2, 1) := by decide +kernel
theorem dX9_aheadOf_26 : decode cX9_aheadOf 26 = .ok (.aload_n 0, 1) := by decide +kernel
theorem dX9_aheadOf_27 : decode cX9_aheadOf 27 = .ok (.aload_n 0, 1) := by decide +kernel
theorem dX9_aheadOf_28 : decode cX9_aheadOf 28 = .ok (.getfield 67, 3) := by decide +kernel
theorem dX9_aheadOf_31 : decode cX9_aheadOf 31 = .ok (.iload_n 1, 1) := by decide +kernel
theorem dX9_aheadOf_32 : decode cX9_aheadOf 32 = .ok (.iconst 1, 1) := by decide +kernel
theorem dX9_aheadOf_33 : decode cX9_aheadOf 33 = .ok (.isub, 1) := by decide +kernel
theorem dX9_aheadOf_34 : decode cX9_aheadOf 34 = .ok (.iaload, 1) := by decide +kernel
theorem dX9_aheadOf_35 : decode cX9_aheadOf 35 = .ok (.aload_n 0, 1) := by decide +kernel
theorem dX9_aheadOf_36 : decode cX9_aheadOf 36 = .ok (.getfield 70, 3) := by decide +kernel
theorem dX9_aheadOf_39 : decode cX9_aheadOf 39 = .ok (.iload_n 1, 1) := by decide +kernel
theorem dX9_aheadOf_40 : decode cX9_aheadOf 40 = .ok (.iconst 1, 1) := by decide +kernel
theorem dX9_aheadOf_41 : decode cX9_aheadOf 41 = .ok (.isub, 1) := by decide +kernel
theorem dX9_aheadOf_42 : decode cX9_aheadOf 42 = .ok (.iaload, 1) := by decide +kernel
theorem dX9_aheadOf_43 : decode cX9_aheadOf 43 = .ok (.aload_n 0, 1) := by decide +kernel
theorem dX9_aheadOf_44 : decode cX9_aheadOf 44 = .ok (.getfield 73, 3) := by decide +kernel
theorem dX9_aheadOf_47 : decode cX9_aheadOf 47 = .ok (.iload_n 1, 1) := by decide +kernel
theorem dX9_aheadOf_48 : decode cX9_aheadOf 48 = .ok (.iconst 1, 1) := by decide +kernel
theorem dX9_aheadOf_49 : decode cX9_aheadOf 49 = .ok (.isub, 1) := by decide +kernel
theorem dX9_aheadOf_50 : decode cX9_aheadOf 50 = .ok (.iaload, 1) := by decide +kernel
theorem dX9_aheadOf_51 : decode cX9_aheadOf 51 = .ok (.invokevirtual 169, 3) := by decide +kernel
theorem dX9_aheadOf_54 : decode cX9_aheadOf 54 = .ok (.istore_n 3, 1) := by decide +kernel
theorem dX9_aheadOf_55 : decode cX9_aheadOf 55 = .ok (.iload_n 2, 1) := by decide +kernel
theorem dX9_aheadOf_56 : decode cX9_aheadOf 56 = .ok (.istore 4, 2) := by decide +kernel
theorem dX9_aheadOf_58 : decode cX9_aheadOf 58 = .ok (.aload_n 0, 1) := by decide +kernel
theorem dX9_aheadOf_59 : decode cX9_aheadOf 59 = .ok (.getfield 79, 3) := by decide +kernel
theorem dX9_aheadOf_62 : decode cX9_aheadOf 62 = .ok (.iload_n 1, 1) := by decide +kernel
theorem dX9_aheadOf_63 : decode cX9_aheadOf 63 = .ok (.iconst 1, 1) := by decide +kernel
theorem dX9_aheadOf_64 : decode cX9_aheadOf 64 = .ok (.isub, 1) := by decide +kernel
theorem dX9_aheadOf_65 : decode cX9_aheadOf 65 = .ok (.aload_n 0, 1) := by decide +kernel
theorem dX9_aheadOf_66 : decode cX9_aheadOf 66 = .ok (.getfield 7, 3) := by decide +kernel
theorem dX9_aheadOf_69 : decode cX9_aheadOf 69 = .ok (.iload_n 2, 1) := by decide +kernel
theorem dX9_aheadOf_70 : decode cX9_aheadOf 70 = .ok (.iaload, 1) := by decide +kernel
theorem dX9_aheadOf_71 : decode cX9_aheadOf 71 = .ok (.iastore, 1) := by decide +kernel
theorem dX9_aheadOf_72 : decode cX9_aheadOf 72 = .ok (.aload_n 0, 1) := by decide +kernel
theorem dX9_aheadOf_73 : decode cX9_aheadOf 73 = .ok (.getfield 61, 3) := by decide +kernel
theorem dX9_aheadOf_76 : decode cX9_aheadOf 76 = .ok (.bipush 10, 2) := by decide +kernel
theorem dX9_aheadOf_78 : decode cX9_aheadOf 78 = .ok (.iload_n 1, 1) := by decide +kernel
theorem dX9_aheadOf_79 : decode cX9_aheadOf 79 = .ok (.iconst 1, 1) := by decide +kernel
theorem dX9_aheadOf_80 : decode cX9_aheadOf 80 = .ok (.isub, 1) := by decide +kernel
theorem dX9_aheadOf_81 : decode cX9_aheadOf 81 = .ok (.imul, 1) := by decide +kernel
theorem dX9_aheadOf_82 : decode cX9_aheadOf 82 = .ok (.iload_n 2, 1) := by decide +kernel
theorem dX9_aheadOf_83 : decode cX9_aheadOf 83 = .ok (.iadd, 1) := by decide +kernel
theorem dX9_aheadOf_84 : decode cX9_aheadOf 84 = .ok (.iaload, 1) := by decide +kernel
theorem dX9_aheadOf_85 : decode cX9_aheadOf 85 = .ok (.aload_n 0, 1) := by decide +kernel
theorem dX9_aheadOf_86 : decode cX9_aheadOf 86 = .ok (.getfield 7, 3) := by decide +kernel
theorem dX9_aheadOf_89 : decode cX9_aheadOf 89 = .ok (.iload_n 2, 1) := by decide +kernel
theorem dX9_aheadOf_90 : decode cX9_aheadOf 90 = .ok (.iaload, 1) := by decide +kernel
theorem dX9_aheadOf_91 : decode cX9_aheadOf 91 = .ok (.iadd, 1) := by decide +kernel
theorem dX9_aheadOf_92 : decode cX9_aheadOf 92 = .ok (.iload_n 3, 1) := by decide +kernel
theorem dX9_aheadOf_93 : decode cX9_aheadOf 93 = .ok (.if_icmp .le 84, 3) := by decide +kernel
theorem dX9_aheadOf_96 : decode cX9_aheadOf 96 = .ok (.iconst (-1), 1) := by decide +kernel
theorem dX9_aheadOf_97 : decode cX9_aheadOf 97 = .ok (.istore 4, 2) := by decide +kernel
theorem dX9_aheadOf_99 : decode cX9_aheadOf 99 = .ok (.iconst 0, 1) := by decide +kernel
theorem dX9_aheadOf_100 : decode cX9_aheadOf 100 = .ok (.istore 5, 2) := by decide +kernel
theorem dX9_aheadOf_102 : decode cX9_aheadOf 102 = .ok (.iload 5, 2) := by decide +kernel
theorem dX9_aheadOf_104 : decode cX9_aheadOf 104 = .ok (.aload_n 0, 1) := by decide +kernel
theorem dX9_aheadOf_105 : decode cX9_aheadOf 105 = .ok (.getfield 125, 3) := by decide +kernel
theorem dX9_aheadOf_108 : decode cX9_aheadOf 108 = .ok (.if_icmp .ge 69, 3) := by decide +kernel
theorem dX9_aheadOf_111 : decode cX9_aheadOf 111 = .ok (.iload 4, 2) := by decide +kernel
theorem dX9_aheadOf_113 : decode cX9_aheadOf 113 = .ok (.iconst (-1), 1) := by decide +kernel
theorem dX9_aheadOf_114 : decode cX9_aheadOf 114 = .ok (.if_icmp .ne 63, 3) := by decide +kernel
theorem dX9_aheadOf_117 : decode cX9_aheadOf 117 = .ok (.aload_n 0, 1) := by decide +kernel
theorem dX9_aheadOf_118 : decode cX9_aheadOf 118 = .ok (.getfield 13, 3) := by decide +kernel
theorem dX9_aheadOf_121 : decode cX9_aheadOf 121 = .ok (.bipush 10, 2) := by decide +kernel
theorem dX9_aheadOf_123 : decode cX9_aheadOf 123 = .ok (.iload 5, 2) := by decide +kernel
theorem dX9_aheadOf_125 : decode cX9_aheadOf 125 = .ok (.imul, 1) := by decide +kernel
theorem dX9_aheadOf_126 : decode cX9_aheadOf 126 = .ok (.iload_n 2, 1) := by decide +kernel
theorem dX9_aheadOf_127 : decode cX9_aheadOf 127 = .ok (.iadd, 1) := by decide +kernel
theorem dX9_aheadOf_128 : decode cX9_aheadOf 128 = .ok (.iaload, 1) := by decide +kernel
theorem dX9_aheadOf_129 : decode cX9_aheadOf 129 = .ok (.istore 6, 2) := by decide +kernel
theorem dX9_aheadOf_131 : decode cX9_aheadOf 131 = .ok (.iload 6, 2) := by decide +kernel
theorem dX9_aheadOf_133 : decode cX9_aheadOf 133 = .ok (.ifCond .le 38, 3) := by decide +kernel
theorem dX9_aheadOf_136 : decode cX9_aheadOf 136 = .ok (.aload_n 0, 1) := by decide +kernel
theorem dX9_aheadOf_137 : decode cX9_aheadOf 137 = .ok (.getfield 61, 3) := by decide +kernel
theorem dX9_aheadOf_140 : decode cX9_aheadOf 140 = .ok (.bipush 10, 2) := by decide +kernel
theorem dX9_aheadOf_142 : decode cX9_aheadOf 142 = .ok (.iload_n 1, 1) := by decide +kernel
theorem dX9_aheadOf_143 : decode cX9_aheadOf 143 = .ok (.iconst 1, 1) := by decide +kernel
theorem dX9_aheadOf_144 : decode cX9_aheadOf 144 = .ok (.isub, 1) := by decide +kernel
theorem dX9_aheadOf_145 : decode cX9_aheadOf 145 = .ok (.imul, 1) := by decide +kernel
theorem dX9_aheadOf_146 : decode cX9_aheadOf 146 = .ok (.iload 5, 2) := by decide +kernel
theorem dX9_aheadOf_148 : decode cX9_aheadOf 148 = .ok (.iadd, 1) := by decide +kernel
theorem dX9_aheadOf_149 : decode cX9_aheadOf 149 = .ok (.iaload, 1) := by decide +kernel
theorem dX9_aheadOf_150 : decode cX9_aheadOf 150 = .ok (.iload 6, 2) := by decide +kernel
theorem dX9_aheadOf_152 : decode cX9_aheadOf 152 = .ok (.iadd, 1) := by decide +kernel
theorem dX9_aheadOf_153 : decode cX9_aheadOf 153 = .ok (.iload_n 3, 1) := by decide +kernel
theorem dX9_aheadOf_154 : decode cX9_aheadOf 154 = .ok (.if_icmp .gt 17, 3) := by decide +kernel
theorem dX9_aheadOf_157 : decode cX9_aheadOf 157 = .ok (.iload 5, 2) := by decide +kernel
theorem dX9_aheadOf_159 : decode cX9_aheadOf 159 = .ok (.istore 4, 2) := by decide +kernel
theorem dX9_aheadOf_161 : decode cX9_aheadOf 161 = .ok (.aload_n 0, 1) := by decide +kernel
theorem dX9_aheadOf_162 : decode cX9_aheadOf 162 = .ok (.getfield 79, 3) := by decide +kernel
theorem dX9_aheadOf_165 : decode cX9_aheadOf 165 = .ok (.iload_n 1, 1) := by decide +kernel
theorem dX9_aheadOf_166 : decode cX9_aheadOf 166 = .ok (.iconst 1, 1) := by decide +kernel
theorem dX9_aheadOf_167 : decode cX9_aheadOf 167 = .ok (.isub, 1) := by decide +kernel
theorem dX9_aheadOf_168 : decode cX9_aheadOf 168 = .ok (.iload 6, 2) := by decide +kernel
theorem dX9_aheadOf_170 : decode cX9_aheadOf 170 = .ok (.iastore, 1) := by decide +kernel
theorem dX9_aheadOf_171 : decode cX9_aheadOf 171 = .ok (.iinc 5 1, 3) := by decide +kernel
theorem dX9_aheadOf_174 : decode cX9_aheadOf 174 = .ok (.goto (-72), 3) := by decide +kernel
theorem dX9_aheadOf_177 : decode cX9_aheadOf 177 = .ok (.iload 4, 2) := by decide +kernel
theorem dX9_aheadOf_179 : decode cX9_aheadOf 179 = .ok (.ireturn, 1) := by decide +kernel
theorem dX9_finds_0 : decode cX9_finds 0 = .ok (.aload_n 0, 1) := by decide +kernel
theorem dX9_finds_1 : decode cX9_finds 1 = .ok (.iload_n 1, 1) := by decide +kernel
theorem dX9_finds_2 : decode cX9_finds 2 = .ok (.iload_n 3, 1) := by decide +kernel
theorem dX9_finds_3 : decode cX9_finds 3 = .ok (.iload 4, 2) := by decide +kernel
theorem dX9_finds_5 : decode cX9_finds 5 = .ok (.invokevirtual 192, 3) := by decide +kernel
theorem dX9_finds_8 : decode cX9_finds 8 = .ok (.aload_n 0, 1) := by decide +kernel
theorem dX9_finds_9 : decode cX9_finds 9 = .ok (.aload_n 0, 1) := by decide +kernel
theorem dX9_finds_10 : decode cX9_finds 10 = .ok (.iload_n 2, 1) := by decide +kernel
theorem dX9_finds_11 : decode cX9_finds 11 = .ok (.iload 4, 2) := by decide +kernel
theorem dX9_finds_13 : decode cX9_finds 13 = .ok (.invokevirtual 195, 3) := by decide +kernel
theorem dX9_finds_16 : decode cX9_finds 16 = .ok (.putfield 203, 3) := by decide +kernel
theorem dX9_finds_19 : decode cX9_finds 19 = .ok (.aload_n 0, 1) := by decide +kernel
theorem dX9_finds_20 : decode cX9_finds 20 = .ok (.aload_n 0, 1) := by decide +kernel
theorem dX9_finds_21 : decode cX9_finds 21 = .ok (.getfield 203, 3) := by decide +kernel
theorem dX9_finds_24 : decode cX9_finds 24 = .ok (.ldc 176, 2) := by decide +kernel
theorem dX9_finds_26 : decode cX9_finds 26 = .ok (.if_icmp .ne 7, 3) := by decide +kernel
theorem dX9_finds_29 : decode cX9_finds 29 = .ok (.iconst 0, 1) := by decide +kernel
theorem dX9_finds_30 : decode cX9_finds 30 = .ok (.goto 5, 3) := by decide +kernel
theorem dX9_finds_33 : decode cX9_finds 33 = .ok (.iload 4, 2) := by decide +kernel
theorem dX9_finds_35 : decode cX9_finds 35 = .ok (.putfield 206, 3) := by decide +kernel
theorem dX9_finds_38 : decode cX9_finds 38 = .ok (.aload_n 0, 1) := by decide +kernel
theorem dX9_finds_39 : decode cX9_finds 39 = .ok (.getfield 206, 3) := by decide +kernel
theorem dX9_finds_42 : decode cX9_finds 42 = .ok (.ifCond .ne 5, 3) := by decide +kernel
theorem dX9_finds_45 : decode cX9_finds 45 = .ok (.iconst 0, 1) := by decide +kernel
theorem dX9_finds_46 : decode cX9_finds 46 = .ok (.ireturn, 1) := by decide +kernel
theorem dX9_finds_47 : decode cX9_finds 47 = .ok (.iload_n 2, 1) := by decide +kernel
theorem dX9_finds_48 : decode cX9_finds 48 = .ok (.istore 5, 2) := by decide +kernel
theorem dX9_finds_50 : decode cX9_finds 50 = .ok (.aload_n 0, 1) := by decide +kernel
theorem dX9_finds_51 : decode cX9_finds 51 = .ok (.getfield 79, 3) := by decide +kernel
theorem dX9_finds_54 : decode cX9_finds 54 = .ok (.iload 4, 2) := by decide +kernel
theorem dX9_finds_56 : decode cX9_finds 56 = .ok (.iconst 0, 1) := by decide +kernel
theorem dX9_finds_57 : decode cX9_finds 57 = .ok (.iastore, 1) := by decide +kernel
theorem dX9_finds_58 : decode cX9_finds 58 = .ok (.aload_n 0, 1) := by decide +kernel
theorem dX9_finds_59 : decode cX9_finds 59 = .ok (.getfield 61, 3) := by decide +kernel
theorem dX9_finds_62 : decode cX9_finds 62 = .ok (.bipush 10, 2) := by decide +kernel
theorem dX9_finds_64 : decode cX9_finds 64 = .ok (.iload 4, 2) := by decide +kernel
theorem dX9_finds_66 : decode cX9_finds 66 = .ok (.imul, 1) := by decide +kernel
theorem dX9_finds_67 : decode cX9_finds 67 = .ok (.iload_n 2, 1) := by decide +kernel
theorem dX9_finds_68 : decode cX9_finds 68 = .ok (.iadd, 1) := by decide +kernel
theorem dX9_finds_69 : decode cX9_finds 69 = .ok (.iaload, 1) := by decide +kernel
theorem dX9_finds_70 : decode cX9_finds 70 = .ok (.aload_n 0, 1) := by decide +kernel
theorem dX9_finds_71 : decode cX9_finds 71 = .ok (.getfield 203, 3) := by decide +kernel
theorem dX9_finds_74 : decode cX9_finds 74 = .ok (.if_icmp .eq 89, 3) := by decide +kernel
theorem dX9_finds_77 : decode cX9_finds 77 = .ok (.iconst (-1), 1) := by decide +kernel
theorem dX9_finds_78 : decode cX9_finds 78 = .ok (.istore 5, 2) := by decide +kernel
theorem dX9_finds_80 : decode cX9_finds 80 = .ok (.iconst 0, 1) := by decide +kernel
theorem dX9_finds_81 : decode cX9_finds 81 = .ok (.istore 6, 2) := by decide +kernel
theorem dX9_finds_83 : decode cX9_finds 83 = .ok (.iload 6, 2) := by decide +kernel
theorem dX9_finds_85 : decode cX9_finds 85 = .ok (.aload_n 0, 1) := by decide +kernel
theorem dX9_finds_86 : decode cX9_finds 86 = .ok (.getfield 125, 3) := by decide +kernel
theorem dX9_finds_89 : decode cX9_finds 89 = .ok (.if_icmp .ge 74, 3) := by decide +kernel
theorem dX9_finds_92 : decode cX9_finds 92 = .ok (.iload 5, 2) := by decide +kernel
theorem dX9_finds_94 : decode cX9_finds 94 = .ok (.iconst (-1), 1) := by decide +kernel
theorem dX9_finds_95 : decode cX9_finds 95 = .ok (.if_icmp .ne 68, 3) := by decide +kernel
theorem dX9_finds_98 : decode cX9_finds 98 = .ok (.aload_n 0, 1) := by decide +kernel
theorem dX9_finds_99 : decode cX9_finds 99 = .ok (.getfield 13, 3) := by decide +kernel
theorem dX9_finds_102 : decode cX9_finds 102 = .ok (.bipush 10, 2) := by decide +kernel
theorem dX9_finds_104 : decode cX9_finds 104 = .ok (.iload 6, 2) := by decide +kernel
theorem dX9_finds_106 : decode cX9_finds 106 = .ok (.imul, 1) := by decide +kernel
theorem dX9_finds_107 : decode cX9_finds 107 = .ok (.iload_n 2, 1) := by decide +kernel
theorem dX9_finds_108 : decode cX9_finds 108 = .ok (.iadd, 1) := by decide +kernel
theorem dX9_finds_109 : decode cX9_finds 109 = .ok (.iaload, 1) := by decide +kernel
theorem dX9_finds_110 : decode cX9_finds 110 = .ok (.istore 7, 2) := by decide +kernel
theorem dX9_finds_112 : decode cX9_finds 112 = .ok (.iload 7, 2) := by decide +kernel
theorem dX9_finds_114 : decode cX9_finds 114 = .ok (.ifCond .le 31, 3) := by decide +kernel
theorem dX9_finds_117 : decode cX9_finds 117 = .ok (.aload_n 0, 1) := by decide +kernel
theorem dX9_finds_118 : decode cX9_finds 118 = .ok (.getfield 61, 3) := by decide +kernel
theorem dX9_finds_121 : decode cX9_finds 121 = .ok (.bipush 10, 2) := by decide +kernel
theorem dX9_finds_123 : decode cX9_finds 123 = .ok (.iload 4, 2) := by decide +kernel
theorem dX9_finds_125 : decode cX9_finds 125 = .ok (.imul, 1) := by decide +kernel
theorem dX9_finds_126 : decode cX9_finds 126 = .ok (.iload 6, 2) := by decide +kernel
theorem dX9_finds_128 : decode cX9_finds 128 = .ok (.iadd, 1) := by decide +kernel
theorem dX9_finds_129 : decode cX9_finds 129 = .ok (.iaload, 1) := by decide +kernel
theorem dX9_finds_130 : decode cX9_finds 130 = .ok (.iload 7, 2) := by decide +kernel
theorem dX9_finds_132 : decode cX9_finds 132 = .ok (.iadd, 1) := by decide +kernel
theorem dX9_finds_133 : decode cX9_finds 133 = .ok (.aload_n 0, 1) := by decide +kernel
theorem dX9_finds_134 : decode cX9_finds 134 = .ok (.getfield 203, 3) := by decide +kernel
theorem dX9_finds_137 : decode cX9_finds 137 = .ok (.if_icmp .ne 8, 3) := by decide +kernel
theorem dX9_finds_140 : decode cX9_finds 140 = .ok (.iload 6, 2) := by decide +kernel
theorem dX9_finds_142 : decode cX9_finds 142 = .ok (.goto 4, 3) := by decide +kernel
theorem dX9_finds_145 : decode cX9_finds 145 = .ok (.iconst (-1), 1) := by decide +kernel
theorem dX9_finds_146 : decode cX9_finds 146 = .ok (.istore 5, 2) := by decide +kernel
theorem dX9_finds_148 : decode cX9_finds 148 = .ok (.aload_n 0, 1) := by decide +kernel
theorem dX9_finds_149 : decode cX9_finds 149 = .ok (.getfield 79, 3) := by decide +kernel
theorem dX9_finds_152 : decode cX9_finds 152 = .ok (.iload 4, 2) := by decide +kernel
theorem dX9_finds_154 : decode cX9_finds 154 = .ok (.iload 7, 2) := by decide +kernel
theorem dX9_finds_156 : decode cX9_finds 156 = .ok (.iastore, 1) := by decide +kernel
theorem dX9_finds_157 : decode cX9_finds 157 = .ok (.iinc 6 1, 3) := by decide +kernel
theorem dX9_finds_160 : decode cX9_finds 160 = .ok (.goto (-77), 3) := by decide +kernel
theorem dX9_finds_163 : decode cX9_finds 163 = .ok (.iload 4, 2) := by decide +kernel
theorem dX9_finds_165 : decode cX9_finds 165 = .ok (.istore 6, 2) := by decide +kernel
theorem dX9_finds_167 : decode cX9_finds 167 = .ok (.iload 6, 2) := by decide +kernel
theorem dX9_finds_169 : decode cX9_finds 169 = .ok (.ifCond .le 31, 3) := by decide +kernel
theorem dX9_finds_172 : decode cX9_finds 172 = .ok (.aload_n 0, 1) := by decide +kernel
theorem dX9_finds_173 : decode cX9_finds 173 = .ok (.iload 6, 2) := by decide +kernel
theorem dX9_finds_175 : decode cX9_finds 175 = .ok (.iload 5, 2) := by decide +kernel
theorem dX9_finds_177 : decode cX9_finds 177 = .ok (.invokevirtual 209, 3) := by decide +kernel
theorem dX9_finds_180 : decode cX9_finds 180 = .ok (.iload 6, 2) := by decide +kernel
theorem dX9_finds_182 : decode cX9_finds 182 = .ok (.iconst 1, 1) := by decide +kernel
theorem dX9_finds_183 : decode cX9_finds 183 = .ok (.if_icmp .le 11, 3) := by decide +kernel
theorem dX9_finds_186 : decode cX9_finds 186 = .ok (.aload_n 0, 1) := by decide +kernel
theorem dX9_finds_187 : decode cX9_finds 187 = .ok (.iload 6, 2) := by decide +kernel
theorem dX9_finds_189 : decode cX9_finds 189 = .ok (.invokevirtual 213, 3) := by decide +kernel
theorem dX9_finds_192 : decode cX9_finds 192 = .ok (.istore 5, 2) := by decide +kernel
theorem dX9_finds_194 : decode cX9_finds 194 = .ok (.iinc 6 (-1), 3) := by decide +kernel
theorem dX9_finds_197 : decode cX9_finds 197 = .ok (.goto (-30), 3) := by decide +kernel
theorem dX9_finds_200 : decode cX9_finds 200 = .ok (.aload_n 0, 1) := by decide +kernel
theorem dX9_finds_201 : decode cX9_finds 201 = .ok (.getfield 31, 3) := by decide +kernel
theorem dX9_finds_204 : decode cX9_finds 204 = .ok (.bipush 6, 2) := by decide +kernel
theorem dX9_finds_206 : decode cX9_finds 206 = .ok (.aload_n 0, 1) := by decide +kernel
theorem dX9_finds_207 : decode cX9_finds 207 = .ok (.getfield 67, 3) := by decide +kernel
theorem dX9_finds_210 : decode cX9_finds 210 = .ok (.iconst 0, 1) := by decide +kernel
theorem dX9_finds_211 : decode cX9_finds 211 = .ok (.iaload, 1) := by decide +kernel
theorem dX9_finds_212 : decode cX9_finds 212 = .ok (.imul, 1) := by decide +kernel
theorem dX9_finds_213 : decode cX9_finds 213 = .ok (.aload_n 0, 1) := by decide +kernel
theorem dX9_finds_214 : decode cX9_finds 214 = .ok (.getfield 73, 3) := by decide +kernel
theorem dX9_finds_217 : decode cX9_finds 217 = .ok (.iconst 0, 1) := by decide +kernel
theorem dX9_finds_218 : decode cX9_finds 218 = .ok (.iaload, 1) := by decide +kernel
theorem dX9_finds_219 : decode cX9_finds 219 = .ok (.iadd, 1) := by decide +kernel
theorem dX9_finds_220 : decode cX9_finds 220 = .ok (.iaload, 1) := by decide +kernel
theorem dX9_finds_221 : decode cX9_finds 221 = .ok (.istore 6, 2) := by decide +kernel
theorem dX9_finds_223 : decode cX9_finds 223 = .ok (.aload_n 0, 1) := by decide +kernel
theorem dX9_finds_224 : decode cX9_finds 224 = .ok (.getfield 79, 3) := by decide +kernel
theorem dX9_finds_227 : decode cX9_finds 227 = .ok (.iconst 0, 1) := by decide +kernel
theorem dX9_finds_228 : decode cX9_finds 228 = .ok (.iload 6, 2) := by decide +kernel
theorem dX9_finds_230 : decode cX9_finds 230 = .ok (.iload_n 1, 1) := by decide +kernel
theorem dX9_finds_231 : decode cX9_finds 231 = .ok (.if_icmp .ne 7, 3) := by decide +kernel
theorem dX9_finds_234 : decode cX9_finds 234 = .ok (.iconst 0, 1) := by decide +kernel
theorem dX9_finds_235 : decode cX9_finds 235 = .ok (.goto 15, 3) := by decide +kernel
theorem dX9_finds_238 : decode cX9_finds 238 = .ok (.aload_n 0, 1) := by decide +kernel
theorem dX9_finds_239 : decode cX9_finds 239 = .ok (.getfield 13, 3) := by decide +kernel
theorem dX9_finds_242 : decode cX9_finds 242 = .ok (.bipush 10, 2) := by decide +kernel
theorem dX9_finds_244 : decode cX9_finds 244 = .ok (.iload_n 1, 1) := by decide +kernel
theorem dX9_finds_245 : decode cX9_finds 245 = .ok (.imul, 1) := by decide +kernel
theorem dX9_finds_246 : decode cX9_finds 246 = .ok (.iload 6, 2) := by decide +kernel
theorem dX9_finds_248 : decode cX9_finds 248 = .ok (.iadd, 1) := by decide +kernel
theorem dX9_finds_249 : decode cX9_finds 249 = .ok (.iaload, 1) := by decide +kernel
theorem dX9_finds_250 : decode cX9_finds 250 = .ok (.iastore, 1) := by decide +kernel
theorem dX9_finds_251 : decode cX9_finds 251 = .ok (.iconst 1, 1) := by decide +kernel
theorem dX9_finds_252 : decode cX9_finds 252 = .ok (.ireturn, 1) := by decide +kernel
theorem dX9_ride_0 : decode cX9_ride 0 = .ok (.aload_n 0, 1) := by decide +kernel
theorem dX9_ride_1 : decode cX9_ride 1 = .ok (.iload_n 1, 1) := by decide +kernel
theorem dX9_ride_2 : decode cX9_ride 2 = .ok (.iload_n 2, 1) := by decide +kernel
theorem dX9_ride_3 : decode cX9_ride 3 = .ok (.iload_n 3, 1) := by decide +kernel
theorem dX9_ride_4 : decode cX9_ride 4 = .ok (.iload 4, 2) := by decide +kernel
theorem dX9_ride_6 : decode cX9_ride 6 = .ok (.iconst 1, 1) := by decide +kernel
theorem dX9_ride_7 : decode cX9_ride 7 = .ok (.iconst 4, 1) := by decide +kernel
theorem dX9_ride_8 : decode cX9_ride 8 = .ok (.invokestatic 128, 3) := by decide +kernel
theorem dX9_ride_11 : decode cX9_ride 11 = .ok (.ifCond .eq 22, 3) := by decide +kernel
theorem dX9_ride_14 : decode cX9_ride 14 = .ok (.iload 6, 2) := by decide +kernel
theorem dX9_ride_16 : decode cX9_ride 16 = .ok (.iconst 0, 1) := by decide +kernel
theorem dX9_ride_17 : decode cX9_ride 17 = .ok (.iconst 5, 1) := by decide +kernel
theorem dX9_ride_18 : decode cX9_ride 18 = .ok (.invokestatic 128, 3) := by decide +kernel
theorem dX9_ride_21 : decode cX9_ride 21 = .ok (.ifCond .eq 12, 3) := by decide +kernel
theorem dX9_ride_24 : decode cX9_ride 24 = .ok (.iload 5, 2) := by decide +kernel
theorem dX9_ride_26 : decode cX9_ride 26 = .ok (.ifCond .lt 7, 3) := by decide +kernel
theorem dX9_ride_29 : decode cX9_ride 29 = .ok (.iconst 1, 1) := by decide +kernel
theorem dX9_ride_30 : decode cX9_ride 30 = .ok (.goto 4, 3) := by decide +kernel
theorem dX9_ride_33 : decode cX9_ride 33 = .ok (.iconst 0, 1) := by decide +kernel
theorem dX9_ride_34 : decode cX9_ride 34 = .ok (.invokevirtual 188, 3) := by decide +kernel
theorem dX9_ride_37 : decode cX9_ride 37 = .ok (.ifCond .ne 5, 3) := by decide +kernel
theorem dX9_ride_40 : decode cX9_ride 40 = .ok (.iconst 0, 1) := by decide +kernel
theorem dX9_ride_41 : decode cX9_ride 41 = .ok (.ireturn, 1) := by decide +kernel
theorem dX9_ride_42 : decode cX9_ride 42 = .ok (.aload_n 0, 1) := by decide +kernel
theorem dX9_ride_43 : decode cX9_ride 43 = .ok (.iload_n 1, 1) := by decide +kernel
theorem dX9_ride_44 : decode cX9_ride 44 = .ok (.iload_n 2, 1) := by decide +kernel
theorem dX9_ride_45 : decode cX9_ride 45 = .ok (.iload_n 3, 1) := by decide +kernel
theorem dX9_ride_46 : decode cX9_ride 46 = .ok (.iload 4, 2) := by decide +kernel
theorem dX9_ride_48 : decode cX9_ride 48 = .ok (.invokevirtual 216, 3) := by decide +kernel
theorem dX9_ride_51 : decode cX9_ride 51 = .ok (.ifCond .eq 10, 3) := by decide +kernel
theorem dX9_ride_54 : decode cX9_ride 54 = .ok (.iload 5, 2) := by decide +kernel
theorem dX9_ride_56 : decode cX9_ride 56 = .ok (.iload 4, 2) := by decide +kernel
theorem dX9_ride_58 : decode cX9_ride 58 = .ok (.if_icmp .lt 5, 3) := by decide +kernel
theorem dX9_ride_61 : decode cX9_ride 61 = .ok (.iconst (-1), 1) := by decide +kernel
theorem dX9_ride_62 : decode cX9_ride 62 = .ok (.ireturn, 1) := by decide +kernel
theorem dX9_ride_63 : decode cX9_ride 63 = .ok (.bipush 6, 2) := by decide +kernel
theorem dX9_ride_65 : decode cX9_ride 65 = .ok (.aload_n 0, 1) := by decide +kernel
theorem dX9_ride_66 : decode cX9_ride 66 = .ok (.getfield 67, 3) := by decide +kernel
theorem dX9_ride_69 : decode cX9_ride 69 = .ok (.iload 5, 2) := by decide +kernel
theorem dX9_ride_71 : decode cX9_ride 71 = .ok (.iaload, 1) := by decide +kernel
theorem dX9_ride_72 : decode cX9_ride 72 = .ok (.imul, 1) := by decide +kernel
theorem dX9_ride_73 : decode cX9_ride 73 = .ok (.istore 7, 2) := by decide +kernel
theorem dX9_ride_75 : decode cX9_ride 75 = .ok (.iload 6, 2) := by decide +kernel
theorem dX9_ride_77 : decode cX9_ride 77 = .ok (.tableswitch 109 0 4 #[35, 43, 51, 67, 83], 35) := by decide +kernel
theorem dX9_ride_112 : decode cX9_ride 112 = .ok (.aload_n 0, 1) := by decide +kernel
theorem dX9_ride_113 : decode cX9_ride 113 = .ok (.getfield 67, 3) := by decide +kernel
theorem dX9_ride_116 : decode cX9_ride 116 = .ok (.iload 5, 2) := by decide +kernel
theorem dX9_ride_118 : decode cX9_ride 118 = .ok (.iaload, 1) := by decide +kernel
theorem dX9_ride_119 : decode cX9_ride 119 = .ok (.ireturn, 1) := by decide +kernel
theorem dX9_ride_120 : decode cX9_ride 120 = .ok (.aload_n 0, 1) := by decide +kernel
theorem dX9_ride_121 : decode cX9_ride 121 = .ok (.getfield 70, 3) := by decide +kernel
theorem dX9_ride_124 : decode cX9_ride 124 = .ok (.iload 5, 2) := by decide +kernel
theorem dX9_ride_126 : decode cX9_ride 126 = .ok (.iaload, 1) := by decide +kernel
theorem dX9_ride_127 : decode cX9_ride 127 = .ok (.ireturn, 1) := by decide +kernel
theorem dX9_ride_128 : decode cX9_ride 128 = .ok (.aload_n 0, 1) := by decide +kernel
theorem dX9_ride_129 : decode cX9_ride 129 = .ok (.getfield 31, 3) := by decide +kernel
theorem dX9_ride_132 : decode cX9_ride 132 = .ok (.iload 7, 2) := by decide +kernel
theorem dX9_ride_134 : decode cX9_ride 134 = .ok (.aload_n 0, 1) := by decide +kernel
theorem dX9_ride_135 : decode cX9_ride 135 = .ok (.getfield 73, 3) := by decide +kernel
theorem dX9_ride_138 : decode cX9_ride 138 = .ok (.iload 5, 2) := by decide +kernel
theorem dX9_ride_140 : decode cX9_ride 140 = .ok (.iaload, 1) := by decide +kernel
theorem dX9_ride_141 : decode cX9_ride 141 = .ok (.iadd, 1) := by decide +kernel
theorem dX9_ride_142 : decode cX9_ride 142 = .ok (.iaload, 1) := by decide +kernel
theorem dX9_ride_143 : decode cX9_ride 143 = .ok (.ireturn, 1) := by decide +kernel
theorem dX9_ride_144 : decode cX9_ride 144 = .ok (.aload_n 0, 1) := by decide +kernel
theorem dX9_ride_145 : decode cX9_ride 145 = .ok (.getfield 31, 3) := by decide +kernel
theorem dX9_ride_148 : decode cX9_ride 148 = .ok (.iload 7, 2) := by decide +kernel
theorem dX9_ride_150 : decode cX9_ride 150 = .ok (.aload_n 0, 1) := by decide +kernel
theorem dX9_ride_151 : decode cX9_ride 151 = .ok (.getfield 76, 3) := by decide +kernel
theorem dX9_ride_154 : decode cX9_ride 154 = .ok (.iload 5, 2) := by decide +kernel
theorem dX9_ride_156 : decode cX9_ride 156 = .ok (.iaload, 1) := by decide +kernel
theorem dX9_ride_157 : decode cX9_ride 157 = .ok (.iadd, 1) := by decide +kernel
theorem dX9_ride_158 : decode cX9_ride 158 = .ok (.iaload, 1) := by decide +kernel
theorem dX9_ride_159 : decode cX9_ride 159 = .ok (.ireturn, 1) := by decide +kernel
theorem dX9_ride_160 : decode cX9_ride 160 = .ok (.aload_n 0, 1) := by decide +kernel
theorem dX9_ride_161 : decode cX9_ride 161 = .ok (.aload_n 0, 1) := by decide +kernel
theorem dX9_ride_162 : decode cX9_ride 162 = .ok (.getfield 67, 3) := by decide +kernel
theorem dX9_ride_165 : decode cX9_ride 165 = .ok (.iload 5, 2) := by decide +kernel
theorem dX9_ride_167 : decode cX9_ride 167 = .ok (.iaload, 1) := by decide +kernel
theorem dX9_ride_168 : decode cX9_ride 168 = .ok (.aload_n 0, 1) := by decide +kernel
theorem dX9_ride_169 : decode cX9_ride 169 = .ok (.getfield 70, 3) := by decide +kernel
theorem dX9_ride_172 : decode cX9_ride 172 = .ok (.iload 5, 2) := by decide +kernel
theorem dX9_ride_174 : decode cX9_ride 174 = .ok (.iaload, 1) := by decide +kernel
theorem dX9_ride_175 : decode cX9_ride 175 = .ok (.aload_n 0, 1) := by decide +kernel
theorem dX9_ride_176 : decode cX9_ride 176 = .ok (.getfield 73, 3) := by decide +kernel
theorem dX9_ride_179 : decode cX9_ride 179 = .ok (.iload 5, 2) := by decide +kernel
theorem dX9_ride_181 : decode cX9_ride 181 = .ok (.iaload, 1) := by decide +kernel
theorem dX9_ride_182 : decode cX9_ride 182 = .ok (.invokevirtual 169, 3) := by decide +kernel
theorem dX9_ride_185 : decode cX9_ride 185 = .ok (.ireturn, 1) := by decide +kernel
theorem dX9_ride_186 : decode cX9_ride 186 = .ok (.aload_n 0, 1) := by decide +kernel
theorem dX9_ride_187 : decode cX9_ride 187 = .ok (.aload_n 0, 1) := by decide +kernel
theorem dX9_ride_188 : decode cX9_ride 188 = .ok (.getfield 67, 3) := by decide +kernel
theorem dX9_ride_191 : decode cX9_ride 191 = .ok (.iload 5, 2) := by decide +kernel
theorem dX9_ride_193 : decode cX9_ride 193 = .ok (.iaload, 1) := by decide +kernel
theorem dX9_ride_194 : decode cX9_ride 194 = .ok (.aload_n 0, 1) := by decide +kernel
theorem dX9_ride_195 : decode cX9_ride 195 = .ok (.getfield 70, 3) := by decide +kernel
theorem dX9_ride_198 : decode cX9_ride 198 = .ok (.iload 5, 2) := by decide +kernel
theorem dX9_ride_200 : decode cX9_ride 200 = .ok (.iaload, 1) := by decide +kernel
theorem dX9_ride_201 : decode cX9_ride 201 = .ok (.aload_n 0, 1) := by decide +kernel
theorem dX9_ride_202 : decode cX9_ride 202 = .ok (.getfield 76, 3) := by decide +kernel
theorem dX9_ride_205 : decode cX9_ride 205 = .ok (.iload 5, 2) := by decide +kernel
theorem dX9_ride_207 : decode cX9_ride 207 = .ok (.iaload, 1) := by decide +kernel
theorem dX9_ride_208 : decode cX9_ride 208 = .ok (.invokevirtual 173, 3) := by decide +kernel
theorem dX9_ride_211 : decode cX9_ride 211 = .ok (.ireturn, 1) := by decide +kernel
theorem dX9_chanceOf_0 : decode cX9_chanceOf 0 = .ok (.aload_n 0, 1) := by decide +kernel
theorem dX9_chanceOf_1 : decode cX9_chanceOf 1 = .ok (.getfield 46, 3) := by decide +kernel
theorem dX9_chanceOf_4 : decode cX9_chanceOf 4 = .ok (.iload_n 1, 1) := by decide +kernel
theorem dX9_chanceOf_5 : decode cX9_chanceOf 5 = .ok (.iaload, 1) := by decide +kernel
theorem dX9_chanceOf_6 : decode cX9_chanceOf 6 = .ok (.ifCond .ne 5, 3) := by decide +kernel
theorem dX9_chanceOf_9 : decode cX9_chanceOf 9 = .ok (.dconst 1, 1) := by decide +kernel
theorem dX9_chanceOf_10 : decode cX9_chanceOf 10 = .ok (.dreturn, 1) := by decide +kernel
theorem dX9_chanceOf_11 : decode cX9_chanceOf 11 = .ok (.iconst 0, 1) := by decide +kernel
theorem dX9_chanceOf_12 : decode cX9_chanceOf 12 = .ok (.istore_n 3, 1) := by decide +kernel
theorem dX9_chanceOf_13 : decode cX9_chanceOf 13 = .ok (.iconst 0, 1) := by decide +kernel
theorem dX9_chanceOf_14 : decode cX9_chanceOf 14 = .ok (.istore 4, 2) := by decide +kernel
theorem dX9_chanceOf_16 : decode cX9_chanceOf 16 = .ok (.iload 4, 2) := by decide +kernel
theorem dX9_chanceOf_18 : decode cX9_chanceOf 18 = .ok (.aload_n 0, 1) := by decide +kernel
theorem dX9_chanceOf_19 : decode cX9_chanceOf 19 = .ok (.getfield 46, 3) := by decide +kernel
theorem dX9_chanceOf_22 : decode cX9_chanceOf 22 = .ok (.iload_n 1, 1) := by decide +kernel
theorem dX9_chanceOf_23 : decode cX9_chanceOf 23 = .ok (.iaload, 1) := by decide +kernel
theorem dX9_chanceOf_24 : decode cX9_chanceOf 24 = .ok (.if_icmp .ge 33, 3) := by decide +kernel
theorem dX9_chanceOf_27 : decode cX9_chanceOf 27 = .ok (.iload_n 3, 1) := by decide +kernel
theorem dX9_chanceOf_28 : decode cX9_chanceOf 28 = .ok (.aload_n 0, 1) := by decide +kernel
theorem dX9_chanceOf_29 : decode cX9_chanceOf 29 = .ok (.getfield 49, 3) := by decide +kernel
theorem dX9_chanceOf_32 : decode cX9_chanceOf 32 = .ok (.bipush 30, 2) := by decide +kernel
theorem dX9_chanceOf_34 : decode cX9_chanceOf 34 = .ok (.iload_n 1, 1) := by decide +kernel
theorem dX9_chanceOf_35 : decode cX9_chanceOf 35 = .ok (.imul, 1) := by decide +kernel
theorem dX9_chanceOf_36 : decode cX9_chanceOf 36 = .ok (.iload 4, 2) := by decide +kernel
theorem dX9_chanceOf_38 : decode cX9_chanceOf 38 = .ok (.iadd, 1) := by decide +kernel
theorem dX9_chanceOf_39 : decode cX9_chanceOf 39 = .ok (.iaload, 1) := by decide +kernel
theorem dX9_chanceOf_40 : decode cX9_chanceOf 40 = .ok (.iload_n 2, 1) := by decide +kernel
theorem dX9_chanceOf_41 : decode cX9_chanceOf 41 = .ok (.if_icmp .gt 7, 3) := by decide +kernel
theorem dX9_chanceOf_44 : decode cX9_chanceOf 44 = .ok (.iconst 1, 1) := by decide +kernel
theorem dX9_chanceOf_45 : decode cX9_chanceOf 45 = .ok (.goto 4, 3) := by decide +kernel
theorem dX9_chanceOf_48 : decode cX9_chanceOf 48 = .ok (.iconst 0, 1) := by decide +kernel
theorem dX9_chanceOf_49 : decode cX9_chanceOf 49 = .ok (.iadd, 1) := by decide +kernel
theorem dX9_chanceOf_50 : decode cX9_chanceOf 50 = .ok (.istore_n 3, 1) := by decide +kernel
theorem dX9_chanceOf_51 : decode cX9_chanceOf 51 = .ok (.iinc 4 1, 3) := by decide +kernel
theorem dX9_chanceOf_54 : decode cX9_chanceOf 54 = .ok (.goto (-38), 3) := by decide +kernel
theorem dX9_chanceOf_57 : decode cX9_chanceOf 57 = .ok (.iload_n 3, 1) := by decide +kernel
theorem dX9_chanceOf_58 : decode cX9_chanceOf 58 = .ok (.i2d, 1) := by decide +kernel
theorem dX9_chanceOf_59 : decode cX9_chanceOf 59 = .ok (.aload_n 0, 1) := by decide +kernel
theorem dX9_chanceOf_60 : decode cX9_chanceOf 60 = .ok (.getfield 46, 3) := by decide +kernel
theorem dX9_chanceOf_63 : decode cX9_chanceOf 63 = .ok (.iload_n 1, 1) := by decide +kernel
theorem dX9_chanceOf_64 : decode cX9_chanceOf 64 = .ok (.iaload, 1) := by decide +kernel
theorem dX9_chanceOf_65 : decode cX9_chanceOf 65 = .ok (.i2d, 1) := by decide +kernel
theorem dX9_chanceOf_66 : decode cX9_chanceOf 66 = .ok (.ddiv, 1) := by decide +kernel
theorem dX9_chanceOf_67 : decode cX9_chanceOf 67 = .ok (.dreturn, 1) := by decide +kernel
theorem dX9_chance_0 : decode cX9_chance 0 = .ok (.dconst 1, 1) := by decide +kernel
theorem dX9_chance_1 : decode cX9_chance 1 = .ok (.dstore_n 1, 1) := by decide +kernel
theorem dX9_chance_2 : decode cX9_chance 2 = .ok (.iconst 1, 1) := by decide +kernel
theorem dX9_chance_3 : decode cX9_chance 3 = .ok (.istore_n 3, 1) := by decide +kernel
theorem dX9_chance_4 : decode cX9_chance 4 = .ok (.iload_n 3, 1) := by decide +kernel
theorem dX9_chance_5 : decode cX9_chance 5 = .ok (.aload_n 0, 1) := by decide +kernel
theorem dX9_chance_6 : decode cX9_chance 6 = .ok (.getfield 206, 3) := by decide +kernel
theorem dX9_chance_9 : decode cX9_chance 9 = .ok (.if_icmp .ge 86, 3) := by decide +kernel
theorem dX9_chance_12 : decode cX9_chance 12 = .ok (.aload_n 0, 1) := by decide +kernel
theorem dX9_chance_13 : decode cX9_chance 13 = .ok (.aload_n 0, 1) := by decide +kernel
theorem dX9_chance_14 : decode cX9_chance 14 = .ok (.getfield 67, 3) := by decide +kernel
theorem dX9_chance_17 : decode cX9_chance 17 = .ok (.iload_n 3, 1) := by decide +kernel
theorem dX9_chance_18 : decode cX9_chance 18 = .ok (.iconst 1, 1) := by decide +kernel
theorem dX9_chance_19 : decode cX9_chance 19 = .ok (.isub, 1) := by decide +kernel
theorem dX9_chance_20 : decode cX9_chance 20 = .ok (.iaload, 1) := by decide +kernel
theorem dX9_chance_21 : decode cX9_chance 21 = .ok (.aload_n 0, 1) := by decide +kernel
theorem dX9_chance_22 : decode cX9_chance 22 = .ok (.getfield 70, 3) := by decide +kernel
theorem dX9_chance_25 : decode cX9_chance 25 = .ok (.iload_n 3, 1) := by decide +kernel
theorem dX9_chance_26 : decode cX9_chance 26 = .ok (.iconst 1, 1) := by decide +kernel
theorem dX9_chance_27 : decode cX9_chance 27 = .ok (.isub, 1) := by decide +kernel
theorem dX9_chance_28 : decode cX9_chance 28 = .ok (.iaload, 1) := by decide +kernel
theorem dX9_chance_29 : decode cX9_chance 29 = .ok (.aload_n 0, 1) := by decide +kernel
theorem dX9_chance_30 : decode cX9_chance 30 = .ok (.getfield 76, 3) := by decide +kernel
theorem dX9_chance_33 : decode cX9_chance 33 = .ok (.iload_n 3, 1) := by decide +kernel
theorem dX9_chance_34 : decode cX9_chance 34 = .ok (.iconst 1, 1) := by decide +kernel
theorem dX9_chance_35 : decode cX9_chance 35 = .ok (.isub, 1) := by decide +kernel
theorem dX9_chance_36 : decode cX9_chance 36 = .ok (.iaload, 1) := by decide +kernel
theorem dX9_chance_37 : decode cX9_chance 37 = .ok (.invokevirtual 173, 3) := by decide +kernel
theorem dX9_chance_40 : decode cX9_chance 40 = .ok (.aload_n 0, 1) := by decide +kernel
theorem dX9_chance_41 : decode cX9_chance 41 = .ok (.getfield 79, 3) := by decide +kernel
theorem dX9_chance_44 : decode cX9_chance 44 = .ok (.iload_n 3, 1) := by decide +kernel
theorem dX9_chance_45 : decode cX9_chance 45 = .ok (.iaload, 1) := by decide +kernel
theorem dX9_chance_46 : decode cX9_chance 46 = .ok (.iadd, 1) := by decide +kernel
theorem dX9_chance_47 : decode cX9_chance 47 = .ok (.istore 4, 2) := by decide +kernel
theorem dX9_chance_49 : decode cX9_chance 49 = .ok (.dload_n 1, 1) := by decide +kernel
theorem dX9_chance_50 : decode cX9_chance 50 = .ok (.aload_n 0, 1) := by decide +kernel
theorem dX9_chance_51 : decode cX9_chance 51 = .ok (.aload_n 0, 1) := by decide +kernel
theorem dX9_chance_52 : decode cX9_chance 52 = .ok (.getfield 67, 3) := by decide +kernel
theorem dX9_chance_55 : decode cX9_chance 55 = .ok (.iload_n 3, 1) := by decide +kernel
theorem dX9_chance_56 : decode cX9_chance 56 = .ok (.iconst 1, 1) := by decide +kernel
theorem dX9_chance_57 : decode cX9_chance 57 = .ok (.isub, 1) := by decide +kernel
theorem dX9_chance_58 : decode cX9_chance 58 = .ok (.iaload, 1) := by decide +kernel
theorem dX9_chance_59 : decode cX9_chance 59 = .ok (.aload_n 0, 1) := by decide +kernel
theorem dX9_chance_60 : decode cX9_chance 60 = .ok (.aload_n 0, 1) := by decide +kernel
theorem dX9_chance_61 : decode cX9_chance 61 = .ok (.getfield 67, 3) := by decide +kernel
theorem dX9_chance_64 : decode cX9_chance 64 = .ok (.iload_n 3, 1) := by decide +kernel
theorem dX9_chance_65 : decode cX9_chance 65 = .ok (.iaload, 1) := by decide +kernel
theorem dX9_chance_66 : decode cX9_chance 66 = .ok (.aload_n 0, 1) := by decide +kernel
theorem dX9_chance_67 : decode cX9_chance 67 = .ok (.getfield 70, 3) := by decide +kernel
theorem dX9_chance_70 : decode cX9_chance 70 = .ok (.iload_n 3, 1) := by decide +kernel
theorem dX9_chance_71 : decode cX9_chance 71 = .ok (.iaload, 1) := by decide +kernel
theorem dX9_chance_72 : decode cX9_chance 72 = .ok (.aload_n 0, 1) := by decide +kernel
theorem dX9_chance_73 : decode cX9_chance 73 = .ok (.getfield 73, 3) := by decide +kernel
theorem dX9_chance_76 : decode cX9_chance 76 = .ok (.iload_n 3, 1) := by decide +kernel
theorem dX9_chance_77 : decode cX9_chance 77 = .ok (.iaload, 1) := by decide +kernel
theorem dX9_chance_78 : decode cX9_chance 78 = .ok (.invokevirtual 169, 3) := by decide +kernel
theorem dX9_chance_81 : decode cX9_chance 81 = .ok (.iload 4, 2) := by decide +kernel
theorem dX9_chance_83 : decode cX9_chance 83 = .ok (.isub, 1) := by decide +kernel
theorem dX9_chance_84 : decode cX9_chance 84 = .ok (.invokevirtual 220, 3) := by decide +kernel
theorem dX9_chance_87 : decode cX9_chance 87 = .ok (.dmul, 1) := by decide +kernel
theorem dX9_chance_88 : decode cX9_chance 88 = .ok (.dstore_n 1, 1) := by decide +kernel
theorem dX9_chance_89 : decode cX9_chance 89 = .ok (.iinc 3 1, 3) := by decide +kernel
theorem dX9_chance_92 : decode cX9_chance 92 = .ok (.goto (-88), 3) := by decide +kernel
theorem dX9_chance_95 : decode cX9_chance 95 = .ok (.dload_n 1, 1) := by decide +kernel
theorem dX9_chance_96 : decode cX9_chance 96 = .ok (.dreturn, 1) := by decide +kernel
theorem dX9_carbon_0 : decode cX9_carbon 0 = .ok (.dconst 0, 1) := by decide +kernel
theorem dX9_carbon_1 : decode cX9_carbon 1 = .ok (.dstore_n 1, 1) := by decide +kernel
theorem dX9_carbon_2 : decode cX9_carbon 2 = .ok (.iconst 0, 1) := by decide +kernel
theorem dX9_carbon_3 : decode cX9_carbon 3 = .ok (.istore_n 3, 1) := by decide +kernel
theorem dX9_carbon_4 : decode cX9_carbon 4 = .ok (.iload_n 3, 1) := by decide +kernel
theorem dX9_carbon_5 : decode cX9_carbon 5 = .ok (.aload_n 0, 1) := by decide +kernel
theorem dX9_carbon_6 : decode cX9_carbon 6 = .ok (.getfield 206, 3) := by decide +kernel
theorem dX9_carbon_9 : decode cX9_carbon 9 = .ok (.if_icmp .ge 70, 3) := by decide +kernel
theorem dX9_carbon_12 : decode cX9_carbon 12 = .ok (.aload_n 0, 1) := by decide +kernel
theorem dX9_carbon_13 : decode cX9_carbon 13 = .ok (.getfield 16, 3) := by decide +kernel
theorem dX9_carbon_16 : decode cX9_carbon 16 = .ok (.aload_n 0, 1) := by decide +kernel
theorem dX9_carbon_17 : decode cX9_carbon 17 = .ok (.getfield 67, 3) := by decide +kernel
theorem dX9_carbon_20 : decode cX9_carbon 20 = .ok (.iload_n 3, 1) := by decide +kernel
theorem dX9_carbon_21 : decode cX9_carbon 21 = .ok (.iaload, 1) := by decide +kernel
theorem dX9_carbon_22 : decode cX9_carbon 22 = .ok (.iaload, 1) := by decide +kernel
theorem dX9_carbon_23 : decode cX9_carbon 23 = .ok (.istore 4, 2) := by decide +kernel
theorem dX9_carbon_25 : decode cX9_carbon 25 = .ok (.iload 4, 2) := by decide +kernel
theorem dX9_carbon_27 : decode cX9_carbon 27 = .ok (.ifCond .ne 9, 3) := by decide +kernel
theorem dX9_carbon_30 : decode cX9_carbon 30 = .ok (.ldc2_w 224, 3) := by decide +kernel
theorem dX9_carbon_33 : decode cX9_carbon 33 = .ok (.goto 18, 3) := by decide +kernel
theorem dX9_carbon_36 : decode cX9_carbon 36 = .ok (.iload 4, 2) := by decide +kernel
theorem dX9_carbon_38 : decode cX9_carbon 38 = .ok (.iconst 1, 1) := by decide +kernel
theorem dX9_carbon_39 : decode cX9_carbon 39 = .ok (.if_icmp .ne 9, 3) := by decide +kernel
theorem dX9_carbon_42 : decode cX9_carbon 42 = .ok (.ldc2_w 226, 3) := by decide +kernel
theorem dX9_carbon_45 : decode cX9_carbon 45 = .ok (.goto 6, 3) := by decide +kernel
theorem dX9_carbon_48 : decode cX9_carbon 48 = .ok (.ldc2_w 228, 3) := by decide +kernel
theorem dX9_carbon_51 : decode cX9_carbon 51 = .ok (.dstore 5, 2) := by decide +kernel
theorem dX9_carbon_53 : decode cX9_carbon 53 = .ok (.dload_n 1, 1) := by decide +kernel
theorem dX9_carbon_54 : decode cX9_carbon 54 = .ok (.dload 5, 2) := by decide +kernel
theorem dX9_carbon_56 : decode cX9_carbon 56 = .ok (.aload_n 0, 1) := by decide +kernel
theorem dX9_carbon_57 : decode cX9_carbon 57 = .ok (.getfield 76, 3) := by decide +kernel
theorem dX9_carbon_60 : decode cX9_carbon 60 = .ok (.iload_n 3, 1) := by decide +kernel
theorem dX9_carbon_61 : decode cX9_carbon 61 = .ok (.iaload, 1) := by decide +kernel
theorem dX9_carbon_62 : decode cX9_carbon 62 = .ok (.aload_n 0, 1) := by decide +kernel
theorem dX9_carbon_63 : decode cX9_carbon 63 = .ok (.getfield 73, 3) := by decide +kernel
theorem dX9_carbon_66 : decode cX9_carbon 66 = .ok (.iload_n 3, 1) := by decide +kernel
theorem dX9_carbon_67 : decode cX9_carbon 67 = .ok (.iaload, 1) := by decide +kernel
theorem dX9_carbon_68 : decode cX9_carbon 68 = .ok (.isub, 1) := by decide +kernel
theorem dX9_carbon_69 : decode cX9_carbon 69 = .ok (.i2d, 1) := by decide +kernel
theorem dX9_carbon_70 : decode cX9_carbon 70 = .ok (.dmul, 1) := by decide +kernel
theorem dX9_carbon_71 : decode cX9_carbon 71 = .ok (.dadd, 1) := by decide +kernel
theorem dX9_carbon_72 : decode cX9_carbon 72 = .ok (.dstore_n 1, 1) := by decide +kernel
theorem dX9_carbon_73 : decode cX9_carbon 73 = .ok (.iinc 3 1, 3) := by decide +kernel
theorem dX9_carbon_76 : decode cX9_carbon 76 = .ok (.goto (-72), 3) := by decide +kernel
theorem dX9_carbon_79 : decode cX9_carbon 79 = .ok (.dload_n 1, 1) := by decide +kernel
theorem dX9_carbon_80 : decode cX9_carbon 80 = .ok (.dreturn, 1) := by decide +kernel
theorem dX9_score_0 : decode cX9_score 0 = .ok (.aload_n 0, 1) := by decide +kernel
theorem dX9_score_1 : decode cX9_score 1 = .ok (.getfield 203, 3) := by decide +kernel
theorem dX9_score_4 : decode cX9_score 4 = .ok (.aload_n 0, 1) := by decide +kernel
theorem dX9_score_5 : decode cX9_score 5 = .ok (.getfield 163, 3) := by decide +kernel
theorem dX9_score_8 : decode cX9_score 8 = .ok (.isub, 1) := by decide +kernel
theorem dX9_score_9 : decode cX9_score 9 = .ok (.i2d, 1) := by decide +kernel
theorem dX9_score_10 : decode cX9_score 10 = .ok (.ldc2_w 230, 3) := by decide +kernel
theorem dX9_score_13 : decode cX9_score 13 = .ok (.aload_n 0, 1) := by decide +kernel
theorem dX9_score_14 : decode cX9_score 14 = .ok (.getfield 206, 3) := by decide +kernel
theorem dX9_score_17 : decode cX9_score 17 = .ok (.i2d, 1) := by decide +kernel
theorem dX9_score_18 : decode cX9_score 18 = .ok (.dmul, 1) := by decide +kernel
theorem dX9_score_19 : decode cX9_score 19 = .ok (.dadd, 1) := by decide +kernel
theorem dX9_score_20 : decode cX9_score 20 = .ok (.aload_n 0, 1) := by decide +kernel
theorem dX9_score_21 : decode cX9_score 21 = .ok (.invokevirtual 232, 3) := by decide +kernel
theorem dX9_score_24 : decode cX9_score 24 = .ok (.ldc2_w 236, 3) := by decide +kernel
theorem dX9_score_27 : decode cX9_score 27 = .ok (.ddiv, 1) := by decide +kernel
theorem dX9_score_28 : decode cX9_score 28 = .ok (.dadd, 1) := by decide +kernel
theorem dX9_score_29 : decode cX9_score 29 = .ok (.dreturn, 1) := by decide +kernel
theorem dX9_fareOf_0 : decode cX9_fareOf 0 = .ok (.aload_n 0, 1) := by decide +kernel
theorem dX9_fareOf_1 : decode cX9_fareOf 1 = .ok (.getfield 82, 3) := by decide +kernel
theorem dX9_fareOf_4 : decode cX9_fareOf 4 = .ok (.iconst 0, 1) := by decide +kernel
theorem dX9_fareOf_5 : decode cX9_fareOf 5 = .ok (.iconst 0, 1) := by decide +kernel
theorem dX9_fareOf_6 : decode cX9_fareOf 6 = .ok (.iastore, 1) := by decide +kernel
theorem dX9_fareOf_7 : decode cX9_fareOf 7 = .ok (.iconst 1, 1) := by decide +kernel
theorem dX9_fareOf_8 : decode cX9_fareOf 8 = .ok (.istore_n 1, 1) := by decide +kernel
theorem dX9_fareOf_9 : decode cX9_fareOf 9 = .ok (.iload_n 1, 1) := by decide +kernel
theorem dX9_fareOf_10 : decode cX9_fareOf 10 = .ok (.aload_n 0, 1) := by decide +kernel
theorem dX9_fareOf_11 : decode cX9_fareOf 11 = .ok (.getfield 206, 3) := by decide +kernel
theorem dX9_fareOf_14 : decode cX9_fareOf 14 = .ok (.if_icmp .gt 152, 3) := by decide +kernel
theorem dX9_fareOf_17 : decode cX9_fareOf 17 = .ok (.aload_n 0, 1) := by decide +kernel
theorem dX9_fareOf_18 : decode cX9_fareOf 18 = .ok (.getfield 82, 3) := by decide +kernel
theorem dX9_fareOf_21 : decode cX9_fareOf 21 = .ok (.iload_n 1, 1) := by decide +kernel
theorem dX9_fareOf_22 : decode cX9_fareOf 22 = .ok (.ldc 176, 2) := by decide +kernel
theorem dX9_fareOf_24 : decode cX9_fareOf 24 = .ok (.iastore, 1) := by decide +kernel
theorem dX9_fareOf_25 : decode cX9_fareOf 25 = .ok (.iconst 0, 1) := by decide +kernel
theorem dX9_fareOf_26 : decode cX9_fareOf 26 = .ok (.istore_n 2, 1) := by decide +kernel
theorem dX9_fareOf_27 : decode cX9_fareOf 27 = .ok (.aload_n 0, 1) := by decide +kernel
theorem dX9_fareOf_28 : decode cX9_fareOf 28 = .ok (.getfield 19, 3) := by decide +kernel
theorem dX9_fareOf_31 : decode cX9_fareOf 31 = .ok (.aload_n 0, 1) := by decide +kernel
theorem dX9_fareOf_32 : decode cX9_fareOf 32 = .ok (.getfield 67, 3) := by decide +kernel
theorem dX9_fareOf_35 : decode cX9_fareOf 35 = .ok (.iload_n 1, 1) := by decide +kernel
theorem dX9_fareOf_36 : decode cX9_fareOf 36 = .ok (.iconst 1, 1) := by decide +kernel
theorem dX9_fareOf_37 : decode cX9_fareOf 37 = .ok (.isub, 1) := by decide +kernel
theorem dX9_fareOf_38 : decode cX9_fareOf 38 = .ok (.iaload, 1) := by decide +kernel
theorem dX9_fareOf_39 : decode cX9_fareOf 39 = .ok (.iaload, 1) := by decide +kernel
theorem dX9_fareOf_40 : decode cX9_fareOf 40 = .ok (.istore_n 3, 1) := by decide +kernel
theorem dX9_fareOf_41 : decode cX9_fareOf 41 = .ok (.iload_n 1, 1) := by decide +kernel
theorem dX9_fareOf_42 : decode cX9_fareOf 42 = .ok (.iconst 1, 1) := by decide +kernel
theorem dX9_fareOf_43 : decode cX9_fareOf 43 = .ok (.isub, 1) := by decide +kernel
theorem dX9_fareOf_44 : decode cX9_fareOf 44 = .ok (.istore 4, 2) := by decide +kernel
theorem dX9_fareOf_46 : decode cX9_fareOf 46 = .ok (.iload 4, 2) := by decide +kernel
theorem dX9_fareOf_48 : decode cX9_fareOf 48 = .ok (.ifCond .lt 112, 3) := by decide +kernel
theorem dX9_fareOf_51 : decode cX9_fareOf 51 = .ok (.aload_n 0, 1) := by decide +kernel
theorem dX9_fareOf_52 : decode cX9_fareOf 52 = .ok (.getfield 19, 3) := by decide +kernel
theorem dX9_fareOf_55 : decode cX9_fareOf 55 = .ok (.aload_n 0, 1) := by decide +kernel
theorem dX9_fareOf_56 : decode cX9_fareOf 56 = .ok (.getfield 67, 3) := by decide +kernel
theorem dX9_fareOf_59 : decode cX9_fareOf 59 = .ok (.iload 4, 2) := by decide +kernel
theorem dX9_fareOf_61 : decode cX9_fareOf 61 = .ok (.iaload, 1) := by decide +kernel
theorem dX9_fareOf_62 : decode cX9_fareOf 62 = .ok (.iaload, 1) := by decide +kernel
theorem dX9_fareOf_63 : decode cX9_fareOf 63 = .ok (.iload_n 3, 1) := by decide +kernel
theorem dX9_fareOf_64 : decode cX9_fareOf 64 = .ok (.if_icmp .ne 96, 3) := by decide +kernel
theorem dX9_fareOf_67 : decode cX9_fareOf 67 = .ok (.iload_n 2, 1) := by decide +kernel
theorem dX9_fareOf_68 : decode cX9_fareOf 68 = .ok (.aload_n 0, 1) := by decide +kernel
theorem dX9_fareOf_69 : decode cX9_fareOf 69 = .ok (.getfield 76, 3) := by decide +kernel
theorem dX9_fareOf_72 : decode cX9_fareOf 72 = .ok (.iload 4, 2) := by decide +kernel
theorem dX9_fareOf_74 : decode cX9_fareOf 74 = .ok (.iaload, 1) := by decide +kernel
theorem dX9_fareOf_75 : decode cX9_fareOf 75 = .ok (.aload_n 0, 1) := by decide +kernel
theorem dX9_fareOf_76 : decode cX9_fareOf 76 = .ok (.getfield 73, 3) := by decide +kernel
theorem dX9_fareOf_79 : decode cX9_fareOf 79 = .ok (.iload 4, 2) := by decide +kernel
theorem dX9_fareOf_81 : decode cX9_fareOf 81 = .ok (.iaload, 1) := by decide +kernel
theorem dX9_fareOf_82 : decode cX9_fareOf 82 = .ok (.isub, 1) := by decide +kernel
theorem dX9_fareOf_83 : decode cX9_fareOf 83 = .ok (.iadd, 1) := by decide +kernel
theorem dX9_fareOf_84 : decode cX9_fareOf 84 = .ok (.istore_n 2, 1) := by decide +kernel
theorem dX9_fareOf_85 : decode cX9_fareOf 85 = .ok (.aload_n 0, 1) := by decide +kernel
theorem dX9_fareOf_86 : decode cX9_fareOf 86 = .ok (.getfield 82, 3) := by decide +kernel
theorem dX9_fareOf_89 : decode cX9_fareOf 89 = .ok (.iload 4, 2) := by decide +kernel
theorem dX9_fareOf_91 : decode cX9_fareOf 91 = .ok (.iaload, 1) := by decide +kernel
theorem dX9_fareOf_92 : decode cX9_fareOf 92 = .ok (.aload_n 0, 1) := by decide +kernel
theorem dX9_fareOf_93 : decode cX9_fareOf 93 = .ok (.getfield 52, 3) := by decide +kernel
theorem dX9_fareOf_96 : decode cX9_fareOf 96 = .ok (.iload_n 3, 1) := by decide +kernel
theorem dX9_fareOf_97 : decode cX9_fareOf 97 = .ok (.iaload, 1) := by decide +kernel
theorem dX9_fareOf_98 : decode cX9_fareOf 98 = .ok (.iadd, 1) := by decide +kernel
theorem dX9_fareOf_99 : decode cX9_fareOf 99 = .ok (.aload_n 0, 1) := by decide +kernel
theorem dX9_fareOf_100 : decode cX9_fareOf 100 = .ok (.getfield 55, 3) := by decide +kernel
theorem dX9_fareOf_103 : decode cX9_fareOf 103 = .ok (.iload_n 3, 1) := by decide +kernel
theorem dX9_fareOf_104 : decode cX9_fareOf 104 = .ok (.iaload, 1) := by decide +kernel
theorem dX9_fareOf_105 : decode cX9_fareOf 105 = .ok (.iload_n 2, 1) := by decide +kernel
theorem dX9_fareOf_106 : decode cX9_fareOf 106 = .ok (.imul, 1) := by decide +kernel
theorem dX9_fareOf_107 : decode cX9_fareOf 107 = .ok (.iadd, 1) := by decide +kernel
theorem dX9_fareOf_108 : decode cX9_fareOf 108 = .ok (.iload_n 2, 1) := by decide +kernel
theorem dX9_fareOf_109 : decode cX9_fareOf 109 = .ok (.iconst 3, 1) := by decide +kernel
theorem dX9_fareOf_110 : decode cX9_fareOf 110 = .ok (.if_icmp .le 12, 3) := by decide +kernel
theorem dX9_fareOf_113 : decode cX9_fareOf 113 = .ok (.aload_n 0, 1) := by decide +kernel
theorem dX9_fareOf_114 : decode cX9_fareOf 114 = .ok (.getfield 58, 3) := by decide +kernel
theorem dX9_fareOf_117 : decode cX9_fareOf 117 = .ok (.iload_n 3, 1) := by decide +kernel
theorem dX9_fareOf_118 : decode cX9_fareOf 118 = .ok (.iaload, 1) := by decide +kernel
theorem dX9_fareOf_119 : decode cX9_fareOf 119 = .ok (.goto 4, 3) := by decide +kernel
theorem dX9_fareOf_122 : decode cX9_fareOf 122 = .ok (.iconst 0, 1) := by decide +kernel
theorem dX9_fareOf_123 : decode cX9_fareOf 123 = .ok (.iadd, 1) := by decide +kernel
theorem dX9_fareOf_124 : decode cX9_fareOf 124 = .ok (.istore 5, 2) := by decide +kernel
theorem dX9_fareOf_126 : decode cX9_fareOf 126 = .ok (.aload_n 0, 1) := by decide +kernel
theorem dX9_fareOf_127 : decode cX9_fareOf 127 = .ok (.getfield 82, 3) := by decide +kernel
theorem dX9_fareOf_130 : decode cX9_fareOf 130 = .ok (.iload_n 1, 1) := by decide +kernel
theorem dX9_fareOf_131 : decode cX9_fareOf 131 = .ok (.iload 5, 2) := by decide +kernel
theorem dX9_fareOf_133 : decode cX9_fareOf 133 = .ok (.aload_n 0, 1) := by decide +kernel
theorem dX9_fareOf_134 : decode cX9_fareOf 134 = .ok (.getfield 82, 3) := by decide +kernel
theorem dX9_fareOf_137 : decode cX9_fareOf 137 = .ok (.iload_n 1, 1) := by decide +kernel
theorem dX9_fareOf_138 : decode cX9_fareOf 138 = .ok (.iaload, 1) := by decide +kernel
theorem dX9_fareOf_139 : decode cX9_fareOf 139 = .ok (.if_icmp .ge 8, 3) := by decide +kernel
theorem dX9_fareOf_142 : decode cX9_fareOf 142 = .ok (.iload 5, 2) := by decide +kernel
theorem dX9_fareOf_144 : decode cX9_fareOf 144 = .ok (.goto 9, 3) := by decide +kernel
theorem dX9_fareOf_147 : decode cX9_fareOf 147 = .ok (.aload_n 0, 1) := by decide +kernel
theorem dX9_fareOf_148 : decode cX9_fareOf 148 = .ok (.getfield 82, 3) := by decide +kernel
theorem dX9_fareOf_151 : decode cX9_fareOf 151 = .ok (.iload_n 1, 1) := by decide +kernel
theorem dX9_fareOf_152 : decode cX9_fareOf 152 = .ok (.iaload, 1) := by decide +kernel
theorem dX9_fareOf_153 : decode cX9_fareOf 153 = .ok (.iastore, 1) := by decide +kernel
theorem dX9_fareOf_154 : decode cX9_fareOf 154 = .ok (.iinc 4 (-1), 3) := by decide +kernel
theorem dX9_fareOf_157 : decode cX9_fareOf 157 = .ok (.goto (-111), 3) := by decide +kernel
theorem dX9_fareOf_160 : decode cX9_fareOf 160 = .ok (.iinc 1 1, 3) := by decide +kernel
theorem dX9_fareOf_163 : decode cX9_fareOf 163 = .ok (.goto (-154), 3) := by decide +kernel
theorem dX9_fareOf_166 : decode cX9_fareOf 166 = .ok (.aload_n 0, 1) := by decide +kernel
theorem dX9_fareOf_167 : decode cX9_fareOf 167 = .ok (.getfield 82, 3) := by decide +kernel
theorem dX9_fareOf_170 : decode cX9_fareOf 170 = .ok (.aload_n 0, 1) := by decide +kernel
theorem dX9_fareOf_171 : decode cX9_fareOf 171 = .ok (.getfield 206, 3) := by decide +kernel
theorem dX9_fareOf_174 : decode cX9_fareOf 174 = .ok (.iaload, 1) := by decide +kernel
theorem dX9_fareOf_175 : decode cX9_fareOf 175 = .ok (.ireturn, 1) := by decide +kernel
theorem dX9_journey_0 : decode cX9_journey 0 = .ok (.aload_n 0, 1) := by decide +kernel
theorem dX9_journey_1 : decode cX9_journey 1 = .ok (.iload_n 1, 1) := by decide +kernel
theorem dX9_journey_2 : decode cX9_journey 2 = .ok (.iload_n 2, 1) := by decide +kernel
theorem dX9_journey_3 : decode cX9_journey 3 = .ok (.iload_n 3, 1) := by decide +kernel
theorem dX9_journey_4 : decode cX9_journey 4 = .ok (.iload 4, 2) := by decide +kernel
theorem dX9_journey_6 : decode cX9_journey 6 = .ok (.iconst 1, 1) := by decide +kernel
theorem dX9_journey_7 : decode cX9_journey 7 = .ok (.iconst 4, 1) := by decide +kernel
theorem dX9_journey_8 : decode cX9_journey 8 = .ok (.invokestatic 128, 3) := by decide +kernel
theorem dX9_journey_11 : decode cX9_journey 11 = .ok (.ifCond .eq 17, 3) := by decide +kernel
theorem dX9_journey_14 : decode cX9_journey 14 = .ok (.iload 5, 2) := by decide +kernel
theorem dX9_journey_16 : decode cX9_journey 16 = .ok (.iconst 0, 1) := by decide +kernel
theorem dX9_journey_17 : decode cX9_journey 17 = .ok (.iconst 3, 1) := by decide +kernel
theorem dX9_journey_18 : decode cX9_journey 18 = .ok (.invokestatic 128, 3) := by decide +kernel
theorem dX9_journey_21 : decode cX9_journey 21 = .ok (.ifCond .eq 7, 3) := by decide +kernel
theorem dX9_journey_24 : decode cX9_journey 24 = .ok (.iconst 1, 1) := by decide +kernel
theorem dX9_journey_25 : decode cX9_journey 25 = .ok (.goto 4, 3) := by decide +kernel
theorem dX9_journey_28 : decode cX9_journey 28 = .ok (.iconst 0, 1) := by decide +kernel
theorem dX9_journey_29 : decode cX9_journey 29 = .ok (.invokevirtual 188, 3) := by decide +kernel
theorem dX9_journey_32 : decode cX9_journey 32 = .ok (.ifCond .ne 5, 3) := by decide +kernel
theorem dX9_journey_35 : decode cX9_journey 35 = .ok (.dconst 0, 1) := by decide +kernel
theorem dX9_journey_36 : decode cX9_journey 36 = .ok (.dreturn, 1) := by decide +kernel
theorem dX9_journey_37 : decode cX9_journey 37 = .ok (.aload_n 0, 1) := by decide +kernel
theorem dX9_journey_38 : decode cX9_journey 38 = .ok (.iload_n 1, 1) := by decide +kernel
theorem dX9_journey_39 : decode cX9_journey 39 = .ok (.iload_n 2, 1) := by decide +kernel
theorem dX9_journey_40 : decode cX9_journey 40 = .ok (.iload_n 3, 1) := by decide +kernel
theorem dX9_journey_41 : decode cX9_journey 41 = .ok (.iload 4, 2) := by decide +kernel
theorem dX9_journey_43 : decode cX9_journey 43 = .ok (.invokevirtual 216, 3) := by decide +kernel
theorem dX9_journey_46 : decode cX9_journey 46 = .ok (.ifCond .ne 7, 3) := by decide +kernel
theorem dX9_journey_49 : decode cX9_journey 49 = .ok (.ldc2_w 238, 3) := by decide +kernel
theorem dX9_journey_52 : decode cX9_journey 52 = .ok (.dreturn, 1) := by decide +kernel
theorem dX9_journey_53 : decode cX9_journey 53 = .ok (.iload 5, 2) := by decide +kernel
theorem dX9_journey_55 : decode cX9_journey 55 = .ok (.ifCond .ne 10, 3) := by decide +kernel
theorem dX9_journey_58 : decode cX9_journey 58 = .ok (.aload_n 0, 1) := by decide +kernel
theorem dX9_journey_59 : decode cX9_journey 59 = .ok (.invokevirtual 240, 3) := by decide +kernel
theorem dX9_journey_62 : decode cX9_journey 62 = .ok (.goto 34, 3) := by decide +kernel
theorem dX9_journey_65 : decode cX9_journey 65 = .ok (.iload 5, 2) := by decide +kernel
theorem dX9_journey_67 : decode cX9_journey 67 = .ok (.iconst 1, 1) := by decide +kernel
theorem dX9_journey_68 : decode cX9_journey 68 = .ok (.if_icmp .ne 10, 3) := by decide +kernel
theorem dX9_journey_71 : decode cX9_journey 71 = .ok (.aload_n 0, 1) := by decide +kernel
theorem dX9_journey_72 : decode cX9_journey 72 = .ok (.invokevirtual 232, 3) := by decide +kernel
theorem dX9_journey_75 : decode cX9_journey 75 = .ok (.goto 21, 3) := by decide +kernel
theorem dX9_journey_78 : decode cX9_journey 78 = .ok (.iload 5, 2) := by decide +kernel
theorem dX9_journey_80 : decode cX9_journey 80 = .ok (.iconst 2, 1) := by decide +kernel
theorem dX9_journey_81 : decode cX9_journey 81 = .ok (.if_icmp .ne 10, 3) := by decide +kernel
theorem dX9_journey_84 : decode cX9_journey 84 = .ok (.aload_n 0, 1) := by decide +kernel
theorem dX9_journey_85 : decode cX9_journey 85 = .ok (.invokevirtual 243, 3) := by decide +kernel
theorem dX9_journey_88 : decode cX9_journey 88 = .ok (.goto 8, 3) := by decide +kernel
theorem dX9_journey_91 : decode cX9_journey 91 = .ok (.aload_n 0, 1) := by decide +kernel
theorem dX9_journey_92 : decode cX9_journey 92 = .ok (.invokevirtual 246, 3) := by decide +kernel
theorem dX9_journey_95 : decode cX9_journey 95 = .ok (.i2d, 1) := by decide +kernel
theorem dX9_journey_96 : decode cX9_journey 96 = .ok (.dreturn, 1) := by decide +kernel
theorem dX9_best_0 : decode cX9_best 0 = .ok (.aload_n 0, 1) := by decide +kernel
theorem dX9_best_1 : decode cX9_best 1 = .ok (.iload_n 1, 1) := by decide +kernel
theorem dX9_best_2 : decode cX9_best 2 = .ok (.iload_n 2, 1) := by decide +kernel
theorem dX9_best_3 : decode cX9_best 3 = .ok (.iload_n 3, 1) := by decide +kernel
theorem dX9_best_4 : decode cX9_best 4 = .ok (.iconst 1, 1) := by decide +kernel
theorem dX9_best_5 : decode cX9_best 5 = .ok (.invokevirtual 188, 3) := by decide +kernel
theorem dX9_best_8 : decode cX9_best 8 = .ok (.ifCond .ne 5, 3) := by decide +kernel
theorem dX9_best_11 : decode cX9_best 11 = .ok (.iconst 0, 1) := by decide +kernel
theorem dX9_best_12 : decode cX9_best 12 = .ok (.ireturn, 1) := by decide +kernel
theorem dX9_best_13 : decode cX9_best 13 = .ok (.iconst (-1), 1) := by decide +kernel
theorem dX9_best_14 : decode cX9_best 14 = .ok (.istore 4, 2) := by decide +kernel
theorem dX9_best_16 : decode cX9_best 16 = .ok (.dconst 0, 1) := by decide +kernel
theorem dX9_best_17 : decode cX9_best 17 = .ok (.dstore 5, 2) := by decide +kernel
theorem dX9_best_19 : decode cX9_best 19 = .ok (.iconst 1, 1) := by decide +kernel
theorem dX9_best_20 : decode cX9_best 20 = .ok (.istore 7, 2) := by decide +kernel
theorem dX9_best_22 : decode cX9_best 22 = .ok (.iload 7, 2) := by decide +kernel
theorem dX9_best_24 : decode cX9_best 24 = .ok (.iconst 4, 1) := by decide +kernel
theorem dX9_best_25 : decode cX9_best 25 = .ok (.if_icmp .gt 47, 3) := by decide +kernel
theorem dX9_best_28 : decode cX9_best 28 = .ok (.aload_n 0, 1) := by decide +kernel
theorem dX9_best_29 : decode cX9_best 29 = .ok (.iload_n 1, 1) := by decide +kernel
theorem dX9_best_30 : decode cX9_best 30 = .ok (.iload_n 2, 1) := by decide +kernel
theorem dX9_best_31 : decode cX9_best 31 = .ok (.iload_n 3, 1) := by decide +kernel
theorem dX9_best_32 : decode cX9_best 32 = .ok (.iload 7, 2) := by decide +kernel
theorem dX9_best_34 : decode cX9_best 34 = .ok (.invokevirtual 216, 3) := by decide +kernel
theorem dX9_best_37 : decode cX9_best 37 = .ok (.ifCond .eq 29, 3) := by decide +kernel
theorem dX9_best_40 : decode cX9_best 40 = .ok (.iload 4, 2) := by decide +kernel
theorem dX9_best_42 : decode cX9_best 42 = .ok (.iconst (-1), 1) := by decide +kernel
theorem dX9_best_43 : decode cX9_best 43 = .ok (.if_icmp .eq 13, 3) := by decide +kernel
theorem dX9_best_46 : decode cX9_best 46 = .ok (.aload_n 0, 1) := by decide +kernel
theorem dX9_best_47 : decode cX9_best 47 = .ok (.invokevirtual 243, 3) := by decide +kernel
theorem dX9_best_50 : decode cX9_best 50 = .ok (.dload 5, 2) := by decide +kernel
theorem dX9_best_52 : decode cX9_best 52 = .ok (.dcmp .g, 1) := by decide +kernel
theorem dX9_best_53 : decode cX9_best 53 = .ok (.ifCond .ge 13, 3) := by decide +kernel
theorem dX9_best_56 : decode cX9_best 56 = .ok (.iload 7, 2) := by decide +kernel
theorem dX9_best_58 : decode cX9_best 58 = .ok (.istore 4, 2) := by decide +kernel
theorem dX9_best_60 : decode cX9_best 60 = .ok (.aload_n 0, 1) := by decide +kernel
theorem dX9_best_61 : decode cX9_best 61 = .ok (.invokevirtual 243, 3) := by decide +kernel
theorem dX9_best_64 : decode cX9_best 64 = .ok (.dstore 5, 2) := by decide +kernel
theorem dX9_best_66 : decode cX9_best 66 = .ok (.iinc 7 1, 3) := by decide +kernel
theorem dX9_best_69 : decode cX9_best 69 = .ok (.goto (-47), 3) := by decide +kernel
theorem dX9_best_72 : decode cX9_best 72 = .ok (.iload 4, 2) := by decide +kernel
theorem dX9_best_74 : decode cX9_best 74 = .ok (.ireturn, 1) := by decide +kernel
theorem dX9_hasRide_0 : decode cX9_hasRide 0 = .ok (.iconst 0, 1) := by decide +kernel
theorem dX9_hasRide_1 : decode cX9_hasRide 1 = .ok (.istore 4, 2) := by decide +kernel
theorem dX9_hasRide_3 : decode cX9_hasRide 3 = .ok (.iconst 0, 1) := by decide +kernel
theorem dX9_hasRide_4 : decode cX9_hasRide 4 = .ok (.istore 5, 2) := by decide +kernel
theorem dX9_hasRide_6 : decode cX9_hasRide 6 = .ok (.iload 5, 2) := by decide +kernel
theorem dX9_hasRide_8 : decode cX9_hasRide 8 = .ok (.aload_n 0, 1) := by decide +kernel
theorem dX9_hasRide_9 : decode cX9_hasRide 9 = .ok (.getfield 91, 3) := by decide +kernel
theorem dX9_hasRide_12 : decode cX9_hasRide 12 = .ok (.iload_n 1, 1) := by decide +kernel
theorem dX9_hasRide_13 : decode cX9_hasRide 13 = .ok (.iaload, 1) := by decide +kernel
theorem dX9_hasRide_14 : decode cX9_hasRide 14 = .ok (.if_icmp .ge 51, 3) := by decide +kernel
theorem dX9_hasRide_17 : decode cX9_hasRide 17 = .ok (.iconst 4, 1) := by decide +kernel
theorem dX9_hasRide_18 : decode cX9_hasRide 18 = .ok (.iload_n 1, 1) := by decide +kernel
theorem dX9_hasRide_19 : decode cX9_hasRide 19 = .ok (.imul, 1) := by decide +kernel
theorem dX9_hasRide_20 : decode cX9_hasRide 20 = .ok (.iload 5, 2) := by decide +kernel
theorem dX9_hasRide_22 : decode cX9_hasRide 22 = .ok (.iadd, 1) := by decide +kernel
theorem dX9_hasRide_23 : decode cX9_hasRide 23 = .ok (.istore 6, 2) := by decide +kernel
theorem dX9_hasRide_25 : decode cX9_hasRide 25 = .ok (.iload 4, 2) := by decide +kernel
theorem dX9_hasRide_27 : decode cX9_hasRide 27 = .ok (.ifCond .ne 25, 3) := by decide +kernel
theorem dX9_hasRide_30 : decode cX9_hasRide 30 = .ok (.aload_n 0, 1) := by decide +kernel
theorem dX9_hasRide_31 : decode cX9_hasRide 31 = .ok (.getfield 103, 3) := by decide +kernel
theorem dX9_hasRide_34 : decode cX9_hasRide 34 = .ok (.iload 6, 2) := by decide +kernel
theorem dX9_hasRide_36 : decode cX9_hasRide 36 = .ok (.iaload, 1) := by decide +kernel
theorem dX9_hasRide_37 : decode cX9_hasRide 37 = .ok (.iload_n 2, 1) := by decide +kernel
theorem dX9_hasRide_38 : decode cX9_hasRide 38 = .ok (.if_icmp .ne 18, 3) := by decide +kernel
theorem dX9_hasRide_41 : decode cX9_hasRide 41 = .ok (.aload_n 0, 1) := by decide +kernel
theorem dX9_hasRide_42 : decode cX9_hasRide 42 = .ok (.getfield 106, 3) := by decide +kernel
theorem dX9_hasRide_45 : decode cX9_hasRide 45 = .ok (.iload 6, 2) := by decide +kernel
theorem dX9_hasRide_47 : decode cX9_hasRide 47 = .ok (.iaload, 1) := by decide +kernel
theorem dX9_hasRide_48 : decode cX9_hasRide 48 = .ok (.iload_n 3, 1) := by decide +kernel
theorem dX9_hasRide_49 : decode cX9_hasRide 49 = .ok (.if_icmp .ne 7, 3) := by decide +kernel
theorem dX9_hasRide_52 : decode cX9_hasRide 52 = .ok (.iconst 1, 1) := by decide +kernel
theorem dX9_hasRide_53 : decode cX9_hasRide 53 = .ok (.goto 4, 3) := by decide +kernel
theorem dX9_hasRide_56 : decode cX9_hasRide 56 = .ok (.iconst 0, 1) := by decide +kernel
theorem dX9_hasRide_57 : decode cX9_hasRide 57 = .ok (.istore 4, 2) := by decide +kernel
theorem dX9_hasRide_59 : decode cX9_hasRide 59 = .ok (.iinc 5 1, 3) := by decide +kernel
theorem dX9_hasRide_62 : decode cX9_hasRide 62 = .ok (.goto (-56), 3) := by decide +kernel
theorem dX9_hasRide_65 : decode cX9_hasRide 65 = .ok (.iload 4, 2) := by decide +kernel
theorem dX9_hasRide_67 : decode cX9_hasRide 67 = .ok (.ireturn, 1) := by decide +kernel
theorem dX9_free_0 : decode cX9_free 0 = .ok (.aload_n 0, 1) := by decide +kernel
theorem dX9_free_1 : decode cX9_free 1 = .ok (.getfield 22, 3) := by decide +kernel
theorem dX9_free_4 : decode cX9_free 4 = .ok (.iload_n 1, 1) := by decide +kernel
theorem dX9_free_5 : decode cX9_free 5 = .ok (.iaload, 1) := by decide +kernel
theorem dX9_free_6 : decode cX9_free 6 = .ok (.istore_n 3, 1) := by decide +kernel
theorem dX9_free_7 : decode cX9_free 7 = .ok (.iconst 0, 1) := by decide +kernel
theorem dX9_free_8 : decode cX9_free 8 = .ok (.istore 4, 2) := by decide +kernel
theorem dX9_free_10 : decode cX9_free 10 = .ok (.iload 4, 2) := by decide +kernel
theorem dX9_free_12 : decode cX9_free 12 = .ok (.aload_n 0, 1) := by decide +kernel
theorem dX9_free_13 : decode cX9_free 13 = .ok (.getfield 135, 3) := by decide +kernel
theorem dX9_free_16 : decode cX9_free 16 = .ok (.if_icmp .ge 39, 3) := by decide +kernel
theorem dX9_free_19 : decode cX9_free 19 = .ok (.iload_n 3, 1) := by decide +kernel
theorem dX9_free_20 : decode cX9_free 20 = .ok (.aload_n 0, 1) := by decide +kernel
theorem dX9_free_21 : decode cX9_free 21 = .ok (.getfield 85, 3) := by decide +kernel
theorem dX9_free_24 : decode cX9_free 24 = .ok (.iload 4, 2) := by decide +kernel
theorem dX9_free_26 : decode cX9_free 26 = .ok (.iaload, 1) := by decide +kernel
theorem dX9_free_27 : decode cX9_free 27 = .ok (.iconst 2, 1) := by decide +kernel
theorem dX9_free_28 : decode cX9_free 28 = .ok (.if_icmp .eq 18, 3) := by decide +kernel
theorem dX9_free_31 : decode cX9_free 31 = .ok (.aload_n 0, 1) := by decide +kernel
theorem dX9_free_32 : decode cX9_free 32 = .ok (.iload 4, 2) := by decide +kernel
theorem dX9_free_34 : decode cX9_free 34 = .ok (.iload_n 1, 1) := by decide +kernel
theorem dX9_free_35 : decode cX9_free 35 = .ok (.iload_n 2, 1) := by decide +kernel
theorem dX9_free_36 : decode cX9_free 36 = .ok (.invokevirtual 250, 3) := by decide +kernel
theorem dX9_free_39 : decode cX9_free 39 = .ok (.ifCond .eq 7, 3) := by decide +kernel
theorem dX9_free_42 : decode cX9_free 42 = .ok (.iconst 1, 1) := by decide +kernel
theorem dX9_free_43 : decode cX9_free 43 = .ok (.goto 4, 3) := by decide +kernel
theorem dX9_free_46 : decode cX9_free 46 = .ok (.iconst 0, 1) := by decide +kernel
theorem dX9_free_47 : decode cX9_free 47 = .ok (.isub, 1) := by decide +kernel
theorem dX9_free_48 : decode cX9_free 48 = .ok (.istore_n 3, 1) := by decide +kernel
theorem dX9_free_49 : decode cX9_free 49 = .ok (.iinc 4 1, 3) := by decide +kernel
theorem dX9_free_52 : decode cX9_free 52 = .ok (.goto (-42), 3) := by decide +kernel
theorem dX9_free_55 : decode cX9_free 55 = .ok (.iload_n 3, 1) := by decide +kernel
theorem dX9_free_56 : decode cX9_free 56 = .ok (.ireturn, 1) := by decide +kernel
theorem dX9_book_0 : decode cX9_book 0 = .ok (.aload_n 0, 1) := by decide +kernel
theorem dX9_book_1 : decode cX9_book 1 = .ok (.iload_n 1, 1) := by decide +kernel
theorem dX9_book_2 : decode cX9_book 2 = .ok (.iload_n 2, 1) := by decide +kernel
theorem dX9_book_3 : decode cX9_book 3 = .ok (.iload_n 3, 1) := by decide +kernel
theorem dX9_book_4 : decode cX9_book 4 = .ok (.iload 4, 2) := by decide +kernel
theorem dX9_book_6 : decode cX9_book 6 = .ok (.iconst 1, 1) := by decide +kernel
theorem dX9_book_7 : decode cX9_book 7 = .ok (.iconst 4, 1) := by decide +kernel
theorem dX9_book_8 : decode cX9_book 8 = .ok (.invokestatic 128, 3) := by decide +kernel
theorem dX9_book_11 : decode cX9_book 11 = .ok (.invokevirtual 188, 3) := by decide +kernel
theorem dX9_book_14 : decode cX9_book 14 = .ok (.ifCond .ne 5, 3) := by decide +kernel
theorem dX9_book_17 : decode cX9_book 17 = .ok (.iconst 0, 1) := by decide +kernel
theorem dX9_book_18 : decode cX9_book 18 = .ok (.ireturn, 1) := by decide +kernel
theorem dX9_book_19 : decode cX9_book 19 = .ok (.aload_n 0, 1) := by decide +kernel
theorem dX9_book_20 : decode cX9_book 20 = .ok (.getfield 135, 3) := by decide +kernel
theorem dX9_book_23 : decode cX9_book 23 = .ok (.bipush 30, 2) := by decide +kernel
theorem dX9_book_25 : decode cX9_book 25 = .ok (.if_icmp .ge 19, 3) := by decide +kernel
theorem dX9_book_28 : decode cX9_book 28 = .ok (.aload_n 0, 1) := by decide +kernel
theorem dX9_book_29 : decode cX9_book 29 = .ok (.iload_n 1, 1) := by decide +kernel
theorem dX9_book_30 : decode cX9_book 30 = .ok (.iload_n 2, 1) := by decide +kernel
theorem dX9_book_31 : decode cX9_book 31 = .ok (.iload_n 3, 1) := by decide +kernel
theorem dX9_book_32 : decode cX9_book 32 = .ok (.iload 4, 2) := by decide +kernel
theorem dX9_book_34 : decode cX9_book 34 = .ok (.invokevirtual 216, 3) := by decide +kernel
theorem dX9_book_37 : decode cX9_book 37 = .ok (.ifCond .eq 7, 3) := by decide +kernel
theorem dX9_book_40 : decode cX9_book 40 = .ok (.iconst 1, 1) := by decide +kernel
theorem dX9_book_41 : decode cX9_book 41 = .ok (.goto 4, 3) := by decide +kernel
theorem dX9_book_44 : decode cX9_book 44 = .ok (.iconst 0, 1) := by decide +kernel
theorem dX9_book_45 : decode cX9_book 45 = .ok (.istore 5, 2) := by decide +kernel
theorem dX9_book_47 : decode cX9_book 47 = .ok (.iconst 0, 1) := by decide +kernel
theorem dX9_book_48 : decode cX9_book 48 = .ok (.istore 6, 2) := by decide +kernel
theorem dX9_book_50 : decode cX9_book 50 = .ok (.iload 6, 2) := by decide +kernel
theorem dX9_book_52 : decode cX9_book 52 = .ok (.iload 4, 2) := by decide +kernel
theorem dX9_book_54 : decode cX9_book 54 = .ok (.if_icmp .ge 42, 3) := by decide +kernel
theorem dX9_book_57 : decode cX9_book 57 = .ok (.iload 5, 2) := by decide +kernel
theorem dX9_book_59 : decode cX9_book 59 = .ok (.ifCond .eq 37, 3) := by decide +kernel
theorem dX9_book_62 : decode cX9_book 62 = .ok (.aload_n 0, 1) := by decide +kernel
theorem dX9_book_63 : decode cX9_book 63 = .ok (.aload_n 0, 1) := by decide +kernel
theorem dX9_book_64 : decode cX9_book 64 = .ok (.getfield 67, 3) := by decide +kernel
theorem dX9_book_67 : decode cX9_book 67 = .ok (.iload 6, 2) := by decide +kernel
theorem dX9_book_69 : decode cX9_book 69 = .ok (.iaload, 1) := by decide +kernel
theorem dX9_book_70 : decode cX9_book 70 = .ok (.aload_n 0, 1) := by decide +kernel
theorem dX9_book_71 : decode cX9_book 71 = .ok (.getfield 70, 3) := by decide +kernel
theorem dX9_book_74 : decode cX9_book 74 = .ok (.iload 6, 2) := by decide +kernel
theorem dX9_book_76 : decode cX9_book 76 = .ok (.iaload, 1) := by decide +kernel
theorem dX9_book_77 : decode cX9_book 77 = .ok (.invokevirtual 253, 3) := by decide +kernel
theorem dX9_book_80 : decode cX9_book 80 = .ok (.ifCond .le 7, 3) := by decide +kernel
theorem dX9_book_83 : decode cX9_book 83 = .ok (.iconst 1, 1) := by decide +kernel
theorem dX9_book_84 : decode cX9_book 84 = .ok (.goto 4, 3) := by decide +kernel
theorem dX9_book_87 : decode cX9_book 87 = .ok (.iconst 0, 1) := by decide +kernel
theorem dX9_book_88 : decode cX9_book 88 = .ok (.istore 5, 2) := by decide +kernel
theorem dX9_book_90 : decode cX9_book 90 = .ok (.iinc 6 1, 3) := by decide +kernel
theorem dX9_book_93 : decode cX9_book 93 = .ok (.goto (-43), 3) := by decide +kernel
theorem dX9_book_96 : decode cX9_book 96 = .ok (.iload 5, 2) := by decide +kernel
theorem dX9_book_98 : decode cX9_book 98 = .ok (.ifCond .ne 9, 3) := by decide +kernel
theorem dX9_book_101 : decode cX9_book 101 = .ok (.aload_n 0, 1) := by decide +kernel
theorem dX9_book_102 : decode cX9_book 102 = .ok (.iconst 3, 1) := by decide +kernel
theorem dX9_book_103 : decode cX9_book 103 = .ok (.invokevirtual 142, 3) := by decide +kernel
theorem dX9_book_106 : decode cX9_book 106 = .ok (.ireturn, 1) := by decide +kernel
theorem dX9_book_107 : decode cX9_book 107 = .ok (.aload_n 0, 1) := by decide +kernel
theorem dX9_book_108 : decode cX9_book 108 = .ok (.getfield 135, 3) := by decide +kernel
theorem dX9_book_111 : decode cX9_book 111 = .ok (.istore 6, 2) := by decide +kernel
theorem dX9_book_113 : decode cX9_book 113 = .ok (.aload_n 0, 1) := by decide +kernel
theorem dX9_book_114 : decode cX9_book 114 = .ok (.dup, 1) := by decide +kernel
theorem dX9_book_115 : decode cX9_book 115 = .ok (.getfield 135, 3) := by decide +kernel
theorem dX9_book_118 : decode cX9_book 118 = .ok (.iconst 1, 1) := by decide +kernel
theorem dX9_book_119 : decode cX9_book 119 = .ok (.iadd, 1) := by decide +kernel
theorem dX9_book_120 : decode cX9_book 120 = .ok (.putfield 135, 3) := by decide +kernel
theorem dX9_book_123 : decode cX9_book 123 = .ok (.aload_n 0, 1) := by decide +kernel
theorem dX9_book_124 : decode cX9_book 124 = .ok (.getfield 85, 3) := by decide +kernel
theorem dX9_book_127 : decode cX9_book 127 = .ok (.iload 6, 2) := by decide +kernel
theorem dX9_book_129 : decode cX9_book 129 = .ok (.iconst 0, 1) := by decide +kernel
theorem dX9_book_130 : decode cX9_book 130 = .ok (.iastore, 1) := by decide +kernel
theorem dX9_book_131 : decode cX9_book 131 = .ok (.aload_n 0, 1) := by decide +kernel
theorem dX9_book_132 : decode cX9_book 132 = .ok (.getfield 88, 3) := by decide +kernel
theorem dX9_book_135 : decode cX9_book 135 = .ok (.iload 6, 2) := by decide +kernel
theorem dX9_book_137 : decode cX9_book 137 = .ok (.aload_n 0, 1) := by decide +kernel
theorem dX9_book_138 : decode cX9_book 138 = .ok (.invokevirtual 246, 3) := by decide +kernel
theorem dX9_book_141 : decode cX9_book 141 = .ok (.iastore, 1) := by decide +kernel
theorem dX9_book_142 : decode cX9_book 142 = .ok (.aload_n 0, 1) := by decide +kernel
theorem dX9_book_143 : decode cX9_book 143 = .ok (.getfield 91, 3) := by decide +kernel
theorem dX9_book_146 : decode cX9_book 146 = .ok (.iload 6, 2) := by decide +kernel
theorem dX9_book_148 : decode cX9_book 148 = .ok (.iload 4, 2) := by decide +kernel
theorem dX9_book_150 : decode cX9_book 150 = .ok (.iastore, 1) := by decide +kernel
theorem dX9_book_151 : decode cX9_book 151 = .ok (.aload_n 0, 1) := by decide +kernel
theorem dX9_book_152 : decode cX9_book 152 = .ok (.getfield 94, 3) := by decide +kernel
theorem dX9_book_155 : decode cX9_book 155 = .ok (.iload 6, 2) := by decide +kernel
theorem dX9_book_157 : decode cX9_book 157 = .ok (.aload_n 0, 1) := by decide +kernel
theorem dX9_book_158 : decode cX9_book 158 = .ok (.getfield 118, 3) := by decide +kernel
theorem dX9_book_161 : decode cX9_book 161 = .ok (.iastore, 1) := by decide +kernel
theorem dX9_book_162 : decode cX9_book 162 = .ok (.aload_n 0, 1) := by decide +kernel
theorem dX9_book_163 : decode cX9_book 163 = .ok (.getfield 97, 3) := by decide +kernel
theorem dX9_book_166 : decode cX9_book 166 = .ok (.iload 6, 2) := by decide +kernel
theorem dX9_book_168 : decode cX9_book 168 = .ok (.iload_n 3, 1) := by decide +kernel
theorem dX9_book_169 : decode cX9_book 169 = .ok (.iastore, 1) := by decide +kernel
theorem dX9_book_170 : decode cX9_book 170 = .ok (.aload_n 0, 1) := by decide +kernel
theorem dX9_book_171 : decode cX9_book 171 = .ok (.getfield 100, 3) := by decide +kernel
theorem dX9_book_174 : decode cX9_book 174 = .ok (.iload 6, 2) := by decide +kernel
theorem dX9_book_176 : decode cX9_book 176 = .ok (.aload_n 0, 1) := by decide +kernel
theorem dX9_book_177 : decode cX9_book 177 = .ok (.getfield 203, 3) := by decide +kernel
theorem dX9_book_180 : decode cX9_book 180 = .ok (.iastore, 1) := by decide +kernel
theorem dX9_book_181 : decode cX9_book 181 = .ok (.iconst 0, 1) := by decide +kernel
theorem dX9_book_182 : decode cX9_book 182 = .ok (.istore 7, 2) := by decide +kernel
theorem dX9_book_184 : decode cX9_book 184 = .ok (.iload 7, 2) := by decide +kernel
theorem dX9_book_186 : decode cX9_book 186 = .ok (.iload 4, 2) := by decide +kernel
theorem dX9_book_188 : decode cX9_book 188 = .ok (.if_icmp .ge 85, 3) := by decide +kernel
theorem dX9_book_191 : decode cX9_book 191 = .ok (.aload_n 0, 1) := by decide +kernel
theorem dX9_book_192 : decode cX9_book 192 = .ok (.getfield 103, 3) := by decide +kernel
theorem dX9_book_195 : decode cX9_book 195 = .ok (.iconst 4, 1) := by decide +kernel
theorem dX9_book_196 : decode cX9_book 196 = .ok (.iload 6, 2) := by decide +kernel
theorem dX9_book_198 : decode cX9_book 198 = .ok (.imul, 1) := by decide +kernel
theorem dX9_book_199 : decode cX9_book 199 = .ok (.iload 7, 2) := by decide +kernel
theorem dX9_book_201 : decode cX9_book 201 = .ok (.iadd, 1) := by decide +kernel
theorem dX9_book_202 : decode cX9_book 202 = .ok (.aload_n 0, 1) := by decide +kernel
theorem dX9_book_203 : decode cX9_book 203 = .ok (.getfield 67, 3) := by decide +kernel
theorem dX9_book_206 : decode cX9_book 206 = .ok (.iload 7, 2) := by decide +kernel
theorem dX9_book_208 : decode cX9_book 208 = .ok (.iaload, 1) := by decide +kernel
theorem dX9_book_209 : decode cX9_book 209 = .ok (.iastore, 1) := by decide +kernel
theorem dX9_book_210 : decode cX9_book 210 = .ok (.aload_n 0, 1) := by decide +kernel
theorem dX9_book_211 : decode cX9_book 211 = .ok (.getfield 106, 3) := by decide +kernel
theorem dX9_book_214 : decode cX9_book 214 = .ok (.iconst 4, 1) := by decide +kernel
theorem dX9_book_215 : decode cX9_book 215 = .ok (.iload 6, 2) := by decide +kernel
theorem dX9_book_217 : decode cX9_book 217 = .ok (.imul, 1) := by decide +kernel
theorem dX9_book_218 : decode cX9_book 218 = .ok (.iload 7, 2) := by decide +kernel
theorem dX9_book_220 : decode cX9_book 220 = .ok (.iadd, 1) := by decide +kernel
theorem dX9_book_221 : decode cX9_book 221 = .ok (.aload_n 0, 1) := by decide +kernel
theorem dX9_book_222 : decode cX9_book 222 = .ok (.getfield 70, 3) := by decide +kernel
theorem dX9_book_225 : decode cX9_book 225 = .ok (.iload 7, 2) := by decide +kernel
theorem dX9_book_227 : decode cX9_book 227 = .ok (.iaload, 1) := by decide +kernel
theorem dX9_book_228 : decode cX9_book 228 = .ok (.iastore, 1) := by decide +kernel
theorem dX9_book_229 : decode cX9_book 229 = .ok (.aload_n 0, 1) := by decide +kernel
theorem dX9_book_230 : decode cX9_book 230 = .ok (.getfield 109, 3) := by decide +kernel
theorem dX9_book_233 : decode cX9_book 233 = .ok (.iconst 4, 1) := by decide +kernel
theorem dX9_book_234 : decode cX9_book 234 = .ok (.iload 6, 2) := by decide +kernel
theorem dX9_book_236 : decode cX9_book 236 = .ok (.imul, 1) := by decide +kernel
theorem dX9_book_237 : decode cX9_book 237 = .ok (.iload 7, 2) := by decide +kernel
theorem dX9_book_239 : decode cX9_book 239 = .ok (.iadd, 1) := by decide +kernel
theorem dX9_book_240 : decode cX9_book 240 = .ok (.aload_n 0, 1) := by decide +kernel
theorem dX9_book_241 : decode cX9_book 241 = .ok (.getfield 73, 3) := by decide +kernel
theorem dX9_book_244 : decode cX9_book 244 = .ok (.iload 7, 2) := by decide +kernel
theorem dX9_book_246 : decode cX9_book 246 = .ok (.iaload, 1) := by decide +kernel
theorem dX9_book_247 : decode cX9_book 247 = .ok (.iastore, 1) := by decide +kernel
theorem dX9_book_248 : decode cX9_book 248 = .ok (.aload_n 0, 1) := by decide +kernel
theorem dX9_book_249 : decode cX9_book 249 = .ok (.getfield 112, 3) := by decide +kernel
theorem dX9_book_252 : decode cX9_book 252 = .ok (.iconst 4, 1) := by decide +kernel
theorem dX9_book_253 : decode cX9_book 253 = .ok (.iload 6, 2) := by decide +kernel
theorem dX9_book_255 : decode cX9_book 255 = .ok (.imul, 1) := by decide +kernel
theorem dX9_book_256 : decode cX9_book 256 = .ok (.iload 7, 2) := by decide +kernel
theorem dX9_book_258 : decode cX9_book 258 = .ok (.iadd, 1) := by decide +kernel
theorem dX9_book_259 : decode cX9_book 259 = .ok (.aload_n 0, 1) := by decide +kernel
theorem dX9_book_260 : decode cX9_book 260 = .ok (.getfield 76, 3) := by decide +kernel
theorem dX9_book_263 : decode cX9_book 263 = .ok (.iload 7, 2) := by decide +kernel
theorem dX9_book_265 : decode cX9_book 265 = .ok (.iaload, 1) := by decide +kernel
theorem dX9_book_266 : decode cX9_book 266 = .ok (.iastore, 1) := by decide +kernel
theorem dX9_book_267 : decode cX9_book 267 = .ok (.iinc 7 1, 3) := by decide +kernel
theorem dX9_book_270 : decode cX9_book 270 = .ok (.goto (-86), 3) := by decide +kernel
theorem dX9_book_273 : decode cX9_book 273 = .ok (.iconst 0, 1) := by decide +kernel
theorem dX9_book_274 : decode cX9_book 274 = .ok (.istore 7, 2) := by decide +kernel
theorem dX9_book_276 : decode cX9_book 276 = .ok (.iload 7, 2) := by decide +kernel
theorem dX9_book_278 : decode cX9_book 278 = .ok (.iload 4, 2) := by decide +kernel
theorem dX9_book_280 : decode cX9_book 280 = .ok (.if_icmp .gt 28, 3) := by decide +kernel
theorem dX9_book_283 : decode cX9_book 283 = .ok (.aload_n 0, 1) := by decide +kernel
theorem dX9_book_284 : decode cX9_book 284 = .ok (.getfield 115, 3) := by decide +kernel
theorem dX9_book_287 : decode cX9_book 287 = .ok (.iconst 5, 1) := by decide +kernel
theorem dX9_book_288 : decode cX9_book 288 = .ok (.iload 6, 2) := by decide +kernel
theorem dX9_book_290 : decode cX9_book 290 = .ok (.imul, 1) := by decide +kernel
theorem dX9_book_291 : decode cX9_book 291 = .ok (.iload 7, 2) := by decide +kernel
theorem dX9_book_293 : decode cX9_book 293 = .ok (.iadd, 1) := by decide +kernel
theorem dX9_book_294 : decode cX9_book 294 = .ok (.aload_n 0, 1) := by decide +kernel
theorem dX9_book_295 : decode cX9_book 295 = .ok (.getfield 79, 3) := by decide +kernel
theorem dX9_book_298 : decode cX9_book 298 = .ok (.iload 7, 2) := by decide +kernel
theorem dX9_book_300 : decode cX9_book 300 = .ok (.iaload, 1) := by decide +kernel
theorem dX9_book_301 : decode cX9_book 301 = .ok (.iastore, 1) := by decide +kernel
theorem dX9_book_302 : decode cX9_book 302 = .ok (.iinc 7 1, 3) := by decide +kernel
theorem dX9_book_305 : decode cX9_book 305 = .ok (.goto (-29), 3) := by decide +kernel
theorem dX9_book_308 : decode cX9_book 308 = .ok (.iload 6, 2) := by decide +kernel
theorem dX9_book_310 : decode cX9_book 310 = .ok (.ireturn, 1) := by decide +kernel
theorem dX9_buy_0 : decode cX9_buy 0 = .ok (.aload_n 0, 1) := by decide +kernel
theorem dX9_buy_1 : decode cX9_buy 1 = .ok (.aload_n 0, 1) := by decide +kernel
theorem dX9_buy_2 : decode cX9_buy 2 = .ok (.iload_n 1, 1) := by decide +kernel
theorem dX9_buy_3 : decode cX9_buy 3 = .ok (.invokevirtual 256, 3) := by decide +kernel
theorem dX9_buy_6 : decode cX9_buy 6 = .ok (.invokevirtual 138, 3) := by decide +kernel
theorem dX9_buy_9 : decode cX9_buy 9 = .ok (.ifCond .ne 5, 3) := by decide +kernel
theorem dX9_buy_12 : decode cX9_buy 12 = .ok (.iconst 0, 1) := by decide +kernel
theorem dX9_buy_13 : decode cX9_buy 13 = .ok (.ireturn, 1) := by decide +kernel
theorem dX9_buy_14 : decode cX9_buy 14 = .ok (.aload_n 0, 1) := by decide +kernel
theorem dX9_buy_15 : decode cX9_buy 15 = .ok (.getfield 85, 3) := by decide +kernel
theorem dX9_buy_18 : decode cX9_buy 18 = .ok (.iload_n 1, 1) := by decide +kernel
theorem dX9_buy_19 : decode cX9_buy 19 = .ok (.iaload, 1) := by decide +kernel
theorem dX9_buy_20 : decode cX9_buy 20 = .ok (.ifCond .eq 9, 3) := by decide +kernel
theorem dX9_buy_23 : decode cX9_buy 23 = .ok (.aload_n 0, 1) := by decide +kernel
theorem dX9_buy_24 : decode cX9_buy 24 = .ok (.iconst 2, 1) := by decide +kernel
theorem dX9_buy_25 : decode cX9_buy 25 = .ok (.invokevirtual 142, 3) := by decide +kernel
theorem dX9_buy_28 : decode cX9_buy 28 = .ok (.ireturn, 1) := by decide +kernel
theorem dX9_buy_29 : decode cX9_buy 29 = .ok (.aload_n 0, 1) := by decide +kernel
theorem dX9_buy_30 : decode cX9_buy 30 = .ok (.getfield 85, 3) := by decide +kernel
theorem dX9_buy_33 : decode cX9_buy 33 = .ok (.iload_n 1, 1) := by decide +kernel
theorem dX9_buy_34 : decode cX9_buy 34 = .ok (.iconst 1, 1) := by decide +kernel
theorem dX9_buy_35 : decode cX9_buy 35 = .ok (.iastore, 1) := by decide +kernel
theorem dX9_buy_36 : decode cX9_buy 36 = .ok (.aload_n 0, 1) := by decide +kernel
theorem dX9_buy_37 : decode cX9_buy 37 = .ok (.getfield 88, 3) := by decide +kernel
theorem dX9_buy_40 : decode cX9_buy 40 = .ok (.iload_n 1, 1) := by decide +kernel
theorem dX9_buy_41 : decode cX9_buy 41 = .ok (.iaload, 1) := by decide +kernel
theorem dX9_buy_42 : decode cX9_buy 42 = .ok (.ireturn, 1) := by decide +kernel
theorem dX9_rightOf_0 : decode cX9_rightOf 0 = .ok (.aload_n 0, 1) := by decide +kernel
theorem dX9_rightOf_1 : decode cX9_rightOf 1 = .ok (.getfield 85, 3) := by decide +kernel
theorem dX9_rightOf_4 : decode cX9_rightOf 4 = .ok (.iload_n 1, 1) := by decide +kernel
theorem dX9_rightOf_5 : decode cX9_rightOf 5 = .ok (.iaload, 1) := by decide +kernel
theorem dX9_rightOf_6 : decode cX9_rightOf 6 = .ok (.iconst 1, 1) := by decide +kernel
theorem dX9_rightOf_7 : decode cX9_rightOf 7 = .ok (.if_icmp .eq 5, 3) := by decide +kernel
theorem dX9_rightOf_10 : decode cX9_rightOf 10 = .ok (.iconst 0, 1) := by decide +kernel
theorem dX9_rightOf_11 : decode cX9_rightOf 11 = .ok (.ireturn, 1) := by decide +kernel
theorem dX9_rightOf_12 : decode cX9_rightOf 12 = .ok (.aload_n 0, 1) := by decide +kernel
theorem dX9_rightOf_13 : decode cX9_rightOf 13 = .ok (.getfield 97, 3) := by decide +kernel
theorem dX9_rightOf_16 : decode cX9_rightOf 16 = .ok (.iload_n 1, 1) := by decide +kernel
theorem dX9_rightOf_17 : decode cX9_rightOf 17 = .ok (.iaload, 1) := by decide +kernel
theorem dX9_rightOf_18 : decode cX9_rightOf 18 = .ok (.istore_n 2, 1) := by decide +kernel
theorem dX9_rightOf_19 : decode cX9_rightOf 19 = .ok (.iconst 0, 1) := by decide +kernel
theorem dX9_rightOf_20 : decode cX9_rightOf 20 = .ok (.istore_n 3, 1) := by decide +kernel
theorem dX9_rightOf_21 : decode cX9_rightOf 21 = .ok (.iload_n 3, 1) := by decide +kernel
theorem dX9_rightOf_22 : decode cX9_rightOf 22 = .ok (.aload_n 0, 1) := by decide +kernel
theorem dX9_rightOf_23 : decode cX9_rightOf 23 = .ok (.getfield 91, 3) := by decide +kernel
theorem dX9_rightOf_26 : decode cX9_rightOf 26 = .ok (.iload_n 1, 1) := by decide +kernel
theorem dX9_rightOf_27 : decode cX9_rightOf 27 = .ok (.iaload, 1) := by decide +kernel
theorem dX9_rightOf_28 : decode cX9_rightOf 28 = .ok (.if_icmp .ge 105, 3) := by decide +kernel
theorem dX9_rightOf_31 : decode cX9_rightOf 31 = .ok (.aload_n 0, 1) := by decide +kernel
theorem dX9_rightOf_32 : decode cX9_rightOf 32 = .ok (.getfield 103, 3) := by decide +kernel
theorem dX9_rightOf_35 : decode cX9_rightOf 35 = .ok (.iconst 4, 1) := by decide +kernel
theorem dX9_rightOf_36 : decode cX9_rightOf 36 = .ok (.iload_n 1, 1) := by decide +kernel
theorem dX9_rightOf_37 : decode cX9_rightOf 37 = .ok (.imul, 1) := by decide +kernel
theorem dX9_rightOf_38 : decode cX9_rightOf 38 = .ok (.iload_n 3, 1) := by decide +kernel
theorem dX9_rightOf_39 : decode cX9_rightOf 39 = .ok (.iadd, 1) := by decide +kernel
theorem dX9_rightOf_40 : decode cX9_rightOf 40 = .ok (.iaload, 1) := by decide +kernel
theorem dX9_rightOf_41 : decode cX9_rightOf 41 = .ok (.istore 4, 2) := by decide +kernel
theorem dX9_rightOf_43 : decode cX9_rightOf 43 = .ok (.aload_n 0, 1) := by decide +kernel
theorem dX9_rightOf_44 : decode cX9_rightOf 44 = .ok (.getfield 106, 3) := by decide +kernel
theorem dX9_rightOf_47 : decode cX9_rightOf 47 = .ok (.iconst 4, 1) := by decide +kernel
theorem dX9_rightOf_48 : decode cX9_rightOf 48 = .ok (.iload_n 1, 1) := by decide +kernel
theorem dX9_rightOf_49 : decode cX9_rightOf 49 = .ok (.imul, 1) := by decide +kernel
theorem dX9_rightOf_50 : decode cX9_rightOf 50 = .ok (.iload_n 3, 1) := by decide +kernel
theorem dX9_rightOf_51 : decode cX9_rightOf 51 = .ok (.iadd, 1) := by decide +kernel
theorem dX9_rightOf_52 : decode cX9_rightOf 52 = .ok (.iaload, 1) := by decide +kernel
theorem dX9_rightOf_53 : decode cX9_rightOf 53 = .ok (.istore 5, 2) := by decide +kernel
theorem dX9_rightOf_55 : decode cX9_rightOf 55 = .ok (.iload_n 2, 1) := by decide +kernel
theorem dX9_rightOf_56 : decode cX9_rightOf 56 = .ok (.aload_n 0, 1) := by decide +kernel
theorem dX9_rightOf_57 : decode cX9_rightOf 57 = .ok (.getfield 115, 3) := by decide +kernel
theorem dX9_rightOf_60 : decode cX9_rightOf 60 = .ok (.iconst 5, 1) := by decide +kernel
theorem dX9_rightOf_61 : decode cX9_rightOf 61 = .ok (.iload_n 1, 1) := by decide +kernel
theorem dX9_rightOf_62 : decode cX9_rightOf 62 = .ok (.imul, 1) := by decide +kernel
theorem dX9_rightOf_63 : decode cX9_rightOf 63 = .ok (.iload_n 3, 1) := by decide +kernel
theorem dX9_rightOf_64 : decode cX9_rightOf 64 = .ok (.iadd, 1) := by decide +kernel
theorem dX9_rightOf_65 : decode cX9_rightOf 65 = .ok (.iaload, 1) := by decide +kernel
theorem dX9_rightOf_66 : decode cX9_rightOf 66 = .ok (.iadd, 1) := by decide +kernel
theorem dX9_rightOf_67 : decode cX9_rightOf 67 = .ok (.istore_n 2, 1) := by decide +kernel
theorem dX9_rightOf_68 : decode cX9_rightOf 68 = .ok (.aload_n 0, 1) := by decide +kernel
theorem dX9_rightOf_69 : decode cX9_rightOf 69 = .ok (.iload 4, 2) := by decide +kernel
theorem dX9_rightOf_71 : decode cX9_rightOf 71 = .ok (.iload 5, 2) := by decide +kernel
theorem dX9_rightOf_73 : decode cX9_rightOf 73 = .ok (.invokevirtual 166, 3) := by decide +kernel
theorem dX9_rightOf_76 : decode cX9_rightOf 76 = .ok (.ifCond .eq 25, 3) := by decide +kernel
theorem dX9_rightOf_79 : decode cX9_rightOf 79 = .ok (.aload_n 0, 1) := by decide +kernel
theorem dX9_rightOf_80 : decode cX9_rightOf 80 = .ok (.iload 4, 2) := by decide +kernel
theorem dX9_rightOf_82 : decode cX9_rightOf 82 = .ok (.iload 5, 2) := by decide +kernel
theorem dX9_rightOf_84 : decode cX9_rightOf 84 = .ok (.aload_n 0, 1) := by decide +kernel
theorem dX9_rightOf_85 : decode cX9_rightOf 85 = .ok (.getfield 109, 3) := by decide +kernel
theorem dX9_rightOf_88 : decode cX9_rightOf 88 = .ok (.iconst 4, 1) := by decide +kernel
theorem dX9_rightOf_89 : decode cX9_rightOf 89 = .ok (.iload_n 1, 1) := by decide +kernel
theorem dX9_rightOf_90 : decode cX9_rightOf 90 = .ok (.imul, 1) := by decide +kernel
theorem dX9_rightOf_91 : decode cX9_rightOf 91 = .ok (.iload_n 3, 1) := by decide +kernel
theorem dX9_rightOf_92 : decode cX9_rightOf 92 = .ok (.iadd, 1) := by decide +kernel
theorem dX9_rightOf_93 : decode cX9_rightOf 93 = .ok (.iaload, 1) := by decide +kernel
theorem dX9_rightOf_94 : decode cX9_rightOf 94 = .ok (.invokevirtual 169, 3) := by decide +kernel
theorem dX9_rightOf_97 : decode cX9_rightOf 97 = .ok (.iload_n 2, 1) := by decide +kernel
theorem dX9_rightOf_98 : decode cX9_rightOf 98 = .ok (.if_icmp .ge 10, 3) := by decide +kernel
theorem dX9_rightOf_101 : decode cX9_rightOf 101 = .ok (.aload_n 0, 1) := by decide +kernel
theorem dX9_rightOf_102 : decode cX9_rightOf 102 = .ok (.getfield 88, 3) := by decide +kernel
theorem dX9_rightOf_105 : decode cX9_rightOf 105 = .ok (.iload_n 1, 1) := by decide +kernel
theorem dX9_rightOf_106 : decode cX9_rightOf 106 = .ok (.iaload, 1) := by decide +kernel
theorem dX9_rightOf_107 : decode cX9_rightOf 107 = .ok (.ireturn, 1) := by decide +kernel
theorem dX9_rightOf_108 : decode cX9_rightOf 108 = .ok (.aload_n 0, 1) := by decide +kernel
theorem dX9_rightOf_109 : decode cX9_rightOf 109 = .ok (.iload 4, 2) := by decide +kernel
theorem dX9_rightOf_111 : decode cX9_rightOf 111 = .ok (.iload 5, 2) := by decide +kernel
theorem dX9_rightOf_113 : decode cX9_rightOf 113 = .ok (.aload_n 0, 1) := by decide +kernel
theorem dX9_rightOf_114 : decode cX9_rightOf 114 = .ok (.getfield 112, 3) := by decide +kernel
theorem dX9_rightOf_117 : decode cX9_rightOf 117 = .ok (.iconst 4, 1) := by decide +kernel
theorem dX9_rightOf_118 : decode cX9_rightOf 118 = .ok (.iload_n 1, 1) := by decide +kernel
theorem dX9_rightOf_119 : decode cX9_rightOf 119 = .ok (.imul, 1) := by decide +kernel
theorem dX9_rightOf_120 : decode cX9_rightOf 120 = .ok (.iload_n 3, 1) := by decide +kernel
theorem dX9_rightOf_121 : decode cX9_rightOf 121 = .ok (.iadd, 1) := by decide +kernel
theorem dX9_rightOf_122 : decode cX9_rightOf 122 = .ok (.iaload, 1) := by decide +kernel
theorem dX9_rightOf_123 : decode cX9_rightOf 123 = .ok (.invokevirtual 173, 3) := by decide +kernel
theorem dX9_rightOf_126 : decode cX9_rightOf 126 = .ok (.istore_n 2, 1) := by decide +kernel
theorem dX9_rightOf_127 : decode cX9_rightOf 127 = .ok (.iinc 3 1, 3) := by decide +kernel
theorem dX9_rightOf_130 : decode cX9_rightOf 130 = .ok (.goto (-109), 3) := by decide +kernel
theorem dX9_rightOf_133 : decode cX9_rightOf 133 = .ok (.iload_n 2, 1) := by decide +kernel
theorem dX9_rightOf_134 : decode cX9_rightOf 134 = .ok (.aload_n 0, 1) := by decide +kernel
theorem dX9_rightOf_135 : decode cX9_rightOf 135 = .ok (.getfield 115, 3) := by decide +kernel
theorem dX9_rightOf_138 : decode cX9_rightOf 138 = .ok (.iconst 5, 1) := by decide +kernel
theorem dX9_rightOf_139 : decode cX9_rightOf 139 = .ok (.iload_n 1, 1) := by decide +kernel
theorem dX9_rightOf_140 : decode cX9_rightOf 140 = .ok (.imul, 1) := by decide +kernel
theorem dX9_rightOf_141 : decode cX9_rightOf 141 = .ok (.aload_n 0, 1) := by decide +kernel
theorem dX9_rightOf_142 : decode cX9_rightOf 142 = .ok (.getfield 91, 3) := by decide +kernel
theorem dX9_rightOf_145 : decode cX9_rightOf 145 = .ok (.iload_n 1, 1) := by decide +kernel
theorem dX9_rightOf_146 : decode cX9_rightOf 146 = .ok (.iaload, 1) := by decide +kernel
theorem dX9_rightOf_147 : decode cX9_rightOf 147 = .ok (.iadd, 1) := by decide +kernel
theorem dX9_rightOf_148 : decode cX9_rightOf 148 = .ok (.iaload, 1) := by decide +kernel
theorem dX9_rightOf_149 : decode cX9_rightOf 149 = .ok (.iadd, 1) := by decide +kernel
theorem dX9_rightOf_150 : decode cX9_rightOf 150 = .ok (.aload_n 0, 1) := by decide +kernel
theorem dX9_rightOf_151 : decode cX9_rightOf 151 = .ok (.getfield 100, 3) := by decide +kernel
theorem dX9_rightOf_154 : decode cX9_rightOf 154 = .ok (.iload_n 1, 1) := by decide +kernel
theorem dX9_rightOf_155 : decode cX9_rightOf 155 = .ok (.iaload, 1) := by decide +kernel
theorem dX9_rightOf_156 : decode cX9_rightOf 156 = .ok (.isub, 1) := by decide +kernel
theorem dX9_rightOf_157 : decode cX9_rightOf 157 = .ok (.istore_n 3, 1) := by decide +kernel
theorem dX9_rightOf_158 : decode cX9_rightOf 158 = .ok (.iload_n 3, 1) := by decide +kernel
theorem dX9_rightOf_159 : decode cX9_rightOf 159 = .ok (.bipush 120, 2) := by decide +kernel
theorem dX9_rightOf_161 : decode cX9_rightOf 161 = .ok (.if_icmp .lt 14, 3) := by decide +kernel
theorem dX9_rightOf_164 : decode cX9_rightOf 164 = .ok (.aload_n 0, 1) := by decide +kernel
theorem dX9_rightOf_165 : decode cX9_rightOf 165 = .ok (.getfield 88, 3) := by decide +kernel
theorem dX9_rightOf_168 : decode cX9_rightOf 168 = .ok (.iload_n 1, 1) := by decide +kernel
theorem dX9_rightOf_169 : decode cX9_rightOf 169 = .ok (.iaload, 1) := by decide +kernel
theorem dX9_rightOf_170 : decode cX9_rightOf 170 = .ok (.iconst 2, 1) := by decide +kernel
theorem dX9_rightOf_171 : decode cX9_rightOf 171 = .ok (.idiv, 1) := by decide +kernel
theorem dX9_rightOf_172 : decode cX9_rightOf 172 = .ok (.goto 21, 3) := by decide +kernel
theorem dX9_rightOf_175 : decode cX9_rightOf 175 = .ok (.iload_n 3, 1) := by decide +kernel
theorem dX9_rightOf_176 : decode cX9_rightOf 176 = .ok (.bipush 60, 2) := by decide +kernel
theorem dX9_rightOf_178 : decode cX9_rightOf 178 = .ok (.if_icmp .lt 14, 3) := by decide +kernel
theorem dX9_rightOf_181 : decode cX9_rightOf 181 = .ok (.aload_n 0, 1) := by decide +kernel
theorem dX9_rightOf_182 : decode cX9_rightOf 182 = .ok (.getfield 88, 3) := by decide +kernel
theorem dX9_rightOf_185 : decode cX9_rightOf 185 = .ok (.iload_n 1, 1) := by decide +kernel
theorem dX9_rightOf_186 : decode cX9_rightOf 186 = .ok (.iaload, 1) := by decide +kernel
theorem dX9_rightOf_187 : decode cX9_rightOf 187 = .ok (.iconst 4, 1) := by decide +kernel
theorem dX9_rightOf_188 : decode cX9_rightOf 188 = .ok (.idiv, 1) := by decide +kernel
theorem dX9_rightOf_189 : decode cX9_rightOf 189 = .ok (.goto 4, 3) := by decide +kernel
theorem dX9_rightOf_192 : decode cX9_rightOf 192 = .ok (.iconst 0, 1) := by decide +kernel
theorem dX9_rightOf_193 : decode cX9_rightOf 193 = .ok (.ireturn, 1) := by decide +kernel
theorem dX9_right_0 : decode cX9_right 0 = .ok (.aload_n 0, 1) := by decide +kernel
theorem dX9_right_1 : decode cX9_right 1 = .ok (.aload_n 0, 1) := by decide +kernel
theorem dX9_right_2 : decode cX9_right 2 = .ok (.iload_n 1, 1) := by decide +kernel
theorem dX9_right_3 : decode cX9_right 3 = .ok (.invokevirtual 256, 3) := by decide +kernel
theorem dX9_right_6 : decode cX9_right 6 = .ok (.invokevirtual 138, 3) := by decide +kernel
theorem dX9_right_9 : decode cX9_right 9 = .ok (.ifCond .eq 11, 3) := by decide +kernel
theorem dX9_right_12 : decode cX9_right 12 = .ok (.aload_n 0, 1) := by decide +kernel
theorem dX9_right_13 : decode cX9_right 13 = .ok (.iload_n 1, 1) := by decide +kernel
theorem dX9_right_14 : decode cX9_right 14 = .ok (.invokevirtual 259, 3) := by decide +kernel
theorem dX9_right_17 : decode cX9_right 17 = .ok (.goto 4, 3) := by decide +kernel
theorem dX9_right_20 : decode cX9_right 20 = .ok (.iconst 0, 1) := by decide +kernel
theorem dX9_right_21 : decode cX9_right 21 = .ok (.ireturn, 1) := by decide +kernel
theorem dX9_claim_0 : decode cX9_claim 0 = .ok (.aload_n 0, 1) := by decide +kernel
theorem dX9_claim_1 : decode cX9_claim 1 = .ok (.aload_n 0, 1) := by decide +kernel
theorem dX9_claim_2 : decode cX9_claim 2 = .ok (.iload_n 1, 1) := by decide +kernel
theorem dX9_claim_3 : decode cX9_claim 3 = .ok (.invokevirtual 256, 3) := by decide +kernel
theorem dX9_claim_6 : decode cX9_claim 6 = .ok (.invokevirtual 138, 3) := by decide +kernel
theorem dX9_claim_9 : decode cX9_claim 9 = .ok (.ifCond .ne 5, 3) := by decide +kernel
theorem dX9_claim_12 : decode cX9_claim 12 = .ok (.iconst 0, 1) := by decide +kernel
theorem dX9_claim_13 : decode cX9_claim 13 = .ok (.ireturn, 1) := by decide +kernel
theorem dX9_claim_14 : decode cX9_claim 14 = .ok (.aload_n 0, 1) := by decide +kernel
theorem dX9_claim_15 : decode cX9_claim 15 = .ok (.iload_n 1, 1) := by decide +kernel
theorem dX9_claim_16 : decode cX9_claim 16 = .ok (.invokevirtual 259, 3) := by decide +kernel
theorem dX9_claim_19 : decode cX9_claim 19 = .ok (.istore_n 2, 1) := by decide +kernel
theorem dX9_claim_20 : decode cX9_claim 20 = .ok (.iload_n 2, 1) := by decide +kernel
theorem dX9_claim_21 : decode cX9_claim 21 = .ok (.ifCond .ne 9, 3) := by decide +kernel
theorem dX9_claim_24 : decode cX9_claim 24 = .ok (.aload_n 0, 1) := by decide +kernel
theorem dX9_claim_25 : decode cX9_claim 25 = .ok (.iconst 2, 1) := by decide +kernel
theorem dX9_claim_26 : decode cX9_claim 26 = .ok (.invokevirtual 142, 3) := by decide +kernel
theorem dX9_claim_29 : decode cX9_claim 29 = .ok (.ireturn, 1) := by decide +kernel
theorem dX9_claim_30 : decode cX9_claim 30 = .ok (.aload_n 0, 1) := by decide +kernel
theorem dX9_claim_31 : decode cX9_claim 31 = .ok (.getfield 85, 3) := by decide +kernel
theorem dX9_claim_34 : decode cX9_claim 34 = .ok (.iload_n 1, 1) := by decide +kernel
theorem dX9_claim_35 : decode cX9_claim 35 = .ok (.iconst 3, 1) := by decide +kernel
theorem dX9_claim_36 : decode cX9_claim 36 = .ok (.iastore, 1) := by decide +kernel
theorem dX9_claim_37 : decode cX9_claim 37 = .ok (.iload_n 2, 1) := by decide +kernel
theorem dX9_claim_38 : decode cX9_claim 38 = .ok (.ireturn, 1) := by decide +kernel
theorem dX9_concerned_0 : decode cX9_concerned 0 = .ok (.aload_n 0, 1) := by decide +kernel
theorem dX9_concerned_1 : decode cX9_concerned 1 = .ok (.aload_n 0, 1) := by decide +kernel
theorem dX9_concerned_2 : decode cX9_concerned 2 = .ok (.iload_n 1, 1) := by decide +kernel
theorem dX9_concerned_3 : decode cX9_concerned 3 = .ok (.invokevirtual 153, 3) := by decide +kernel
theorem dX9_concerned_6 : decode cX9_concerned 6 = .ok (.invokevirtual 138, 3) := by decide +kernel
theorem dX9_concerned_9 : decode cX9_concerned 9 = .ok (.ifCond .ne 5, 3) := by decide +kernel
theorem dX9_concerned_12 : decode cX9_concerned 12 = .ok (.iconst 0, 1) := by decide +kernel
theorem dX9_concerned_13 : decode cX9_concerned 13 = .ok (.ireturn, 1) := by decide +kernel
theorem dX9_concerned_14 : decode cX9_concerned 14 = .ok (.iload_n 2, 1) := by decide +kernel
theorem dX9_concerned_15 : decode cX9_concerned 15 = .ok (.invokestatic 156, 3) := by decide +kernel
theorem dX9_concerned_18 : decode cX9_concerned 18 = .ok (.ifCond .ne 9, 3) := by decide +kernel
theorem dX9_concerned_21 : decode cX9_concerned 21 = .ok (.aload_n 0, 1) := by decide +kernel
theorem dX9_concerned_22 : decode cX9_concerned 22 = .ok (.iconst 2, 1) := by decide +kernel
theorem dX9_concerned_23 : decode cX9_concerned 23 = .ok (.invokevirtual 142, 3) := by decide +kernel
theorem dX9_concerned_26 : decode cX9_concerned 26 = .ok (.ireturn, 1) := by decide +kernel
theorem dX9_concerned_27 : decode cX9_concerned 27 = .ok (.iconst 0, 1) := by decide +kernel
theorem dX9_concerned_28 : decode cX9_concerned 28 = .ok (.istore_n 3, 1) := by decide +kernel
theorem dX9_concerned_29 : decode cX9_concerned 29 = .ok (.iconst 0, 1) := by decide +kernel
theorem dX9_concerned_30 : decode cX9_concerned 30 = .ok (.istore 4, 2) := by decide +kernel
theorem dX9_concerned_32 : decode cX9_concerned 32 = .ok (.iload 4, 2) := by decide +kernel
theorem dX9_concerned_34 : decode cX9_concerned 34 = .ok (.aload_n 0, 1) := by decide +kernel
theorem dX9_concerned_35 : decode cX9_concerned 35 = .ok (.getfield 135, 3) := by decide +kernel
theorem dX9_concerned_38 : decode cX9_concerned 38 = .ok (.if_icmp .ge 52, 3) := by decide +kernel
theorem dX9_concerned_41 : decode cX9_concerned 41 = .ok (.iload_n 3, 1) := by decide +kernel
theorem dX9_concerned_42 : decode cX9_concerned 42 = .ok (.aload_n 0, 1) := by decide +kernel
theorem dX9_concerned_43 : decode cX9_concerned 43 = .ok (.getfield 85, 3) := by decide +kernel
theorem dX9_concerned_46 : decode cX9_concerned 46 = .ok (.iload 4, 2) := by decide +kernel
theorem dX9_concerned_48 : decode cX9_concerned 48 = .ok (.iaload, 1) := by decide +kernel
theorem dX9_concerned_49 : decode cX9_concerned 49 = .ok (.ifCond .eq 14, 3) := by decide +kernel
theorem dX9_concerned_52 : decode cX9_concerned 52 = .ok (.aload_n 0, 1) := by decide +kernel
theorem dX9_concerned_53 : decode cX9_concerned 53 = .ok (.getfield 85, 3) := by decide +kernel
theorem dX9_concerned_56 : decode cX9_concerned 56 = .ok (.iload 4, 2) := by decide +kernel
theorem dX9_concerned_58 : decode cX9_concerned 58 = .ok (.iaload, 1) := by decide +kernel
theorem dX9_concerned_59 : decode cX9_concerned 59 = .ok (.iconst 1, 1) := by decide +kernel
theorem dX9_concerned_60 : decode cX9_concerned 60 = .ok (.if_icmp .ne 21, 3) := by decide +kernel
theorem dX9_concerned_63 : decode cX9_concerned 63 = .ok (.aload_n 0, 1) := by decide +kernel
theorem dX9_concerned_64 : decode cX9_concerned 64 = .ok (.iload 4, 2) := by decide +kernel
theorem dX9_concerned_66 : decode cX9_concerned 66 = .ok (.iload_n 1, 1) := by decide +kernel
theorem dX9_concerned_67 : decode cX9_concerned 67 = .ok (.iload_n 2, 1) := by decide +kernel
theorem dX9_concerned_68 : decode cX9_concerned 68 = .ok (.invokevirtual 250, 3) := by decide +kernel
theorem dX9_concerned_71 : decode cX9_concerned 71 = .ok (.ifCond .eq 10, 3) := by decide +kernel
theorem dX9_concerned_74 : decode cX9_concerned 74 = .ok (.iconst 1, 1) := by decide +kernel
theorem dX9_concerned_75 : decode cX9_concerned 75 = .ok (.iload 4, 2) := by decide +kernel
theorem dX9_concerned_77 : decode cX9_concerned 77 = .ok (.ishl, 1) := by decide +kernel
theorem dX9_concerned_78 : decode cX9_concerned 78 = .ok (.goto 4, 3) := by decide +kernel
theorem dX9_concerned_81 : decode cX9_concerned 81 = .ok (.iconst 0, 1) := by decide +kernel
theorem dX9_concerned_82 : decode cX9_concerned 82 = .ok (.ior, 1) := by decide +kernel
theorem dX9_concerned_83 : decode cX9_concerned 83 = .ok (.istore_n 3, 1) := by decide +kernel
theorem dX9_concerned_84 : decode cX9_concerned 84 = .ok (.iinc 4 1, 3) := by decide +kernel
theorem dX9_concerned_87 : decode cX9_concerned 87 = .ok (.goto (-55), 3) := by decide +kernel
theorem dX9_concerned_90 : decode cX9_concerned 90 = .ok (.iload_n 3, 1) := by decide +kernel
theorem dX9_concerned_91 : decode cX9_concerned 91 = .ok (.ireturn, 1) := by decide +kernel
theorem dX9_seats_0 : decode cX9_seats 0 = .ok (.aload_n 0, 1) := by decide +kernel
theorem dX9_seats_1 : decode cX9_seats 1 = .ok (.aload_n 0, 1) := by decide +kernel
theorem dX9_seats_2 : decode cX9_seats 2 = .ok (.iload_n 1, 1) := by decide +kernel
theorem dX9_seats_3 : decode cX9_seats 3 = .ok (.invokevirtual 153, 3) := by decide +kernel
theorem dX9_seats_6 : decode cX9_seats 6 = .ok (.invokevirtual 138, 3) := by decide +kernel
theorem dX9_seats_9 : decode cX9_seats 9 = .ok (.ifCond .ne 5, 3) := by decide +kernel
theorem dX9_seats_12 : decode cX9_seats 12 = .ok (.iconst 0, 1) := by decide +kernel
theorem dX9_seats_13 : decode cX9_seats 13 = .ok (.ireturn, 1) := by decide +kernel
theorem dX9_seats_14 : decode cX9_seats 14 = .ok (.iload_n 2, 1) := by decide +kernel
theorem dX9_seats_15 : decode cX9_seats 15 = .ok (.invokestatic 156, 3) := by decide +kernel
theorem dX9_seats_18 : decode cX9_seats 18 = .ok (.ifCond .eq 12, 3) := by decide +kernel
theorem dX9_seats_21 : decode cX9_seats 21 = .ok (.aload_n 0, 1) := by decide +kernel
theorem dX9_seats_22 : decode cX9_seats 22 = .ok (.iload_n 1, 1) := by decide +kernel
theorem dX9_seats_23 : decode cX9_seats 23 = .ok (.iload_n 2, 1) := by decide +kernel
theorem dX9_seats_24 : decode cX9_seats 24 = .ok (.invokevirtual 253, 3) := by decide +kernel
theorem dX9_seats_27 : decode cX9_seats 27 = .ok (.goto 8, 3) := by decide +kernel
theorem dX9_seats_30 : decode cX9_seats 30 = .ok (.aload_n 0, 1) := by decide +kernel
theorem dX9_seats_31 : decode cX9_seats 31 = .ok (.iconst 2, 1) := by decide +kernel
theorem dX9_seats_32 : decode cX9_seats 32 = .ok (.invokevirtual 142, 3) := by decide +kernel
theorem dX9_seats_35 : decode cX9_seats 35 = .ok (.ireturn, 1) := by decide +kernel
theorem dX9_pass_0 : decode cX9_pass 0 = .ok (.aload_n 0, 1) := by decide +kernel
theorem dX9_pass_1 : decode cX9_pass 1 = .ok (.iload_n 1, 1) := by decide +kernel
theorem dX9_pass_2 : decode cX9_pass 2 = .ok (.iconst 1, 1) := by decide +kernel
theorem dX9_pass_3 : decode cX9_pass 3 = .ok (.sipush 1440, 3) := by decide +kernel
theorem dX9_pass_6 : decode cX9_pass 6 = .ok (.invokestatic 128, 3) := by decide +kernel
theorem dX9_pass_9 : decode cX9_pass 9 = .ok (.invokevirtual 138, 3) := by decide +kernel
theorem dX9_pass_12 : decode cX9_pass 12 = .ok (.ifCond .ne 5, 3) := by decide +kernel
theorem dX9_pass_15 : decode cX9_pass 15 = .ok (.iconst 0, 1) := by decide +kernel
theorem dX9_pass_16 : decode cX9_pass 16 = .ok (.ireturn, 1) := by decide +kernel
theorem dX9_pass_17 : decode cX9_pass 17 = .ok (.aload_n 0, 1) := by decide +kernel
theorem dX9_pass_18 : decode cX9_pass 18 = .ok (.dup, 1) := by decide +kernel
theorem dX9_pass_19 : decode cX9_pass 19 = .ok (.getfield 118, 3) := by decide +kernel
theorem dX9_pass_22 : decode cX9_pass 22 = .ok (.iload_n 1, 1) := by decide +kernel
theorem dX9_pass_23 : decode cX9_pass 23 = .ok (.iadd, 1) := by decide +kernel
theorem dX9_pass_24 : decode cX9_pass 24 = .ok (.putfield 118, 3) := by decide +kernel
theorem dX9_pass_27 : decode cX9_pass 27 = .ok (.iconst 0, 1) := by decide +kernel
theorem dX9_pass_28 : decode cX9_pass 28 = .ok (.istore_n 2, 1) := by decide +kernel
theorem dX9_pass_29 : decode cX9_pass 29 = .ok (.iconst 0, 1) := by decide +kernel
theorem dX9_pass_30 : decode cX9_pass 30 = .ok (.istore_n 3, 1) := by decide +kernel
theorem dX9_pass_31 : decode cX9_pass 31 = .ok (.iload_n 3, 1) := by decide +kernel
theorem dX9_pass_32 : decode cX9_pass 32 = .ok (.aload_n 0, 1) := by decide +kernel
theorem dX9_pass_33 : decode cX9_pass 33 = .ok (.getfield 135, 3) := by decide +kernel
theorem dX9_pass_36 : decode cX9_pass 36 = .ok (.if_icmp .ge 44, 3) := by decide +kernel
theorem dX9_pass_39 : decode cX9_pass 39 = .ok (.aload_n 0, 1) := by decide +kernel
theorem dX9_pass_40 : decode cX9_pass 40 = .ok (.getfield 85, 3) := by decide +kernel
theorem dX9_pass_43 : decode cX9_pass 43 = .ok (.iload_n 3, 1) := by decide +kernel
theorem dX9_pass_44 : decode cX9_pass 44 = .ok (.iaload, 1) := by decide +kernel
theorem dX9_pass_45 : decode cX9_pass 45 = .ok (.ifCond .ne 29, 3) := by decide +kernel
theorem dX9_pass_48 : decode cX9_pass 48 = .ok (.aload_n 0, 1) := by decide +kernel
theorem dX9_pass_49 : decode cX9_pass 49 = .ok (.getfield 118, 3) := by decide +kernel
theorem dX9_pass_52 : decode cX9_pass 52 = .ok (.aload_n 0, 1) := by decide +kernel
theorem dX9_pass_53 : decode cX9_pass 53 = .ok (.getfield 94, 3) := by decide +kernel
theorem dX9_pass_56 : decode cX9_pass 56 = .ok (.iload_n 3, 1) := by decide +kernel
theorem dX9_pass_57 : decode cX9_pass 57 = .ok (.iaload, 1) := by decide +kernel
theorem dX9_pass_58 : decode cX9_pass 58 = .ok (.isub, 1) := by decide +kernel
theorem dX9_pass_59 : decode cX9_pass 59 = .ok (.bipush 30, 2) := by decide +kernel
theorem dX9_pass_61 : decode cX9_pass 61 = .ok (.if_icmp .le 13, 3) := by decide +kernel
theorem dX9_pass_64 : decode cX9_pass 64 = .ok (.aload_n 0, 1) := by decide +kernel
theorem dX9_pass_65 : decode cX9_pass 65 = .ok (.getfield 85, 3) := by decide +kernel
theorem dX9_pass_68 : decode cX9_pass 68 = .ok (.iload_n 3, 1) := by decide +kernel
theorem dX9_pass_69 : decode cX9_pass 69 = .ok (.iconst 2, 1) := by decide +kernel
theorem dX9_pass_70 : decode cX9_pass 70 = .ok (.iastore, 1) := by decide +kernel
theorem dX9_pass_71 : decode cX9_pass 71 = .ok (.iinc 2 1, 3) := by decide +kernel
theorem dX9_pass_74 : decode cX9_pass 74 = .ok (.iinc 3 1, 3) := by decide +kernel
theorem dX9_pass_77 : decode cX9_pass 77 = .ok (.goto (-46), 3) := by decide +kernel
theorem dX9_pass_80 : decode cX9_pass 80 = .ok (.iload_n 2, 1) := by decide +kernel
theorem dX9_pass_81 : decode cX9_pass 81 = .ok (.ireturn, 1) := by decide +kernel
theorem dX9_ofBooking_0 : decode cX9_ofBooking 0 = .ok (.aload_n 0, 1) := by decide +kernel
theorem dX9_ofBooking_1 : decode cX9_ofBooking 1 = .ok (.aload_n 0, 1) := by decide +kernel
theorem dX9_ofBooking_2 : decode cX9_ofBooking 2 = .ok (.iload_n 1, 1) := by decide +kernel
theorem dX9_ofBooking_3 : decode cX9_ofBooking 3 = .ok (.invokevirtual 256, 3) := by decide +kernel
theorem dX9_ofBooking_6 : decode cX9_ofBooking 6 = .ok (.invokevirtual 138, 3) := by decide +kernel
theorem dX9_ofBooking_9 : decode cX9_ofBooking 9 = .ok (.ifCond .ne 5, 3) := by decide +kernel
theorem dX9_ofBooking_12 : decode cX9_ofBooking 12 = .ok (.iconst 0, 1) := by decide +kernel
theorem dX9_ofBooking_13 : decode cX9_ofBooking 13 = .ok (.ireturn, 1) := by decide +kernel
theorem dX9_ofBooking_14 : decode cX9_ofBooking 14 = .ok (.iload_n 2, 1) := by decide +kernel
theorem dX9_ofBooking_15 : decode cX9_ofBooking 15 = .ok (.tableswitch 57 0 3 #[29, 36, 43, 50], 29) := by decide +kernel
theorem dX9_ofBooking_44 : decode cX9_ofBooking 44 = .ok (.aload_n 0, 1) := by decide +kernel
theorem dX9_ofBooking_45 : decode cX9_ofBooking 45 = .ok (.getfield 85, 3) := by decide +kernel
theorem dX9_ofBooking_48 : decode cX9_ofBooking 48 = .ok (.iload_n 1, 1) := by decide +kernel
theorem dX9_ofBooking_49 : decode cX9_ofBooking 49 = .ok (.iaload, 1) := by decide +kernel
theorem dX9_ofBooking_50 : decode cX9_ofBooking 50 = .ok (.ireturn, 1) := by decide +kernel
theorem dX9_ofBooking_51 : decode cX9_ofBooking 51 = .ok (.aload_n 0, 1) := by decide +kernel
theorem dX9_ofBooking_52 : decode cX9_ofBooking 52 = .ok (.getfield 88, 3) := by decide +kernel
theorem dX9_ofBooking_55 : decode cX9_ofBooking 55 = .ok (.iload_n 1, 1) := by decide +kernel
theorem dX9_ofBooking_56 : decode cX9_ofBooking 56 = .ok (.iaload, 1) := by decide +kernel
theorem dX9_ofBooking_57 : decode cX9_ofBooking 57 = .ok (.ireturn, 1) := by decide +kernel
theorem dX9_ofBooking_58 : decode cX9_ofBooking 58 = .ok (.aload_n 0, 1) := by decide +kernel
theorem dX9_ofBooking_59 : decode cX9_ofBooking 59 = .ok (.getfield 91, 3) := by decide +kernel
theorem dX9_ofBooking_62 : decode cX9_ofBooking 62 = .ok (.iload_n 1, 1) := by decide +kernel
theorem dX9_ofBooking_63 : decode cX9_ofBooking 63 = .ok (.iaload, 1) := by decide +kernel
theorem dX9_ofBooking_64 : decode cX9_ofBooking 64 = .ok (.ireturn, 1) := by decide +kernel
theorem dX9_ofBooking_65 : decode cX9_ofBooking 65 = .ok (.aload_n 0, 1) := by decide +kernel
theorem dX9_ofBooking_66 : decode cX9_ofBooking 66 = .ok (.getfield 100, 3) := by decide +kernel
theorem dX9_ofBooking_69 : decode cX9_ofBooking 69 = .ok (.iload_n 1, 1) := by decide +kernel
theorem dX9_ofBooking_70 : decode cX9_ofBooking 70 = .ok (.iaload, 1) := by decide +kernel
theorem dX9_ofBooking_71 : decode cX9_ofBooking 71 = .ok (.ireturn, 1) := by decide +kernel
theorem dX9_ofBooking_72 : decode cX9_ofBooking 72 = .ok (.aload_n 0, 1) := by decide +kernel
theorem dX9_ofBooking_73 : decode cX9_ofBooking 73 = .ok (.iconst 2, 1) := by decide +kernel
theorem dX9_ofBooking_74 : decode cX9_ofBooking 74 = .ok (.invokevirtual 142, 3) := by decide +kernel
theorem dX9_ofBooking_77 : decode cX9_ofBooking 77 = .ok (.ireturn, 1) := by decide +kernel
