theorem dL_cell_0 : decode cL_cell 0 = .ok (.iload_n 1, 1) := by decide +kernel
theorem dL_cell_1 : decode cL_cell 1 = .ok (.aload_n 0, 1) := by decide +kernel
theorem dL_cell_2 : decode cL_cell 2 = .ok (.arraylength, 1) := by decide +kernel
theorem dL_cell_3 : decode cL_cell 3 = .ok (.if_icmp .ge 9, 3) := by decide +kernel
theorem dL_cell_6 : decode cL_cell 6 = .ok (.aload_n 0, 1) := by decide +kernel
theorem dL_cell_7 : decode cL_cell 7 = .ok (.iload_n 1, 1) := by decide +kernel
theorem dL_cell_8 : decode cL_cell 8 = .ok (.iaload, 1) := by decide +kernel
theorem dL_cell_9 : decode cL_cell 9 = .ok (.goto 10, 3) := by decide +kernel
theorem dL_cell_12 : decode cL_cell 12 = .ok (.ldc 7, 2) := by decide +kernel
theorem dL_cell_14 : decode cL_cell 14 = .ok (.iload_n 1, 1) := by decide +kernel
theorem dL_cell_15 : decode cL_cell 15 = .ok (.bipush 117, 2) := by decide +kernel
theorem dL_cell_17 : decode cL_cell 17 = .ok (.iadd, 1) := by decide +kernel
theorem dL_cell_18 : decode cL_cell 18 = .ok (.imul, 1) := by decide +kernel
theorem dL_cell_19 : decode cL_cell 19 = .ok (.istore_n 2, 1) := by decide +kernel
theorem dL_cell_20 : decode cL_cell 20 = .ok (.iload_n 2, 1) := by decide +kernel
theorem dL_cell_21 : decode cL_cell 21 = .ok (.iload_n 2, 1) := by decide +kernel
theorem dL_cell_22 : decode cL_cell 22 = .ok (.bipush 16, 2) := by decide +kernel
theorem dL_cell_24 : decode cL_cell 24 = .ok (.iushr, 1) := by decide +kernel
theorem dL_cell_25 : decode cL_cell 25 = .ok (.ixor, 1) := by decide +kernel
theorem dL_cell_26 : decode cL_cell 26 = .ok (.ldc 8, 2) := by decide +kernel
theorem dL_cell_28 : decode cL_cell 28 = .ok (.imul, 1) := by decide +kernel
theorem dL_cell_29 : decode cL_cell 29 = .ok (.sipush 353, 3) := by decide +kernel
theorem dL_cell_32 : decode cL_cell 32 = .ok (.iload_n 1, 1) := by decide +kernel
theorem dL_cell_33 : decode cL_cell 33 = .ok (.imul, 1) := by decide +kernel
theorem dL_cell_34 : decode cL_cell 34 = .ok (.iadd, 1) := by decide +kernel
theorem dL_cell_35 : decode cL_cell 35 = .ok (.ireturn, 1) := by decide +kernel
theorem dL_some_0 : decode cL_some 0 = .ok (.iload_n 0, 1) := by decide +kernel
theorem dL_some_1 : decode cL_some 1 = .ok (.iconst 1, 1) := by decide +kernel
theorem dL_some_2 : decode cL_some 2 = .ok (.iushr, 1) := by decide +kernel
theorem dL_some_3 : decode cL_some 3 = .ok (.iload_n 1, 1) := by decide +kernel
theorem dL_some_4 : decode cL_some 4 = .ok (.irem, 1) := by decide +kernel
theorem dL_some_5 : decode cL_some 5 = .ok (.ireturn, 1) := by decide +kernel
theorem dL_call_0 : decode cL_call 0 = .ok (.aload_n 0, 1) := by decide +kernel
theorem dL_call_1 : decode cL_call 1 = .ok (.iload_n 1, 1) := by decide +kernel
theorem dL_call_2 : decode cL_call 2 = .ok (.iload_n 2, 1) := by decide +kernel
theorem dL_call_3 : decode cL_call 3 = .ok (.iload_n 3, 1) := by decide +kernel
theorem dL_call_4 : decode cL_call 4 = .ok (.iload 4, 2) := by decide +kernel
theorem dL_call_6 : decode cL_call 6 = .ok (.iload 5, 2) := by decide +kernel
theorem dL_call_8 : decode cL_call 8 = .ok (.invokestatic 9, 3) := by decide +kernel
theorem dL_call_11 : decode cL_call 11 = .ok (.ireturn, 1) := by decide +kernel
theorem dL_call_12 : decode cL_call 12 = .ok (.astore 6, 2) := by decide +kernel
theorem dL_call_14 : decode cL_call 14 = .ok (.ldc 17, 2) := by decide +kernel
theorem dL_call_16 : decode cL_call 16 = .ok (.ireturn, 1) := by decide +kernel
theorem dL_call_17 : decode cL_call 17 = .ok (.astore 6, 2) := by decide +kernel
theorem dL_call_19 : decode cL_call 19 = .ok (.ldc 20, 2) := by decide +kernel
theorem dL_call_21 : decode cL_call 21 = .ok (.ireturn, 1) := by decide +kernel
theorem dL_call_22 : decode cL_call 22 = .ok (.astore 6, 2) := by decide +kernel
theorem dL_call_24 : decode cL_call 24 = .ok (.ldc 23, 2) := by decide +kernel
theorem dL_call_26 : decode cL_call 26 = .ok (.ireturn, 1) := by decide +kernel
theorem dL_does_0 : decode cL_does 0 = .ok (.iload_n 1, 1) := by decide +kernel
theorem dL_does_1 : decode cL_does 1 = .ok (.tableswitch 256 0 17 #[87, 93, 102, 113, 139, 148, 155, 167, 178, 189, 198, 207, 218, 224, 230, 236, 243, 250], 87) := by decide +kernel
theorem dL_does_88 : decode cL_does 88 = .ok (.aload_n 0, 1) := by decide +kernel
theorem dL_does_89 : decode cL_does 89 = .ok (.iload_n 2, 1) := by decide +kernel
theorem dL_does_90 : decode cL_does 90 = .ok (.invokevirtual 24, 3) := by decide +kernel
theorem dL_does_93 : decode cL_does 93 = .ok (.ireturn, 1) := by decide +kernel
theorem dL_does_94 : decode cL_does 94 = .ok (.aload_n 0, 1) := by decide +kernel
theorem dL_does_95 : decode cL_does 95 = .ok (.iload_n 2, 1) := by decide +kernel
theorem dL_does_96 : decode cL_does 96 = .ok (.iload_n 3, 1) := by decide +kernel
theorem dL_does_97 : decode cL_does 97 = .ok (.iload 4, 2) := by decide +kernel
theorem dL_does_99 : decode cL_does 99 = .ok (.invokevirtual 30, 3) := by decide +kernel
theorem dL_does_102 : decode cL_does 102 = .ok (.ireturn, 1) := by decide +kernel
theorem dL_does_103 : decode cL_does 103 = .ok (.aload_n 0, 1) := by decide +kernel
theorem dL_does_104 : decode cL_does 104 = .ok (.iload_n 2, 1) := by decide +kernel
theorem dL_does_105 : decode cL_does 105 = .ok (.iload_n 3, 1) := by decide +kernel
theorem dL_does_106 : decode cL_does 106 = .ok (.iload 4, 2) := by decide +kernel
theorem dL_does_108 : decode cL_does 108 = .ok (.iload 5, 2) := by decide +kernel
theorem dL_does_110 : decode cL_does 110 = .ok (.invokevirtual 34, 3) := by decide +kernel
theorem dL_does_113 : decode cL_does 113 = .ok (.ireturn, 1) := by decide +kernel
theorem dL_does_114 : decode cL_does 114 = .ok (.aload_n 0, 1) := by decide +kernel
theorem dL_does_115 : decode cL_does 115 = .ok (.iload_n 2, 1) := by decide +kernel
theorem dL_does_116 : decode cL_does 116 = .ok (.iload_n 3, 1) := by decide +kernel
theorem dL_does_117 : decode cL_does 117 = .ok (.iload 4, 2) := by decide +kernel
theorem dL_does_119 : decode cL_does 119 = .ok (.iconst 1, 1) := by decide +kernel
theorem dL_does_120 : decode cL_does 120 = .ok (.if_icmp .ne 7, 3) := by decide +kernel
theorem dL_does_123 : decode cL_does 123 = .ok (.iconst 1, 1) := by decide +kernel
theorem dL_does_124 : decode cL_does 124 = .ok (.goto 4, 3) := by decide +kernel
theorem dL_does_127 : decode cL_does 127 = .ok (.iconst 0, 1) := by decide +kernel
theorem dL_does_128 : decode cL_does 128 = .ok (.invokevirtual 38, 3) := by decide +kernel
theorem dL_does_131 : decode cL_does 131 = .ok (.ifCond .eq 7, 3) := by decide +kernel
theorem dL_does_134 : decode cL_does 134 = .ok (.iconst 1, 1) := by decide +kernel
theorem dL_does_135 : decode cL_does 135 = .ok (.goto 4, 3) := by decide +kernel
theorem dL_does_138 : decode cL_does 138 = .ok (.iconst 0, 1) := by decide +kernel
theorem dL_does_139 : decode cL_does 139 = .ok (.ireturn, 1) := by decide +kernel
theorem dL_does_140 : decode cL_does 140 = .ok (.aload_n 0, 1) := by decide +kernel
theorem dL_does_141 : decode cL_does 141 = .ok (.iload_n 2, 1) := by decide +kernel
theorem dL_does_142 : decode cL_does 142 = .ok (.iload_n 3, 1) := by decide +kernel
theorem dL_does_143 : decode cL_does 143 = .ok (.iload 4, 2) := by decide +kernel
theorem dL_does_145 : decode cL_does 145 = .ok (.invokevirtual 42, 3) := by decide +kernel
theorem dL_does_148 : decode cL_does 148 = .ok (.ireturn, 1) := by decide +kernel
theorem dL_does_149 : decode cL_does 149 = .ok (.aload_n 0, 1) := by decide +kernel
theorem dL_does_150 : decode cL_does 150 = .ok (.iload_n 2, 1) := by decide +kernel
theorem dL_does_151 : decode cL_does 151 = .ok (.iload_n 3, 1) := by decide +kernel
theorem dL_does_152 : decode cL_does 152 = .ok (.invokevirtual 45, 3) := by decide +kernel
theorem dL_does_155 : decode cL_does 155 = .ok (.ireturn, 1) := by decide +kernel
theorem dL_does_156 : decode cL_does 156 = .ok (.aload_n 0, 1) := by decide +kernel
theorem dL_does_157 : decode cL_does 157 = .ok (.iload_n 2, 1) := by decide +kernel
theorem dL_does_158 : decode cL_does 158 = .ok (.iload_n 3, 1) := by decide +kernel
theorem dL_does_159 : decode cL_does 159 = .ok (.iload 4, 2) := by decide +kernel
theorem dL_does_161 : decode cL_does 161 = .ok (.iload 5, 2) := by decide +kernel
theorem dL_does_163 : decode cL_does 163 = .ok (.invokevirtual 49, 3) := by decide +kernel
theorem dL_does_166 : decode cL_does 166 = .ok (.iconst 0, 1) := by decide +kernel
theorem dL_does_167 : decode cL_does 167 = .ok (.ireturn, 1) := by decide +kernel
theorem dL_does_168 : decode cL_does 168 = .ok (.aload_n 0, 1) := by decide +kernel
theorem dL_does_169 : decode cL_does 169 = .ok (.iload_n 2, 1) := by decide +kernel
theorem dL_does_170 : decode cL_does 170 = .ok (.iload_n 3, 1) := by decide +kernel
theorem dL_does_171 : decode cL_does 171 = .ok (.iload 4, 2) := by decide +kernel
theorem dL_does_173 : decode cL_does 173 = .ok (.iload 5, 2) := by decide +kernel
theorem dL_does_175 : decode cL_does 175 = .ok (.invokevirtual 53, 3) := by decide +kernel
theorem dL_does_178 : decode cL_does 178 = .ok (.ireturn, 1) := by decide +kernel
theorem dL_does_179 : decode cL_does 179 = .ok (.aload_n 0, 1) := by decide +kernel
theorem dL_does_180 : decode cL_does 180 = .ok (.iload_n 2, 1) := by decide +kernel
theorem dL_does_181 : decode cL_does 181 = .ok (.iload_n 3, 1) := by decide +kernel
theorem dL_does_182 : decode cL_does 182 = .ok (.iload 4, 2) := by decide +kernel
theorem dL_does_184 : decode cL_does 184 = .ok (.iload 5, 2) := by decide +kernel
theorem dL_does_186 : decode cL_does 186 = .ok (.invokevirtual 56, 3) := by decide +kernel
theorem dL_does_189 : decode cL_does 189 = .ok (.ireturn, 1) := by decide +kernel
theorem dL_does_190 : decode cL_does 190 = .ok (.aload_n 0, 1) := by decide +kernel
theorem dL_does_191 : decode cL_does 191 = .ok (.iload_n 2, 1) := by decide +kernel
theorem dL_does_192 : decode cL_does 192 = .ok (.iload_n 3, 1) := by decide +kernel
theorem dL_does_193 : decode cL_does 193 = .ok (.iload 4, 2) := by decide +kernel
theorem dL_does_195 : decode cL_does 195 = .ok (.invokevirtual 59, 3) := by decide +kernel
theorem dL_does_198 : decode cL_does 198 = .ok (.ireturn, 1) := by decide +kernel
theorem dL_does_199 : decode cL_does 199 = .ok (.aload_n 0, 1) := by decide +kernel
theorem dL_does_200 : decode cL_does 200 = .ok (.iload_n 2, 1) := by decide +kernel
theorem dL_does_201 : decode cL_does 201 = .ok (.iload_n 3, 1) := by decide +kernel
theorem dL_does_202 : decode cL_does 202 = .ok (.iload 4, 2) := by decide +kernel
theorem dL_does_204 : decode cL_does 204 = .ok (.invokevirtual 62, 3) := by decide +kernel
theorem dL_does_207 : decode cL_does 207 = .ok (.ireturn, 1) := by decide +kernel
theorem dL_does_208 : decode cL_does 208 = .ok (.aload_n 0, 1) := by decide +kernel
theorem dL_does_209 : decode cL_does 209 = .ok (.iload_n 2, 1) := by decide +kernel
theorem dL_does_210 : decode cL_does 210 = .ok (.iload_n 3, 1) := by decide +kernel
theorem dL_does_211 : decode cL_does 211 = .ok (.iload 4, 2) := by decide +kernel
theorem dL_does_213 : decode cL_does 213 = .ok (.iload 5, 2) := by decide +kernel
theorem dL_does_215 : decode cL_does 215 = .ok (.invokevirtual 65, 3) := by decide +kernel
theorem dL_does_218 : decode cL_does 218 = .ok (.ireturn, 1) := by decide +kernel
theorem dL_does_219 : decode cL_does 219 = .ok (.aload_n 0, 1) := by decide +kernel
theorem dL_does_220 : decode cL_does 220 = .ok (.iload_n 2, 1) := by decide +kernel
theorem dL_does_221 : decode cL_does 221 = .ok (.invokevirtual 68, 3) := by decide +kernel
theorem dL_does_224 : decode cL_does 224 = .ok (.ireturn, 1) := by decide +kernel
theorem dL_does_225 : decode cL_does 225 = .ok (.aload_n 0, 1) := by decide +kernel
theorem dL_does_226 : decode cL_does 226 = .ok (.iload_n 2, 1) := by decide +kernel
theorem dL_does_227 : decode cL_does 227 = .ok (.invokevirtual 71, 3) := by decide +kernel
theorem dL_does_230 : decode cL_does 230 = .ok (.ireturn, 1) := by decide +kernel
theorem dL_does_231 : decode cL_does 231 = .ok (.aload_n 0, 1) := by decide +kernel
theorem dL_does_232 : decode cL_does 232 = .ok (.iload_n 2, 1) := by decide +kernel
theorem dL_does_233 : decode cL_does 233 = .ok (.invokevirtual 74, 3) := by decide +kernel
theorem dL_does_236 : decode cL_does 236 = .ok (.ireturn, 1) := by decide +kernel
theorem dL_does_237 : decode cL_does 237 = .ok (.aload_n 0, 1) := by decide +kernel
theorem dL_does_238 : decode cL_does 238 = .ok (.iload_n 2, 1) := by decide +kernel
theorem dL_does_239 : decode cL_does 239 = .ok (.iload_n 3, 1) := by decide +kernel
theorem dL_does_240 : decode cL_does 240 = .ok (.invokevirtual 77, 3) := by decide +kernel
theorem dL_does_243 : decode cL_does 243 = .ok (.ireturn, 1) := by decide +kernel
theorem dL_does_244 : decode cL_does 244 = .ok (.aload_n 0, 1) := by decide +kernel
theorem dL_does_245 : decode cL_does 245 = .ok (.iload_n 2, 1) := by decide +kernel
theorem dL_does_246 : decode cL_does 246 = .ok (.iload_n 3, 1) := by decide +kernel
theorem dL_does_247 : decode cL_does 247 = .ok (.invokevirtual 80, 3) := by decide +kernel
theorem dL_does_250 : decode cL_does 250 = .ok (.ireturn, 1) := by decide +kernel
theorem dL_does_251 : decode cL_does 251 = .ok (.aload_n 0, 1) := by decide +kernel
theorem dL_does_252 : decode cL_does 252 = .ok (.iload_n 2, 1) := by decide +kernel
theorem dL_does_253 : decode cL_does 253 = .ok (.invokevirtual 83, 3) := by decide +kernel
theorem dL_does_256 : decode cL_does 256 = .ok (.ireturn, 1) := by decide +kernel
theorem dL_does_257 : decode cL_does 257 = .ok (.aload_n 0, 1) := by decide +kernel
theorem dL_does_258 : decode cL_does 258 = .ok (.iload_n 2, 1) := by decide +kernel
theorem dL_does_259 : decode cL_does 259 = .ok (.iload_n 3, 1) := by decide +kernel
theorem dL_does_260 : decode cL_does 260 = .ok (.invokevirtual 86, 3) := by decide +kernel
theorem dL_does_263 : decode cL_does 263 = .ok (.ireturn, 1) := by decide +kernel
theorem dL_trip_0 : decode cL_trip 0 = .ok (.aload_n 0, 1) := by decide +kernel
theorem dL_trip_1 : decode cL_trip 1 = .ok (.iload_n 1, 1) := by decide +kernel
theorem dL_trip_2 : decode cL_trip 2 = .ok (.iload_n 2, 1) := by decide +kernel
theorem dL_trip_3 : decode cL_trip 3 = .ok (.iload_n 3, 1) := by decide +kernel
theorem dL_trip_4 : decode cL_trip 4 = .ok (.iload 4, 2) := by decide +kernel
theorem dL_trip_6 : decode cL_trip 6 = .ok (.iload 5, 2) := by decide +kernel
theorem dL_trip_8 : decode cL_trip 8 = .ok (.iload 6, 2) := by decide +kernel
theorem dL_trip_10 : decode cL_trip 10 = .ok (.invokevirtual 89, 3) := by decide +kernel
theorem dL_trip_13 : decode cL_trip 13 = .ok (.ireturn, 1) := by decide +kernel
theorem dL_trip_14 : decode cL_trip 14 = .ok (.astore 7, 2) := by decide +kernel
theorem dL_trip_16 : decode cL_trip 16 = .ok (.ldc 17, 2) := by decide +kernel
theorem dL_trip_18 : decode cL_trip 18 = .ok (.ireturn, 1) := by decide +kernel
theorem dL_trip_19 : decode cL_trip 19 = .ok (.astore 7, 2) := by decide +kernel
theorem dL_trip_21 : decode cL_trip 21 = .ok (.ldc 20, 2) := by decide +kernel
theorem dL_trip_23 : decode cL_trip 23 = .ok (.ireturn, 1) := by decide +kernel
theorem dL_trip_24 : decode cL_trip 24 = .ok (.astore 7, 2) := by decide +kernel
theorem dL_trip_26 : decode cL_trip 26 = .ok (.ldc 23, 2) := by decide +kernel
theorem dL_trip_28 : decode cL_trip 28 = .ok (.ireturn, 1) := by decide +kernel
theorem dL_ride_0 : decode cL_ride 0 = .ok (.aload_n 0, 1) := by decide +kernel
theorem dL_ride_1 : decode cL_ride 1 = .ok (.iload_n 1, 1) := by decide +kernel
theorem dL_ride_2 : decode cL_ride 2 = .ok (.iload_n 2, 1) := by decide +kernel
theorem dL_ride_3 : decode cL_ride 3 = .ok (.iload_n 3, 1) := by decide +kernel
theorem dL_ride_4 : decode cL_ride 4 = .ok (.iload 4, 2) := by decide +kernel
theorem dL_ride_6 : decode cL_ride 6 = .ok (.iload 5, 2) := by decide +kernel
theorem dL_ride_8 : decode cL_ride 8 = .ok (.iload 6, 2) := by decide +kernel
theorem dL_ride_10 : decode cL_ride 10 = .ok (.invokevirtual 93, 3) := by decide +kernel
theorem dL_ride_13 : decode cL_ride 13 = .ok (.ireturn, 1) := by decide +kernel
theorem dL_ride_14 : decode cL_ride 14 = .ok (.astore 7, 2) := by decide +kernel
theorem dL_ride_16 : decode cL_ride 16 = .ok (.ldc 17, 2) := by decide +kernel
theorem dL_ride_18 : decode cL_ride 18 = .ok (.ireturn, 1) := by decide +kernel
theorem dL_ride_19 : decode cL_ride 19 = .ok (.astore 7, 2) := by decide +kernel
theorem dL_ride_21 : decode cL_ride 21 = .ok (.ldc 20, 2) := by decide +kernel
theorem dL_ride_23 : decode cL_ride 23 = .ok (.ireturn, 1) := by decide +kernel
theorem dL_journey_0 : decode cL_journey 0 = .ok (.aload_n 0, 1) := by decide +kernel
theorem dL_journey_1 : decode cL_journey 1 = .ok (.iload_n 1, 1) := by decide +kernel
theorem dL_journey_2 : decode cL_journey 2 = .ok (.iload_n 2, 1) := by decide +kernel
theorem dL_journey_3 : decode cL_journey 3 = .ok (.iload_n 3, 1) := by decide +kernel
theorem dL_journey_4 : decode cL_journey 4 = .ok (.iload 4, 2) := by decide +kernel
theorem dL_journey_6 : decode cL_journey 6 = .ok (.iload 5, 2) := by decide +kernel
theorem dL_journey_8 : decode cL_journey 8 = .ok (.invokevirtual 96, 3) := by decide +kernel
theorem dL_journey_11 : decode cL_journey 11 = .ok (.dreturn, 1) := by decide +kernel
theorem dL_journey_12 : decode cL_journey 12 = .ok (.astore 6, 2) := by decide +kernel
theorem dL_journey_14 : decode cL_journey 14 = .ok (.ldc2_w 100, 3) := by decide +kernel
theorem dL_journey_17 : decode cL_journey 17 = .ok (.dreturn, 1) := by decide +kernel
theorem dL_journey_18 : decode cL_journey 18 = .ok (.astore 6, 2) := by decide +kernel
theorem dL_journey_20 : decode cL_journey 20 = .ok (.ldc2_w 102, 3) := by decide +kernel
theorem dL_journey_23 : decode cL_journey 23 = .ok (.dreturn, 1) := by decide +kernel
theorem dL_all_0 : decode cL_all 0 = .ok (.ldc2_w 104, 3) := by decide +kernel
theorem dL_all_3 : decode cL_all 3 = .ok (.lstore_n 2, 1) := by decide +kernel
theorem dL_all_4 : decode cL_all 4 = .ok (.iconst 0, 1) := by decide +kernel
theorem dL_all_5 : decode cL_all 5 = .ok (.istore 4, 2) := by decide +kernel
theorem dL_all_7 : decode cL_all 7 = .ok (.iload 4, 2) := by decide +kernel
theorem dL_all_9 : decode cL_all 9 = .ok (.iconst 3, 1) := by decide +kernel
theorem dL_all_10 : decode cL_all 10 = .ok (.if_icmp .ge 94, 3) := by decide +kernel
theorem dL_all_13 : decode cL_all 13 = .ok (.aload_n 1, 1) := by decide +kernel
theorem dL_all_14 : decode cL_all 14 = .ok (.iconst 0, 1) := by decide +kernel
theorem dL_all_15 : decode cL_all 15 = .ok (.iaload, 1) := by decide +kernel
theorem dL_all_16 : decode cL_all 16 = .ok (.iconst 1, 1) := by decide +kernel
theorem dL_all_17 : decode cL_all 17 = .ok (.if_icmp .le 87, 3) := by decide +kernel
theorem dL_all_20 : decode cL_all 20 = .ok (.iload 4, 2) := by decide +kernel
theorem dL_all_22 : decode cL_all 22 = .ok (.aload_n 1, 1) := by decide +kernel
theorem dL_all_23 : decode cL_all 23 = .ok (.iconst 0, 1) := by decide +kernel
theorem dL_all_24 : decode cL_all 24 = .ok (.iaload, 1) := by decide +kernel
theorem dL_all_25 : decode cL_all 25 = .ok (.irem, 1) := by decide +kernel
theorem dL_all_26 : decode cL_all 26 = .ok (.istore 5, 2) := by decide +kernel
theorem dL_all_28 : decode cL_all 28 = .ok (.iload 4, 2) := by decide +kernel
theorem dL_all_30 : decode cL_all 30 = .ok (.iconst 1, 1) := by decide +kernel
theorem dL_all_31 : decode cL_all 31 = .ok (.iadd, 1) := by decide +kernel
theorem dL_all_32 : decode cL_all 32 = .ok (.aload_n 1, 1) := by decide +kernel
theorem dL_all_33 : decode cL_all 33 = .ok (.iconst 0, 1) := by decide +kernel
theorem dL_all_34 : decode cL_all 34 = .ok (.iaload, 1) := by decide +kernel
theorem dL_all_35 : decode cL_all 35 = .ok (.irem, 1) := by decide +kernel
theorem dL_all_36 : decode cL_all 36 = .ok (.istore 6, 2) := by decide +kernel
theorem dL_all_38 : decode cL_all 38 = .ok (.lload_n 2, 1) := by decide +kernel
theorem dL_all_39 : decode cL_all 39 = .ok (.ldc2_w 106, 3) := by decide +kernel
theorem dL_all_42 : decode cL_all 42 = .ok (.lmul, 1) := by decide +kernel
theorem dL_all_43 : decode cL_all 43 = .ok (.aload_n 0, 1) := by decide +kernel
theorem dL_all_44 : decode cL_all 44 = .ok (.iload 5, 2) := by decide +kernel
theorem dL_all_46 : decode cL_all 46 = .ok (.iload 6, 2) := by decide +kernel
theorem dL_all_48 : decode cL_all 48 = .ok (.sipush 300, 3) := by decide +kernel
theorem dL_all_51 : decode cL_all 51 = .ok (.iconst 1, 1) := by decide +kernel
theorem dL_all_52 : decode cL_all 52 = .ok (.invokevirtual 53, 3) := by decide +kernel
theorem dL_all_55 : decode cL_all 55 = .ok (.i2l, 1) := by decide +kernel
theorem dL_all_56 : decode cL_all 56 = .ok (.ladd, 1) := by decide +kernel
theorem dL_all_57 : decode cL_all 57 = .ok (.ldc2_w 106, 3) := by decide +kernel
theorem dL_all_60 : decode cL_all 60 = .ok (.lmul, 1) := by decide +kernel
theorem dL_all_61 : decode cL_all 61 = .ok (.aload_n 0, 1) := by decide +kernel
theorem dL_all_62 : decode cL_all 62 = .ok (.iload 6, 2) := by decide +kernel
theorem dL_all_64 : decode cL_all 64 = .ok (.iload 5, 2) := by decide +kernel
theorem dL_all_66 : decode cL_all 66 = .ok (.sipush 600, 3) := by decide +kernel
theorem dL_all_69 : decode cL_all 69 = .ok (.iconst 2, 1) := by decide +kernel
theorem dL_all_70 : decode cL_all 70 = .ok (.invokevirtual 53, 3) := by decide +kernel
theorem dL_all_73 : decode cL_all 73 = .ok (.i2l, 1) := by decide +kernel
theorem dL_all_74 : decode cL_all 74 = .ok (.ladd, 1) := by decide +kernel
theorem dL_all_75 : decode cL_all 75 = .ok (.lstore_n 2, 1) := by decide +kernel
theorem dL_all_76 : decode cL_all 76 = .ok (.lload_n 2, 1) := by decide +kernel
theorem dL_all_77 : decode cL_all 77 = .ok (.ldc2_w 106, 3) := by decide +kernel
theorem dL_all_80 : decode cL_all 80 = .ok (.lmul, 1) := by decide +kernel
theorem dL_all_81 : decode cL_all 81 = .ok (.aload_n 0, 1) := by decide +kernel
theorem dL_all_82 : decode cL_all 82 = .ok (.iload 5, 2) := by decide +kernel
theorem dL_all_84 : decode cL_all 84 = .ok (.iload 6, 2) := by decide +kernel
theorem dL_all_86 : decode cL_all 86 = .ok (.sipush 300, 3) := by decide +kernel
theorem dL_all_89 : decode cL_all 89 = .ok (.iconst 2, 1) := by decide +kernel
theorem dL_all_90 : decode cL_all 90 = .ok (.iconst 1, 1) := by decide +kernel
theorem dL_all_91 : decode cL_all 91 = .ok (.iconst 4, 1) := by decide +kernel
theorem dL_all_92 : decode cL_all 92 = .ok (.invokestatic 108, 3) := by decide +kernel
theorem dL_all_95 : decode cL_all 95 = .ok (.i2l, 1) := by decide +kernel
theorem dL_all_96 : decode cL_all 96 = .ok (.ladd, 1) := by decide +kernel
theorem dL_all_97 : decode cL_all 97 = .ok (.lstore_n 2, 1) := by decide +kernel
theorem dL_all_98 : decode cL_all 98 = .ok (.iinc 4 1, 3) := by decide +kernel
theorem dL_all_101 : decode cL_all 101 = .ok (.goto (-94), 3) := by decide +kernel
theorem dL_all_104 : decode cL_all 104 = .ok (.iconst 0, 1) := by decide +kernel
theorem dL_all_105 : decode cL_all 105 = .ok (.istore 4, 2) := by decide +kernel
theorem dL_all_107 : decode cL_all 107 = .ok (.iload 4, 2) := by decide +kernel
theorem dL_all_109 : decode cL_all 109 = .ok (.aload_n 1, 1) := by decide +kernel
theorem dL_all_110 : decode cL_all 110 = .ok (.iconst 1, 1) := by decide +kernel
theorem dL_all_111 : decode cL_all 111 = .ok (.iaload, 1) := by decide +kernel
theorem dL_all_112 : decode cL_all 112 = .ok (.if_icmp .ge 54, 3) := by decide +kernel
theorem dL_all_115 : decode cL_all 115 = .ok (.iconst 0, 1) := by decide +kernel
theorem dL_all_116 : decode cL_all 116 = .ok (.istore 5, 2) := by decide +kernel
theorem dL_all_118 : decode cL_all 118 = .ok (.iload 5, 2) := by decide +kernel
theorem dL_all_120 : decode cL_all 120 = .ok (.iconst 2, 1) := by decide +kernel
theorem dL_all_121 : decode cL_all 121 = .ok (.if_icmp .ge 39, 3) := by decide +kernel
theorem dL_all_124 : decode cL_all 124 = .ok (.lload_n 2, 1) := by decide +kernel
theorem dL_all_125 : decode cL_all 125 = .ok (.ldc2_w 106, 3) := by decide +kernel
theorem dL_all_128 : decode cL_all 128 = .ok (.lmul, 1) := by decide +kernel
theorem dL_all_129 : decode cL_all 129 = .ok (.aload_n 0, 1) := by decide +kernel
theorem dL_all_130 : decode cL_all 130 = .ok (.iload 4, 2) := by decide +kernel
theorem dL_all_132 : decode cL_all 132 = .ok (.iload 5, 2) := by decide +kernel
theorem dL_all_134 : decode cL_all 134 = .ok (.invokevirtual 80, 3) := by decide +kernel
theorem dL_all_137 : decode cL_all 137 = .ok (.i2l, 1) := by decide +kernel
theorem dL_all_138 : decode cL_all 138 = .ok (.ladd, 1) := by decide +kernel
theorem dL_all_139 : decode cL_all 139 = .ok (.ldc2_w 106, 3) := by decide +kernel
theorem dL_all_142 : decode cL_all 142 = .ok (.lmul, 1) := by decide +kernel
theorem dL_all_143 : decode cL_all 143 = .ok (.aload_n 0, 1) := by decide +kernel
theorem dL_all_144 : decode cL_all 144 = .ok (.iload 4, 2) := by decide +kernel
theorem dL_all_146 : decode cL_all 146 = .ok (.iload 5, 2) := by decide +kernel
theorem dL_all_148 : decode cL_all 148 = .ok (.invokevirtual 77, 3) := by decide +kernel
theorem dL_all_151 : decode cL_all 151 = .ok (.i2l, 1) := by decide +kernel
theorem dL_all_152 : decode cL_all 152 = .ok (.ladd, 1) := by decide +kernel
theorem dL_all_153 : decode cL_all 153 = .ok (.lstore_n 2, 1) := by decide +kernel
theorem dL_all_154 : decode cL_all 154 = .ok (.iinc 5 1, 3) := by decide +kernel
theorem dL_all_157 : decode cL_all 157 = .ok (.goto (-39), 3) := by decide +kernel
theorem dL_all_160 : decode cL_all 160 = .ok (.iinc 4 1, 3) := by decide +kernel
theorem dL_all_163 : decode cL_all 163 = .ok (.goto (-56), 3) := by decide +kernel
theorem dL_all_166 : decode cL_all 166 = .ok (.iconst 0, 1) := by decide +kernel
theorem dL_all_167 : decode cL_all 167 = .ok (.istore 4, 2) := by decide +kernel
theorem dL_all_169 : decode cL_all 169 = .ok (.iload 4, 2) := by decide +kernel
theorem dL_all_171 : decode cL_all 171 = .ok (.aload_n 1, 1) := by decide +kernel
theorem dL_all_172 : decode cL_all 172 = .ok (.iconst 2, 1) := by decide +kernel
theorem dL_all_173 : decode cL_all 173 = .ok (.iaload, 1) := by decide +kernel
theorem dL_all_174 : decode cL_all 174 = .ok (.if_icmp .ge 54, 3) := by decide +kernel
theorem dL_all_177 : decode cL_all 177 = .ok (.iconst 0, 1) := by decide +kernel
theorem dL_all_178 : decode cL_all 178 = .ok (.istore 5, 2) := by decide +kernel
theorem dL_all_180 : decode cL_all 180 = .ok (.iload 5, 2) := by decide +kernel
theorem dL_all_182 : decode cL_all 182 = .ok (.iconst 4, 1) := by decide +kernel
theorem dL_all_183 : decode cL_all 183 = .ok (.if_icmp .ge 25, 3) := by decide +kernel
theorem dL_all_186 : decode cL_all 186 = .ok (.lload_n 2, 1) := by decide +kernel
theorem dL_all_187 : decode cL_all 187 = .ok (.ldc2_w 111, 3) := by decide +kernel
theorem dL_all_190 : decode cL_all 190 = .ok (.lmul, 1) := by decide +kernel
theorem dL_all_191 : decode cL_all 191 = .ok (.aload_n 0, 1) := by decide +kernel
theorem dL_all_192 : decode cL_all 192 = .ok (.iload 4, 2) := by decide +kernel
theorem dL_all_194 : decode cL_all 194 = .ok (.iload 5, 2) := by decide +kernel
theorem dL_all_196 : decode cL_all 196 = .ok (.invokevirtual 86, 3) := by decide +kernel
theorem dL_all_199 : decode cL_all 199 = .ok (.i2l, 1) := by decide +kernel
theorem dL_all_200 : decode cL_all 200 = .ok (.ladd, 1) := by decide +kernel
theorem dL_all_201 : decode cL_all 201 = .ok (.lstore_n 2, 1) := by decide +kernel
theorem dL_all_202 : decode cL_all 202 = .ok (.iinc 5 1, 3) := by decide +kernel
theorem dL_all_205 : decode cL_all 205 = .ok (.goto (-25), 3) := by decide +kernel
theorem dL_all_208 : decode cL_all 208 = .ok (.lload_n 2, 1) := by decide +kernel
theorem dL_all_209 : decode cL_all 209 = .ok (.ldc2_w 111, 3) := by decide +kernel
theorem dL_all_212 : decode cL_all 212 = .ok (.lmul, 1) := by decide +kernel
theorem dL_all_213 : decode cL_all 213 = .ok (.aload_n 0, 1) := by decide +kernel
theorem dL_all_214 : decode cL_all 214 = .ok (.iload 4, 2) := by decide +kernel
theorem dL_all_216 : decode cL_all 216 = .ok (.invokevirtual 71, 3) := by decide +kernel
theorem dL_all_219 : decode cL_all 219 = .ok (.i2l, 1) := by decide +kernel
theorem dL_all_220 : decode cL_all 220 = .ok (.ladd, 1) := by decide +kernel
theorem dL_all_221 : decode cL_all 221 = .ok (.lstore_n 2, 1) := by decide +kernel
theorem dL_all_222 : decode cL_all 222 = .ok (.iinc 4 1, 3) := by decide +kernel
theorem dL_all_225 : decode cL_all 225 = .ok (.goto (-56), 3) := by decide +kernel
theorem dL_all_228 : decode cL_all 228 = .ok (.lload_n 2, 1) := by decide +kernel
theorem dL_all_229 : decode cL_all 229 = .ok (.lreturn, 1) := by decide +kernel
theorem dL_both_0 : decode cL_both 0 = .ok (.aload_n 0, 1) := by decide +kernel
theorem dL_both_1 : decode cL_both 1 = .ok (.iload_n 2, 1) := by decide +kernel
theorem dL_both_2 : decode cL_both 2 = .ok (.iload_n 3, 1) := by decide +kernel
theorem dL_both_3 : decode cL_both 3 = .ok (.iload 4, 2) := by decide +kernel
theorem dL_both_5 : decode cL_both 5 = .ok (.iload 5, 2) := by decide +kernel
theorem dL_both_7 : decode cL_both 7 = .ok (.iload 6, 2) := by decide +kernel
theorem dL_both_9 : decode cL_both 9 = .ok (.invokestatic 113, 3) := by decide +kernel
theorem dL_both_12 : decode cL_both 12 = .ok (.istore 7, 2) := by decide +kernel
theorem dL_both_14 : decode cL_both 14 = .ok (.iload 7, 2) := by decide +kernel
theorem dL_both_16 : decode cL_both 16 = .ok (.aload_n 1, 1) := by decide +kernel
theorem dL_both_17 : decode cL_both 17 = .ok (.iload_n 2, 1) := by decide +kernel
theorem dL_both_18 : decode cL_both 18 = .ok (.iload_n 3, 1) := by decide +kernel
theorem dL_both_19 : decode cL_both 19 = .ok (.iload 4, 2) := by decide +kernel
theorem dL_both_21 : decode cL_both 21 = .ok (.iload 5, 2) := by decide +kernel
theorem dL_both_23 : decode cL_both 23 = .ok (.iload 6, 2) := by decide +kernel
theorem dL_both_25 : decode cL_both 25 = .ok (.invokestatic 113, 3) := by decide +kernel
theorem dL_both_28 : decode cL_both 28 = .ok (.if_icmp .ne 8, 3) := by decide +kernel
theorem dL_both_31 : decode cL_both 31 = .ok (.iload 7, 2) := by decide +kernel
theorem dL_both_33 : decode cL_both 33 = .ok (.goto 5, 3) := by decide +kernel
theorem dL_both_36 : decode cL_both 36 = .ok (.ldc 116, 2) := by decide +kernel
theorem dL_both_38 : decode cL_both 38 = .ok (.ireturn, 1) := by decide +kernel
theorem dL_land_0 : decode cL_land 0 = .ok (.iload_n 3, 1) := by decide +kernel
theorem dL_land_1 : decode cL_land 1 = .ok (.bipush 12, 2) := by decide +kernel
theorem dL_land_3 : decode cL_land 3 = .ok (.invokestatic 117, 3) := by decide +kernel
theorem dL_land_6 : decode cL_land 6 = .ok (.istore 5, 2) := by decide +kernel
theorem dL_land_8 : decode cL_land 8 = .ok (.iload 5, 2) := by decide +kernel
theorem dL_land_10 : decode cL_land 10 = .ok (.iconst 2, 1) := by decide +kernel
theorem dL_land_11 : decode cL_land 11 = .ok (.if_icmp .lt 10, 3) := by decide +kernel
theorem dL_land_14 : decode cL_land 14 = .ok (.aload_n 2, 1) := by decide +kernel
theorem dL_land_15 : decode cL_land 15 = .ok (.iconst 0, 1) := by decide +kernel
theorem dL_land_16 : decode cL_land 16 = .ok (.iaload, 1) := by decide +kernel
theorem dL_land_17 : decode cL_land 17 = .ok (.iconst 3, 1) := by decide +kernel
theorem dL_land_18 : decode cL_land 18 = .ok (.if_icmp .ge 76, 3) := by decide +kernel
theorem dL_land_21 : decode cL_land 21 = .ok (.aload_n 0, 1) := by decide +kernel
theorem dL_land_22 : decode cL_land 22 = .ok (.aload_n 1, 1) := by decide +kernel
theorem dL_land_23 : decode cL_land 23 = .ok (.iconst 0, 1) := by decide +kernel
theorem dL_land_24 : decode cL_land 24 = .ok (.iload 4, 2) := by decide +kernel
theorem dL_land_26 : decode cL_land 26 = .ok (.bipush 20, 2) := by decide +kernel
theorem dL_land_28 : decode cL_land 28 = .ok (.invokestatic 117, 3) := by decide +kernel
theorem dL_land_31 : decode cL_land 31 = .ok (.iconst 0, 1) := by decide +kernel
theorem dL_land_32 : decode cL_land 32 = .ok (.iconst 0, 1) := by decide +kernel
theorem dL_land_33 : decode cL_land 33 = .ok (.iconst 0, 1) := by decide +kernel
theorem dL_land_34 : decode cL_land 34 = .ok (.invokestatic 120, 3) := by decide +kernel
theorem dL_land_37 : decode cL_land 37 = .ok (.istore 6, 2) := by decide +kernel
theorem dL_land_39 : decode cL_land 39 = .ok (.aload_n 2, 1) := by decide +kernel
theorem dL_land_40 : decode cL_land 40 = .ok (.iconst 0, 1) := by decide +kernel
theorem dL_land_41 : decode cL_land 41 = .ok (.dup2, 1) := by decide +kernel
theorem dL_land_42 : decode cL_land 42 = .ok (.iaload, 1) := by decide +kernel
theorem dL_land_43 : decode cL_land 43 = .ok (.iload 6, 2) := by decide +kernel
theorem dL_land_45 : decode cL_land 45 = .ok (.ifCond .lt 7, 3) := by decide +kernel
theorem dL_land_48 : decode cL_land 48 = .ok (.iconst 1, 1) := by decide +kernel
theorem dL_land_49 : decode cL_land 49 = .ok (.goto 4, 3) := by decide +kernel
theorem dL_land_52 : decode cL_land 52 = .ok (.iconst 0, 1) := by decide +kernel
theorem dL_land_53 : decode cL_land 53 = .ok (.iadd, 1) := by decide +kernel
theorem dL_land_54 : decode cL_land 54 = .ok (.iastore, 1) := by decide +kernel
theorem dL_land_55 : decode cL_land 55 = .ok (.iload 6, 2) := by decide +kernel
theorem dL_land_57 : decode cL_land 57 = .ok (.ldc 23, 2) := by decide +kernel
theorem dL_land_59 : decode cL_land 59 = .ok (.if_icmp .ne 19, 3) := by decide +kernel
theorem dL_land_62 : decode cL_land 62 = .ok (.aload_n 2, 1) := by decide +kernel
theorem dL_land_63 : decode cL_land 63 = .ok (.iconst 0, 1) := by decide +kernel
theorem dL_land_64 : decode cL_land 64 = .ok (.iaload, 1) := by decide +kernel
theorem dL_land_65 : decode cL_land 65 = .ok (.bipush 10, 2) := by decide +kernel
theorem dL_land_67 : decode cL_land 67 = .ok (.if_icmp .ne 7, 3) := by decide +kernel
theorem dL_land_70 : decode cL_land 70 = .ok (.iconst 1, 1) := by decide +kernel
theorem dL_land_71 : decode cL_land 71 = .ok (.goto 22, 3) := by decide +kernel
theorem dL_land_74 : decode cL_land 74 = .ok (.iconst 0, 1) := by decide +kernel
theorem dL_land_75 : decode cL_land 75 = .ok (.goto 18, 3) := by decide +kernel
theorem dL_land_78 : decode cL_land 78 = .ok (.iload 6, 2) := by decide +kernel
theorem dL_land_80 : decode cL_land 80 = .ok (.aload_n 2, 1) := by decide +kernel
theorem dL_land_81 : decode cL_land 81 = .ok (.iconst 0, 1) := by decide +kernel
theorem dL_land_82 : decode cL_land 82 = .ok (.iaload, 1) := by decide +kernel
theorem dL_land_83 : decode cL_land 83 = .ok (.iconst 1, 1) := by decide +kernel
theorem dL_land_84 : decode cL_land 84 = .ok (.isub, 1) := by decide +kernel
theorem dL_land_85 : decode cL_land 85 = .ok (.if_icmp .ne 7, 3) := by decide +kernel
theorem dL_land_88 : decode cL_land 88 = .ok (.iconst 1, 1) := by decide +kernel
theorem dL_land_89 : decode cL_land 89 = .ok (.goto 4, 3) := by decide +kernel
theorem dL_land_92 : decode cL_land 92 = .ok (.iconst 0, 1) := by decide +kernel
theorem dL_land_93 : decode cL_land 93 = .ok (.ireturn, 1) := by decide +kernel
theorem dL_land_94 : decode cL_land 94 = .ok (.iload 5, 2) := by decide +kernel
theorem dL_land_96 : decode cL_land 96 = .ok (.iconst 5, 1) := by decide +kernel
theorem dL_land_97 : decode cL_land 97 = .ok (.if_icmp .lt 9, 3) := by decide +kernel
theorem dL_land_100 : decode cL_land 100 = .ok (.aload_n 2, 1) := by decide +kernel
theorem dL_land_101 : decode cL_land 101 = .ok (.iconst 1, 1) := by decide +kernel
theorem dL_land_102 : decode cL_land 102 = .ok (.iaload, 1) := by decide +kernel
theorem dL_land_103 : decode cL_land 103 = .ok (.ifCond .ne 264, 3) := by decide +kernel
theorem dL_land_106 : decode cL_land 106 = .ok (.iconst 1, 1) := by decide +kernel
theorem dL_land_107 : decode cL_land 107 = .ok (.iload 4, 2) := by decide +kernel
theorem dL_land_109 : decode cL_land 109 = .ok (.iconst 3, 1) := by decide +kernel
theorem dL_land_110 : decode cL_land 110 = .ok (.invokestatic 117, 3) := by decide +kernel
theorem dL_land_113 : decode cL_land 113 = .ok (.iadd, 1) := by decide +kernel
theorem dL_land_114 : decode cL_land 114 = .ok (.istore 6, 2) := by decide +kernel
theorem dL_land_116 : decode cL_land 116 = .ok (.aload_n 0, 1) := by decide +kernel
theorem dL_land_117 : decode cL_land 117 = .ok (.iload 4, 2) := by decide +kernel
theorem dL_land_119 : decode cL_land 119 = .ok (.iconst 2, 1) := by decide +kernel
theorem dL_land_120 : decode cL_land 120 = .ok (.ishr, 1) := by decide +kernel
theorem dL_land_121 : decode cL_land 121 = .ok (.iconst 3, 1) := by decide +kernel
theorem dL_land_122 : decode cL_land 122 = .ok (.invokestatic 117, 3) := by decide +kernel
theorem dL_land_125 : decode cL_land 125 = .ok (.iload 4, 2) := by decide +kernel
theorem dL_land_127 : decode cL_land 127 = .ok (.iconst 4, 1) := by decide +kernel
theorem dL_land_128 : decode cL_land 128 = .ok (.ishr, 1) := by decide +kernel
theorem dL_land_129 : decode cL_land 129 = .ok (.iconst 3, 1) := by decide +kernel
theorem dL_land_130 : decode cL_land 130 = .ok (.invokestatic 117, 3) := by decide +kernel
theorem dL_land_133 : decode cL_land 133 = .ok (.iload 6, 2) := by decide +kernel
theorem dL_land_135 : decode cL_land 135 = .ok (.iload 4, 2) := by decide +kernel
theorem dL_land_137 : decode cL_land 137 = .ok (.bipush 6, 2) := by decide +kernel
theorem dL_land_139 : decode cL_land 139 = .ok (.ishr, 1) := by decide +kernel
theorem dL_land_140 : decode cL_land 140 = .ok (.iconst 3, 1) := by decide +kernel
theorem dL_land_141 : decode cL_land 141 = .ok (.invokestatic 117, 3) := by decide +kernel
theorem dL_land_144 : decode cL_land 144 = .ok (.ifCond .ne 18, 3) := by decide +kernel
theorem dL_land_147 : decode cL_land 147 = .ok (.iconst 1, 1) := by decide +kernel
theorem dL_land_148 : decode cL_land 148 = .ok (.iload 4, 2) := by decide +kernel
theorem dL_land_150 : decode cL_land 150 = .ok (.bipush 8, 2) := by decide +kernel
theorem dL_land_152 : decode cL_land 152 = .ok (.ishr, 1) := by decide +kernel
theorem dL_land_153 : decode cL_land 153 = .ok (.bipush 127, 2) := by decide +kernel
theorem dL_land_155 : decode cL_land 155 = .ok (.invokestatic 117, 3) := by decide +kernel
theorem dL_land_158 : decode cL_land 158 = .ok (.iadd, 1) := by decide +kernel
theorem dL_land_159 : decode cL_land 159 = .ok (.goto 5, 3) := by decide +kernel
theorem dL_land_162 : decode cL_land 162 = .ok (.bipush 127, 2) := by decide +kernel
theorem dL_land_164 : decode cL_land 164 = .ok (.iload 4, 2) := by decide +kernel
theorem dL_land_166 : decode cL_land 166 = .ok (.bipush 10, 2) := by decide +kernel
theorem dL_land_168 : decode cL_land 168 = .ok (.ishr, 1) := by decide +kernel
theorem dL_land_169 : decode cL_land 169 = .ok (.aload_n 2, 1) := by decide +kernel
theorem dL_land_170 : decode cL_land 170 = .ok (.iconst 0, 1) := by decide +kernel
theorem dL_land_171 : decode cL_land 171 = .ok (.iaload, 1) := by decide +kernel
theorem dL_land_172 : decode cL_land 172 = .ok (.invokestatic 117, 3) := by decide +kernel
theorem dL_land_175 : decode cL_land 175 = .ok (.sipush 300, 3) := by decide +kernel
theorem dL_land_178 : decode cL_land 178 = .ok (.iload 4, 2) := by decide +kernel
theorem dL_land_180 : decode cL_land 180 = .ok (.bipush 12, 2) := by decide +kernel
theorem dL_land_182 : decode cL_land 182 = .ok (.ishr, 1) := by decide +kernel
theorem dL_land_183 : decode cL_land 183 = .ok (.sipush 400, 3) := by decide +kernel
theorem dL_land_186 : decode cL_land 186 = .ok (.invokestatic 117, 3) := by decide +kernel
theorem dL_land_189 : decode cL_land 189 = .ok (.iadd, 1) := by decide +kernel
theorem dL_land_190 : decode cL_land 190 = .ok (.invokestatic 124, 3) := by decide +kernel
theorem dL_land_193 : decode cL_land 193 = .ok (.istore 7, 2) := by decide +kernel
theorem dL_land_195 : decode cL_land 195 = .ok (.iload 7, 2) := by decide +kernel
theorem dL_land_197 : decode cL_land 197 = .ok (.aload_n 1, 1) := by decide +kernel
theorem dL_land_198 : decode cL_land 198 = .ok (.iload 4, 2) := by decide +kernel
theorem dL_land_200 : decode cL_land 200 = .ok (.iconst 2, 1) := by decide +kernel
theorem dL_land_201 : decode cL_land 201 = .ok (.ishr, 1) := by decide +kernel
theorem dL_land_202 : decode cL_land 202 = .ok (.iconst 3, 1) := by decide +kernel
theorem dL_land_203 : decode cL_land 203 = .ok (.invokestatic 117, 3) := by decide +kernel
theorem dL_land_206 : decode cL_land 206 = .ok (.iload 4, 2) := by decide +kernel
theorem dL_land_208 : decode cL_land 208 = .ok (.iconst 4, 1) := by decide +kernel
theorem dL_land_209 : decode cL_land 209 = .ok (.ishr, 1) := by decide +kernel
theorem dL_land_210 : decode cL_land 210 = .ok (.iconst 3, 1) := by decide +kernel
theorem dL_land_211 : decode cL_land 211 = .ok (.invokestatic 117, 3) := by decide +kernel
theorem dL_land_214 : decode cL_land 214 = .ok (.iload 6, 2) := by decide +kernel
theorem dL_land_216 : decode cL_land 216 = .ok (.iload 4, 2) := by decide +kernel
theorem dL_land_218 : decode cL_land 218 = .ok (.bipush 6, 2) := by decide +kernel
theorem dL_land_220 : decode cL_land 220 = .ok (.ishr, 1) := by decide +kernel
theorem dL_land_221 : decode cL_land 221 = .ok (.iconst 3, 1) := by decide +kernel
theorem dL_land_222 : decode cL_land 222 = .ok (.invokestatic 117, 3) := by decide +kernel
theorem dL_land_225 : decode cL_land 225 = .ok (.ifCond .ne 18, 3) := by decide +kernel
theorem dL_land_228 : decode cL_land 228 = .ok (.iconst 1, 1) := by decide +kernel
theorem dL_land_229 : decode cL_land 229 = .ok (.iload 4, 2) := by decide +kernel
theorem dL_land_231 : decode cL_land 231 = .ok (.bipush 8, 2) := by decide +kernel
theorem dL_land_233 : decode cL_land 233 = .ok (.ishr, 1) := by decide +kernel
theorem dL_land_234 : decode cL_land 234 = .ok (.bipush 127, 2) := by decide +kernel
theorem dL_land_236 : decode cL_land 236 = .ok (.invokestatic 117, 3) := by decide +kernel
theorem dL_land_239 : decode cL_land 239 = .ok (.iadd, 1) := by decide +kernel
theorem dL_land_240 : decode cL_land 240 = .ok (.goto 5, 3) := by decide +kernel
theorem dL_land_243 : decode cL_land 243 = .ok (.bipush 127, 2) := by decide +kernel
theorem dL_land_245 : decode cL_land 245 = .ok (.iload 4, 2) := by decide +kernel
theorem dL_land_247 : decode cL_land 247 = .ok (.bipush 10, 2) := by decide +kernel
theorem dL_land_249 : decode cL_land 249 = .ok (.ishr, 1) := by decide +kernel
theorem dL_land_250 : decode cL_land 250 = .ok (.aload_n 2, 1) := by decide +kernel
theorem dL_land_251 : decode cL_land 251 = .ok (.iconst 0, 1) := by decide +kernel
theorem dL_land_252 : decode cL_land 252 = .ok (.iaload, 1) := by decide +kernel
theorem dL_land_253 : decode cL_land 253 = .ok (.invokestatic 117, 3) := by decide +kernel
theorem dL_land_256 : decode cL_land 256 = .ok (.sipush 300, 3) := by decide +kernel
theorem dL_land_259 : decode cL_land 259 = .ok (.iload 4, 2) := by decide +kernel
theorem dL_land_261 : decode cL_land 261 = .ok (.bipush 12, 2) := by decide +kernel
theorem dL_land_263 : decode cL_land 263 = .ok (.ishr, 1) := by decide +kernel
theorem dL_land_264 : decode cL_land 264 = .ok (.sipush 400, 3) := by decide +kernel
theorem dL_land_267 : decode cL_land 267 = .ok (.invokestatic 117, 3) := by decide +kernel
theorem dL_land_270 : decode cL_land 270 = .ok (.iadd, 1) := by decide +kernel
theorem dL_land_271 : decode cL_land 271 = .ok (.invokestatic 124, 3) := by decide +kernel
theorem dL_land_274 : decode cL_land 274 = .ok (.if_icmp .ne 10, 3) := by decide +kernel
theorem dL_land_277 : decode cL_land 277 = .ok (.iload 7, 2) := by decide +kernel
theorem dL_land_279 : decode cL_land 279 = .ok (.ldc 23, 2) := by decide +kernel
theorem dL_land_281 : decode cL_land 281 = .ok (.if_icmp .ne 24, 3) := by decide +kernel
theorem dL_land_284 : decode cL_land 284 = .ok (.iload 7, 2) := by decide +kernel
theorem dL_land_286 : decode cL_land 286 = .ok (.ldc 23, 2) := by decide +kernel
theorem dL_land_288 : decode cL_land 288 = .ok (.if_icmp .ne 15, 3) := by decide +kernel
theorem dL_land_291 : decode cL_land 291 = .ok (.aload_n 2, 1) := by decide +kernel
theorem dL_land_292 : decode cL_land 292 = .ok (.iconst 1, 1) := by decide +kernel
theorem dL_land_293 : decode cL_land 293 = .ok (.iaload, 1) := by decide +kernel
theorem dL_land_294 : decode cL_land 294 = .ok (.bipush 20, 2) := by decide +kernel
theorem dL_land_296 : decode cL_land 296 = .ok (.if_icmp .ne 7, 3) := by decide +kernel
theorem dL_land_299 : decode cL_land 299 = .ok (.iconst 1, 1) := by decide +kernel
theorem dL_land_300 : decode cL_land 300 = .ok (.goto 4, 3) := by decide +kernel
theorem dL_land_303 : decode cL_land 303 = .ok (.iconst 0, 1) := by decide +kernel
theorem dL_land_304 : decode cL_land 304 = .ok (.ireturn, 1) := by decide +kernel
theorem dL_land_305 : decode cL_land 305 = .ok (.aload_n 2, 1) := by decide +kernel
theorem dL_land_306 : decode cL_land 306 = .ok (.iconst 3, 1) := by decide +kernel
theorem dL_land_307 : decode cL_land 307 = .ok (.iload 7, 2) := by decide +kernel
theorem dL_land_309 : decode cL_land 309 = .ok (.iadd, 1) := by decide +kernel
theorem dL_land_310 : decode cL_land 310 = .ok (.iload 6, 2) := by decide +kernel
theorem dL_land_312 : decode cL_land 312 = .ok (.iastore, 1) := by decide +kernel
theorem dL_land_313 : decode cL_land 313 = .ok (.aload_n 2, 1) := by decide +kernel
theorem dL_land_314 : decode cL_land 314 = .ok (.bipush 23, 2) := by decide +kernel
theorem dL_land_316 : decode cL_land 316 = .ok (.iload 7, 2) := by decide +kernel
theorem dL_land_318 : decode cL_land 318 = .ok (.iadd, 1) := by decide +kernel
theorem dL_land_319 : decode cL_land 319 = .ok (.iconst 1, 1) := by decide +kernel
theorem dL_land_320 : decode cL_land 320 = .ok (.iastore, 1) := by decide +kernel
theorem dL_land_321 : decode cL_land 321 = .ok (.aload_n 2, 1) := by decide +kernel
theorem dL_land_322 : decode cL_land 322 = .ok (.iconst 1, 1) := by decide +kernel
theorem dL_land_323 : decode cL_land 323 = .ok (.dup2, 1) := by decide +kernel
theorem dL_land_324 : decode cL_land 324 = .ok (.iaload, 1) := by decide +kernel
theorem dL_land_325 : decode cL_land 325 = .ok (.iconst 1, 1) := by decide +kernel
theorem dL_land_326 : decode cL_land 326 = .ok (.iadd, 1) := by decide +kernel
theorem dL_land_327 : decode cL_land 327 = .ok (.iastore, 1) := by decide +kernel
theorem dL_land_328 : decode cL_land 328 = .ok (.iload 7, 2) := by decide +kernel
theorem dL_land_330 : decode cL_land 330 = .ok (.aload_n 2, 1) := by decide +kernel
theorem dL_land_331 : decode cL_land 331 = .ok (.iconst 1, 1) := by decide +kernel
theorem dL_land_332 : decode cL_land 332 = .ok (.iaload, 1) := by decide +kernel
theorem dL_land_333 : decode cL_land 333 = .ok (.iconst 1, 1) := by decide +kernel
theorem dL_land_334 : decode cL_land 334 = .ok (.isub, 1) := by decide +kernel
theorem dL_land_335 : decode cL_land 335 = .ok (.if_icmp .ne 30, 3) := by decide +kernel
theorem dL_land_338 : decode cL_land 338 = .ok (.aload_n 0, 1) := by decide +kernel
theorem dL_land_339 : decode cL_land 339 = .ok (.iload 7, 2) := by decide +kernel
theorem dL_land_341 : decode cL_land 341 = .ok (.bipush 99, 2) := by decide +kernel
theorem dL_land_343 : decode cL_land 343 = .ok (.invokevirtual 80, 3) := by decide +kernel
theorem dL_land_346 : decode cL_land 346 = .ok (.iload 6, 2) := by decide +kernel
theorem dL_land_348 : decode cL_land 348 = .ok (.if_icmp .ne 17, 3) := by decide +kernel
theorem dL_land_351 : decode cL_land 351 = .ok (.aload_n 0, 1) := by decide +kernel
theorem dL_land_352 : decode cL_land 352 = .ok (.iload 7, 2) := by decide +kernel
theorem dL_land_354 : decode cL_land 354 = .ok (.iconst 0, 1) := by decide +kernel
theorem dL_land_355 : decode cL_land 355 = .ok (.invokevirtual 77, 3) := by decide +kernel
theorem dL_land_358 : decode cL_land 358 = .ok (.ifCond .ne 7, 3) := by decide +kernel
theorem dL_land_361 : decode cL_land 361 = .ok (.iconst 1, 1) := by decide +kernel
theorem dL_land_362 : decode cL_land 362 = .ok (.goto 4, 3) := by decide +kernel
theorem dL_land_365 : decode cL_land 365 = .ok (.iconst 0, 1) := by decide +kernel
theorem dL_land_366 : decode cL_land 366 = .ok (.ireturn, 1) := by decide +kernel
theorem dL_land_367 : decode cL_land 367 = .ok (.iload 4, 2) := by decide +kernel
theorem dL_land_369 : decode cL_land 369 = .ok (.aload_n 2, 1) := by decide +kernel
theorem dL_land_370 : decode cL_land 370 = .ok (.iconst 1, 1) := by decide +kernel
theorem dL_land_371 : decode cL_land 371 = .ok (.iaload, 1) := by decide +kernel
theorem dL_land_372 : decode cL_land 372 = .ok (.invokestatic 117, 3) := by decide +kernel
theorem dL_land_375 : decode cL_land 375 = .ok (.istore 6, 2) := by decide +kernel
theorem dL_land_377 : decode cL_land 377 = .ok (.iload 5, 2) := by decide +kernel
theorem dL_land_379 : decode cL_land 379 = .ok (.bipush 10, 2) := by decide +kernel
theorem dL_land_381 : decode cL_land 381 = .ok (.if_icmp .ge 115, 3) := by decide +kernel
theorem dL_land_384 : decode cL_land 384 = .ok (.aload_n 0, 1) := by decide +kernel
theorem dL_land_385 : decode cL_land 385 = .ok (.aload_n 1, 1) := by decide +kernel
theorem dL_land_386 : decode cL_land 386 = .ok (.iconst 2, 1) := by decide +kernel
theorem dL_land_387 : decode cL_land 387 = .ok (.iload 6, 2) := by decide +kernel
theorem dL_land_389 : decode cL_land 389 = .ok (.iload 4, 2) := by decide +kernel
theorem dL_land_391 : decode cL_land 391 = .ok (.iconst 5, 1) := by decide +kernel
theorem dL_land_392 : decode cL_land 392 = .ok (.ishr, 1) := by decide +kernel
theorem dL_land_393 : decode cL_land 393 = .ok (.aload_n 2, 1) := by decide +kernel
theorem dL_land_394 : decode cL_land 394 = .ok (.iconst 0, 1) := by decide +kernel
theorem dL_land_395 : decode cL_land 395 = .ok (.iaload, 1) := by decide +kernel
theorem dL_land_396 : decode cL_land 396 = .ok (.invokestatic 117, 3) := by decide +kernel
theorem dL_land_399 : decode cL_land 399 = .ok (.iconst 1, 1) := by decide +kernel
theorem dL_land_400 : decode cL_land 400 = .ok (.iload 4, 2) := by decide +kernel
theorem dL_land_402 : decode cL_land 402 = .ok (.bipush 9, 2) := by decide +kernel
theorem dL_land_404 : decode cL_land 404 = .ok (.ishr, 1) := by decide +kernel
theorem dL_land_405 : decode cL_land 405 = .ok (.bipush 60, 2) := by decide +kernel
theorem dL_land_407 : decode cL_land 407 = .ok (.invokestatic 117, 3) := by decide +kernel
theorem dL_land_410 : decode cL_land 410 = .ok (.iadd, 1) := by decide +kernel
theorem dL_land_411 : decode cL_land 411 = .ok (.iload 4, 2) := by decide +kernel
theorem dL_land_413 : decode cL_land 413 = .ok (.iconst 3, 1) := by decide +kernel
theorem dL_land_414 : decode cL_land 414 = .ok (.ishr, 1) := by decide +kernel
theorem dL_land_415 : decode cL_land 415 = .ok (.bipush 10, 2) := by decide +kernel
theorem dL_land_417 : decode cL_land 417 = .ok (.invokestatic 117, 3) := by decide +kernel
theorem dL_land_420 : decode cL_land 420 = .ok (.invokestatic 120, 3) := by decide +kernel
theorem dL_land_423 : decode cL_land 423 = .ok (.istore 7, 2) := by decide +kernel
theorem dL_land_425 : decode cL_land 425 = .ok (.aload_n 2, 1) := by decide +kernel
theorem dL_land_426 : decode cL_land 426 = .ok (.bipush 23, 2) := by decide +kernel
theorem dL_land_428 : decode cL_land 428 = .ok (.iload 6, 2) := by decide +kernel
theorem dL_land_430 : decode cL_land 430 = .ok (.iadd, 1) := by decide +kernel
theorem dL_land_431 : decode cL_land 431 = .ok (.dup2, 1) := by decide +kernel
theorem dL_land_432 : decode cL_land 432 = .ok (.iaload, 1) := by decide +kernel
theorem dL_land_433 : decode cL_land 433 = .ok (.iload 7, 2) := by decide +kernel
theorem dL_land_435 : decode cL_land 435 = .ok (.ifCond .lt 7, 3) := by decide +kernel
theorem dL_land_438 : decode cL_land 438 = .ok (.iconst 1, 1) := by decide +kernel
theorem dL_land_439 : decode cL_land 439 = .ok (.goto 4, 3) := by decide +kernel
theorem dL_land_442 : decode cL_land 442 = .ok (.iconst 0, 1) := by decide +kernel
theorem dL_land_443 : decode cL_land 443 = .ok (.iadd, 1) := by decide +kernel
theorem dL_land_444 : decode cL_land 444 = .ok (.iastore, 1) := by decide +kernel
theorem dL_land_445 : decode cL_land 445 = .ok (.iload 7, 2) := by decide +kernel
theorem dL_land_447 : decode cL_land 447 = .ok (.ldc 23, 2) := by decide +kernel
theorem dL_land_449 : decode cL_land 449 = .ok (.if_icmp .ne 29, 3) := by decide +kernel
theorem dL_land_452 : decode cL_land 452 = .ok (.aload_n 2, 1) := by decide +kernel
theorem dL_land_453 : decode cL_land 453 = .ok (.bipush 23, 2) := by decide +kernel
theorem dL_land_455 : decode cL_land 455 = .ok (.iload 6, 2) := by decide +kernel
theorem dL_land_457 : decode cL_land 457 = .ok (.iadd, 1) := by decide +kernel
theorem dL_land_458 : decode cL_land 458 = .ok (.iaload, 1) := by decide +kernel
theorem dL_land_459 : decode cL_land 459 = .ok (.bipush 6, 2) := by decide +kernel
theorem dL_land_461 : decode cL_land 461 = .ok (.if_icmp .eq 9, 3) := by decide +kernel
theorem dL_land_464 : decode cL_land 464 = .ok (.aload_n 2, 1) := by decide +kernel
theorem dL_land_465 : decode cL_land 465 = .ok (.iconst 2, 1) := by decide +kernel
theorem dL_land_466 : decode cL_land 466 = .ok (.iaload, 1) := by decide +kernel
theorem dL_land_467 : decode cL_land 467 = .ok (.ifCond .le 7, 3) := by decide +kernel
theorem dL_land_470 : decode cL_land 470 = .ok (.iconst 1, 1) := by decide +kernel
theorem dL_land_471 : decode cL_land 471 = .ok (.goto 24, 3) := by decide +kernel
theorem dL_land_474 : decode cL_land 474 = .ok (.iconst 0, 1) := by decide +kernel
theorem dL_land_475 : decode cL_land 475 = .ok (.goto 20, 3) := by decide +kernel
theorem dL_land_478 : decode cL_land 478 = .ok (.iload 7, 2) := by decide +kernel
theorem dL_land_480 : decode cL_land 480 = .ok (.aload_n 2, 1) := by decide +kernel
theorem dL_land_481 : decode cL_land 481 = .ok (.bipush 23, 2) := by decide +kernel
theorem dL_land_483 : decode cL_land 483 = .ok (.iload 6, 2) := by decide +kernel
theorem dL_land_485 : decode cL_land 485 = .ok (.iadd, 1) := by decide +kernel
theorem dL_land_486 : decode cL_land 486 = .ok (.iaload, 1) := by decide +kernel
theorem dL_land_487 : decode cL_land 487 = .ok (.if_icmp .ne 7, 3) := by decide +kernel
theorem dL_land_490 : decode cL_land 490 = .ok (.iconst 1, 1) := by decide +kernel
theorem dL_land_491 : decode cL_land 491 = .ok (.goto 4, 3) := by decide +kernel
theorem dL_land_494 : decode cL_land 494 = .ok (.iconst 0, 1) := by decide +kernel
theorem dL_land_495 : decode cL_land 495 = .ok (.ireturn, 1) := by decide +kernel
theorem dL_land_496 : decode cL_land 496 = .ok (.iload 4, 2) := by decide +kernel
theorem dL_land_498 : decode cL_land 498 = .ok (.iconst 2, 1) := by decide +kernel
theorem dL_land_499 : decode cL_land 499 = .ok (.ishr, 1) := by decide +kernel
theorem dL_land_500 : decode cL_land 500 = .ok (.aload_n 2, 1) := by decide +kernel
theorem dL_land_501 : decode cL_land 501 = .ok (.iconst 0, 1) := by decide +kernel
theorem dL_land_502 : decode cL_land 502 = .ok (.iaload, 1) := by decide +kernel
theorem dL_land_503 : decode cL_land 503 = .ok (.invokestatic 117, 3) := by decide +kernel
theorem dL_land_506 : decode cL_land 506 = .ok (.istore 7, 2) := by decide +kernel
theorem dL_land_508 : decode cL_land 508 = .ok (.iload 7, 2) := by decide +kernel
theorem dL_land_510 : decode cL_land 510 = .ok (.iconst 1, 1) := by decide +kernel
theorem dL_land_511 : decode cL_land 511 = .ok (.iadd, 1) := by decide +kernel
theorem dL_land_512 : decode cL_land 512 = .ok (.iload 4, 2) := by decide +kernel
theorem dL_land_514 : decode cL_land 514 = .ok (.bipush 6, 2) := by decide +kernel
theorem dL_land_516 : decode cL_land 516 = .ok (.ishr, 1) := by decide +kernel
theorem dL_land_517 : decode cL_land 517 = .ok (.aload_n 2, 1) := by decide +kernel
theorem dL_land_518 : decode cL_land 518 = .ok (.iconst 0, 1) := by decide +kernel
theorem dL_land_519 : decode cL_land 519 = .ok (.iaload, 1) := by decide +kernel
theorem dL_land_520 : decode cL_land 520 = .ok (.iconst 1, 1) := by decide +kernel
theorem dL_land_521 : decode cL_land 521 = .ok (.isub, 1) := by decide +kernel
theorem dL_land_522 : decode cL_land 522 = .ok (.invokestatic 117, 3) := by decide +kernel
theorem dL_land_525 : decode cL_land 525 = .ok (.iadd, 1) := by decide +kernel
theorem dL_land_526 : decode cL_land 526 = .ok (.aload_n 2, 1) := by decide +kernel
theorem dL_land_527 : decode cL_land 527 = .ok (.iconst 0, 1) := by decide +kernel
theorem dL_land_528 : decode cL_land 528 = .ok (.iaload, 1) := by decide +kernel
theorem dL_land_529 : decode cL_land 529 = .ok (.irem, 1) := by decide +kernel
theorem dL_land_530 : decode cL_land 530 = .ok (.istore 8, 2) := by decide +kernel
theorem dL_land_532 : decode cL_land 532 = .ok (.iload 4, 2) := by decide +kernel
theorem dL_land_534 : decode cL_land 534 = .ok (.bipush 10, 2) := by decide +kernel
theorem dL_land_536 : decode cL_land 536 = .ok (.ishr, 1) := by decide +kernel
theorem dL_land_537 : decode cL_land 537 = .ok (.iconst 4, 1) := by decide +kernel
theorem dL_land_538 : decode cL_land 538 = .ok (.invokestatic 117, 3) := by decide +kernel
theorem dL_land_541 : decode cL_land 541 = .ok (.ifCond .ne 7, 3) := by decide +kernel
theorem dL_land_544 : decode cL_land 544 = .ok (.iconst (-1), 1) := by decide +kernel
theorem dL_land_545 : decode cL_land 545 = .ok (.goto 15, 3) := by decide +kernel
theorem dL_land_548 : decode cL_land 548 = .ok (.iconst 1, 1) := by decide +kernel
theorem dL_land_549 : decode cL_land 549 = .ok (.iload 4, 2) := by decide +kernel
theorem dL_land_551 : decode cL_land 551 = .ok (.bipush 11, 2) := by decide +kernel
theorem dL_land_553 : decode cL_land 553 = .ok (.ishr, 1) := by decide +kernel
theorem dL_land_554 : decode cL_land 554 = .ok (.bipush 40, 2) := by decide +kernel
theorem dL_land_556 : decode cL_land 556 = .ok (.invokestatic 117, 3) := by decide +kernel
theorem dL_land_559 : decode cL_land 559 = .ok (.iadd, 1) := by decide +kernel
theorem dL_land_560 : decode cL_land 560 = .ok (.istore 9, 2) := by decide +kernel
theorem dL_land_562 : decode cL_land 562 = .ok (.aload_n 0, 1) := by decide +kernel
theorem dL_land_563 : decode cL_land 563 = .ok (.aload_n 1, 1) := by decide +kernel
theorem dL_land_564 : decode cL_land 564 = .ok (.iconst 1, 1) := by decide +kernel
theorem dL_land_565 : decode cL_land 565 = .ok (.iload 7, 2) := by decide +kernel
theorem dL_land_567 : decode cL_land 567 = .ok (.iload 8, 2) := by decide +kernel
theorem dL_land_569 : decode cL_land 569 = .ok (.iload 9, 2) := by decide +kernel
theorem dL_land_571 : decode cL_land 571 = .ok (.iconst 0, 1) := by decide +kernel
theorem dL_land_572 : decode cL_land 572 = .ok (.invokestatic 120, 3) := by decide +kernel
theorem dL_land_575 : decode cL_land 575 = .ok (.istore 10, 2) := by decide +kernel
theorem dL_land_577 : decode cL_land 577 = .ok (.iload 10, 2) := by decide +kernel
theorem dL_land_579 : decode cL_land 579 = .ok (.iconst (-1), 1) := by decide +kernel
theorem dL_land_580 : decode cL_land 580 = .ok (.if_icmp .lt 30, 3) := by decide +kernel
theorem dL_land_583 : decode cL_land 583 = .ok (.iload 10, 2) := by decide +kernel
theorem dL_land_585 : decode cL_land 585 = .ok (.ifCond .eq 25, 3) := by decide +kernel
theorem dL_land_588 : decode cL_land 588 = .ok (.aload_n 0, 1) := by decide +kernel
theorem dL_land_589 : decode cL_land 589 = .ok (.aload_n 1, 1) := by decide +kernel
theorem dL_land_590 : decode cL_land 590 = .ok (.iconst 1, 1) := by decide +kernel
theorem dL_land_591 : decode cL_land 591 = .ok (.iload 8, 2) := by decide +kernel
theorem dL_land_593 : decode cL_land 593 = .ok (.iload 7, 2) := by decide +kernel
theorem dL_land_595 : decode cL_land 595 = .ok (.iload 9, 2) := by decide +kernel
theorem dL_land_597 : decode cL_land 597 = .ok (.iconst 0, 1) := by decide +kernel
theorem dL_land_598 : decode cL_land 598 = .ok (.invokestatic 120, 3) := by decide +kernel
theorem dL_land_601 : decode cL_land 601 = .ok (.iload 9, 2) := by decide +kernel
theorem dL_land_603 : decode cL_land 603 = .ok (.if_icmp .ne 7, 3) := by decide +kernel
theorem dL_land_606 : decode cL_land 606 = .ok (.iconst 1, 1) := by decide +kernel
theorem dL_land_607 : decode cL_land 607 = .ok (.goto 4, 3) := by decide +kernel
theorem dL_land_610 : decode cL_land 610 = .ok (.iconst 0, 1) := by decide +kernel
theorem dL_land_611 : decode cL_land 611 = .ok (.ireturn, 1) := by decide +kernel
theorem dL_runs_0 : decode cL_runs 0 = .ok (.aload_n 2, 1) := by decide +kernel
theorem dL_runs_1 : decode cL_runs 1 = .ok (.iconst 1, 1) := by decide +kernel
theorem dL_runs_2 : decode cL_runs 2 = .ok (.iaload, 1) := by decide +kernel
theorem dL_runs_3 : decode cL_runs 3 = .ok (.ifCond .ne 51, 3) := by decide +kernel
theorem dL_runs_6 : decode cL_runs 6 = .ok (.aload_n 0, 1) := by decide +kernel
theorem dL_runs_7 : decode cL_runs 7 = .ok (.iconst 3, 1) := by decide +kernel
theorem dL_runs_8 : decode cL_runs 8 = .ok (.iconst 0, 1) := by decide +kernel
theorem dL_runs_9 : decode cL_runs 9 = .ok (.iconst 0, 1) := by decide +kernel
theorem dL_runs_10 : decode cL_runs 10 = .ok (.iconst 0, 1) := by decide +kernel
theorem dL_runs_11 : decode cL_runs 11 = .ok (.iconst 0, 1) := by decide +kernel
theorem dL_runs_12 : decode cL_runs 12 = .ok (.invokestatic 113, 3) := by decide +kernel
theorem dL_runs_15 : decode cL_runs 15 = .ok (.ldc 17, 2) := by decide +kernel
theorem dL_runs_17 : decode cL_runs 17 = .ok (.if_icmp .ne 35, 3) := by decide +kernel
theorem dL_runs_20 : decode cL_runs 20 = .ok (.aload_n 0, 1) := by decide +kernel
theorem dL_runs_21 : decode cL_runs 21 = .ok (.iconst 4, 1) := by decide +kernel
theorem dL_runs_22 : decode cL_runs 22 = .ok (.iconst 0, 1) := by decide +kernel
theorem dL_runs_23 : decode cL_runs 23 = .ok (.iconst 0, 1) := by decide +kernel
theorem dL_runs_24 : decode cL_runs 24 = .ok (.iconst 0, 1) := by decide +kernel
theorem dL_runs_25 : decode cL_runs 25 = .ok (.iconst 0, 1) := by decide +kernel
theorem dL_runs_26 : decode cL_runs 26 = .ok (.invokestatic 113, 3) := by decide +kernel
theorem dL_runs_29 : decode cL_runs 29 = .ok (.ldc 17, 2) := by decide +kernel
theorem dL_runs_31 : decode cL_runs 31 = .ok (.if_icmp .ne 21, 3) := by decide +kernel
theorem dL_runs_34 : decode cL_runs 34 = .ok (.aload_n 0, 1) := by decide +kernel
theorem dL_runs_35 : decode cL_runs 35 = .ok (.iconst 5, 1) := by decide +kernel
theorem dL_runs_36 : decode cL_runs 36 = .ok (.iconst 0, 1) := by decide +kernel
theorem dL_runs_37 : decode cL_runs 37 = .ok (.iconst 0, 1) := by decide +kernel
theorem dL_runs_38 : decode cL_runs 38 = .ok (.iconst 0, 1) := by decide +kernel
theorem dL_runs_39 : decode cL_runs 39 = .ok (.iconst 0, 1) := by decide +kernel
theorem dL_runs_40 : decode cL_runs 40 = .ok (.invokestatic 113, 3) := by decide +kernel
theorem dL_runs_43 : decode cL_runs 43 = .ok (.ldc 17, 2) := by decide +kernel
theorem dL_runs_45 : decode cL_runs 45 = .ok (.if_icmp .ne 7, 3) := by decide +kernel
theorem dL_runs_48 : decode cL_runs 48 = .ok (.iconst 1, 1) := by decide +kernel
theorem dL_runs_49 : decode cL_runs 49 = .ok (.goto 4, 3) := by decide +kernel
theorem dL_runs_52 : decode cL_runs 52 = .ok (.iconst 0, 1) := by decide +kernel
theorem dL_runs_53 : decode cL_runs 53 = .ok (.ireturn, 1) := by decide +kernel
theorem dL_runs_54 : decode cL_runs 54 = .ok (.iload_n 3, 1) := by decide +kernel
theorem dL_runs_55 : decode cL_runs 55 = .ok (.bipush 8, 2) := by decide +kernel
theorem dL_runs_57 : decode cL_runs 57 = .ok (.invokestatic 117, 3) := by decide +kernel
theorem dL_runs_60 : decode cL_runs 60 = .ok (.istore 5, 2) := by decide +kernel
theorem dL_runs_62 : decode cL_runs 62 = .ok (.iload 4, 2) := by decide +kernel
theorem dL_runs_64 : decode cL_runs 64 = .ok (.aload_n 2, 1) := by decide +kernel
theorem dL_runs_65 : decode cL_runs 65 = .ok (.iconst 1, 1) := by decide +kernel
theorem dL_runs_66 : decode cL_runs 66 = .ok (.iaload, 1) := by decide +kernel
theorem dL_runs_67 : decode cL_runs 67 = .ok (.invokestatic 117, 3) := by decide +kernel
theorem dL_runs_70 : decode cL_runs 70 = .ok (.istore 6, 2) := by decide +kernel
theorem dL_runs_72 : decode cL_runs 72 = .ok (.iload 4, 2) := by decide +kernel
theorem dL_runs_74 : decode cL_runs 74 = .ok (.iconst 5, 1) := by decide +kernel
theorem dL_runs_75 : decode cL_runs 75 = .ok (.ishr, 1) := by decide +kernel
theorem dL_runs_76 : decode cL_runs 76 = .ok (.iconst 3, 1) := by decide +kernel
theorem dL_runs_77 : decode cL_runs 77 = .ok (.invokestatic 117, 3) := by decide +kernel
theorem dL_runs_80 : decode cL_runs 80 = .ok (.istore 7, 2) := by decide +kernel
theorem dL_runs_82 : decode cL_runs 82 = .ok (.iload 5, 2) := by decide +kernel
theorem dL_runs_84 : decode cL_runs 84 = .ok (.iconst 2, 1) := by decide +kernel
theorem dL_runs_85 : decode cL_runs 85 = .ok (.if_icmp .ge 72, 3) := by decide +kernel
theorem dL_runs_88 : decode cL_runs 88 = .ok (.iload 4, 2) := by decide +kernel
theorem dL_runs_90 : decode cL_runs 90 = .ok (.bipush 8, 2) := by decide +kernel
theorem dL_runs_92 : decode cL_runs 92 = .ok (.ishr, 1) := by decide +kernel
theorem dL_runs_93 : decode cL_runs 93 = .ok (.iconst 3, 1) := by decide +kernel
theorem dL_runs_94 : decode cL_runs 94 = .ok (.invokestatic 117, 3) := by decide +kernel
theorem dL_runs_97 : decode cL_runs 97 = .ok (.ifCond .le 7, 3) := by decide +kernel
theorem dL_runs_100 : decode cL_runs 100 = .ok (.iconst 1, 1) := by decide +kernel
theorem dL_runs_101 : decode cL_runs 101 = .ok (.goto 4, 3) := by decide +kernel
theorem dL_runs_104 : decode cL_runs 104 = .ok (.iconst 0, 1) := by decide +kernel
theorem dL_runs_105 : decode cL_runs 105 = .ok (.istore 8, 2) := by decide +kernel
theorem dL_runs_107 : decode cL_runs 107 = .ok (.aload_n 0, 1) := by decide +kernel
theorem dL_runs_108 : decode cL_runs 108 = .ok (.aload_n 1, 1) := by decide +kernel
theorem dL_runs_109 : decode cL_runs 109 = .ok (.iconst 3, 1) := by decide +kernel
theorem dL_runs_110 : decode cL_runs 110 = .ok (.iload 6, 2) := by decide +kernel
theorem dL_runs_112 : decode cL_runs 112 = .ok (.iload 7, 2) := by decide +kernel
theorem dL_runs_114 : decode cL_runs 114 = .ok (.iload 8, 2) := by decide +kernel
theorem dL_runs_116 : decode cL_runs 116 = .ok (.iconst 0, 1) := by decide +kernel
theorem dL_runs_117 : decode cL_runs 117 = .ok (.invokestatic 120, 3) := by decide +kernel
theorem dL_runs_120 : decode cL_runs 120 = .ok (.istore 9, 2) := by decide +kernel
theorem dL_runs_122 : decode cL_runs 122 = .ok (.iload 9, 2) := by decide +kernel
theorem dL_runs_124 : decode cL_runs 124 = .ok (.ifCond .eq 9, 3) := by decide +kernel
theorem dL_runs_127 : decode cL_runs 127 = .ok (.iload 9, 2) := by decide +kernel
theorem dL_runs_129 : decode cL_runs 129 = .ok (.iconst 1, 1) := by decide +kernel
theorem dL_runs_130 : decode cL_runs 130 = .ok (.if_icmp .ne 25, 3) := by decide +kernel
theorem dL_runs_133 : decode cL_runs 133 = .ok (.aload_n 0, 1) := by decide +kernel
theorem dL_runs_134 : decode cL_runs 134 = .ok (.aload_n 1, 1) := by decide +kernel
theorem dL_runs_135 : decode cL_runs 135 = .ok (.iconst 3, 1) := by decide +kernel
theorem dL_runs_136 : decode cL_runs 136 = .ok (.iload 6, 2) := by decide +kernel
theorem dL_runs_138 : decode cL_runs 138 = .ok (.iload 7, 2) := by decide +kernel
theorem dL_runs_140 : decode cL_runs 140 = .ok (.iload 8, 2) := by decide +kernel
theorem dL_runs_142 : decode cL_runs 142 = .ok (.iconst 0, 1) := by decide +kernel
theorem dL_runs_143 : decode cL_runs 143 = .ok (.invokestatic 120, 3) := by decide +kernel
theorem dL_runs_146 : decode cL_runs 146 = .ok (.iload 8, 2) := by decide +kernel
theorem dL_runs_148 : decode cL_runs 148 = .ok (.if_icmp .ne 7, 3) := by decide +kernel
theorem dL_runs_151 : decode cL_runs 151 = .ok (.iconst 1, 1) := by decide +kernel
theorem dL_runs_152 : decode cL_runs 152 = .ok (.goto 4, 3) := by decide +kernel
theorem dL_runs_155 : decode cL_runs 155 = .ok (.iconst 0, 1) := by decide +kernel
theorem dL_runs_156 : decode cL_runs 156 = .ok (.ireturn, 1) := by decide +kernel
theorem dL_runs_157 : decode cL_runs 157 = .ok (.iload 5, 2) := by decide +kernel
theorem dL_runs_159 : decode cL_runs 159 = .ok (.iconst 5, 1) := by decide +kernel
theorem dL_runs_160 : decode cL_runs 160 = .ok (.if_icmp .ge 86, 3) := by decide +kernel
theorem dL_runs_163 : decode cL_runs 163 = .ok (.iload 4, 2) := by decide +kernel
theorem dL_runs_165 : decode cL_runs 165 = .ok (.bipush 8, 2) := by decide +kernel
theorem dL_runs_167 : decode cL_runs 167 = .ok (.ishr, 1) := by decide +kernel
theorem dL_runs_168 : decode cL_runs 168 = .ok (.bipush 6, 2) := by decide +kernel
theorem dL_runs_170 : decode cL_runs 170 = .ok (.invokestatic 117, 3) := by decide +kernel
theorem dL_runs_173 : decode cL_runs 173 = .ok (.ifCond .ne 7, 3) := by decide +kernel
theorem dL_runs_176 : decode cL_runs 176 = .ok (.iconst (-1), 1) := by decide +kernel
theorem dL_runs_177 : decode cL_runs 177 = .ok (.goto 14, 3) := by decide +kernel
theorem dL_runs_180 : decode cL_runs 180 = .ok (.iload 4, 2) := by decide +kernel
theorem dL_runs_182 : decode cL_runs 182 = .ok (.bipush 9, 2) := by decide +kernel
theorem dL_runs_184 : decode cL_runs 184 = .ok (.ishr, 1) := by decide +kernel
theorem dL_runs_185 : decode cL_runs 185 = .ok (.sipush 130, 3) := by decide +kernel
theorem dL_runs_188 : decode cL_runs 188 = .ok (.invokestatic 117, 3) := by decide +kernel
theorem dL_runs_191 : decode cL_runs 191 = .ok (.istore 8, 2) := by decide +kernel
theorem dL_runs_193 : decode cL_runs 193 = .ok (.aload_n 0, 1) := by decide +kernel
theorem dL_runs_194 : decode cL_runs 194 = .ok (.aload_n 1, 1) := by decide +kernel
theorem dL_runs_195 : decode cL_runs 195 = .ok (.iconst 4, 1) := by decide +kernel
theorem dL_runs_196 : decode cL_runs 196 = .ok (.iload 6, 2) := by decide +kernel
theorem dL_runs_198 : decode cL_runs 198 = .ok (.iload 7, 2) := by decide +kernel
theorem dL_runs_200 : decode cL_runs 200 = .ok (.iload 8, 2) := by decide +kernel
theorem dL_runs_202 : decode cL_runs 202 = .ok (.iconst 0, 1) := by decide +kernel
theorem dL_runs_203 : decode cL_runs 203 = .ok (.invokestatic 120, 3) := by decide +kernel
theorem dL_runs_206 : decode cL_runs 206 = .ok (.istore 9, 2) := by decide +kernel
theorem dL_runs_208 : decode cL_runs 208 = .ok (.iload 9, 2) := by decide +kernel
theorem dL_runs_210 : decode cL_runs 210 = .ok (.iconst (-1), 1) := by decide +kernel
theorem dL_runs_211 : decode cL_runs 211 = .ok (.if_icmp .lt 33, 3) := by decide +kernel
theorem dL_runs_214 : decode cL_runs 214 = .ok (.iload 9, 2) := by decide +kernel
theorem dL_runs_216 : decode cL_runs 216 = .ok (.sipush 600, 3) := by decide +kernel
theorem dL_runs_219 : decode cL_runs 219 = .ok (.if_icmp .gt 25, 3) := by decide +kernel
theorem dL_runs_222 : decode cL_runs 222 = .ok (.aload_n 0, 1) := by decide +kernel
theorem dL_runs_223 : decode cL_runs 223 = .ok (.aload_n 1, 1) := by decide +kernel
theorem dL_runs_224 : decode cL_runs 224 = .ok (.iconst 4, 1) := by decide +kernel
theorem dL_runs_225 : decode cL_runs 225 = .ok (.iload 6, 2) := by decide +kernel
theorem dL_runs_227 : decode cL_runs 227 = .ok (.iload 7, 2) := by decide +kernel
theorem dL_runs_229 : decode cL_runs 229 = .ok (.iload 8, 2) := by decide +kernel
theorem dL_runs_231 : decode cL_runs 231 = .ok (.iconst 0, 1) := by decide +kernel
theorem dL_runs_232 : decode cL_runs 232 = .ok (.invokestatic 120, 3) := by decide +kernel
theorem dL_runs_235 : decode cL_runs 235 = .ok (.iload 8, 2) := by decide +kernel
theorem dL_runs_237 : decode cL_runs 237 = .ok (.if_icmp .ne 7, 3) := by decide +kernel
theorem dL_runs_240 : decode cL_runs 240 = .ok (.iconst 1, 1) := by decide +kernel
theorem dL_runs_241 : decode cL_runs 241 = .ok (.goto 4, 3) := by decide +kernel
theorem dL_runs_244 : decode cL_runs 244 = .ok (.iconst 0, 1) := by decide +kernel
theorem dL_runs_245 : decode cL_runs 245 = .ok (.ireturn, 1) := by decide +kernel
theorem dL_runs_246 : decode cL_runs 246 = .ok (.iload 5, 2) := by decide +kernel
theorem dL_runs_248 : decode cL_runs 248 = .ok (.bipush 7, 2) := by decide +kernel
theorem dL_runs_250 : decode cL_runs 250 = .ok (.if_icmp .ge 51, 3) := by decide +kernel
theorem dL_runs_253 : decode cL_runs 253 = .ok (.aload_n 0, 1) := by decide +kernel
theorem dL_runs_254 : decode cL_runs 254 = .ok (.aload_n 1, 1) := by decide +kernel
theorem dL_runs_255 : decode cL_runs 255 = .ok (.iconst 5, 1) := by decide +kernel
theorem dL_runs_256 : decode cL_runs 256 = .ok (.iload 6, 2) := by decide +kernel
theorem dL_runs_258 : decode cL_runs 258 = .ok (.iload 4, 2) := by decide +kernel
theorem dL_runs_260 : decode cL_runs 260 = .ok (.bipush 8, 2) := by decide +kernel
theorem dL_runs_262 : decode cL_runs 262 = .ok (.ishr, 1) := by decide +kernel
theorem dL_runs_263 : decode cL_runs 263 = .ok (.bipush 30, 2) := by decide +kernel
theorem dL_runs_265 : decode cL_runs 265 = .ok (.invokestatic 117, 3) := by decide +kernel
theorem dL_runs_268 : decode cL_runs 268 = .ok (.iconst 0, 1) := by decide +kernel
theorem dL_runs_269 : decode cL_runs 269 = .ok (.iconst 0, 1) := by decide +kernel
theorem dL_runs_270 : decode cL_runs 270 = .ok (.invokestatic 120, 3) := by decide +kernel
theorem dL_runs_273 : decode cL_runs 273 = .ok (.istore 8, 2) := by decide +kernel
theorem dL_runs_275 : decode cL_runs 275 = .ok (.iload 8, 2) := by decide +kernel
theorem dL_runs_277 : decode cL_runs 277 = .ok (.ldc 23, 2) := by decide +kernel
theorem dL_runs_279 : decode cL_runs 279 = .ok (.if_icmp .eq 16, 3) := by decide +kernel
theorem dL_runs_282 : decode cL_runs 282 = .ok (.iload 8, 2) := by decide +kernel
theorem dL_runs_284 : decode cL_runs 284 = .ok (.iconst 1, 1) := by decide +kernel
theorem dL_runs_285 : decode cL_runs 285 = .ok (.if_icmp .lt 14, 3) := by decide +kernel
theorem dL_runs_288 : decode cL_runs 288 = .ok (.iload 8, 2) := by decide +kernel
theorem dL_runs_290 : decode cL_runs 290 = .ok (.bipush 30, 2) := by decide +kernel
theorem dL_runs_292 : decode cL_runs 292 = .ok (.if_icmp .gt 7, 3) := by decide +kernel
theorem dL_runs_295 : decode cL_runs 295 = .ok (.iconst 1, 1) := by decide +kernel
theorem dL_runs_296 : decode cL_runs 296 = .ok (.goto 4, 3) := by decide +kernel
theorem dL_runs_299 : decode cL_runs 299 = .ok (.iconst 0, 1) := by decide +kernel
theorem dL_runs_300 : decode cL_runs 300 = .ok (.ireturn, 1) := by decide +kernel
theorem dL_runs_301 : decode cL_runs 301 = .ok (.aload_n 0, 1) := by decide +kernel
theorem dL_runs_302 : decode cL_runs 302 = .ok (.aload_n 1, 1) := by decide +kernel
theorem dL_runs_303 : decode cL_runs 303 = .ok (.bipush 6, 2) := by decide +kernel
theorem dL_runs_305 : decode cL_runs 305 = .ok (.iload 4, 2) := by decide +kernel
theorem dL_runs_307 : decode cL_runs 307 = .ok (.iconst 3, 1) := by decide +kernel
theorem dL_runs_308 : decode cL_runs 308 = .ok (.invokestatic 117, 3) := by decide +kernel
theorem dL_runs_311 : decode cL_runs 311 = .ok (.iload 4, 2) := by decide +kernel
theorem dL_runs_313 : decode cL_runs 313 = .ok (.iconst 3, 1) := by decide +kernel
theorem dL_runs_314 : decode cL_runs 314 = .ok (.ishr, 1) := by decide +kernel
theorem dL_runs_315 : decode cL_runs 315 = .ok (.sipush 1000, 3) := by decide +kernel
theorem dL_runs_318 : decode cL_runs 318 = .ok (.invokestatic 117, 3) := by decide +kernel
theorem dL_runs_321 : decode cL_runs 321 = .ok (.iload 4, 2) := by decide +kernel
theorem dL_runs_323 : decode cL_runs 323 = .ok (.iconst 5, 1) := by decide +kernel
theorem dL_runs_324 : decode cL_runs 324 = .ok (.ishr, 1) := by decide +kernel
theorem dL_runs_325 : decode cL_runs 325 = .ok (.bipush 100, 2) := by decide +kernel
theorem dL_runs_327 : decode cL_runs 327 = .ok (.invokestatic 117, 3) := by decide +kernel
theorem dL_runs_330 : decode cL_runs 330 = .ok (.iload 4, 2) := by decide +kernel
theorem dL_runs_332 : decode cL_runs 332 = .ok (.bipush 7, 2) := by decide +kernel
theorem dL_runs_334 : decode cL_runs 334 = .ok (.ishr, 1) := by decide +kernel
theorem dL_runs_335 : decode cL_runs 335 = .ok (.sipush 1000, 3) := by decide +kernel
theorem dL_runs_338 : decode cL_runs 338 = .ok (.invokestatic 117, 3) := by decide +kernel
theorem dL_runs_341 : decode cL_runs 341 = .ok (.invokestatic 120, 3) := by decide +kernel
theorem dL_runs_344 : decode cL_runs 344 = .ok (.ifCond .ne 7, 3) := by decide +kernel
theorem dL_runs_347 : decode cL_runs 347 = .ok (.iconst 1, 1) := by decide +kernel
theorem dL_runs_348 : decode cL_runs 348 = .ok (.goto 4, 3) := by decide +kernel
theorem dL_runs_351 : decode cL_runs 351 = .ok (.iconst 0, 1) := by decide +kernel
theorem dL_runs_352 : decode cL_runs 352 = .ok (.ireturn, 1) := by decide +kernel
theorem dL_ways_0 : decode cL_ways 0 = .ok (.aload_n 2, 1) := by decide +kernel
theorem dL_ways_1 : decode cL_ways 1 = .ok (.iconst 0, 1) := by decide +kernel
theorem dL_ways_2 : decode cL_ways 2 = .ok (.iaload, 1) := by decide +kernel
theorem dL_ways_3 : decode cL_ways 3 = .ok (.iconst 2, 1) := by decide +kernel
theorem dL_ways_4 : decode cL_ways 4 = .ok (.if_icmp .ge 24, 3) := by decide +kernel
theorem dL_ways_7 : decode cL_ways 7 = .ok (.aload_n 0, 1) := by decide +kernel
theorem dL_ways_8 : decode cL_ways 8 = .ok (.bipush 7, 2) := by decide +kernel
theorem dL_ways_10 : decode cL_ways 10 = .ok (.iconst 0, 1) := by decide +kernel
theorem dL_ways_11 : decode cL_ways 11 = .ok (.iconst 1, 1) := by decide +kernel
theorem dL_ways_12 : decode cL_ways 12 = .ok (.iconst 0, 1) := by decide +kernel
theorem dL_ways_13 : decode cL_ways 13 = .ok (.iconst 1, 1) := by decide +kernel
theorem dL_ways_14 : decode cL_ways 14 = .ok (.invokestatic 113, 3) := by decide +kernel
theorem dL_ways_17 : decode cL_ways 17 = .ok (.ldc 17, 2) := by decide +kernel
theorem dL_ways_19 : decode cL_ways 19 = .ok (.if_icmp .ne 7, 3) := by decide +kernel
theorem dL_ways_22 : decode cL_ways 22 = .ok (.iconst 1, 1) := by decide +kernel
theorem dL_ways_23 : decode cL_ways 23 = .ok (.goto 4, 3) := by decide +kernel
theorem dL_ways_26 : decode cL_ways 26 = .ok (.iconst 0, 1) := by decide +kernel
theorem dL_ways_27 : decode cL_ways 27 = .ok (.ireturn, 1) := by decide +kernel
theorem dL_ways_28 : decode cL_ways 28 = .ok (.iload 4, 2) := by decide +kernel
theorem dL_ways_30 : decode cL_ways 30 = .ok (.aload_n 2, 1) := by decide +kernel
theorem dL_ways_31 : decode cL_ways 31 = .ok (.iconst 0, 1) := by decide +kernel
theorem dL_ways_32 : decode cL_ways 32 = .ok (.iaload, 1) := by decide +kernel
theorem dL_ways_33 : decode cL_ways 33 = .ok (.invokestatic 117, 3) := by decide +kernel
theorem dL_ways_36 : decode cL_ways 36 = .ok (.istore 5, 2) := by decide +kernel
theorem dL_ways_38 : decode cL_ways 38 = .ok (.iload 5, 2) := by decide +kernel
theorem dL_ways_40 : decode cL_ways 40 = .ok (.iconst 1, 1) := by decide +kernel
theorem dL_ways_41 : decode cL_ways 41 = .ok (.iadd, 1) := by decide +kernel
theorem dL_ways_42 : decode cL_ways 42 = .ok (.iload 4, 2) := by decide +kernel
theorem dL_ways_44 : decode cL_ways 44 = .ok (.iconst 4, 1) := by decide +kernel
theorem dL_ways_45 : decode cL_ways 45 = .ok (.ishr, 1) := by decide +kernel
theorem dL_ways_46 : decode cL_ways 46 = .ok (.aload_n 2, 1) := by decide +kernel
theorem dL_ways_47 : decode cL_ways 47 = .ok (.iconst 0, 1) := by decide +kernel
theorem dL_ways_48 : decode cL_ways 48 = .ok (.iaload, 1) := by decide +kernel
theorem dL_ways_49 : decode cL_ways 49 = .ok (.iconst 1, 1) := by decide +kernel
theorem dL_ways_50 : decode cL_ways 50 = .ok (.isub, 1) := by decide +kernel
theorem dL_ways_51 : decode cL_ways 51 = .ok (.invokestatic 117, 3) := by decide +kernel
theorem dL_ways_54 : decode cL_ways 54 = .ok (.iadd, 1) := by decide +kernel
theorem dL_ways_55 : decode cL_ways 55 = .ok (.aload_n 2, 1) := by decide +kernel
theorem dL_ways_56 : decode cL_ways 56 = .ok (.iconst 0, 1) := by decide +kernel
theorem dL_ways_57 : decode cL_ways 57 = .ok (.iaload, 1) := by decide +kernel
theorem dL_ways_58 : decode cL_ways 58 = .ok (.irem, 1) := by decide +kernel
theorem dL_ways_59 : decode cL_ways 59 = .ok (.istore 6, 2) := by decide +kernel
theorem dL_ways_61 : decode cL_ways 61 = .ok (.iload 4, 2) := by decide +kernel
theorem dL_ways_63 : decode cL_ways 63 = .ok (.bipush 8, 2) := by decide +kernel
theorem dL_ways_65 : decode cL_ways 65 = .ok (.ishr, 1) := by decide +kernel
theorem dL_ways_66 : decode cL_ways 66 = .ok (.iconst 3, 1) := by decide +kernel
theorem dL_ways_67 : decode cL_ways 67 = .ok (.invokestatic 117, 3) := by decide +kernel
theorem dL_ways_70 : decode cL_ways 70 = .ok (.sipush 1440, 3) := by decide +kernel
theorem dL_ways_73 : decode cL_ways 73 = .ok (.imul, 1) := by decide +kernel
theorem dL_ways_74 : decode cL_ways 74 = .ok (.iload 4, 2) := by decide +kernel
theorem dL_ways_76 : decode cL_ways 76 = .ok (.bipush 10, 2) := by decide +kernel
theorem dL_ways_78 : decode cL_ways 78 = .ok (.ishr, 1) := by decide +kernel
theorem dL_ways_79 : decode cL_ways 79 = .ok (.sipush 1440, 3) := by decide +kernel
theorem dL_ways_82 : decode cL_ways 82 = .ok (.invokestatic 117, 3) := by decide +kernel
theorem dL_ways_85 : decode cL_ways 85 = .ok (.iadd, 1) := by decide +kernel
theorem dL_ways_86 : decode cL_ways 86 = .ok (.istore 7, 2) := by decide +kernel
theorem dL_ways_88 : decode cL_ways 88 = .ok (.iconst 1, 1) := by decide +kernel
theorem dL_ways_89 : decode cL_ways 89 = .ok (.iload_n 3, 1) := by decide +kernel
theorem dL_ways_90 : decode cL_ways 90 = .ok (.iconst 4, 1) := by decide +kernel
theorem dL_ways_91 : decode cL_ways 91 = .ok (.invokestatic 117, 3) := by decide +kernel
theorem dL_ways_94 : decode cL_ways 94 = .ok (.iadd, 1) := by decide +kernel
theorem dL_ways_95 : decode cL_ways 95 = .ok (.istore 8, 2) := by decide +kernel
theorem dL_ways_97 : decode cL_ways 97 = .ok (.aload_n 0, 1) := by decide +kernel
theorem dL_ways_98 : decode cL_ways 98 = .ok (.aload_n 1, 1) := by decide +kernel
theorem dL_ways_99 : decode cL_ways 99 = .ok (.bipush 7, 2) := by decide +kernel
theorem dL_ways_101 : decode cL_ways 101 = .ok (.iload 5, 2) := by decide +kernel
theorem dL_ways_103 : decode cL_ways 103 = .ok (.iload 6, 2) := by decide +kernel
theorem dL_ways_105 : decode cL_ways 105 = .ok (.iload 7, 2) := by decide +kernel
theorem dL_ways_107 : decode cL_ways 107 = .ok (.iload 8, 2) := by decide +kernel
theorem dL_ways_109 : decode cL_ways 109 = .ok (.invokestatic 120, 3) := by decide +kernel
theorem dL_ways_112 : decode cL_ways 112 = .ok (.istore 9, 2) := by decide +kernel
theorem dL_ways_114 : decode cL_ways 114 = .ok (.iload 9, 2) := by decide +kernel
theorem dL_ways_116 : decode cL_ways 116 = .ok (.iconst (-1), 1) := by decide +kernel
theorem dL_ways_117 : decode cL_ways 117 = .ok (.if_icmp .ne 88, 3) := by decide +kernel
theorem dL_ways_120 : decode cL_ways 120 = .ok (.aload_n 0, 1) := by decide +kernel
theorem dL_ways_121 : decode cL_ways 121 = .ok (.iload 5, 2) := by decide +kernel
theorem dL_ways_123 : decode cL_ways 123 = .ok (.iload 6, 2) := by decide +kernel
theorem dL_ways_125 : decode cL_ways 125 = .ok (.iload 7, 2) := by decide +kernel
theorem dL_ways_127 : decode cL_ways 127 = .ok (.iload 8, 2) := by decide +kernel
theorem dL_ways_129 : decode cL_ways 129 = .ok (.iconst 1, 1) := by decide +kernel
theorem dL_ways_130 : decode cL_ways 130 = .ok (.invokestatic 126, 3) := by decide +kernel
theorem dL_ways_133 : decode cL_ways 133 = .ok (.ldc2_w 129, 3) := by decide +kernel
theorem dL_ways_136 : decode cL_ways 136 = .ok (.dcmp .l, 1) := by decide +kernel
theorem dL_ways_137 : decode cL_ways 137 = .ok (.ifCond .ne 66, 3) := by decide +kernel
theorem dL_ways_140 : decode cL_ways 140 = .ok (.aload_n 0, 1) := by decide +kernel
theorem dL_ways_141 : decode cL_ways 141 = .ok (.iload 5, 2) := by decide +kernel
theorem dL_ways_143 : decode cL_ways 143 = .ok (.iload 6, 2) := by decide +kernel
theorem dL_ways_145 : decode cL_ways 145 = .ok (.iload 7, 2) := by decide +kernel
theorem dL_ways_147 : decode cL_ways 147 = .ok (.iload 8, 2) := by decide +kernel
theorem dL_ways_149 : decode cL_ways 149 = .ok (.iconst 0, 1) := by decide +kernel
theorem dL_ways_150 : decode cL_ways 150 = .ok (.iconst 0, 1) := by decide +kernel
theorem dL_ways_151 : decode cL_ways 151 = .ok (.invokestatic 108, 3) := by decide +kernel
theorem dL_ways_154 : decode cL_ways 154 = .ok (.iconst (-1), 1) := by decide +kernel
theorem dL_ways_155 : decode cL_ways 155 = .ok (.if_icmp .ne 48, 3) := by decide +kernel
theorem dL_ways_158 : decode cL_ways 158 = .ok (.aload_n 0, 1) := by decide +kernel
theorem dL_ways_159 : decode cL_ways 159 = .ok (.bipush 11, 2) := by decide +kernel
theorem dL_ways_161 : decode cL_ways 161 = .ok (.iload 5, 2) := by decide +kernel
theorem dL_ways_163 : decode cL_ways 163 = .ok (.iload 6, 2) := by decide +kernel
theorem dL_ways_165 : decode cL_ways 165 = .ok (.iload 7, 2) := by decide +kernel
theorem dL_ways_167 : decode cL_ways 167 = .ok (.iload 8, 2) := by decide +kernel
theorem dL_ways_169 : decode cL_ways 169 = .ok (.invokestatic 113, 3) := by decide +kernel
theorem dL_ways_172 : decode cL_ways 172 = .ok (.ldc 23, 2) := by decide +kernel
theorem dL_ways_174 : decode cL_ways 174 = .ok (.if_icmp .ne 29, 3) := by decide +kernel
theorem dL_ways_177 : decode cL_ways 177 = .ok (.aload_n 0, 1) := by decide +kernel
theorem dL_ways_178 : decode cL_ways 178 = .ok (.aload_n 1, 1) := by decide +kernel
theorem dL_ways_179 : decode cL_ways 179 = .ok (.bipush 9, 2) := by decide +kernel
theorem dL_ways_181 : decode cL_ways 181 = .ok (.iload 5, 2) := by decide +kernel
theorem dL_ways_183 : decode cL_ways 183 = .ok (.iload 6, 2) := by decide +kernel
theorem dL_ways_185 : decode cL_ways 185 = .ok (.iload 7, 2) := by decide +kernel
theorem dL_ways_187 : decode cL_ways 187 = .ok (.iconst 0, 1) := by decide +kernel
theorem dL_ways_188 : decode cL_ways 188 = .ok (.invokestatic 120, 3) := by decide +kernel
theorem dL_ways_191 : decode cL_ways 191 = .ok (.iload 8, 2) := by decide +kernel
theorem dL_ways_193 : decode cL_ways 193 = .ok (.ishr, 1) := by decide +kernel
theorem dL_ways_194 : decode cL_ways 194 = .ok (.iconst 1, 1) := by decide +kernel
theorem dL_ways_195 : decode cL_ways 195 = .ok (.iand, 1) := by decide +kernel
theorem dL_ways_196 : decode cL_ways 196 = .ok (.ifCond .ne 7, 3) := by decide +kernel
theorem dL_ways_199 : decode cL_ways 199 = .ok (.iconst 1, 1) := by decide +kernel
theorem dL_ways_200 : decode cL_ways 200 = .ok (.goto 4, 3) := by decide +kernel
theorem dL_ways_203 : decode cL_ways 203 = .ok (.iconst 0, 1) := by decide +kernel
theorem dL_ways_204 : decode cL_ways 204 = .ok (.ireturn, 1) := by decide +kernel
theorem dL_ways_205 : decode cL_ways 205 = .ok (.aload_n 0, 1) := by decide +kernel
theorem dL_ways_206 : decode cL_ways 206 = .ok (.iload 5, 2) := by decide +kernel
theorem dL_ways_208 : decode cL_ways 208 = .ok (.iload 6, 2) := by decide +kernel
theorem dL_ways_210 : decode cL_ways 210 = .ok (.iload 7, 2) := by decide +kernel
theorem dL_ways_212 : decode cL_ways 212 = .ok (.iload 8, 2) := by decide +kernel
theorem dL_ways_214 : decode cL_ways 214 = .ok (.iconst 0, 1) := by decide +kernel
theorem dL_ways_215 : decode cL_ways 215 = .ok (.invokestatic 126, 3) := by decide +kernel
theorem dL_ways_218 : decode cL_ways 218 = .ok (.dstore 10, 2) := by decide +kernel
theorem dL_ways_220 : decode cL_ways 220 = .ok (.iload 9, 2) := by decide +kernel
theorem dL_ways_222 : decode cL_ways 222 = .ok (.iload 7, 2) := by decide +kernel
theorem dL_ways_224 : decode cL_ways 224 = .ok (.if_icmp .le 120, 3) := by decide +kernel
theorem dL_ways_227 : decode cL_ways 227 = .ok (.dload 10, 2) := by decide +kernel
theorem dL_ways_229 : decode cL_ways 229 = .ok (.dconst 0, 1) := by decide +kernel
theorem dL_ways_230 : decode cL_ways 230 = .ok (.dcmp .l, 1) := by decide +kernel
theorem dL_ways_231 : decode cL_ways 231 = .ok (.ifCond .lt 113, 3) := by decide +kernel
theorem dL_ways_234 : decode cL_ways 234 = .ok (.dload 10, 2) := by decide +kernel
theorem dL_ways_236 : decode cL_ways 236 = .ok (.dconst 1, 1) := by decide +kernel
theorem dL_ways_237 : decode cL_ways 237 = .ok (.dcmp .g, 1) := by decide +kernel
theorem dL_ways_238 : decode cL_ways 238 = .ok (.ifCond .gt 106, 3) := by decide +kernel
theorem dL_ways_241 : decode cL_ways 241 = .ok (.iload 8, 2) := by decide +kernel
theorem dL_ways_243 : decode cL_ways 243 = .ok (.iconst 1, 1) := by decide +kernel
theorem dL_ways_244 : decode cL_ways 244 = .ok (.if_icmp .gt 10, 3) := by decide +kernel
theorem dL_ways_247 : decode cL_ways 247 = .ok (.dload 10, 2) := by decide +kernel
theorem dL_ways_249 : decode cL_ways 249 = .ok (.dconst 1, 1) := by decide +kernel
theorem dL_ways_250 : decode cL_ways 250 = .ok (.dcmp .l, 1) := by decide +kernel
theorem dL_ways_251 : decode cL_ways 251 = .ok (.ifCond .ne 93, 3) := by decide +kernel
theorem dL_ways_254 : decode cL_ways 254 = .ok (.aload_n 0, 1) := by decide +kernel
theorem dL_ways_255 : decode cL_ways 255 = .ok (.iload 5, 2) := by decide +kernel
theorem dL_ways_257 : decode cL_ways 257 = .ok (.iload 6, 2) := by decide +kernel
theorem dL_ways_259 : decode cL_ways 259 = .ok (.iload 7, 2) := by decide +kernel
theorem dL_ways_261 : decode cL_ways 261 = .ok (.iload 8, 2) := by decide +kernel
theorem dL_ways_263 : decode cL_ways 263 = .ok (.iconst 0, 1) := by decide +kernel
theorem dL_ways_264 : decode cL_ways 264 = .ok (.invokestatic 126, 3) := by decide +kernel
theorem dL_ways_267 : decode cL_ways 267 = .ok (.aload_n 1, 1) := by decide +kernel
theorem dL_ways_268 : decode cL_ways 268 = .ok (.iload 5, 2) := by decide +kernel
theorem dL_ways_270 : decode cL_ways 270 = .ok (.iload 6, 2) := by decide +kernel
theorem dL_ways_272 : decode cL_ways 272 = .ok (.iload 7, 2) := by decide +kernel
theorem dL_ways_274 : decode cL_ways 274 = .ok (.iload 8, 2) := by decide +kernel
theorem dL_ways_276 : decode cL_ways 276 = .ok (.iconst 0, 1) := by decide +kernel
theorem dL_ways_277 : decode cL_ways 277 = .ok (.invokestatic 126, 3) := by decide +kernel
theorem dL_ways_280 : decode cL_ways 280 = .ok (.dcmp .l, 1) := by decide +kernel
theorem dL_ways_281 : decode cL_ways 281 = .ok (.ifCond .ne 63, 3) := by decide +kernel
theorem dL_ways_284 : decode cL_ways 284 = .ok (.aload_n 0, 1) := by decide +kernel
theorem dL_ways_285 : decode cL_ways 285 = .ok (.iload 5, 2) := by decide +kernel
theorem dL_ways_287 : decode cL_ways 287 = .ok (.iload 6, 2) := by decide +kernel
theorem dL_ways_289 : decode cL_ways 289 = .ok (.iload 7, 2) := by decide +kernel
theorem dL_ways_291 : decode cL_ways 291 = .ok (.iload 8, 2) := by decide +kernel
theorem dL_ways_293 : decode cL_ways 293 = .ok (.iconst 2, 1) := by decide +kernel
theorem dL_ways_294 : decode cL_ways 294 = .ok (.invokestatic 126, 3) := by decide +kernel
theorem dL_ways_297 : decode cL_ways 297 = .ok (.aload_n 1, 1) := by decide +kernel
theorem dL_ways_298 : decode cL_ways 298 = .ok (.iload 5, 2) := by decide +kernel
theorem dL_ways_300 : decode cL_ways 300 = .ok (.iload 6, 2) := by decide +kernel
theorem dL_ways_302 : decode cL_ways 302 = .ok (.iload 7, 2) := by decide +kernel
theorem dL_ways_304 : decode cL_ways 304 = .ok (.iload 8, 2) := by decide +kernel
theorem dL_ways_306 : decode cL_ways 306 = .ok (.iconst 2, 1) := by decide +kernel
theorem dL_ways_307 : decode cL_ways 307 = .ok (.invokestatic 126, 3) := by decide +kernel
theorem dL_ways_310 : decode cL_ways 310 = .ok (.dcmp .l, 1) := by decide +kernel
theorem dL_ways_311 : decode cL_ways 311 = .ok (.ifCond .ne 33, 3) := by decide +kernel
theorem dL_ways_314 : decode cL_ways 314 = .ok (.iload 8, 2) := by decide +kernel
theorem dL_ways_316 : decode cL_ways 316 = .ok (.iconst 2, 1) := by decide +kernel
theorem dL_ways_317 : decode cL_ways 317 = .ok (.if_icmp .gt 23, 3) := by decide +kernel
theorem dL_ways_320 : decode cL_ways 320 = .ok (.aload_n 0, 1) := by decide +kernel
theorem dL_ways_321 : decode cL_ways 321 = .ok (.aload_n 1, 1) := by decide +kernel
theorem dL_ways_322 : decode cL_ways 322 = .ok (.bipush 8, 2) := by decide +kernel
theorem dL_ways_324 : decode cL_ways 324 = .ok (.iload 5, 2) := by decide +kernel
theorem dL_ways_326 : decode cL_ways 326 = .ok (.iload 6, 2) := by decide +kernel
theorem dL_ways_328 : decode cL_ways 328 = .ok (.iload 7, 2) := by decide +kernel
theorem dL_ways_330 : decode cL_ways 330 = .ok (.iload 8, 2) := by decide +kernel
theorem dL_ways_332 : decode cL_ways 332 = .ok (.invokestatic 120, 3) := by decide +kernel
theorem dL_ways_335 : decode cL_ways 335 = .ok (.iload 9, 2) := by decide +kernel
theorem dL_ways_337 : decode cL_ways 337 = .ok (.if_icmp .ne 7, 3) := by decide +kernel
theorem dL_ways_340 : decode cL_ways 340 = .ok (.iconst 1, 1) := by decide +kernel
theorem dL_ways_341 : decode cL_ways 341 = .ok (.goto 4, 3) := by decide +kernel
theorem dL_ways_344 : decode cL_ways 344 = .ok (.iconst 0, 1) := by decide +kernel
theorem dL_ways_345 : decode cL_ways 345 = .ok (.istore 12, 2) := by decide +kernel
theorem dL_ways_347 : decode cL_ways 347 = .ok (.iconst 0, 1) := by decide +kernel
theorem dL_ways_348 : decode cL_ways 348 = .ok (.istore 13, 2) := by decide +kernel
theorem dL_ways_350 : decode cL_ways 350 = .ok (.iload 13, 2) := by decide +kernel
theorem dL_ways_352 : decode cL_ways 352 = .ok (.iload 8, 2) := by decide +kernel
theorem dL_ways_354 : decode cL_ways 354 = .ok (.if_icmp .ge 203, 3) := by decide +kernel
theorem dL_ways_357 : decode cL_ways 357 = .ok (.iload 12, 2) := by decide +kernel
theorem dL_ways_359 : decode cL_ways 359 = .ok (.ifCond .eq 198, 3) := by decide +kernel
theorem dL_ways_362 : decode cL_ways 362 = .ok (.iconst 0, 1) := by decide +kernel
theorem dL_ways_363 : decode cL_ways 363 = .ok (.istore 14, 2) := by decide +kernel
theorem dL_ways_365 : decode cL_ways 365 = .ok (.iload 14, 2) := by decide +kernel
theorem dL_ways_367 : decode cL_ways 367 = .ok (.bipush 6, 2) := by decide +kernel
theorem dL_ways_369 : decode cL_ways 369 = .ok (.if_icmp .ge 56, 3) := by decide +kernel
theorem dL_ways_372 : decode cL_ways 372 = .ok (.iload 12, 2) := by decide +kernel
theorem dL_ways_374 : decode cL_ways 374 = .ok (.ifCond .eq 51, 3) := by decide +kernel
theorem dL_ways_377 : decode cL_ways 377 = .ok (.aload_n 0, 1) := by decide +kernel
theorem dL_ways_378 : decode cL_ways 378 = .ok (.iload 5, 2) := by decide +kernel
theorem dL_ways_380 : decode cL_ways 380 = .ok (.iload 6, 2) := by decide +kernel
theorem dL_ways_382 : decode cL_ways 382 = .ok (.iload 7, 2) := by decide +kernel
theorem dL_ways_384 : decode cL_ways 384 = .ok (.iload 8, 2) := by decide +kernel
theorem dL_ways_386 : decode cL_ways 386 = .ok (.iload 13, 2) := by decide +kernel
theorem dL_ways_388 : decode cL_ways 388 = .ok (.iload 14, 2) := by decide +kernel
theorem dL_ways_390 : decode cL_ways 390 = .ok (.invokestatic 108, 3) := by decide +kernel
theorem dL_ways_393 : decode cL_ways 393 = .ok (.aload_n 1, 1) := by decide +kernel
theorem dL_ways_394 : decode cL_ways 394 = .ok (.iload 5, 2) := by decide +kernel
theorem dL_ways_396 : decode cL_ways 396 = .ok (.iload 6, 2) := by decide +kernel
theorem dL_ways_398 : decode cL_ways 398 = .ok (.iload 7, 2) := by decide +kernel
theorem dL_ways_400 : decode cL_ways 400 = .ok (.iload 8, 2) := by decide +kernel
theorem dL_ways_402 : decode cL_ways 402 = .ok (.iload 13, 2) := by decide +kernel
theorem dL_ways_404 : decode cL_ways 404 = .ok (.iload 14, 2) := by decide +kernel
theorem dL_ways_406 : decode cL_ways 406 = .ok (.invokestatic 108, 3) := by decide +kernel
theorem dL_ways_409 : decode cL_ways 409 = .ok (.if_icmp .ne 7, 3) := by decide +kernel
theorem dL_ways_412 : decode cL_ways 412 = .ok (.iconst 1, 1) := by decide +kernel
theorem dL_ways_413 : decode cL_ways 413 = .ok (.goto 4, 3) := by decide +kernel
theorem dL_ways_416 : decode cL_ways 416 = .ok (.iconst 0, 1) := by decide +kernel
theorem dL_ways_417 : decode cL_ways 417 = .ok (.istore 12, 2) := by decide +kernel
theorem dL_ways_419 : decode cL_ways 419 = .ok (.iinc 14 1, 3) := by decide +kernel
theorem dL_ways_422 : decode cL_ways 422 = .ok (.goto (-57), 3) := by decide +kernel
theorem dL_ways_425 : decode cL_ways 425 = .ok (.aload_n 0, 1) := by decide +kernel
theorem dL_ways_426 : decode cL_ways 426 = .ok (.iload 5, 2) := by decide +kernel
theorem dL_ways_428 : decode cL_ways 428 = .ok (.iload 6, 2) := by decide +kernel
theorem dL_ways_430 : decode cL_ways 430 = .ok (.iload 7, 2) := by decide +kernel
theorem dL_ways_432 : decode cL_ways 432 = .ok (.iload 8, 2) := by decide +kernel
theorem dL_ways_434 : decode cL_ways 434 = .ok (.iload 13, 2) := by decide +kernel
theorem dL_ways_436 : decode cL_ways 436 = .ok (.iconst 3, 1) := by decide +kernel
theorem dL_ways_437 : decode cL_ways 437 = .ok (.invokestatic 108, 3) := by decide +kernel
theorem dL_ways_440 : decode cL_ways 440 = .ok (.istore 14, 2) := by decide +kernel
theorem dL_ways_442 : decode cL_ways 442 = .ok (.iload 12, 2) := by decide +kernel
theorem dL_ways_444 : decode cL_ways 444 = .ok (.ifCond .eq 104, 3) := by decide +kernel
theorem dL_ways_447 : decode cL_ways 447 = .ok (.iload 13, 2) := by decide +kernel
theorem dL_ways_449 : decode cL_ways 449 = .ok (.ifCond .eq 38, 3) := by decide +kernel
theorem dL_ways_452 : decode cL_ways 452 = .ok (.aload_n 0, 1) := by decide +kernel
theorem dL_ways_453 : decode cL_ways 453 = .ok (.iload 5, 2) := by decide +kernel
theorem dL_ways_455 : decode cL_ways 455 = .ok (.iload 6, 2) := by decide +kernel
theorem dL_ways_457 : decode cL_ways 457 = .ok (.iload 7, 2) := by decide +kernel
theorem dL_ways_459 : decode cL_ways 459 = .ok (.iload 8, 2) := by decide +kernel
theorem dL_ways_461 : decode cL_ways 461 = .ok (.iload 13, 2) := by decide +kernel
theorem dL_ways_463 : decode cL_ways 463 = .ok (.iconst 4, 1) := by decide +kernel
theorem dL_ways_464 : decode cL_ways 464 = .ok (.invokestatic 108, 3) := by decide +kernel
theorem dL_ways_467 : decode cL_ways 467 = .ok (.aload_n 0, 1) := by decide +kernel
theorem dL_ways_468 : decode cL_ways 468 = .ok (.iload 5, 2) := by decide +kernel
theorem dL_ways_470 : decode cL_ways 470 = .ok (.iload 6, 2) := by decide +kernel
theorem dL_ways_472 : decode cL_ways 472 = .ok (.iload 7, 2) := by decide +kernel
theorem dL_ways_474 : decode cL_ways 474 = .ok (.iload 8, 2) := by decide +kernel
theorem dL_ways_476 : decode cL_ways 476 = .ok (.iload 13, 2) := by decide +kernel
theorem dL_ways_478 : decode cL_ways 478 = .ok (.iconst 1, 1) := by decide +kernel
theorem dL_ways_479 : decode cL_ways 479 = .ok (.isub, 1) := by decide +kernel
theorem dL_ways_480 : decode cL_ways 480 = .ok (.iconst 5, 1) := by decide +kernel
theorem dL_ways_481 : decode cL_ways 481 = .ok (.invokestatic 108, 3) := by decide +kernel
theorem dL_ways_484 : decode cL_ways 484 = .ok (.if_icmp .lt 64, 3) := by decide +kernel
theorem dL_ways_487 : decode cL_ways 487 = .ok (.aload_n 0, 1) := by decide +kernel
theorem dL_ways_488 : decode cL_ways 488 = .ok (.iload 5, 2) := by decide +kernel
theorem dL_ways_490 : decode cL_ways 490 = .ok (.iload 6, 2) := by decide +kernel
theorem dL_ways_492 : decode cL_ways 492 = .ok (.iload 7, 2) := by decide +kernel
theorem dL_ways_494 : decode cL_ways 494 = .ok (.iload 8, 2) := by decide +kernel
theorem dL_ways_496 : decode cL_ways 496 = .ok (.iload 13, 2) := by decide +kernel
theorem dL_ways_498 : decode cL_ways 498 = .ok (.iconst 0, 1) := by decide +kernel
theorem dL_ways_499 : decode cL_ways 499 = .ok (.invokestatic 108, 3) := by decide +kernel
theorem dL_ways_502 : decode cL_ways 502 = .ok (.aload_n 2, 1) := by decide +kernel
theorem dL_ways_503 : decode cL_ways 503 = .ok (.iconst 1, 1) := by decide +kernel
theorem dL_ways_504 : decode cL_ways 504 = .ok (.iaload, 1) := by decide +kernel
theorem dL_ways_505 : decode cL_ways 505 = .ok (.if_icmp .ge 43, 3) := by decide +kernel
theorem dL_ways_508 : decode cL_ways 508 = .ok (.iload 13, 2) := by decide +kernel
theorem dL_ways_510 : decode cL_ways 510 = .ok (.iload 8, 2) := by decide +kernel
theorem dL_ways_512 : decode cL_ways 512 = .ok (.iconst 1, 1) := by decide +kernel
theorem dL_ways_513 : decode cL_ways 513 = .ok (.isub, 1) := by decide +kernel
theorem dL_ways_514 : decode cL_ways 514 = .ok (.if_icmp .lt 30, 3) := by decide +kernel
theorem dL_ways_517 : decode cL_ways 517 = .ok (.iload 9, 2) := by decide +kernel
theorem dL_ways_519 : decode cL_ways 519 = .ok (.aload_n 0, 1) := by decide +kernel
theorem dL_ways_520 : decode cL_ways 520 = .ok (.iload 5, 2) := by decide +kernel
theorem dL_ways_522 : decode cL_ways 522 = .ok (.iload 6, 2) := by decide +kernel
theorem dL_ways_524 : decode cL_ways 524 = .ok (.iload 7, 2) := by decide +kernel
theorem dL_ways_526 : decode cL_ways 526 = .ok (.iload 8, 2) := by decide +kernel
theorem dL_ways_528 : decode cL_ways 528 = .ok (.iload 13, 2) := by decide +kernel
theorem dL_ways_530 : decode cL_ways 530 = .ok (.iconst 5, 1) := by decide +kernel
theorem dL_ways_531 : decode cL_ways 531 = .ok (.invokestatic 108, 3) := by decide +kernel
theorem dL_ways_534 : decode cL_ways 534 = .ok (.if_icmp .eq 10, 3) := by decide +kernel
theorem dL_ways_537 : decode cL_ways 537 = .ok (.iload 14, 2) := by decide +kernel
theorem dL_ways_539 : decode cL_ways 539 = .ok (.iload 6, 2) := by decide +kernel
theorem dL_ways_541 : decode cL_ways 541 = .ok (.if_icmp .eq 7, 3) := by decide +kernel
theorem dL_ways_544 : decode cL_ways 544 = .ok (.iconst 1, 1) := by decide +kernel
theorem dL_ways_545 : decode cL_ways 545 = .ok (.goto 4, 3) := by decide +kernel
theorem dL_ways_548 : decode cL_ways 548 = .ok (.iconst 0, 1) := by decide +kernel
theorem dL_ways_549 : decode cL_ways 549 = .ok (.istore 12, 2) := by decide +kernel
theorem dL_ways_551 : decode cL_ways 551 = .ok (.iinc 13 1, 3) := by decide +kernel
theorem dL_ways_554 : decode cL_ways 554 = .ok (.goto (-204), 3) := by decide +kernel
theorem dL_ways_557 : decode cL_ways 557 = .ok (.aload_n 0, 1) := by decide +kernel
theorem dL_ways_558 : decode cL_ways 558 = .ok (.iload 5, 2) := by decide +kernel
theorem dL_ways_560 : decode cL_ways 560 = .ok (.iload 6, 2) := by decide +kernel
theorem dL_ways_562 : decode cL_ways 562 = .ok (.iload 7, 2) := by decide +kernel
theorem dL_ways_564 : decode cL_ways 564 = .ok (.iconst 1, 1) := by decide +kernel
theorem dL_ways_565 : decode cL_ways 565 = .ok (.iadd, 1) := by decide +kernel
theorem dL_ways_566 : decode cL_ways 566 = .ok (.iload 8, 2) := by decide +kernel
theorem dL_ways_568 : decode cL_ways 568 = .ok (.invokevirtual 53, 3) := by decide +kernel
theorem dL_ways_571 : decode cL_ways 571 = .ok (.istore 13, 2) := by decide +kernel
theorem dL_ways_573 : decode cL_ways 573 = .ok (.iload 7, 2) := by decide +kernel
theorem dL_ways_575 : decode cL_ways 575 = .ok (.iconst 1, 1) := by decide +kernel
theorem dL_ways_576 : decode cL_ways 576 = .ok (.iadd, 1) := by decide +kernel
theorem dL_ways_577 : decode cL_ways 577 = .ok (.sipush 1440, 3) := by decide +kernel
theorem dL_ways_580 : decode cL_ways 580 = .ok (.irem, 1) := by decide +kernel
theorem dL_ways_581 : decode cL_ways 581 = .ok (.ifCond .ne 7, 3) := by decide +kernel
theorem dL_ways_584 : decode cL_ways 584 = .ok (.iconst 1, 1) := by decide +kernel
theorem dL_ways_585 : decode cL_ways 585 = .ok (.goto 4, 3) := by decide +kernel
theorem dL_ways_588 : decode cL_ways 588 = .ok (.iconst 0, 1) := by decide +kernel
theorem dL_ways_589 : decode cL_ways 589 = .ok (.istore 14, 2) := by decide +kernel
theorem dL_ways_591 : decode cL_ways 591 = .ok (.iload 12, 2) := by decide +kernel
theorem dL_ways_593 : decode cL_ways 593 = .ok (.ifCond .eq 25, 3) := by decide +kernel
theorem dL_ways_596 : decode cL_ways 596 = .ok (.iload 14, 2) := by decide +kernel
theorem dL_ways_598 : decode cL_ways 598 = .ok (.ifCond .ne 16, 3) := by decide +kernel
theorem dL_ways_601 : decode cL_ways 601 = .ok (.iload 13, 2) := by decide +kernel
theorem dL_ways_603 : decode cL_ways 603 = .ok (.iconst (-1), 1) := by decide +kernel
theorem dL_ways_604 : decode cL_ways 604 = .ok (.if_icmp .eq 10, 3) := by decide +kernel
theorem dL_ways_607 : decode cL_ways 607 = .ok (.iload 13, 2) := by decide +kernel
theorem dL_ways_609 : decode cL_ways 609 = .ok (.iload 9, 2) := by decide +kernel
theorem dL_ways_611 : decode cL_ways 611 = .ok (.if_icmp .lt 7, 3) := by decide +kernel
theorem dL_ways_614 : decode cL_ways 614 = .ok (.iconst 1, 1) := by decide +kernel
theorem dL_ways_615 : decode cL_ways 615 = .ok (.goto 4, 3) := by decide +kernel
theorem dL_ways_618 : decode cL_ways 618 = .ok (.iconst 0, 1) := by decide +kernel
theorem dL_ways_619 : decode cL_ways 619 = .ok (.istore 12, 2) := by decide +kernel
theorem dL_ways_621 : decode cL_ways 621 = .ok (.aload_n 0, 1) := by decide +kernel
theorem dL_ways_622 : decode cL_ways 622 = .ok (.aload_n 1, 1) := by decide +kernel
theorem dL_ways_623 : decode cL_ways 623 = .ok (.bipush 10, 2) := by decide +kernel
theorem dL_ways_625 : decode cL_ways 625 = .ok (.iload 5, 2) := by decide +kernel
theorem dL_ways_627 : decode cL_ways 627 = .ok (.iload 6, 2) := by decide +kernel
theorem dL_ways_629 : decode cL_ways 629 = .ok (.iload 7, 2) := by decide +kernel
theorem dL_ways_631 : decode cL_ways 631 = .ok (.iconst 0, 1) := by decide +kernel
theorem dL_ways_632 : decode cL_ways 632 = .ok (.invokestatic 120, 3) := by decide +kernel
theorem dL_ways_635 : decode cL_ways 635 = .ok (.istore 15, 2) := by decide +kernel
theorem dL_ways_637 : decode cL_ways 637 = .ok (.iload 12, 2) := by decide +kernel
theorem dL_ways_639 : decode cL_ways 639 = .ok (.ifCond .eq 69, 3) := by decide +kernel
theorem dL_ways_642 : decode cL_ways 642 = .ok (.iload 15, 2) := by decide +kernel
theorem dL_ways_644 : decode cL_ways 644 = .ok (.iconst 1, 1) := by decide +kernel
theorem dL_ways_645 : decode cL_ways 645 = .ok (.if_icmp .lt 63, 3) := by decide +kernel
theorem dL_ways_648 : decode cL_ways 648 = .ok (.iload 15, 2) := by decide +kernel
theorem dL_ways_650 : decode cL_ways 650 = .ok (.iconst 4, 1) := by decide +kernel
theorem dL_ways_651 : decode cL_ways 651 = .ok (.if_icmp .gt 57, 3) := by decide +kernel
theorem dL_ways_654 : decode cL_ways 654 = .ok (.aload_n 0, 1) := by decide +kernel
theorem dL_ways_655 : decode cL_ways 655 = .ok (.iload 5, 2) := by decide +kernel
theorem dL_ways_657 : decode cL_ways 657 = .ok (.iload 6, 2) := by decide +kernel
theorem dL_ways_659 : decode cL_ways 659 = .ok (.iload 7, 2) := by decide +kernel
theorem dL_ways_661 : decode cL_ways 661 = .ok (.iload 15, 2) := by decide +kernel
theorem dL_ways_663 : decode cL_ways 663 = .ok (.iconst 2, 1) := by decide +kernel
theorem dL_ways_664 : decode cL_ways 664 = .ok (.invokestatic 126, 3) := by decide +kernel
theorem dL_ways_667 : decode cL_ways 667 = .ok (.aload_n 0, 1) := by decide +kernel
theorem dL_ways_668 : decode cL_ways 668 = .ok (.iload 5, 2) := by decide +kernel
theorem dL_ways_670 : decode cL_ways 670 = .ok (.iload 6, 2) := by decide +kernel
theorem dL_ways_672 : decode cL_ways 672 = .ok (.iload 7, 2) := by decide +kernel
theorem dL_ways_674 : decode cL_ways 674 = .ok (.iload 8, 2) := by decide +kernel
theorem dL_ways_676 : decode cL_ways 676 = .ok (.iconst 2, 1) := by decide +kernel
theorem dL_ways_677 : decode cL_ways 677 = .ok (.invokestatic 126, 3) := by decide +kernel
theorem dL_ways_680 : decode cL_ways 680 = .ok (.dcmp .g, 1) := by decide +kernel
theorem dL_ways_681 : decode cL_ways 681 = .ok (.ifCond .gt 27, 3) := by decide +kernel
theorem dL_ways_684 : decode cL_ways 684 = .ok (.aload_n 0, 1) := by decide +kernel
theorem dL_ways_685 : decode cL_ways 685 = .ok (.aload_n 1, 1) := by decide +kernel
theorem dL_ways_686 : decode cL_ways 686 = .ok (.bipush 9, 2) := by decide +kernel
theorem dL_ways_688 : decode cL_ways 688 = .ok (.iload 5, 2) := by decide +kernel
theorem dL_ways_690 : decode cL_ways 690 = .ok (.iload 6, 2) := by decide +kernel
theorem dL_ways_692 : decode cL_ways 692 = .ok (.iload 7, 2) := by decide +kernel
theorem dL_ways_694 : decode cL_ways 694 = .ok (.iconst 0, 1) := by decide +kernel
theorem dL_ways_695 : decode cL_ways 695 = .ok (.invokestatic 120, 3) := by decide +kernel
theorem dL_ways_698 : decode cL_ways 698 = .ok (.bipush 30, 2) := by decide +kernel
theorem dL_ways_700 : decode cL_ways 700 = .ok (.iand, 1) := by decide +kernel
theorem dL_ways_701 : decode cL_ways 701 = .ok (.ifCond .le 7, 3) := by decide +kernel
theorem dL_ways_704 : decode cL_ways 704 = .ok (.iconst 1, 1) := by decide +kernel
theorem dL_ways_705 : decode cL_ways 705 = .ok (.goto 4, 3) := by decide +kernel
theorem dL_ways_708 : decode cL_ways 708 = .ok (.iconst 0, 1) := by decide +kernel
theorem dL_ways_709 : decode cL_ways 709 = .ok (.ireturn, 1) := by decide +kernel
theorem dL_bookings_0 : decode cL_bookings 0 = .ok (.iload_n 3, 1) := by decide +kernel
theorem dL_bookings_1 : decode cL_bookings 1 = .ok (.bipush 8, 2) := by decide +kernel
theorem dL_bookings_3 : decode cL_bookings 3 = .ok (.invokestatic 117, 3) := by decide +kernel
theorem dL_bookings_6 : decode cL_bookings 6 = .ok (.istore 5, 2) := by decide +kernel
theorem dL_bookings_8 : decode cL_bookings 8 = .ok (.iload 5, 2) := by decide +kernel
theorem dL_bookings_10 : decode cL_bookings 10 = .ok (.iconst 3, 1) := by decide +kernel
theorem dL_bookings_11 : decode cL_bookings 11 = .ok (.if_icmp .ge 252, 3) := by decide +kernel
theorem dL_bookings_14 : decode cL_bookings 14 = .ok (.aload_n 2, 1) := by decide +kernel
theorem dL_bookings_15 : decode cL_bookings 15 = .ok (.iconst 0, 1) := by decide +kernel
theorem dL_bookings_16 : decode cL_bookings 16 = .ok (.iaload, 1) := by decide +kernel
theorem dL_bookings_17 : decode cL_bookings 17 = .ok (.iconst 1, 1) := by decide +kernel
theorem dL_bookings_18 : decode cL_bookings 18 = .ok (.if_icmp .le 245, 3) := by decide +kernel
theorem dL_bookings_21 : decode cL_bookings 21 = .ok (.iload 4, 2) := by decide +kernel
theorem dL_bookings_23 : decode cL_bookings 23 = .ok (.aload_n 2, 1) := by decide +kernel
theorem dL_bookings_24 : decode cL_bookings 24 = .ok (.iconst 0, 1) := by decide +kernel
theorem dL_bookings_25 : decode cL_bookings 25 = .ok (.iaload, 1) := by decide +kernel
theorem dL_bookings_26 : decode cL_bookings 26 = .ok (.invokestatic 117, 3) := by decide +kernel
theorem dL_bookings_29 : decode cL_bookings 29 = .ok (.istore 6, 2) := by decide +kernel
theorem dL_bookings_31 : decode cL_bookings 31 = .ok (.iload 6, 2) := by decide +kernel
theorem dL_bookings_33 : decode cL_bookings 33 = .ok (.iconst 1, 1) := by decide +kernel
theorem dL_bookings_34 : decode cL_bookings 34 = .ok (.iadd, 1) := by decide +kernel
theorem dL_bookings_35 : decode cL_bookings 35 = .ok (.iload 4, 2) := by decide +kernel
theorem dL_bookings_37 : decode cL_bookings 37 = .ok (.iconst 4, 1) := by decide +kernel
theorem dL_bookings_38 : decode cL_bookings 38 = .ok (.ishr, 1) := by decide +kernel
theorem dL_bookings_39 : decode cL_bookings 39 = .ok (.aload_n 2, 1) := by decide +kernel
theorem dL_bookings_40 : decode cL_bookings 40 = .ok (.iconst 0, 1) := by decide +kernel
theorem dL_bookings_41 : decode cL_bookings 41 = .ok (.iaload, 1) := by decide +kernel
theorem dL_bookings_42 : decode cL_bookings 42 = .ok (.iconst 1, 1) := by decide +kernel
theorem dL_bookings_43 : decode cL_bookings 43 = .ok (.isub, 1) := by decide +kernel
theorem dL_bookings_44 : decode cL_bookings 44 = .ok (.invokestatic 117, 3) := by decide +kernel
theorem dL_bookings_47 : decode cL_bookings 47 = .ok (.iadd, 1) := by decide +kernel
theorem dL_bookings_48 : decode cL_bookings 48 = .ok (.aload_n 2, 1) := by decide +kernel
theorem dL_bookings_49 : decode cL_bookings 49 = .ok (.iconst 0, 1) := by decide +kernel
theorem dL_bookings_50 : decode cL_bookings 50 = .ok (.iaload, 1) := by decide +kernel
theorem dL_bookings_51 : decode cL_bookings 51 = .ok (.irem, 1) := by decide +kernel
theorem dL_bookings_52 : decode cL_bookings 52 = .ok (.istore 7, 2) := by decide +kernel
theorem dL_bookings_54 : decode cL_bookings 54 = .ok (.iload 4, 2) := by decide +kernel
theorem dL_bookings_56 : decode cL_bookings 56 = .ok (.bipush 8, 2) := by decide +kernel
theorem dL_bookings_58 : decode cL_bookings 58 = .ok (.ishr, 1) := by decide +kernel
theorem dL_bookings_59 : decode cL_bookings 59 = .ok (.sipush 700, 3) := by decide +kernel
theorem dL_bookings_62 : decode cL_bookings 62 = .ok (.invokestatic 117, 3) := by decide +kernel
theorem dL_bookings_65 : decode cL_bookings 65 = .ok (.istore 8, 2) := by decide +kernel
theorem dL_bookings_67 : decode cL_bookings 67 = .ok (.iconst 1, 1) := by decide +kernel
theorem dL_bookings_68 : decode cL_bookings 68 = .ok (.iload 4, 2) := by decide +kernel
theorem dL_bookings_70 : decode cL_bookings 70 = .ok (.iconst 3, 1) := by decide +kernel
theorem dL_bookings_71 : decode cL_bookings 71 = .ok (.ishr, 1) := by decide +kernel
theorem dL_bookings_72 : decode cL_bookings 72 = .ok (.iconst 3, 1) := by decide +kernel
theorem dL_bookings_73 : decode cL_bookings 73 = .ok (.invokestatic 117, 3) := by decide +kernel
theorem dL_bookings_76 : decode cL_bookings 76 = .ok (.iadd, 1) := by decide +kernel
theorem dL_bookings_77 : decode cL_bookings 77 = .ok (.istore 9, 2) := by decide +kernel
theorem dL_bookings_79 : decode cL_bookings 79 = .ok (.aload_n 0, 1) := by decide +kernel
theorem dL_bookings_80 : decode cL_bookings 80 = .ok (.iload 6, 2) := by decide +kernel
theorem dL_bookings_82 : decode cL_bookings 82 = .ok (.iload 7, 2) := by decide +kernel
theorem dL_bookings_84 : decode cL_bookings 84 = .ok (.iload 8, 2) := by decide +kernel
theorem dL_bookings_86 : decode cL_bookings 86 = .ok (.iload 9, 2) := by decide +kernel
theorem dL_bookings_88 : decode cL_bookings 88 = .ok (.iconst 0, 1) := by decide +kernel
theorem dL_bookings_89 : decode cL_bookings 89 = .ok (.iconst 0, 1) := by decide +kernel
theorem dL_bookings_90 : decode cL_bookings 90 = .ok (.invokestatic 108, 3) := by decide +kernel
theorem dL_bookings_93 : decode cL_bookings 93 = .ok (.istore 10, 2) := by decide +kernel
theorem dL_bookings_95 : decode cL_bookings 95 = .ok (.aload_n 0, 1) := by decide +kernel
theorem dL_bookings_96 : decode cL_bookings 96 = .ok (.iload 6, 2) := by decide +kernel
theorem dL_bookings_98 : decode cL_bookings 98 = .ok (.iload 7, 2) := by decide +kernel
theorem dL_bookings_100 : decode cL_bookings 100 = .ok (.iload 8, 2) := by decide +kernel
theorem dL_bookings_102 : decode cL_bookings 102 = .ok (.iload 9, 2) := by decide +kernel
theorem dL_bookings_104 : decode cL_bookings 104 = .ok (.iconst 0, 1) := by decide +kernel
theorem dL_bookings_105 : decode cL_bookings 105 = .ok (.iconst 1, 1) := by decide +kernel
theorem dL_bookings_106 : decode cL_bookings 106 = .ok (.invokestatic 108, 3) := by decide +kernel
theorem dL_bookings_109 : decode cL_bookings 109 = .ok (.istore 11, 2) := by decide +kernel
theorem dL_bookings_111 : decode cL_bookings 111 = .ok (.iload 10, 2) := by decide +kernel
theorem dL_bookings_113 : decode cL_bookings 113 = .ok (.iconst (-1), 1) := by decide +kernel
theorem dL_bookings_114 : decode cL_bookings 114 = .ok (.if_icmp .ne 7, 3) := by decide +kernel
theorem dL_bookings_117 : decode cL_bookings 117 = .ok (.iconst 0, 1) := by decide +kernel
theorem dL_bookings_118 : decode cL_bookings 118 = .ok (.goto 11, 3) := by decide +kernel
theorem dL_bookings_121 : decode cL_bookings 121 = .ok (.aload_n 0, 1) := by decide +kernel
theorem dL_bookings_122 : decode cL_bookings 122 = .ok (.iload 10, 2) := by decide +kernel
theorem dL_bookings_124 : decode cL_bookings 124 = .ok (.iload 11, 2) := by decide +kernel
theorem dL_bookings_126 : decode cL_bookings 126 = .ok (.invokevirtual 80, 3) := by decide +kernel
theorem dL_bookings_129 : decode cL_bookings 129 = .ok (.istore 12, 2) := by decide +kernel
theorem dL_bookings_131 : decode cL_bookings 131 = .ok (.aload_n 0, 1) := by decide +kernel
theorem dL_bookings_132 : decode cL_bookings 132 = .ok (.aload_n 1, 1) := by decide +kernel
theorem dL_bookings_133 : decode cL_bookings 133 = .ok (.bipush 11, 2) := by decide +kernel
theorem dL_bookings_135 : decode cL_bookings 135 = .ok (.iload 6, 2) := by decide +kernel
theorem dL_bookings_137 : decode cL_bookings 137 = .ok (.iload 7, 2) := by decide +kernel
theorem dL_bookings_139 : decode cL_bookings 139 = .ok (.iload 8, 2) := by decide +kernel
theorem dL_bookings_141 : decode cL_bookings 141 = .ok (.iload 9, 2) := by decide +kernel
theorem dL_bookings_143 : decode cL_bookings 143 = .ok (.invokestatic 120, 3) := by decide +kernel
theorem dL_bookings_146 : decode cL_bookings 146 = .ok (.istore 13, 2) := by decide +kernel
theorem dL_bookings_148 : decode cL_bookings 148 = .ok (.iload 13, 2) := by decide +kernel
theorem dL_bookings_150 : decode cL_bookings 150 = .ok (.ldc 23, 2) := by decide +kernel
theorem dL_bookings_152 : decode cL_bookings 152 = .ok (.if_icmp .ne 28, 3) := by decide +kernel
theorem dL_bookings_155 : decode cL_bookings 155 = .ok (.iload 10, 2) := by decide +kernel
theorem dL_bookings_157 : decode cL_bookings 157 = .ok (.iconst (-1), 1) := by decide +kernel
theorem dL_bookings_158 : decode cL_bookings 158 = .ok (.if_icmp .eq 16, 3) := by decide +kernel
theorem dL_bookings_161 : decode cL_bookings 161 = .ok (.aload_n 0, 1) := by decide +kernel
theorem dL_bookings_162 : decode cL_bookings 162 = .ok (.iload 10, 2) := by decide +kernel
theorem dL_bookings_164 : decode cL_bookings 164 = .ok (.iload 11, 2) := by decide +kernel
theorem dL_bookings_166 : decode cL_bookings 166 = .ok (.invokevirtual 80, 3) := by decide +kernel
theorem dL_bookings_169 : decode cL_bookings 169 = .ok (.iload 12, 2) := by decide +kernel
theorem dL_bookings_171 : decode cL_bookings 171 = .ok (.if_icmp .ne 7, 3) := by decide +kernel
theorem dL_bookings_174 : decode cL_bookings 174 = .ok (.iconst 1, 1) := by decide +kernel
theorem dL_bookings_175 : decode cL_bookings 175 = .ok (.goto 4, 3) := by decide +kernel
theorem dL_bookings_178 : decode cL_bookings 178 = .ok (.iconst 0, 1) := by decide +kernel
theorem dL_bookings_179 : decode cL_bookings 179 = .ok (.ireturn, 1) := by decide +kernel
theorem dL_bookings_180 : decode cL_bookings 180 = .ok (.aload_n 2, 1) := by decide +kernel
theorem dL_bookings_181 : decode cL_bookings 181 = .ok (.iconst 2, 1) := by decide +kernel
theorem dL_bookings_182 : decode cL_bookings 182 = .ok (.dup2, 1) := by decide +kernel
theorem dL_bookings_183 : decode cL_bookings 183 = .ok (.iaload, 1) := by decide +kernel
theorem dL_bookings_184 : decode cL_bookings 184 = .ok (.iconst 1, 1) := by decide +kernel
theorem dL_bookings_185 : decode cL_bookings 185 = .ok (.iadd, 1) := by decide +kernel
theorem dL_bookings_186 : decode cL_bookings 186 = .ok (.iastore, 1) := by decide +kernel
theorem dL_bookings_187 : decode cL_bookings 187 = .ok (.iload 13, 2) := by decide +kernel
theorem dL_bookings_189 : decode cL_bookings 189 = .ok (.aload_n 2, 1) := by decide +kernel
theorem dL_bookings_190 : decode cL_bookings 190 = .ok (.iconst 2, 1) := by decide +kernel
theorem dL_bookings_191 : decode cL_bookings 191 = .ok (.iaload, 1) := by decide +kernel
theorem dL_bookings_192 : decode cL_bookings 192 = .ok (.iconst 1, 1) := by decide +kernel
theorem dL_bookings_193 : decode cL_bookings 193 = .ok (.isub, 1) := by decide +kernel
theorem dL_bookings_194 : decode cL_bookings 194 = .ok (.if_icmp .ne 67, 3) := by decide +kernel
theorem dL_bookings_197 : decode cL_bookings 197 = .ok (.aload_n 0, 1) := by decide +kernel
theorem dL_bookings_198 : decode cL_bookings 198 = .ok (.iload 13, 2) := by decide +kernel
theorem dL_bookings_200 : decode cL_bookings 200 = .ok (.iconst 0, 1) := by decide +kernel
theorem dL_bookings_201 : decode cL_bookings 201 = .ok (.invokevirtual 86, 3) := by decide +kernel
theorem dL_bookings_204 : decode cL_bookings 204 = .ok (.ifCond .ne 57, 3) := by decide +kernel
theorem dL_bookings_207 : decode cL_bookings 207 = .ok (.aload_n 0, 1) := by decide +kernel
theorem dL_bookings_208 : decode cL_bookings 208 = .ok (.iload 10, 2) := by decide +kernel
theorem dL_bookings_210 : decode cL_bookings 210 = .ok (.iload 11, 2) := by decide +kernel
theorem dL_bookings_212 : decode cL_bookings 212 = .ok (.invokevirtual 80, 3) := by decide +kernel
theorem dL_bookings_215 : decode cL_bookings 215 = .ok (.iload 12, 2) := by decide +kernel
theorem dL_bookings_217 : decode cL_bookings 217 = .ok (.iconst 1, 1) := by decide +kernel
theorem dL_bookings_218 : decode cL_bookings 218 = .ok (.isub, 1) := by decide +kernel
theorem dL_bookings_219 : decode cL_bookings 219 = .ok (.if_icmp .ne 42, 3) := by decide +kernel
theorem dL_bookings_222 : decode cL_bookings 222 = .ok (.aload_n 0, 1) := by decide +kernel
theorem dL_bookings_223 : decode cL_bookings 223 = .ok (.iload 10, 2) := by decide +kernel
theorem dL_bookings_225 : decode cL_bookings 225 = .ok (.iload 11, 2) := by decide +kernel
theorem dL_bookings_227 : decode cL_bookings 227 = .ok (.invokevirtual 80, 3) := by decide +kernel
theorem dL_bookings_230 : decode cL_bookings 230 = .ok (.ifCond .lt 31, 3) := by decide +kernel
theorem dL_bookings_233 : decode cL_bookings 233 = .ok (.aload_n 0, 1) := by decide +kernel
theorem dL_bookings_234 : decode cL_bookings 234 = .ok (.iload 13, 2) := by decide +kernel
theorem dL_bookings_236 : decode cL_bookings 236 = .ok (.invokevirtual 71, 3) := by decide +kernel
theorem dL_bookings_239 : decode cL_bookings 239 = .ok (.ifCond .ne 22, 3) := by decide +kernel
theorem dL_bookings_242 : decode cL_bookings 242 = .ok (.aload_n 0, 1) := by decide +kernel
theorem dL_bookings_243 : decode cL_bookings 243 = .ok (.iconst 2, 1) := by decide +kernel
theorem dL_bookings_244 : decode cL_bookings 244 = .ok (.iload 10, 2) := by decide +kernel
theorem dL_bookings_246 : decode cL_bookings 246 = .ok (.iconst 0, 1) := by decide +kernel
theorem dL_bookings_247 : decode cL_bookings 247 = .ok (.iconst 1, 1) := by decide +kernel
theorem dL_bookings_248 : decode cL_bookings 248 = .ok (.iconst 0, 1) := by decide +kernel
theorem dL_bookings_249 : decode cL_bookings 249 = .ok (.invokestatic 113, 3) := by decide +kernel
theorem dL_bookings_252 : decode cL_bookings 252 = .ok (.ldc 23, 2) := by decide +kernel
theorem dL_bookings_254 : decode cL_bookings 254 = .ok (.if_icmp .ne 7, 3) := by decide +kernel
theorem dL_bookings_257 : decode cL_bookings 257 = .ok (.iconst 1, 1) := by decide +kernel
theorem dL_bookings_258 : decode cL_bookings 258 = .ok (.goto 4, 3) := by decide +kernel
theorem dL_bookings_261 : decode cL_bookings 261 = .ok (.iconst 0, 1) := by decide +kernel
theorem dL_bookings_262 : decode cL_bookings 262 = .ok (.ireturn, 1) := by decide +kernel
theorem dL_bookings_263 : decode cL_bookings 263 = .ok (.iload 5, 2) := by decide +kernel
theorem dL_bookings_265 : decode cL_bookings 265 = .ok (.iconst 5, 1) := by decide +kernel
theorem dL_bookings_266 : decode cL_bookings 266 = .ok (.if_icmp .ge 102, 3) := by decide +kernel
theorem dL_bookings_269 : decode cL_bookings 269 = .ok (.aload_n 0, 1) := by decide +kernel
theorem dL_bookings_270 : decode cL_bookings 270 = .ok (.aload_n 1, 1) := by decide +kernel
theorem dL_bookings_271 : decode cL_bookings 271 = .ok (.bipush 17, 2) := by decide +kernel
theorem dL_bookings_273 : decode cL_bookings 273 = .ok (.iconst 1, 1) := by decide +kernel
theorem dL_bookings_274 : decode cL_bookings 274 = .ok (.iload 4, 2) := by decide +kernel
theorem dL_bookings_276 : decode cL_bookings 276 = .ok (.bipush 15, 2) := by decide +kernel
theorem dL_bookings_278 : decode cL_bookings 278 = .ok (.invokestatic 117, 3) := by decide +kernel
theorem dL_bookings_281 : decode cL_bookings 281 = .ok (.iadd, 1) := by decide +kernel
theorem dL_bookings_282 : decode cL_bookings 282 = .ok (.iconst 0, 1) := by decide +kernel
theorem dL_bookings_283 : decode cL_bookings 283 = .ok (.iconst 0, 1) := by decide +kernel
theorem dL_bookings_284 : decode cL_bookings 284 = .ok (.iconst 0, 1) := by decide +kernel
theorem dL_bookings_285 : decode cL_bookings 285 = .ok (.invokestatic 120, 3) := by decide +kernel
theorem dL_bookings_288 : decode cL_bookings 288 = .ok (.istore 6, 2) := by decide +kernel
theorem dL_bookings_290 : decode cL_bookings 290 = .ok (.iload 6, 2) := by decide +kernel
theorem dL_bookings_292 : decode cL_bookings 292 = .ok (.ifCond .lt 15, 3) := by decide +kernel
theorem dL_bookings_295 : decode cL_bookings 295 = .ok (.iload 6, 2) := by decide +kernel
theorem dL_bookings_297 : decode cL_bookings 297 = .ok (.aload_n 2, 1) := by decide +kernel
theorem dL_bookings_298 : decode cL_bookings 298 = .ok (.iconst 2, 1) := by decide +kernel
theorem dL_bookings_299 : decode cL_bookings 299 = .ok (.iaload, 1) := by decide +kernel
theorem dL_bookings_300 : decode cL_bookings 300 = .ok (.if_icmp .gt 7, 3) := by decide +kernel
theorem dL_bookings_303 : decode cL_bookings 303 = .ok (.iconst 1, 1) := by decide +kernel
theorem dL_bookings_304 : decode cL_bookings 304 = .ok (.goto 4, 3) := by decide +kernel
theorem dL_bookings_307 : decode cL_bookings 307 = .ok (.iconst 0, 1) := by decide +kernel
theorem dL_bookings_308 : decode cL_bookings 308 = .ok (.istore 7, 2) := by decide +kernel
theorem dL_bookings_310 : decode cL_bookings 310 = .ok (.iconst 0, 1) := by decide +kernel
theorem dL_bookings_311 : decode cL_bookings 311 = .ok (.istore 8, 2) := by decide +kernel
theorem dL_bookings_313 : decode cL_bookings 313 = .ok (.iload 8, 2) := by decide +kernel
theorem dL_bookings_315 : decode cL_bookings 315 = .ok (.aload_n 2, 1) := by decide +kernel
theorem dL_bookings_316 : decode cL_bookings 316 = .ok (.iconst 1, 1) := by decide +kernel
theorem dL_bookings_317 : decode cL_bookings 317 = .ok (.iaload, 1) := by decide +kernel
theorem dL_bookings_318 : decode cL_bookings 318 = .ok (.if_icmp .ge 47, 3) := by decide +kernel
theorem dL_bookings_321 : decode cL_bookings 321 = .ok (.iload 7, 2) := by decide +kernel
theorem dL_bookings_323 : decode cL_bookings 323 = .ok (.ifCond .eq 42, 3) := by decide +kernel
theorem dL_bookings_326 : decode cL_bookings 326 = .ok (.aload_n 0, 1) := by decide +kernel
theorem dL_bookings_327 : decode cL_bookings 327 = .ok (.iload 8, 2) := by decide +kernel
theorem dL_bookings_329 : decode cL_bookings 329 = .ok (.iconst 0, 1) := by decide +kernel
theorem dL_bookings_330 : decode cL_bookings 330 = .ok (.invokevirtual 80, 3) := by decide +kernel
theorem dL_bookings_333 : decode cL_bookings 333 = .ok (.ifCond .lt 23, 3) := by decide +kernel
theorem dL_bookings_336 : decode cL_bookings 336 = .ok (.aload_n 0, 1) := by decide +kernel
theorem dL_bookings_337 : decode cL_bookings 337 = .ok (.iload 8, 2) := by decide +kernel
theorem dL_bookings_339 : decode cL_bookings 339 = .ok (.iconst 0, 1) := by decide +kernel
theorem dL_bookings_340 : decode cL_bookings 340 = .ok (.invokevirtual 80, 3) := by decide +kernel
theorem dL_bookings_343 : decode cL_bookings 343 = .ok (.aload_n 2, 1) := by decide +kernel
theorem dL_bookings_344 : decode cL_bookings 344 = .ok (.iconst 3, 1) := by decide +kernel
theorem dL_bookings_345 : decode cL_bookings 345 = .ok (.iload 8, 2) := by decide +kernel
theorem dL_bookings_347 : decode cL_bookings 347 = .ok (.iadd, 1) := by decide +kernel
theorem dL_bookings_348 : decode cL_bookings 348 = .ok (.iaload, 1) := by decide +kernel
theorem dL_bookings_349 : decode cL_bookings 349 = .ok (.if_icmp .gt 7, 3) := by decide +kernel
theorem dL_bookings_352 : decode cL_bookings 352 = .ok (.iconst 1, 1) := by decide +kernel
theorem dL_bookings_353 : decode cL_bookings 353 = .ok (.goto 4, 3) := by decide +kernel
theorem dL_bookings_356 : decode cL_bookings 356 = .ok (.iconst 0, 1) := by decide +kernel
theorem dL_bookings_357 : decode cL_bookings 357 = .ok (.istore 7, 2) := by decide +kernel
theorem dL_bookings_359 : decode cL_bookings 359 = .ok (.iinc 8 1, 3) := by decide +kernel
theorem dL_bookings_362 : decode cL_bookings 362 = .ok (.goto (-49), 3) := by decide +kernel
theorem dL_bookings_365 : decode cL_bookings 365 = .ok (.iload 7, 2) := by decide +kernel
theorem dL_bookings_367 : decode cL_bookings 367 = .ok (.ireturn, 1) := by decide +kernel
theorem dL_bookings_368 : decode cL_bookings 368 = .ok (.aload_n 2, 1) := by decide +kernel
theorem dL_bookings_369 : decode cL_bookings 369 = .ok (.iconst 2, 1) := by decide +kernel
theorem dL_bookings_370 : decode cL_bookings 370 = .ok (.iaload, 1) := by decide +kernel
theorem dL_bookings_371 : decode cL_bookings 371 = .ok (.ifCond .ne 39, 3) := by decide +kernel
theorem dL_bookings_374 : decode cL_bookings 374 = .ok (.aload_n 0, 1) := by decide +kernel
theorem dL_bookings_375 : decode cL_bookings 375 = .ok (.bipush 12, 2) := by decide +kernel
theorem dL_bookings_377 : decode cL_bookings 377 = .ok (.iconst 0, 1) := by decide +kernel
theorem dL_bookings_378 : decode cL_bookings 378 = .ok (.iconst 0, 1) := by decide +kernel
theorem dL_bookings_379 : decode cL_bookings 379 = .ok (.iconst 0, 1) := by decide +kernel
theorem dL_bookings_380 : decode cL_bookings 380 = .ok (.iconst 0, 1) := by decide +kernel
theorem dL_bookings_381 : decode cL_bookings 381 = .ok (.invokestatic 113, 3) := by decide +kernel
theorem dL_bookings_384 : decode cL_bookings 384 = .ok (.ldc 17, 2) := by decide +kernel
theorem dL_bookings_386 : decode cL_bookings 386 = .ok (.if_icmp .ne 22, 3) := by decide +kernel
theorem dL_bookings_389 : decode cL_bookings 389 = .ok (.aload_n 0, 1) := by decide +kernel
theorem dL_bookings_390 : decode cL_bookings 390 = .ok (.bipush 13, 2) := by decide +kernel
theorem dL_bookings_392 : decode cL_bookings 392 = .ok (.iconst 0, 1) := by decide +kernel
theorem dL_bookings_393 : decode cL_bookings 393 = .ok (.iconst 0, 1) := by decide +kernel
theorem dL_bookings_394 : decode cL_bookings 394 = .ok (.iconst 0, 1) := by decide +kernel
theorem dL_bookings_395 : decode cL_bookings 395 = .ok (.iconst 0, 1) := by decide +kernel
theorem dL_bookings_396 : decode cL_bookings 396 = .ok (.invokestatic 113, 3) := by decide +kernel
theorem dL_bookings_399 : decode cL_bookings 399 = .ok (.ldc 17, 2) := by decide +kernel
theorem dL_bookings_401 : decode cL_bookings 401 = .ok (.if_icmp .ne 7, 3) := by decide +kernel
theorem dL_bookings_404 : decode cL_bookings 404 = .ok (.iconst 1, 1) := by decide +kernel
theorem dL_bookings_405 : decode cL_bookings 405 = .ok (.goto 4, 3) := by decide +kernel
theorem dL_bookings_408 : decode cL_bookings 408 = .ok (.iconst 0, 1) := by decide +kernel
theorem dL_bookings_409 : decode cL_bookings 409 = .ok (.ireturn, 1) := by decide +kernel
theorem dL_bookings_410 : decode cL_bookings 410 = .ok (.iload 4, 2) := by decide +kernel
theorem dL_bookings_412 : decode cL_bookings 412 = .ok (.aload_n 2, 1) := by decide +kernel
theorem dL_bookings_413 : decode cL_bookings 413 = .ok (.iconst 2, 1) := by decide +kernel
theorem dL_bookings_414 : decode cL_bookings 414 = .ok (.iaload, 1) := by decide +kernel
theorem dL_bookings_415 : decode cL_bookings 415 = .ok (.invokestatic 117, 3) := by decide +kernel
theorem dL_bookings_418 : decode cL_bookings 418 = .ok (.istore 6, 2) := by decide +kernel
theorem dL_bookings_420 : decode cL_bookings 420 = .ok (.aload_n 0, 1) := by decide +kernel
theorem dL_bookings_421 : decode cL_bookings 421 = .ok (.iload 6, 2) := by decide +kernel
theorem dL_bookings_423 : decode cL_bookings 423 = .ok (.iconst 0, 1) := by decide +kernel
theorem dL_bookings_424 : decode cL_bookings 424 = .ok (.invokevirtual 86, 3) := by decide +kernel
theorem dL_bookings_427 : decode cL_bookings 427 = .ok (.istore 7, 2) := by decide +kernel
theorem dL_bookings_429 : decode cL_bookings 429 = .ok (.aload_n 0, 1) := by decide +kernel
theorem dL_bookings_430 : decode cL_bookings 430 = .ok (.iload 6, 2) := by decide +kernel
theorem dL_bookings_432 : decode cL_bookings 432 = .ok (.iconst 1, 1) := by decide +kernel
theorem dL_bookings_433 : decode cL_bookings 433 = .ok (.invokevirtual 86, 3) := by decide +kernel
theorem dL_bookings_436 : decode cL_bookings 436 = .ok (.istore 8, 2) := by decide +kernel
theorem dL_bookings_438 : decode cL_bookings 438 = .ok (.aload_n 0, 1) := by decide +kernel
theorem dL_bookings_439 : decode cL_bookings 439 = .ok (.iload 6, 2) := by decide +kernel
theorem dL_bookings_441 : decode cL_bookings 441 = .ok (.invokevirtual 71, 3) := by decide +kernel
theorem dL_bookings_444 : decode cL_bookings 444 = .ok (.istore 9, 2) := by decide +kernel
theorem dL_bookings_446 : decode cL_bookings 446 = .ok (.iload 5, 2) := by decide +kernel
theorem dL_bookings_448 : decode cL_bookings 448 = .ok (.bipush 7, 2) := by decide +kernel
theorem dL_bookings_450 : decode cL_bookings 450 = .ok (.if_icmp .ge 66, 3) := by decide +kernel
theorem dL_bookings_453 : decode cL_bookings 453 = .ok (.aload_n 0, 1) := by decide +kernel
theorem dL_bookings_454 : decode cL_bookings 454 = .ok (.aload_n 1, 1) := by decide +kernel
theorem dL_bookings_455 : decode cL_bookings 455 = .ok (.bipush 12, 2) := by decide +kernel
theorem dL_bookings_457 : decode cL_bookings 457 = .ok (.iload 6, 2) := by decide +kernel
theorem dL_bookings_459 : decode cL_bookings 459 = .ok (.iconst 0, 1) := by decide +kernel
theorem dL_bookings_460 : decode cL_bookings 460 = .ok (.iconst 0, 1) := by decide +kernel
theorem dL_bookings_461 : decode cL_bookings 461 = .ok (.iconst 0, 1) := by decide +kernel
theorem dL_bookings_462 : decode cL_bookings 462 = .ok (.invokestatic 120, 3) := by decide +kernel
theorem dL_bookings_465 : decode cL_bookings 465 = .ok (.istore 10, 2) := by decide +kernel
theorem dL_bookings_467 : decode cL_bookings 467 = .ok (.iload 10, 2) := by decide +kernel
theorem dL_bookings_469 : decode cL_bookings 469 = .ok (.ldc 23, 2) := by decide +kernel
theorem dL_bookings_471 : decode cL_bookings 471 = .ok (.if_icmp .ne 16, 3) := by decide +kernel
theorem dL_bookings_474 : decode cL_bookings 474 = .ok (.iload 7, 2) := by decide +kernel
theorem dL_bookings_476 : decode cL_bookings 476 = .ok (.ifCond .eq 7, 3) := by decide +kernel
theorem dL_bookings_479 : decode cL_bookings 479 = .ok (.iconst 1, 1) := by decide +kernel
theorem dL_bookings_480 : decode cL_bookings 480 = .ok (.goto 35, 3) := by decide +kernel
theorem dL_bookings_483 : decode cL_bookings 483 = .ok (.iconst 0, 1) := by decide +kernel
theorem dL_bookings_484 : decode cL_bookings 484 = .ok (.goto 31, 3) := by decide +kernel
theorem dL_bookings_487 : decode cL_bookings 487 = .ok (.iload 7, 2) := by decide +kernel
theorem dL_bookings_489 : decode cL_bookings 489 = .ok (.ifCond .ne 25, 3) := by decide +kernel
theorem dL_bookings_492 : decode cL_bookings 492 = .ok (.iload 10, 2) := by decide +kernel
theorem dL_bookings_494 : decode cL_bookings 494 = .ok (.iload 8, 2) := by decide +kernel
theorem dL_bookings_496 : decode cL_bookings 496 = .ok (.if_icmp .ne 18, 3) := by decide +kernel
theorem dL_bookings_499 : decode cL_bookings 499 = .ok (.aload_n 0, 1) := by decide +kernel
theorem dL_bookings_500 : decode cL_bookings 500 = .ok (.iload 6, 2) := by decide +kernel
theorem dL_bookings_502 : decode cL_bookings 502 = .ok (.iconst 0, 1) := by decide +kernel
theorem dL_bookings_503 : decode cL_bookings 503 = .ok (.invokevirtual 86, 3) := by decide +kernel
theorem dL_bookings_506 : decode cL_bookings 506 = .ok (.iconst 1, 1) := by decide +kernel
theorem dL_bookings_507 : decode cL_bookings 507 = .ok (.if_icmp .ne 7, 3) := by decide +kernel
theorem dL_bookings_510 : decode cL_bookings 510 = .ok (.iconst 1, 1) := by decide +kernel
theorem dL_bookings_511 : decode cL_bookings 511 = .ok (.goto 4, 3) := by decide +kernel
theorem dL_bookings_514 : decode cL_bookings 514 = .ok (.iconst 0, 1) := by decide +kernel
theorem dL_bookings_515 : decode cL_bookings 515 = .ok (.ireturn, 1) := by decide +kernel
theorem dL_bookings_516 : decode cL_bookings 516 = .ok (.aload_n 0, 1) := by decide +kernel
theorem dL_bookings_517 : decode cL_bookings 517 = .ok (.aload_n 1, 1) := by decide +kernel
theorem dL_bookings_518 : decode cL_bookings 518 = .ok (.bipush 14, 2) := by decide +kernel
theorem dL_bookings_520 : decode cL_bookings 520 = .ok (.iload 6, 2) := by decide +kernel
theorem dL_bookings_522 : decode cL_bookings 522 = .ok (.iconst 0, 1) := by decide +kernel
theorem dL_bookings_523 : decode cL_bookings 523 = .ok (.iconst 0, 1) := by decide +kernel
theorem dL_bookings_524 : decode cL_bookings 524 = .ok (.iconst 0, 1) := by decide +kernel
theorem dL_bookings_525 : decode cL_bookings 525 = .ok (.invokestatic 120, 3) := by decide +kernel
theorem dL_bookings_528 : decode cL_bookings 528 = .ok (.istore 10, 2) := by decide +kernel
theorem dL_bookings_530 : decode cL_bookings 530 = .ok (.iload 9, 2) := by decide +kernel
theorem dL_bookings_532 : decode cL_bookings 532 = .ok (.ifCond .eq 28, 3) := by decide +kernel
theorem dL_bookings_535 : decode cL_bookings 535 = .ok (.iload 9, 2) := by decide +kernel
theorem dL_bookings_537 : decode cL_bookings 537 = .ok (.iload 8, 2) := by decide +kernel
theorem dL_bookings_539 : decode cL_bookings 539 = .ok (.if_icmp .eq 21, 3) := by decide +kernel
theorem dL_bookings_542 : decode cL_bookings 542 = .ok (.iload 9, 2) := by decide +kernel
theorem dL_bookings_544 : decode cL_bookings 544 = .ok (.iload 8, 2) := by decide +kernel
theorem dL_bookings_546 : decode cL_bookings 546 = .ok (.iconst 2, 1) := by decide +kernel
theorem dL_bookings_547 : decode cL_bookings 547 = .ok (.idiv, 1) := by decide +kernel
theorem dL_bookings_548 : decode cL_bookings 548 = .ok (.if_icmp .eq 12, 3) := by decide +kernel
theorem dL_bookings_551 : decode cL_bookings 551 = .ok (.iload 9, 2) := by decide +kernel
theorem dL_bookings_553 : decode cL_bookings 553 = .ok (.iload 8, 2) := by decide +kernel
theorem dL_bookings_555 : decode cL_bookings 555 = .ok (.iconst 4, 1) := by decide +kernel
theorem dL_bookings_556 : decode cL_bookings 556 = .ok (.idiv, 1) := by decide +kernel
theorem dL_bookings_557 : decode cL_bookings 557 = .ok (.if_icmp .ne 7, 3) := by decide +kernel
theorem dL_bookings_560 : decode cL_bookings 560 = .ok (.iconst 1, 1) := by decide +kernel
theorem dL_bookings_561 : decode cL_bookings 561 = .ok (.goto 4, 3) := by decide +kernel
theorem dL_bookings_564 : decode cL_bookings 564 = .ok (.iconst 0, 1) := by decide +kernel
theorem dL_bookings_565 : decode cL_bookings 565 = .ok (.istore 11, 2) := by decide +kernel
theorem dL_bookings_567 : decode cL_bookings 567 = .ok (.iload 11, 2) := by decide +kernel
theorem dL_bookings_569 : decode cL_bookings 569 = .ok (.ifCond .eq 72, 3) := by decide +kernel
theorem dL_bookings_572 : decode cL_bookings 572 = .ok (.iload 7, 2) := by decide +kernel
theorem dL_bookings_574 : decode cL_bookings 574 = .ok (.iconst 1, 1) := by decide +kernel
theorem dL_bookings_575 : decode cL_bookings 575 = .ok (.if_icmp .eq 8, 3) := by decide +kernel
theorem dL_bookings_578 : decode cL_bookings 578 = .ok (.iload 9, 2) := by decide +kernel
theorem dL_bookings_580 : decode cL_bookings 580 = .ok (.ifCond .ne 61, 3) := by decide +kernel
theorem dL_bookings_583 : decode cL_bookings 583 = .ok (.iload 10, 2) := by decide +kernel
theorem dL_bookings_585 : decode cL_bookings 585 = .ok (.ldc 23, 2) := by decide +kernel
theorem dL_bookings_587 : decode cL_bookings 587 = .ok (.if_icmp .ne 23, 3) := by decide +kernel
theorem dL_bookings_590 : decode cL_bookings 590 = .ok (.iload 9, 2) := by decide +kernel
theorem dL_bookings_592 : decode cL_bookings 592 = .ok (.ifCond .ne 49, 3) := by decide +kernel
theorem dL_bookings_595 : decode cL_bookings 595 = .ok (.aload_n 0, 1) := by decide +kernel
theorem dL_bookings_596 : decode cL_bookings 596 = .ok (.iload 6, 2) := by decide +kernel
theorem dL_bookings_598 : decode cL_bookings 598 = .ok (.iconst 0, 1) := by decide +kernel
theorem dL_bookings_599 : decode cL_bookings 599 = .ok (.invokevirtual 86, 3) := by decide +kernel
theorem dL_bookings_602 : decode cL_bookings 602 = .ok (.iload 7, 2) := by decide +kernel
theorem dL_bookings_604 : decode cL_bookings 604 = .ok (.if_icmp .ne 37, 3) := by decide +kernel
theorem dL_bookings_607 : decode cL_bookings 607 = .ok (.goto 30, 3) := by decide +kernel
theorem dL_bookings_610 : decode cL_bookings 610 = .ok (.iload 10, 2) := by decide +kernel
theorem dL_bookings_612 : decode cL_bookings 612 = .ok (.iload 9, 2) := by decide +kernel
theorem dL_bookings_614 : decode cL_bookings 614 = .ok (.if_icmp .ne 27, 3) := by decide +kernel
theorem dL_bookings_617 : decode cL_bookings 617 = .ok (.aload_n 0, 1) := by decide +kernel
theorem dL_bookings_618 : decode cL_bookings 618 = .ok (.iload 6, 2) := by decide +kernel
theorem dL_bookings_620 : decode cL_bookings 620 = .ok (.iconst 0, 1) := by decide +kernel
theorem dL_bookings_621 : decode cL_bookings 621 = .ok (.invokevirtual 86, 3) := by decide +kernel
theorem dL_bookings_624 : decode cL_bookings 624 = .ok (.iconst 3, 1) := by decide +kernel
theorem dL_bookings_625 : decode cL_bookings 625 = .ok (.if_icmp .ne 16, 3) := by decide +kernel
theorem dL_bookings_628 : decode cL_bookings 628 = .ok (.aload_n 0, 1) := by decide +kernel
theorem dL_bookings_629 : decode cL_bookings 629 = .ok (.iload 6, 2) := by decide +kernel
theorem dL_bookings_631 : decode cL_bookings 631 = .ok (.invokevirtual 71, 3) := by decide +kernel
theorem dL_bookings_634 : decode cL_bookings 634 = .ok (.ifCond .ne 7, 3) := by decide +kernel
theorem dL_bookings_637 : decode cL_bookings 637 = .ok (.iconst 1, 1) := by decide +kernel
theorem dL_bookings_638 : decode cL_bookings 638 = .ok (.goto 4, 3) := by decide +kernel
theorem dL_bookings_641 : decode cL_bookings 641 = .ok (.iconst 0, 1) := by decide +kernel
theorem dL_bookings_642 : decode cL_bookings 642 = .ok (.ireturn, 1) := by decide +kernel
theorem dL_refused_0 : decode cL_refused 0 = .ok (.aload_n 0, 1) := by decide +kernel
theorem dL_refused_1 : decode cL_refused 1 = .ok (.aload_n 1, 1) := by decide +kernel
theorem dL_refused_2 : decode cL_refused 2 = .ok (.invokestatic 131, 3) := by decide +kernel
theorem dL_refused_5 : decode cL_refused 5 = .ok (.lstore_n 2, 1) := by decide +kernel
theorem dL_refused_6 : decode cL_refused 6 = .ok (.aload_n 0, 1) := by decide +kernel
theorem dL_refused_7 : decode cL_refused 7 = .ok (.iconst 0, 1) := by decide +kernel
theorem dL_refused_8 : decode cL_refused 8 = .ok (.bipush 61, 2) := by decide +kernel
theorem dL_refused_10 : decode cL_refused 10 = .ok (.iconst 0, 1) := by decide +kernel
theorem dL_refused_11 : decode cL_refused 11 = .ok (.iconst 0, 1) := by decide +kernel
theorem dL_refused_12 : decode cL_refused 12 = .ok (.iconst 0, 1) := by decide +kernel
theorem dL_refused_13 : decode cL_refused 13 = .ok (.invokestatic 113, 3) := by decide +kernel
theorem dL_refused_16 : decode cL_refused 16 = .ok (.ldc 20, 2) := by decide +kernel
theorem dL_refused_18 : decode cL_refused 18 = .ok (.if_icmp .ne 219, 3) := by decide +kernel
theorem dL_refused_21 : decode cL_refused 21 = .ok (.aload_n 0, 1) := by decide +kernel
theorem dL_refused_22 : decode cL_refused 22 = .ok (.iconst 1, 1) := by decide +kernel
theorem dL_refused_23 : decode cL_refused 23 = .ok (.bipush 10, 2) := by decide +kernel
theorem dL_refused_25 : decode cL_refused 25 = .ok (.iconst 0, 1) := by decide +kernel
theorem dL_refused_26 : decode cL_refused 26 = .ok (.iconst 5, 1) := by decide +kernel
theorem dL_refused_27 : decode cL_refused 27 = .ok (.iconst 0, 1) := by decide +kernel
theorem dL_refused_28 : decode cL_refused 28 = .ok (.invokestatic 113, 3) := by decide +kernel
theorem dL_refused_31 : decode cL_refused 31 = .ok (.ldc 17, 2) := by decide +kernel
theorem dL_refused_33 : decode cL_refused 33 = .ok (.if_icmp .ne 204, 3) := by decide +kernel
theorem dL_refused_36 : decode cL_refused 36 = .ok (.aload_n 0, 1) := by decide +kernel
theorem dL_refused_37 : decode cL_refused 37 = .ok (.iconst 2, 1) := by decide +kernel
theorem dL_refused_38 : decode cL_refused 38 = .ok (.bipush 20, 2) := by decide +kernel
theorem dL_refused_40 : decode cL_refused 40 = .ok (.iconst 0, 1) := by decide +kernel
theorem dL_refused_41 : decode cL_refused 41 = .ok (.iconst 1, 1) := by decide +kernel
theorem dL_refused_42 : decode cL_refused 42 = .ok (.iconst 0, 1) := by decide +kernel
theorem dL_refused_43 : decode cL_refused 43 = .ok (.invokestatic 113, 3) := by decide +kernel
theorem dL_refused_46 : decode cL_refused 46 = .ok (.ldc 17, 2) := by decide +kernel
theorem dL_refused_48 : decode cL_refused 48 = .ok (.if_icmp .ne 189, 3) := by decide +kernel
theorem dL_refused_51 : decode cL_refused 51 = .ok (.aload_n 0, 1) := by decide +kernel
theorem dL_refused_52 : decode cL_refused 52 = .ok (.iconst 3, 1) := by decide +kernel
theorem dL_refused_53 : decode cL_refused 53 = .ok (.iconst (-1), 1) := by decide +kernel
theorem dL_refused_54 : decode cL_refused 54 = .ok (.iconst 0, 1) := by decide +kernel
theorem dL_refused_55 : decode cL_refused 55 = .ok (.iconst 0, 1) := by decide +kernel
theorem dL_refused_56 : decode cL_refused 56 = .ok (.iconst 0, 1) := by decide +kernel
theorem dL_refused_57 : decode cL_refused 57 = .ok (.invokestatic 113, 3) := by decide +kernel
theorem dL_refused_60 : decode cL_refused 60 = .ok (.ldc 17, 2) := by decide +kernel
theorem dL_refused_62 : decode cL_refused 62 = .ok (.if_icmp .ne 175, 3) := by decide +kernel
theorem dL_refused_65 : decode cL_refused 65 = .ok (.aload_n 0, 1) := by decide +kernel
theorem dL_refused_66 : decode cL_refused 66 = .ok (.iconst 4, 1) := by decide +kernel
theorem dL_refused_67 : decode cL_refused 67 = .ok (.bipush 20, 2) := by decide +kernel
theorem dL_refused_69 : decode cL_refused 69 = .ok (.iconst 0, 1) := by decide +kernel
theorem dL_refused_70 : decode cL_refused 70 = .ok (.iconst 0, 1) := by decide +kernel
theorem dL_refused_71 : decode cL_refused 71 = .ok (.iconst 0, 1) := by decide +kernel
theorem dL_refused_72 : decode cL_refused 72 = .ok (.invokestatic 113, 3) := by decide +kernel
theorem dL_refused_75 : decode cL_refused 75 = .ok (.ldc 17, 2) := by decide +kernel
theorem dL_refused_77 : decode cL_refused 77 = .ok (.if_icmp .ne 160, 3) := by decide +kernel
theorem dL_refused_80 : decode cL_refused 80 = .ok (.aload_n 0, 1) := by decide +kernel
theorem dL_refused_81 : decode cL_refused 81 = .ok (.iconst 5, 1) := by decide +kernel
theorem dL_refused_82 : decode cL_refused 82 = .ok (.iconst (-1), 1) := by decide +kernel
theorem dL_refused_83 : decode cL_refused 83 = .ok (.iconst 0, 1) := by decide +kernel
theorem dL_refused_84 : decode cL_refused 84 = .ok (.iconst 0, 1) := by decide +kernel
theorem dL_refused_85 : decode cL_refused 85 = .ok (.iconst 0, 1) := by decide +kernel
theorem dL_refused_86 : decode cL_refused 86 = .ok (.invokestatic 113, 3) := by decide +kernel
theorem dL_refused_89 : decode cL_refused 89 = .ok (.ldc 17, 2) := by decide +kernel
theorem dL_refused_91 : decode cL_refused 91 = .ok (.if_icmp .ne 146, 3) := by decide +kernel
theorem dL_refused_94 : decode cL_refused 94 = .ok (.aload_n 0, 1) := by decide +kernel
theorem dL_refused_95 : decode cL_refused 95 = .ok (.bipush 6, 2) := by decide +kernel
theorem dL_refused_97 : decode cL_refused 97 = .ok (.iconst (-1), 1) := by decide +kernel
theorem dL_refused_98 : decode cL_refused 98 = .ok (.iconst 0, 1) := by decide +kernel
theorem dL_refused_99 : decode cL_refused 99 = .ok (.iconst 0, 1) := by decide +kernel
theorem dL_refused_100 : decode cL_refused 100 = .ok (.iconst 0, 1) := by decide +kernel
theorem dL_refused_101 : decode cL_refused 101 = .ok (.invokestatic 113, 3) := by decide +kernel
theorem dL_refused_104 : decode cL_refused 104 = .ok (.ldc 17, 2) := by decide +kernel
theorem dL_refused_106 : decode cL_refused 106 = .ok (.if_icmp .ne 131, 3) := by decide +kernel
theorem dL_refused_109 : decode cL_refused 109 = .ok (.aload_n 0, 1) := by decide +kernel
theorem dL_refused_110 : decode cL_refused 110 = .ok (.bipush 6, 2) := by decide +kernel
theorem dL_refused_112 : decode cL_refused 112 = .ok (.iconst 0, 1) := by decide +kernel
theorem dL_refused_113 : decode cL_refused 113 = .ok (.iconst (-1), 1) := by decide +kernel
theorem dL_refused_114 : decode cL_refused 114 = .ok (.iconst 0, 1) := by decide +kernel
theorem dL_refused_115 : decode cL_refused 115 = .ok (.iconst 0, 1) := by decide +kernel
theorem dL_refused_116 : decode cL_refused 116 = .ok (.invokestatic 113, 3) := by decide +kernel
theorem dL_refused_119 : decode cL_refused 119 = .ok (.ldc 20, 2) := by decide +kernel
theorem dL_refused_121 : decode cL_refused 121 = .ok (.if_icmp .ne 116, 3) := by decide +kernel
theorem dL_refused_124 : decode cL_refused 124 = .ok (.aload_n 0, 1) := by decide +kernel
theorem dL_refused_125 : decode cL_refused 125 = .ok (.iconst 0, 1) := by decide +kernel
theorem dL_refused_126 : decode cL_refused 126 = .ok (.iconst (-1), 1) := by decide +kernel
theorem dL_refused_127 : decode cL_refused 127 = .ok (.iconst 1, 1) := by decide +kernel
theorem dL_refused_128 : decode cL_refused 128 = .ok (.iconst 1, 1) := by decide +kernel
theorem dL_refused_129 : decode cL_refused 129 = .ok (.iconst 0, 1) := by decide +kernel
theorem dL_refused_130 : decode cL_refused 130 = .ok (.iconst 0, 1) := by decide +kernel
theorem dL_refused_131 : decode cL_refused 131 = .ok (.invokestatic 124, 3) := by decide +kernel
theorem dL_refused_134 : decode cL_refused 134 = .ok (.ldc 17, 2) := by decide +kernel
theorem dL_refused_136 : decode cL_refused 136 = .ok (.if_icmp .ne 101, 3) := by decide +kernel
theorem dL_refused_139 : decode cL_refused 139 = .ok (.aload_n 0, 1) := by decide +kernel
theorem dL_refused_140 : decode cL_refused 140 = .ok (.iconst 0, 1) := by decide +kernel
theorem dL_refused_141 : decode cL_refused 141 = .ok (.iconst 0, 1) := by decide +kernel
theorem dL_refused_142 : decode cL_refused 142 = .ok (.iconst 1, 1) := by decide +kernel
theorem dL_refused_143 : decode cL_refused 143 = .ok (.iconst 1, 1) := by decide +kernel
theorem dL_refused_144 : decode cL_refused 144 = .ok (.bipush 10, 2) := by decide +kernel
theorem dL_refused_146 : decode cL_refused 146 = .ok (.iconst 0, 1) := by decide +kernel
theorem dL_refused_147 : decode cL_refused 147 = .ok (.invokestatic 124, 3) := by decide +kernel
theorem dL_refused_150 : decode cL_refused 150 = .ok (.ldc 17, 2) := by decide +kernel
theorem dL_refused_152 : decode cL_refused 152 = .ok (.if_icmp .ne 85, 3) := by decide +kernel
theorem dL_refused_155 : decode cL_refused 155 = .ok (.aload_n 0, 1) := by decide +kernel
theorem dL_refused_156 : decode cL_refused 156 = .ok (.bipush 7, 2) := by decide +kernel
theorem dL_refused_158 : decode cL_refused 158 = .ok (.bipush 10, 2) := by decide +kernel
theorem dL_refused_160 : decode cL_refused 160 = .ok (.iconst 0, 1) := by decide +kernel
theorem dL_refused_161 : decode cL_refused 161 = .ok (.iconst 0, 1) := by decide +kernel
theorem dL_refused_162 : decode cL_refused 162 = .ok (.iconst 1, 1) := by decide +kernel
theorem dL_refused_163 : decode cL_refused 163 = .ok (.invokestatic 113, 3) := by decide +kernel
theorem dL_refused_166 : decode cL_refused 166 = .ok (.ldc 17, 2) := by decide +kernel
theorem dL_refused_168 : decode cL_refused 168 = .ok (.if_icmp .ne 69, 3) := by decide +kernel
theorem dL_refused_171 : decode cL_refused 171 = .ok (.aload_n 0, 1) := by decide +kernel
theorem dL_refused_172 : decode cL_refused 172 = .ok (.bipush 8, 2) := by decide +kernel
theorem dL_refused_174 : decode cL_refused 174 = .ok (.iconst (-1), 1) := by decide +kernel
theorem dL_refused_175 : decode cL_refused 175 = .ok (.iconst 0, 1) := by decide +kernel
theorem dL_refused_176 : decode cL_refused 176 = .ok (.iconst 0, 1) := by decide +kernel
theorem dL_refused_177 : decode cL_refused 177 = .ok (.iconst 1, 1) := by decide +kernel
theorem dL_refused_178 : decode cL_refused 178 = .ok (.invokestatic 113, 3) := by decide +kernel
theorem dL_refused_181 : decode cL_refused 181 = .ok (.ldc 17, 2) := by decide +kernel
theorem dL_refused_183 : decode cL_refused 183 = .ok (.if_icmp .ne 54, 3) := by decide +kernel
theorem dL_refused_186 : decode cL_refused 186 = .ok (.aload_n 0, 1) := by decide +kernel
theorem dL_refused_187 : decode cL_refused 187 = .ok (.bipush 9, 2) := by decide +kernel
theorem dL_refused_189 : decode cL_refused 189 = .ok (.iconst 0, 1) := by decide +kernel
theorem dL_refused_190 : decode cL_refused 190 = .ok (.bipush 10, 2) := by decide +kernel
theorem dL_refused_192 : decode cL_refused 192 = .ok (.iconst 0, 1) := by decide +kernel
theorem dL_refused_193 : decode cL_refused 193 = .ok (.iconst 0, 1) := by decide +kernel
theorem dL_refused_194 : decode cL_refused 194 = .ok (.invokestatic 113, 3) := by decide +kernel
theorem dL_refused_197 : decode cL_refused 197 = .ok (.ldc 17, 2) := by decide +kernel
theorem dL_refused_199 : decode cL_refused 199 = .ok (.if_icmp .ne 38, 3) := by decide +kernel
theorem dL_refused_202 : decode cL_refused 202 = .ok (.aload_n 0, 1) := by decide +kernel
theorem dL_refused_203 : decode cL_refused 203 = .ok (.bipush 10, 2) := by decide +kernel
theorem dL_refused_205 : decode cL_refused 205 = .ok (.iconst 0, 1) := by decide +kernel
theorem dL_refused_206 : decode cL_refused 206 = .ok (.iconst (-1), 1) := by decide +kernel
theorem dL_refused_207 : decode cL_refused 207 = .ok (.iconst 0, 1) := by decide +kernel
theorem dL_refused_208 : decode cL_refused 208 = .ok (.iconst 0, 1) := by decide +kernel
theorem dL_refused_209 : decode cL_refused 209 = .ok (.invokestatic 113, 3) := by decide +kernel
theorem dL_refused_212 : decode cL_refused 212 = .ok (.ldc 17, 2) := by decide +kernel
theorem dL_refused_214 : decode cL_refused 214 = .ok (.if_icmp .ne 23, 3) := by decide +kernel
theorem dL_refused_217 : decode cL_refused 217 = .ok (.aload_n 0, 1) := by decide +kernel
theorem dL_refused_218 : decode cL_refused 218 = .ok (.bipush 11, 2) := by decide +kernel
theorem dL_refused_220 : decode cL_refused 220 = .ok (.bipush 10, 2) := by decide +kernel
theorem dL_refused_222 : decode cL_refused 222 = .ok (.iconst 0, 1) := by decide +kernel
theorem dL_refused_223 : decode cL_refused 223 = .ok (.iconst 0, 1) := by decide +kernel
theorem dL_refused_224 : decode cL_refused 224 = .ok (.iconst 1, 1) := by decide +kernel
theorem dL_refused_225 : decode cL_refused 225 = .ok (.invokestatic 113, 3) := by decide +kernel
theorem dL_refused_228 : decode cL_refused 228 = .ok (.ldc 17, 2) := by decide +kernel
theorem dL_refused_230 : decode cL_refused 230 = .ok (.if_icmp .ne 7, 3) := by decide +kernel
theorem dL_refused_233 : decode cL_refused 233 = .ok (.iconst 1, 1) := by decide +kernel
theorem dL_refused_234 : decode cL_refused 234 = .ok (.goto 4, 3) := by decide +kernel
theorem dL_refused_237 : decode cL_refused 237 = .ok (.iconst 0, 1) := by decide +kernel
theorem dL_refused_238 : decode cL_refused 238 = .ok (.istore 4, 2) := by decide +kernel
theorem dL_refused_240 : decode cL_refused 240 = .ok (.aload_n 1, 1) := by decide +kernel
theorem dL_refused_241 : decode cL_refused 241 = .ok (.iconst 0, 1) := by decide +kernel
theorem dL_refused_242 : decode cL_refused 242 = .ok (.iaload, 1) := by decide +kernel
theorem dL_refused_243 : decode cL_refused 243 = .ok (.iconst 1, 1) := by decide +kernel
theorem dL_refused_244 : decode cL_refused 244 = .ok (.if_icmp .le 181, 3) := by decide +kernel
theorem dL_refused_247 : decode cL_refused 247 = .ok (.iload 4, 2) := by decide +kernel
theorem dL_refused_249 : decode cL_refused 249 = .ok (.ifCond .eq 173, 3) := by decide +kernel
theorem dL_refused_252 : decode cL_refused 252 = .ok (.aload_n 0, 1) := by decide +kernel
theorem dL_refused_253 : decode cL_refused 253 = .ok (.bipush 7, 2) := by decide +kernel
theorem dL_refused_255 : decode cL_refused 255 = .ok (.iconst 0, 1) := by decide +kernel
theorem dL_refused_256 : decode cL_refused 256 = .ok (.iconst 0, 1) := by decide +kernel
theorem dL_refused_257 : decode cL_refused 257 = .ok (.iconst 0, 1) := by decide +kernel
theorem dL_refused_258 : decode cL_refused 258 = .ok (.iconst 1, 1) := by decide +kernel
theorem dL_refused_259 : decode cL_refused 259 = .ok (.invokestatic 113, 3) := by decide +kernel
theorem dL_refused_262 : decode cL_refused 262 = .ok (.ldc 20, 2) := by decide +kernel
theorem dL_refused_264 : decode cL_refused 264 = .ok (.if_icmp .ne 158, 3) := by decide +kernel
theorem dL_refused_267 : decode cL_refused 267 = .ok (.aload_n 0, 1) := by decide +kernel
theorem dL_refused_268 : decode cL_refused 268 = .ok (.bipush 7, 2) := by decide +kernel
theorem dL_refused_270 : decode cL_refused 270 = .ok (.iconst 0, 1) := by decide +kernel
theorem dL_refused_271 : decode cL_refused 271 = .ok (.iconst 1, 1) := by decide +kernel
theorem dL_refused_272 : decode cL_refused 272 = .ok (.ldc 135, 2) := by decide +kernel
theorem dL_refused_274 : decode cL_refused 274 = .ok (.iconst 1, 1) := by decide +kernel
theorem dL_refused_275 : decode cL_refused 275 = .ok (.invokestatic 113, 3) := by decide +kernel
theorem dL_refused_278 : decode cL_refused 278 = .ok (.ldc 20, 2) := by decide +kernel
theorem dL_refused_280 : decode cL_refused 280 = .ok (.if_icmp .ne 142, 3) := by decide +kernel
theorem dL_refused_283 : decode cL_refused 283 = .ok (.aload_n 0, 1) := by decide +kernel
theorem dL_refused_284 : decode cL_refused 284 = .ok (.bipush 8, 2) := by decide +kernel
theorem dL_refused_286 : decode cL_refused 286 = .ok (.iconst 0, 1) := by decide +kernel
theorem dL_refused_287 : decode cL_refused 287 = .ok (.iconst 1, 1) := by decide +kernel
theorem dL_refused_288 : decode cL_refused 288 = .ok (.iconst 0, 1) := by decide +kernel
theorem dL_refused_289 : decode cL_refused 289 = .ok (.iconst 0, 1) := by decide +kernel
theorem dL_refused_290 : decode cL_refused 290 = .ok (.invokestatic 113, 3) := by decide +kernel
theorem dL_refused_293 : decode cL_refused 293 = .ok (.ldc 20, 2) := by decide +kernel
theorem dL_refused_295 : decode cL_refused 295 = .ok (.if_icmp .ne 127, 3) := by decide +kernel
theorem dL_refused_298 : decode cL_refused 298 = .ok (.aload_n 0, 1) := by decide +kernel
theorem dL_refused_299 : decode cL_refused 299 = .ok (.bipush 9, 2) := by decide +kernel
theorem dL_refused_301 : decode cL_refused 301 = .ok (.iconst 0, 1) := by decide +kernel
theorem dL_refused_302 : decode cL_refused 302 = .ok (.iconst 1, 1) := by decide +kernel
theorem dL_refused_303 : decode cL_refused 303 = .ok (.iconst (-1), 1) := by decide +kernel
theorem dL_refused_304 : decode cL_refused 304 = .ok (.iconst 0, 1) := by decide +kernel
theorem dL_refused_305 : decode cL_refused 305 = .ok (.invokestatic 113, 3) := by decide +kernel
theorem dL_refused_308 : decode cL_refused 308 = .ok (.ldc 20, 2) := by decide +kernel
theorem dL_refused_310 : decode cL_refused 310 = .ok (.if_icmp .ne 112, 3) := by decide +kernel
theorem dL_refused_313 : decode cL_refused 313 = .ok (.aload_n 0, 1) := by decide +kernel
theorem dL_refused_314 : decode cL_refused 314 = .ok (.bipush 10, 2) := by decide +kernel
theorem dL_refused_316 : decode cL_refused 316 = .ok (.iconst 1, 1) := by decide +kernel
theorem dL_refused_317 : decode cL_refused 317 = .ok (.iconst 1, 1) := by decide +kernel
theorem dL_refused_318 : decode cL_refused 318 = .ok (.iconst 0, 1) := by decide +kernel
theorem dL_refused_319 : decode cL_refused 319 = .ok (.iconst 0, 1) := by decide +kernel
theorem dL_refused_320 : decode cL_refused 320 = .ok (.invokestatic 113, 3) := by decide +kernel
theorem dL_refused_323 : decode cL_refused 323 = .ok (.ldc 20, 2) := by decide +kernel
theorem dL_refused_325 : decode cL_refused 325 = .ok (.if_icmp .ne 97, 3) := by decide +kernel
theorem dL_refused_328 : decode cL_refused 328 = .ok (.aload_n 0, 1) := by decide +kernel
theorem dL_refused_329 : decode cL_refused 329 = .ok (.bipush 11, 2) := by decide +kernel
theorem dL_refused_331 : decode cL_refused 331 = .ok (.iconst 0, 1) := by decide +kernel
theorem dL_refused_332 : decode cL_refused 332 = .ok (.iconst 1, 1) := by decide +kernel
theorem dL_refused_333 : decode cL_refused 333 = .ok (.iconst 0, 1) := by decide +kernel
theorem dL_refused_334 : decode cL_refused 334 = .ok (.iconst 5, 1) := by decide +kernel
theorem dL_refused_335 : decode cL_refused 335 = .ok (.invokestatic 113, 3) := by decide +kernel
theorem dL_refused_338 : decode cL_refused 338 = .ok (.ldc 20, 2) := by decide +kernel
theorem dL_refused_340 : decode cL_refused 340 = .ok (.if_icmp .ne 82, 3) := by decide +kernel
theorem dL_refused_343 : decode cL_refused 343 = .ok (.aload_n 0, 1) := by decide +kernel
theorem dL_refused_344 : decode cL_refused 344 = .ok (.iconst 0, 1) := by decide +kernel
theorem dL_refused_345 : decode cL_refused 345 = .ok (.iconst 1, 1) := by decide +kernel
theorem dL_refused_346 : decode cL_refused 346 = .ok (.iconst 0, 1) := by decide +kernel
theorem dL_refused_347 : decode cL_refused 347 = .ok (.iconst 1, 1) := by decide +kernel
theorem dL_refused_348 : decode cL_refused 348 = .ok (.iconst 0, 1) := by decide +kernel
theorem dL_refused_349 : decode cL_refused 349 = .ok (.iconst (-1), 1) := by decide +kernel
theorem dL_refused_350 : decode cL_refused 350 = .ok (.invokestatic 108, 3) := by decide +kernel
theorem dL_refused_353 : decode cL_refused 353 = .ok (.ldc 20, 2) := by decide +kernel
theorem dL_refused_355 : decode cL_refused 355 = .ok (.if_icmp .ne 67, 3) := by decide +kernel
theorem dL_refused_358 : decode cL_refused 358 = .ok (.aload_n 0, 1) := by decide +kernel
theorem dL_refused_359 : decode cL_refused 359 = .ok (.iconst 0, 1) := by decide +kernel
theorem dL_refused_360 : decode cL_refused 360 = .ok (.iconst 1, 1) := by decide +kernel
theorem dL_refused_361 : decode cL_refused 361 = .ok (.iconst 0, 1) := by decide +kernel
theorem dL_refused_362 : decode cL_refused 362 = .ok (.iconst 0, 1) := by decide +kernel
theorem dL_refused_363 : decode cL_refused 363 = .ok (.iconst 0, 1) := by decide +kernel
theorem dL_refused_364 : decode cL_refused 364 = .ok (.iconst 0, 1) := by decide +kernel
theorem dL_refused_365 : decode cL_refused 365 = .ok (.invokestatic 108, 3) := by decide +kernel
theorem dL_refused_368 : decode cL_refused 368 = .ok (.ldc 20, 2) := by decide +kernel
theorem dL_refused_370 : decode cL_refused 370 = .ok (.if_icmp .ne 52, 3) := by decide +kernel
theorem dL_refused_373 : decode cL_refused 373 = .ok (.aload_n 0, 1) := by decide +kernel
theorem dL_refused_374 : decode cL_refused 374 = .ok (.iconst 0, 1) := by decide +kernel
theorem dL_refused_375 : decode cL_refused 375 = .ok (.iconst 1, 1) := by decide +kernel
theorem dL_refused_376 : decode cL_refused 376 = .ok (.iconst 0, 1) := by decide +kernel
theorem dL_refused_377 : decode cL_refused 377 = .ok (.iconst 1, 1) := by decide +kernel
theorem dL_refused_378 : decode cL_refused 378 = .ok (.iconst (-1), 1) := by decide +kernel
theorem dL_refused_379 : decode cL_refused 379 = .ok (.invokestatic 126, 3) := by decide +kernel
theorem dL_refused_382 : decode cL_refused 382 = .ok (.ldc2_w 102, 3) := by decide +kernel
theorem dL_refused_385 : decode cL_refused 385 = .ok (.dcmp .l, 1) := by decide +kernel
theorem dL_refused_386 : decode cL_refused 386 = .ok (.ifCond .ne 36, 3) := by decide +kernel
theorem dL_refused_389 : decode cL_refused 389 = .ok (.aload_n 0, 1) := by decide +kernel
theorem dL_refused_390 : decode cL_refused 390 = .ok (.iconst 1, 1) := by decide +kernel
theorem dL_refused_391 : decode cL_refused 391 = .ok (.iconst 0, 1) := by decide +kernel
theorem dL_refused_392 : decode cL_refused 392 = .ok (.iconst 0, 1) := by decide +kernel
theorem dL_refused_393 : decode cL_refused 393 = .ok (.iconst 5, 1) := by decide +kernel
theorem dL_refused_394 : decode cL_refused 394 = .ok (.iconst 0, 1) := by decide +kernel
theorem dL_refused_395 : decode cL_refused 395 = .ok (.invokestatic 113, 3) := by decide +kernel
theorem dL_refused_398 : decode cL_refused 398 = .ok (.ldc 20, 2) := by decide +kernel
theorem dL_refused_400 : decode cL_refused 400 = .ok (.if_icmp .ne 22, 3) := by decide +kernel
theorem dL_refused_403 : decode cL_refused 403 = .ok (.aload_n 0, 1) := by decide +kernel
theorem dL_refused_404 : decode cL_refused 404 = .ok (.iconst 1, 1) := by decide +kernel
theorem dL_refused_405 : decode cL_refused 405 = .ok (.iconst 0, 1) := by decide +kernel
theorem dL_refused_406 : decode cL_refused 406 = .ok (.iconst 1, 1) := by decide +kernel
theorem dL_refused_407 : decode cL_refused 407 = .ok (.bipush 121, 2) := by decide +kernel
theorem dL_refused_409 : decode cL_refused 409 = .ok (.iconst 0, 1) := by decide +kernel
theorem dL_refused_410 : decode cL_refused 410 = .ok (.invokestatic 113, 3) := by decide +kernel
theorem dL_refused_413 : decode cL_refused 413 = .ok (.ldc 20, 2) := by decide +kernel
theorem dL_refused_415 : decode cL_refused 415 = .ok (.if_icmp .ne 7, 3) := by decide +kernel
theorem dL_refused_418 : decode cL_refused 418 = .ok (.iconst 1, 1) := by decide +kernel
theorem dL_refused_419 : decode cL_refused 419 = .ok (.goto 4, 3) := by decide +kernel
theorem dL_refused_422 : decode cL_refused 422 = .ok (.iconst 0, 1) := by decide +kernel
theorem dL_refused_423 : decode cL_refused 423 = .ok (.istore 4, 2) := by decide +kernel
theorem dL_refused_425 : decode cL_refused 425 = .ok (.iload 4, 2) := by decide +kernel
theorem dL_refused_427 : decode cL_refused 427 = .ok (.ifCond .eq 143, 3) := by decide +kernel
theorem dL_refused_430 : decode cL_refused 430 = .ok (.aload_n 0, 1) := by decide +kernel
theorem dL_refused_431 : decode cL_refused 431 = .ok (.bipush 12, 2) := by decide +kernel
theorem dL_refused_433 : decode cL_refused 433 = .ok (.bipush 30, 2) := by decide +kernel
theorem dL_refused_435 : decode cL_refused 435 = .ok (.iconst 0, 1) := by decide +kernel
theorem dL_refused_436 : decode cL_refused 436 = .ok (.iconst 0, 1) := by decide +kernel
theorem dL_refused_437 : decode cL_refused 437 = .ok (.iconst 0, 1) := by decide +kernel
theorem dL_refused_438 : decode cL_refused 438 = .ok (.invokestatic 113, 3) := by decide +kernel
theorem dL_refused_441 : decode cL_refused 441 = .ok (.ldc 17, 2) := by decide +kernel
theorem dL_refused_443 : decode cL_refused 443 = .ok (.if_icmp .ne 127, 3) := by decide +kernel
theorem dL_refused_446 : decode cL_refused 446 = .ok (.aload_n 0, 1) := by decide +kernel
theorem dL_refused_447 : decode cL_refused 447 = .ok (.bipush 13, 2) := by decide +kernel
theorem dL_refused_449 : decode cL_refused 449 = .ok (.bipush 30, 2) := by decide +kernel
theorem dL_refused_451 : decode cL_refused 451 = .ok (.iconst 0, 1) := by decide +kernel
theorem dL_refused_452 : decode cL_refused 452 = .ok (.iconst 0, 1) := by decide +kernel
theorem dL_refused_453 : decode cL_refused 453 = .ok (.iconst 0, 1) := by decide +kernel
theorem dL_refused_454 : decode cL_refused 454 = .ok (.invokestatic 113, 3) := by decide +kernel
theorem dL_refused_457 : decode cL_refused 457 = .ok (.ldc 17, 2) := by decide +kernel
theorem dL_refused_459 : decode cL_refused 459 = .ok (.if_icmp .ne 111, 3) := by decide +kernel
theorem dL_refused_462 : decode cL_refused 462 = .ok (.aload_n 0, 1) := by decide +kernel
theorem dL_refused_463 : decode cL_refused 463 = .ok (.bipush 14, 2) := by decide +kernel
theorem dL_refused_465 : decode cL_refused 465 = .ok (.iconst (-1), 1) := by decide +kernel
theorem dL_refused_466 : decode cL_refused 466 = .ok (.iconst 0, 1) := by decide +kernel
theorem dL_refused_467 : decode cL_refused 467 = .ok (.iconst 0, 1) := by decide +kernel
theorem dL_refused_468 : decode cL_refused 468 = .ok (.iconst 0, 1) := by decide +kernel
theorem dL_refused_469 : decode cL_refused 469 = .ok (.invokestatic 113, 3) := by decide +kernel
theorem dL_refused_472 : decode cL_refused 472 = .ok (.ldc 17, 2) := by decide +kernel
theorem dL_refused_474 : decode cL_refused 474 = .ok (.if_icmp .ne 96, 3) := by decide +kernel
theorem dL_refused_477 : decode cL_refused 477 = .ok (.aload_n 0, 1) := by decide +kernel
theorem dL_refused_478 : decode cL_refused 478 = .ok (.bipush 15, 2) := by decide +kernel
theorem dL_refused_480 : decode cL_refused 480 = .ok (.bipush 20, 2) := by decide +kernel
theorem dL_refused_482 : decode cL_refused 482 = .ok (.iconst 0, 1) := by decide +kernel
theorem dL_refused_483 : decode cL_refused 483 = .ok (.iconst 0, 1) := by decide +kernel
theorem dL_refused_484 : decode cL_refused 484 = .ok (.iconst 0, 1) := by decide +kernel
theorem dL_refused_485 : decode cL_refused 485 = .ok (.invokestatic 113, 3) := by decide +kernel
theorem dL_refused_488 : decode cL_refused 488 = .ok (.ldc 17, 2) := by decide +kernel
theorem dL_refused_490 : decode cL_refused 490 = .ok (.if_icmp .ne 80, 3) := by decide +kernel
theorem dL_refused_493 : decode cL_refused 493 = .ok (.aload_n 0, 1) := by decide +kernel
theorem dL_refused_494 : decode cL_refused 494 = .ok (.bipush 16, 2) := by decide +kernel
theorem dL_refused_496 : decode cL_refused 496 = .ok (.iconst (-1), 1) := by decide +kernel
theorem dL_refused_497 : decode cL_refused 497 = .ok (.iconst 0, 1) := by decide +kernel
theorem dL_refused_498 : decode cL_refused 498 = .ok (.iconst 0, 1) := by decide +kernel
theorem dL_refused_499 : decode cL_refused 499 = .ok (.iconst 0, 1) := by decide +kernel
theorem dL_refused_500 : decode cL_refused 500 = .ok (.invokestatic 113, 3) := by decide +kernel
theorem dL_refused_503 : decode cL_refused 503 = .ok (.ldc 17, 2) := by decide +kernel
theorem dL_refused_505 : decode cL_refused 505 = .ok (.if_icmp .ne 65, 3) := by decide +kernel
theorem dL_refused_508 : decode cL_refused 508 = .ok (.aload_n 0, 1) := by decide +kernel
theorem dL_refused_509 : decode cL_refused 509 = .ok (.bipush 17, 2) := by decide +kernel
theorem dL_refused_511 : decode cL_refused 511 = .ok (.iconst 0, 1) := by decide +kernel
theorem dL_refused_512 : decode cL_refused 512 = .ok (.iconst 0, 1) := by decide +kernel
theorem dL_refused_513 : decode cL_refused 513 = .ok (.iconst 0, 1) := by decide +kernel
theorem dL_refused_514 : decode cL_refused 514 = .ok (.iconst 0, 1) := by decide +kernel
theorem dL_refused_515 : decode cL_refused 515 = .ok (.invokestatic 113, 3) := by decide +kernel
theorem dL_refused_518 : decode cL_refused 518 = .ok (.ldc 20, 2) := by decide +kernel
theorem dL_refused_520 : decode cL_refused 520 = .ok (.if_icmp .ne 50, 3) := by decide +kernel
theorem dL_refused_523 : decode cL_refused 523 = .ok (.aload_n 0, 1) := by decide +kernel
theorem dL_refused_524 : decode cL_refused 524 = .ok (.bipush 17, 2) := by decide +kernel
theorem dL_refused_526 : decode cL_refused 526 = .ok (.sipush 1441, 3) := by decide +kernel
theorem dL_refused_529 : decode cL_refused 529 = .ok (.iconst 0, 1) := by decide +kernel
theorem dL_refused_530 : decode cL_refused 530 = .ok (.iconst 0, 1) := by decide +kernel
theorem dL_refused_531 : decode cL_refused 531 = .ok (.iconst 0, 1) := by decide +kernel
theorem dL_refused_532 : decode cL_refused 532 = .ok (.invokestatic 113, 3) := by decide +kernel
theorem dL_refused_535 : decode cL_refused 535 = .ok (.ldc 20, 2) := by decide +kernel
theorem dL_refused_537 : decode cL_refused 537 = .ok (.if_icmp .ne 33, 3) := by decide +kernel
theorem dL_refused_540 : decode cL_refused 540 = .ok (.aload_n 0, 1) := by decide +kernel
theorem dL_refused_541 : decode cL_refused 541 = .ok (.bipush 18, 2) := by decide +kernel
theorem dL_refused_543 : decode cL_refused 543 = .ok (.bipush 30, 2) := by decide +kernel
theorem dL_refused_545 : decode cL_refused 545 = .ok (.iconst 0, 1) := by decide +kernel
theorem dL_refused_546 : decode cL_refused 546 = .ok (.iconst 0, 1) := by decide +kernel
theorem dL_refused_547 : decode cL_refused 547 = .ok (.iconst 0, 1) := by decide +kernel
theorem dL_refused_548 : decode cL_refused 548 = .ok (.invokestatic 113, 3) := by decide +kernel
theorem dL_refused_551 : decode cL_refused 551 = .ok (.ldc 17, 2) := by decide +kernel
theorem dL_refused_553 : decode cL_refused 553 = .ok (.if_icmp .ne 17, 3) := by decide +kernel
theorem dL_refused_556 : decode cL_refused 556 = .ok (.aload_n 0, 1) := by decide +kernel
theorem dL_refused_557 : decode cL_refused 557 = .ok (.aload_n 1, 1) := by decide +kernel
theorem dL_refused_558 : decode cL_refused 558 = .ok (.invokestatic 131, 3) := by decide +kernel
theorem dL_refused_561 : decode cL_refused 561 = .ok (.lload_n 2, 1) := by decide +kernel
theorem dL_refused_562 : decode cL_refused 562 = .ok (.lcmp, 1) := by decide +kernel
theorem dL_refused_563 : decode cL_refused 563 = .ok (.ifCond .ne 7, 3) := by decide +kernel
theorem dL_refused_566 : decode cL_refused 566 = .ok (.iconst 1, 1) := by decide +kernel
theorem dL_refused_567 : decode cL_refused 567 = .ok (.goto 4, 3) := by decide +kernel
theorem dL_refused_570 : decode cL_refused 570 = .ok (.iconst 0, 1) := by decide +kernel
theorem dL_refused_571 : decode cL_refused 571 = .ok (.ireturn, 1) := by decide +kernel
theorem dL_law_0 : decode cL_law 0 = .ok (.new 25, 3) := by decide +kernel
theorem dL_law_3 : decode cL_law 3 = .ok (.dup, 1) := by decide +kernel
theorem dL_law_4 : decode cL_law 4 = .ok (.invokespecial 136, 3) := by decide +kernel
theorem dL_law_7 : decode cL_law 7 = .ok (.astore_n 1, 1) := by decide +kernel
theorem dL_law_8 : decode cL_law 8 = .ok (.new 25, 3) := by decide +kernel
theorem dL_law_11 : decode cL_law 11 = .ok (.dup, 1) := by decide +kernel
theorem dL_law_12 : decode cL_law 12 = .ok (.invokespecial 136, 3) := by decide +kernel
theorem dL_law_15 : decode cL_law 15 = .ok (.astore_n 2, 1) := by decide +kernel
theorem dL_law_16 : decode cL_law 16 = .ok (.bipush 43, 2) := by decide +kernel
theorem dL_law_18 : decode cL_law 18 = .ok (.newarray .int, 2) := by decide +kernel
theorem dL_law_20 : decode cL_law 20 = .ok (.astore_n 3, 1) := by decide +kernel
theorem dL_law_21 : decode cL_law 21 = .ok (.aload_n 1, 1) := by decide +kernel
theorem dL_law_22 : decode cL_law 22 = .ok (.aload_n 3, 1) := by decide +kernel
theorem dL_law_23 : decode cL_law 23 = .ok (.invokestatic 137, 3) := by decide +kernel
theorem dL_law_26 : decode cL_law 26 = .ok (.istore 4, 2) := by decide +kernel
theorem dL_law_28 : decode cL_law 28 = .ok (.iconst 0, 1) := by decide +kernel
theorem dL_law_29 : decode cL_law 29 = .ok (.istore 5, 2) := by decide +kernel
theorem dL_law_31 : decode cL_law 31 = .ok (.iload 5, 2) := by decide +kernel
theorem dL_law_33 : decode cL_law 33 = .ok (.bipush 90, 2) := by decide +kernel
theorem dL_law_35 : decode cL_law 35 = .ok (.if_icmp .ge 182, 3) := by decide +kernel
theorem dL_law_38 : decode cL_law 38 = .ok (.iload 4, 2) := by decide +kernel
theorem dL_law_40 : decode cL_law 40 = .ok (.ifCond .eq 177, 3) := by decide +kernel
theorem dL_law_43 : decode cL_law 43 = .ok (.aload_n 0, 1) := by decide +kernel
theorem dL_law_44 : decode cL_law 44 = .ok (.iconst 2, 1) := by decide +kernel
theorem dL_law_45 : decode cL_law 45 = .ok (.iload 5, 2) := by decide +kernel
theorem dL_law_47 : decode cL_law 47 = .ok (.imul, 1) := by decide +kernel
theorem dL_law_48 : decode cL_law 48 = .ok (.invokestatic 141, 3) := by decide +kernel
theorem dL_law_51 : decode cL_law 51 = .ok (.istore 6, 2) := by decide +kernel
theorem dL_law_53 : decode cL_law 53 = .ok (.aload_n 0, 1) := by decide +kernel
theorem dL_law_54 : decode cL_law 54 = .ok (.iconst 2, 1) := by decide +kernel
theorem dL_law_55 : decode cL_law 55 = .ok (.iload 5, 2) := by decide +kernel
theorem dL_law_57 : decode cL_law 57 = .ok (.imul, 1) := by decide +kernel
theorem dL_law_58 : decode cL_law 58 = .ok (.iconst 1, 1) := by decide +kernel
theorem dL_law_59 : decode cL_law 59 = .ok (.iadd, 1) := by decide +kernel
theorem dL_law_60 : decode cL_law 60 = .ok (.invokestatic 141, 3) := by decide +kernel
theorem dL_law_63 : decode cL_law 63 = .ok (.istore 7, 2) := by decide +kernel
theorem dL_law_65 : decode cL_law 65 = .ok (.iload 6, 2) := by decide +kernel
theorem dL_law_67 : decode cL_law 67 = .ok (.bipush 24, 2) := by decide +kernel
theorem dL_law_69 : decode cL_law 69 = .ok (.invokestatic 117, 3) := by decide +kernel
theorem dL_law_72 : decode cL_law 72 = .ok (.istore 8, 2) := by decide +kernel
theorem dL_law_74 : decode cL_law 74 = .ok (.iload 8, 2) := by decide +kernel
theorem dL_law_76 : decode cL_law 76 = .ok (.bipush 8, 2) := by decide +kernel
theorem dL_law_78 : decode cL_law 78 = .ok (.if_icmp .lt 10, 3) := by decide +kernel
theorem dL_law_81 : decode cL_law 81 = .ok (.iload 5, 2) := by decide +kernel
theorem dL_law_83 : decode cL_law 83 = .ok (.bipush 12, 2) := by decide +kernel
theorem dL_law_85 : decode cL_law 85 = .ok (.if_icmp .ge 18, 3) := by decide +kernel
theorem dL_law_88 : decode cL_law 88 = .ok (.aload_n 1, 1) := by decide +kernel
theorem dL_law_89 : decode cL_law 89 = .ok (.aload_n 2, 1) := by decide +kernel
theorem dL_law_90 : decode cL_law 90 = .ok (.aload_n 3, 1) := by decide +kernel
theorem dL_law_91 : decode cL_law 91 = .ok (.iload 6, 2) := by decide +kernel
theorem dL_law_93 : decode cL_law 93 = .ok (.iconst 5, 1) := by decide +kernel
theorem dL_law_94 : decode cL_law 94 = .ok (.ishr, 1) := by decide +kernel
theorem dL_law_95 : decode cL_law 95 = .ok (.iload 7, 2) := by decide +kernel
theorem dL_law_97 : decode cL_law 97 = .ok (.invokestatic 145, 3) := by decide +kernel
theorem dL_law_100 : decode cL_law 100 = .ok (.goto 59, 3) := by decide +kernel
theorem dL_law_103 : decode cL_law 103 = .ok (.iload 8, 2) := by decide +kernel
theorem dL_law_105 : decode cL_law 105 = .ok (.bipush 12, 2) := by decide +kernel
theorem dL_law_107 : decode cL_law 107 = .ok (.if_icmp .ge 18, 3) := by decide +kernel
theorem dL_law_110 : decode cL_law 110 = .ok (.aload_n 1, 1) := by decide +kernel
theorem dL_law_111 : decode cL_law 111 = .ok (.aload_n 2, 1) := by decide +kernel
theorem dL_law_112 : decode cL_law 112 = .ok (.aload_n 3, 1) := by decide +kernel
theorem dL_law_113 : decode cL_law 113 = .ok (.iload 6, 2) := by decide +kernel
theorem dL_law_115 : decode cL_law 115 = .ok (.iconst 5, 1) := by decide +kernel
theorem dL_law_116 : decode cL_law 116 = .ok (.ishr, 1) := by decide +kernel
theorem dL_law_117 : decode cL_law 117 = .ok (.iload 7, 2) := by decide +kernel
theorem dL_law_119 : decode cL_law 119 = .ok (.invokestatic 149, 3) := by decide +kernel
theorem dL_law_122 : decode cL_law 122 = .ok (.goto 37, 3) := by decide +kernel
theorem dL_law_125 : decode cL_law 125 = .ok (.iload 8, 2) := by decide +kernel
theorem dL_law_127 : decode cL_law 127 = .ok (.bipush 16, 2) := by decide +kernel
theorem dL_law_129 : decode cL_law 129 = .ok (.if_icmp .ge 18, 3) := by decide +kernel
theorem dL_law_132 : decode cL_law 132 = .ok (.aload_n 1, 1) := by decide +kernel
theorem dL_law_133 : decode cL_law 133 = .ok (.aload_n 2, 1) := by decide +kernel
theorem dL_law_134 : decode cL_law 134 = .ok (.aload_n 3, 1) := by decide +kernel
theorem dL_law_135 : decode cL_law 135 = .ok (.iload 6, 2) := by decide +kernel
theorem dL_law_137 : decode cL_law 137 = .ok (.iconst 5, 1) := by decide +kernel
theorem dL_law_138 : decode cL_law 138 = .ok (.ishr, 1) := by decide +kernel
theorem dL_law_139 : decode cL_law 139 = .ok (.iload 7, 2) := by decide +kernel
theorem dL_law_141 : decode cL_law 141 = .ok (.invokestatic 151, 3) := by decide +kernel
theorem dL_law_144 : decode cL_law 144 = .ok (.goto 15, 3) := by decide +kernel
theorem dL_law_147 : decode cL_law 147 = .ok (.aload_n 1, 1) := by decide +kernel
theorem dL_law_148 : decode cL_law 148 = .ok (.aload_n 2, 1) := by decide +kernel
theorem dL_law_149 : decode cL_law 149 = .ok (.aload_n 3, 1) := by decide +kernel
theorem dL_law_150 : decode cL_law 150 = .ok (.iload 6, 2) := by decide +kernel
theorem dL_law_152 : decode cL_law 152 = .ok (.iconst 5, 1) := by decide +kernel
theorem dL_law_153 : decode cL_law 153 = .ok (.ishr, 1) := by decide +kernel
theorem dL_law_154 : decode cL_law 154 = .ok (.iload 7, 2) := by decide +kernel
theorem dL_law_156 : decode cL_law 156 = .ok (.invokestatic 154, 3) := by decide +kernel
theorem dL_law_159 : decode cL_law 159 = .ok (.istore 4, 2) := by decide +kernel
theorem dL_law_161 : decode cL_law 161 = .ok (.iload 4, 2) := by decide +kernel
theorem dL_law_163 : decode cL_law 163 = .ok (.ifCond .eq 45, 3) := by decide +kernel
theorem dL_law_166 : decode cL_law 166 = .ok (.iload 5, 2) := by decide +kernel
theorem dL_law_168 : decode cL_law 168 = .ok (.bipush 30, 2) := by decide +kernel
theorem dL_law_170 : decode cL_law 170 = .ok (.irem, 1) := by decide +kernel
theorem dL_law_171 : decode cL_law 171 = .ok (.ifCond .gt 17, 3) := by decide +kernel
theorem dL_law_174 : decode cL_law 174 = .ok (.aload_n 1, 1) := by decide +kernel
theorem dL_law_175 : decode cL_law 175 = .ok (.aload_n 3, 1) := by decide +kernel
theorem dL_law_176 : decode cL_law 176 = .ok (.invokestatic 131, 3) := by decide +kernel
theorem dL_law_179 : decode cL_law 179 = .ok (.aload_n 2, 1) := by decide +kernel
theorem dL_law_180 : decode cL_law 180 = .ok (.aload_n 3, 1) := by decide +kernel
theorem dL_law_181 : decode cL_law 181 = .ok (.invokestatic 131, 3) := by decide +kernel
theorem dL_law_184 : decode cL_law 184 = .ok (.lcmp, 1) := by decide +kernel
theorem dL_law_185 : decode cL_law 185 = .ok (.ifCond .ne 23, 3) := by decide +kernel
theorem dL_law_188 : decode cL_law 188 = .ok (.iload 5, 2) := by decide +kernel
theorem dL_law_190 : decode cL_law 190 = .ok (.bipush 45, 2) := by decide +kernel
theorem dL_law_192 : decode cL_law 192 = .ok (.irem, 1) := by decide +kernel
theorem dL_law_193 : decode cL_law 193 = .ok (.ifCond .gt 11, 3) := by decide +kernel
theorem dL_law_196 : decode cL_law 196 = .ok (.aload_n 1, 1) := by decide +kernel
theorem dL_law_197 : decode cL_law 197 = .ok (.aload_n 3, 1) := by decide +kernel
theorem dL_law_198 : decode cL_law 198 = .ok (.invokestatic 137, 3) := by decide +kernel
theorem dL_law_201 : decode cL_law 201 = .ok (.ifCond .eq 7, 3) := by decide +kernel
theorem dL_law_204 : decode cL_law 204 = .ok (.iconst 1, 1) := by decide +kernel
theorem dL_law_205 : decode cL_law 205 = .ok (.goto 4, 3) := by decide +kernel
theorem dL_law_208 : decode cL_law 208 = .ok (.iconst 0, 1) := by decide +kernel
theorem dL_law_209 : decode cL_law 209 = .ok (.istore 4, 2) := by decide +kernel
theorem dL_law_211 : decode cL_law 211 = .ok (.iinc 5 1, 3) := by decide +kernel
theorem dL_law_214 : decode cL_law 214 = .ok (.goto (-183), 3) := by decide +kernel
theorem dL_law_217 : decode cL_law 217 = .ok (.iload 4, 2) := by decide +kernel
theorem dL_law_219 : decode cL_law 219 = .ok (.ifCond .eq 21, 3) := by decide +kernel
theorem dL_law_222 : decode cL_law 222 = .ok (.aload_n 1, 1) := by decide +kernel
theorem dL_law_223 : decode cL_law 223 = .ok (.aload_n 3, 1) := by decide +kernel
theorem dL_law_224 : decode cL_law 224 = .ok (.invokestatic 131, 3) := by decide +kernel
theorem dL_law_227 : decode cL_law 227 = .ok (.aload_n 2, 1) := by decide +kernel
theorem dL_law_228 : decode cL_law 228 = .ok (.aload_n 3, 1) := by decide +kernel
theorem dL_law_229 : decode cL_law 229 = .ok (.invokestatic 131, 3) := by decide +kernel
theorem dL_law_232 : decode cL_law 232 = .ok (.lcmp, 1) := by decide +kernel
theorem dL_law_233 : decode cL_law 233 = .ok (.ifCond .ne 7, 3) := by decide +kernel
theorem dL_law_236 : decode cL_law 236 = .ok (.iconst 1, 1) := by decide +kernel
theorem dL_law_237 : decode cL_law 237 = .ok (.goto 4, 3) := by decide +kernel
theorem dL_law_240 : decode cL_law 240 = .ok (.iconst 0, 1) := by decide +kernel
theorem dL_law_241 : decode cL_law 241 = .ok (.ireturn, 1) := by decide +kernel
