theorem dX12_call_380 : decode cX12_call 380 = .ok (.goto 19, 3) := by decide +kernel
theorem dX12_call_383 : decode cX12_call 383 = .ok (.aload_n 0, 1) := by decide +kernel
theorem dX12_call_384 : decode cX12_call 384 = .ok (.getfield 58, 3) := by decide +kernel
theorem dX12_call_387 : decode cX12_call 387 = .ok (.iload 5, 2) := by decide +kernel
theorem dX12_call_389 : decode cX12_call 389 = .ok (.iaload, 1) := by decide +kernel
theorem dX12_call_390 : decode cX12_call 390 = .ok (.iconst 3, 1) := by decide +kernel
theorem dX12_call_391 : decode cX12_call 391 = .ok (.if_icmp .ne 7, 3) := by decide +kernel
theorem dX12_call_394 : decode cX12_call 394 = .ok (.iconst 1, 1) := by decide +kernel
theorem dX12_call_395 : decode cX12_call 395 = .ok (.goto 4, 3) := by decide +kernel
theorem dX12_call_398 : decode cX12_call 398 = .ok (.iconst 0, 1) := by decide +kernel
theorem dX12_call_399 : decode cX12_call 399 = .ok (.bastore, 1) := by decide +kernel
theorem dX12_call_400 : decode cX12_call 400 = .ok (.aload_n 0, 1) := by decide +kernel
theorem dX12_call_401 : decode cX12_call 401 = .ok (.getfield 67, 3) := by decide +kernel
theorem dX12_call_404 : decode cX12_call 404 = .ok (.aload_n 0, 1) := by decide +kernel
theorem dX12_call_405 : decode cX12_call 405 = .ok (.getfield 330, 3) := by decide +kernel
theorem dX12_call_408 : decode cX12_call 408 = .ok (.iload 4, 2) := by decide +kernel
theorem dX12_call_410 : decode cX12_call 410 = .ok (.iastore, 1) := by decide +kernel
theorem dX12_call_411 : decode cX12_call 411 = .ok (.aload_n 0, 1) := by decide +kernel
theorem dX12_call_412 : decode cX12_call 412 = .ok (.getfield 94, 3) := by decide +kernel
theorem dX12_call_415 : decode cX12_call 415 = .ok (.aload_n 0, 1) := by decide +kernel
theorem dX12_call_416 : decode cX12_call 416 = .ok (.getfield 330, 3) := by decide +kernel
theorem dX12_call_419 : decode cX12_call 419 = .ok (.iload_n 3, 1) := by decide +kernel
theorem dX12_call_420 : decode cX12_call 420 = .ok (.iastore, 1) := by decide +kernel
theorem dX12_call_421 : decode cX12_call 421 = .ok (.aload_n 0, 1) := by decide +kernel
theorem dX12_call_422 : decode cX12_call 422 = .ok (.aload_n 0, 1) := by decide +kernel
theorem dX12_call_423 : decode cX12_call 423 = .ok (.getfield 330, 3) := by decide +kernel
theorem dX12_call_426 : decode cX12_call 426 = .ok (.iconst 1, 1) := by decide +kernel
theorem dX12_call_427 : decode cX12_call 427 = .ok (.invokestatic 307, 3) := by decide +kernel
theorem dX12_call_430 : decode cX12_call 430 = .ok (.iconst 0, 1) := by decide +kernel
theorem dX12_call_431 : decode cX12_call 431 = .ok (.iconst 0, 1) := by decide +kernel
theorem dX12_call_432 : decode cX12_call 432 = .ok (.iconst 0, 1) := by decide +kernel
theorem dX12_call_433 : decode cX12_call 433 = .ok (.iconst 0, 1) := by decide +kernel
theorem dX12_call_434 : decode cX12_call 434 = .ok (.iconst 5, 1) := by decide +kernel
theorem dX12_call_435 : decode cX12_call 435 = .ok (.iconst 1, 1) := by decide +kernel
theorem dX12_call_436 : decode cX12_call 436 = .ok (.invokevirtual 250, 3) := by decide +kernel
theorem dX12_call_439 : decode cX12_call 439 = .ok (.aload_n 0, 1) := by decide +kernel
theorem dX12_call_440 : decode cX12_call 440 = .ok (.aload_n 0, 1) := by decide +kernel
theorem dX12_call_441 : decode cX12_call 441 = .ok (.getfield 330, 3) := by decide +kernel
theorem dX12_call_444 : decode cX12_call 444 = .ok (.iload_n 3, 1) := by decide +kernel
theorem dX12_call_445 : decode cX12_call 445 = .ok (.aload_n 0, 1) := by decide +kernel
theorem dX12_call_446 : decode cX12_call 446 = .ok (.getfield 330, 3) := by decide +kernel
theorem dX12_call_449 : decode cX12_call 449 = .ok (.iconst 2, 1) := by decide +kernel
theorem dX12_call_450 : decode cX12_call 450 = .ok (.invokestatic 307, 3) := by decide +kernel
theorem dX12_call_453 : decode cX12_call 453 = .ok (.invokevirtual 313, 3) := by decide +kernel
theorem dX12_call_456 : decode cX12_call 456 = .ok (.aload_n 0, 1) := by decide +kernel
theorem dX12_call_457 : decode cX12_call 457 = .ok (.iload 4, 2) := by decide +kernel
theorem dX12_call_459 : decode cX12_call 459 = .ok (.aload_n 0, 1) := by decide +kernel
theorem dX12_call_460 : decode cX12_call 460 = .ok (.getfield 330, 3) := by decide +kernel
theorem dX12_call_463 : decode cX12_call 463 = .ok (.iconst 3, 1) := by decide +kernel
theorem dX12_call_464 : decode cX12_call 464 = .ok (.invokestatic 307, 3) := by decide +kernel
theorem dX12_call_467 : decode cX12_call 467 = .ok (.invokevirtual 316, 3) := by decide +kernel
theorem dX12_call_470 : decode cX12_call 470 = .ok (.return_, 1) := by decide +kernel
theorem dX12_empties_0 : decode cX12_empties 0 = .ok (.iconst 0, 1) := by decide +kernel
theorem dX12_empties_1 : decode cX12_empties 1 = .ok (.istore_n 1, 1) := by decide +kernel
theorem dX12_empties_2 : decode cX12_empties 2 = .ok (.iload_n 1, 1) := by decide +kernel
theorem dX12_empties_3 : decode cX12_empties 3 = .ok (.bipush 16, 2) := by decide +kernel
theorem dX12_empties_5 : decode cX12_empties 5 = .ok (.if_icmp .ge 33, 3) := by decide +kernel
theorem dX12_empties_8 : decode cX12_empties 8 = .ok (.iload_n 1, 1) := by decide +kernel
theorem dX12_empties_9 : decode cX12_empties 9 = .ok (.bipush 10, 2) := by decide +kernel
theorem dX12_empties_11 : decode cX12_empties 11 = .ok (.if_icmp .eq 21, 3) := by decide +kernel
theorem dX12_empties_14 : decode cX12_empties 14 = .ok (.iload_n 1, 1) := by decide +kernel
theorem dX12_empties_15 : decode cX12_empties 15 = .ok (.bipush 11, 2) := by decide +kernel
theorem dX12_empties_17 : decode cX12_empties 17 = .ok (.if_icmp .eq 15, 3) := by decide +kernel
theorem dX12_empties_20 : decode cX12_empties 20 = .ok (.aload_n 0, 1) := by decide +kernel
theorem dX12_empties_21 : decode cX12_empties 21 = .ok (.aload_n 0, 1) := by decide +kernel
theorem dX12_empties_22 : decode cX12_empties 22 = .ok (.getfield 330, 3) := by decide +kernel
theorem dX12_empties_25 : decode cX12_empties 25 = .ok (.iload_n 1, 1) := by decide +kernel
theorem dX12_empties_26 : decode cX12_empties 26 = .ok (.invokestatic 307, 3) := by decide +kernel
theorem dX12_empties_29 : decode cX12_empties 29 = .ok (.invokevirtual 246, 3) := by decide +kernel
theorem dX12_empties_32 : decode cX12_empties 32 = .ok (.iinc 1 1, 3) := by decide +kernel
theorem dX12_empties_35 : decode cX12_empties 35 = .ok (.goto (-33), 3) := by decide +kernel
theorem dX12_empties_38 : decode cX12_empties 38 = .ok (.return_, 1) := by decide +kernel
theorem dX12_returns_0 : decode cX12_returns 0 = .ok (.aload_n 0, 1) := by decide +kernel
theorem dX12_returns_1 : decode cX12_returns 1 = .ok (.getfield 70, 3) := by decide +kernel
theorem dX12_returns_4 : decode cX12_returns 4 = .ok (.aload_n 0, 1) := by decide +kernel
theorem dX12_returns_5 : decode cX12_returns 5 = .ok (.getfield 330, 3) := by decide +kernel
theorem dX12_returns_8 : decode cX12_returns 8 = .ok (.iaload, 1) := by decide +kernel
theorem dX12_returns_9 : decode cX12_returns 9 = .ok (.ifCond .ne 50, 3) := by decide +kernel
theorem dX12_returns_12 : decode cX12_returns 12 = .ok (.aload_n 0, 1) := by decide +kernel
theorem dX12_returns_13 : decode cX12_returns 13 = .ok (.getfield 61, 3) := by decide +kernel
theorem dX12_returns_16 : decode cX12_returns 16 = .ok (.aload_n 0, 1) := by decide +kernel
theorem dX12_returns_17 : decode cX12_returns 17 = .ok (.getfield 330, 3) := by decide +kernel
theorem dX12_returns_20 : decode cX12_returns 20 = .ok (.iconst 3, 1) := by decide +kernel
theorem dX12_returns_21 : decode cX12_returns 21 = .ok (.iastore, 1) := by decide +kernel
theorem dX12_returns_22 : decode cX12_returns 22 = .ok (.aload_n 0, 1) := by decide +kernel
theorem dX12_returns_23 : decode cX12_returns 23 = .ok (.getfield 64, 3) := by decide +kernel
theorem dX12_returns_26 : decode cX12_returns 26 = .ok (.aload_n 0, 1) := by decide +kernel
theorem dX12_returns_27 : decode cX12_returns 27 = .ok (.getfield 330, 3) := by decide +kernel
theorem dX12_returns_30 : decode cX12_returns 30 = .ok (.iconst (-1), 1) := by decide +kernel
theorem dX12_returns_31 : decode cX12_returns 31 = .ok (.iastore, 1) := by decide +kernel
theorem dX12_returns_32 : decode cX12_returns 32 = .ok (.iconst 0, 1) := by decide +kernel
theorem dX12_returns_33 : decode cX12_returns 33 = .ok (.istore_n 1, 1) := by decide +kernel
theorem dX12_returns_34 : decode cX12_returns 34 = .ok (.iload_n 1, 1) := by decide +kernel
theorem dX12_returns_35 : decode cX12_returns 35 = .ok (.bipush 16, 2) := by decide +kernel
theorem dX12_returns_37 : decode cX12_returns 37 = .ok (.if_icmp .gt 21, 3) := by decide +kernel
theorem dX12_returns_40 : decode cX12_returns 40 = .ok (.aload_n 0, 1) := by decide +kernel
theorem dX12_returns_41 : decode cX12_returns 41 = .ok (.aload_n 0, 1) := by decide +kernel
theorem dX12_returns_42 : decode cX12_returns 42 = .ok (.getfield 330, 3) := by decide +kernel
theorem dX12_returns_45 : decode cX12_returns 45 = .ok (.iload_n 1, 1) := by decide +kernel
theorem dX12_returns_46 : decode cX12_returns 46 = .ok (.invokestatic 307, 3) := by decide +kernel
theorem dX12_returns_49 : decode cX12_returns 49 = .ok (.invokevirtual 246, 3) := by decide +kernel
theorem dX12_returns_52 : decode cX12_returns 52 = .ok (.iinc 1 1, 3) := by decide +kernel
theorem dX12_returns_55 : decode cX12_returns 55 = .ok (.goto (-21), 3) := by decide +kernel
theorem dX12_returns_58 : decode cX12_returns 58 = .ok (.return_, 1) := by decide +kernel
theorem dX12_returns_59 : decode cX12_returns 59 = .ok (.aload_n 0, 1) := by decide +kernel
theorem dX12_returns_60 : decode cX12_returns 60 = .ok (.getfield 70, 3) := by decide +kernel
theorem dX12_returns_63 : decode cX12_returns 63 = .ok (.aload_n 0, 1) := by decide +kernel
theorem dX12_returns_64 : decode cX12_returns 64 = .ok (.getfield 330, 3) := by decide +kernel
theorem dX12_returns_67 : decode cX12_returns 67 = .ok (.dup2, 1) := by decide +kernel
theorem dX12_returns_68 : decode cX12_returns 68 = .ok (.iaload, 1) := by decide +kernel
theorem dX12_returns_69 : decode cX12_returns 69 = .ok (.iconst 1, 1) := by decide +kernel
theorem dX12_returns_70 : decode cX12_returns 70 = .ok (.isub, 1) := by decide +kernel
theorem dX12_returns_71 : decode cX12_returns 71 = .ok (.iastore, 1) := by decide +kernel
theorem dX12_returns_72 : decode cX12_returns 72 = .ok (.aload_n 0, 1) := by decide +kernel
theorem dX12_returns_73 : decode cX12_returns 73 = .ok (.getfield 70, 3) := by decide +kernel
theorem dX12_returns_76 : decode cX12_returns 76 = .ok (.aload_n 0, 1) := by decide +kernel
theorem dX12_returns_77 : decode cX12_returns 77 = .ok (.getfield 330, 3) := by decide +kernel
theorem dX12_returns_80 : decode cX12_returns 80 = .ok (.iaload, 1) := by decide +kernel
theorem dX12_returns_81 : decode cX12_returns 81 = .ok (.istore_n 1, 1) := by decide +kernel
theorem dX12_returns_82 : decode cX12_returns 82 = .ok (.aload_n 0, 1) := by decide +kernel
theorem dX12_returns_83 : decode cX12_returns 83 = .ok (.invokevirtual 462, 3) := by decide +kernel
theorem dX12_returns_86 : decode cX12_returns 86 = .ok (.aload_n 0, 1) := by decide +kernel
theorem dX12_returns_87 : decode cX12_returns 87 = .ok (.aload_n 0, 1) := by decide +kernel
theorem dX12_returns_88 : decode cX12_returns 88 = .ok (.getfield 330, 3) := by decide +kernel
theorem dX12_returns_91 : decode cX12_returns 91 = .ok (.iload_n 1, 1) := by decide +kernel
theorem dX12_returns_92 : decode cX12_returns 92 = .ok (.iconst 0, 1) := by decide +kernel
theorem dX12_returns_93 : decode cX12_returns 93 = .ok (.invokestatic 456, 3) := by decide +kernel
theorem dX12_returns_96 : decode cX12_returns 96 = .ok (.aload_n 0, 1) := by decide +kernel
theorem dX12_returns_97 : decode cX12_returns 97 = .ok (.invokevirtual 339, 3) := by decide +kernel
theorem dX12_returns_100 : decode cX12_returns 100 = .ok (.invokevirtual 336, 3) := by decide +kernel
theorem dX12_returns_103 : decode cX12_returns 103 = .ok (.aload_n 0, 1) := by decide +kernel
theorem dX12_returns_104 : decode cX12_returns 104 = .ok (.aload_n 0, 1) := by decide +kernel
theorem dX12_returns_105 : decode cX12_returns 105 = .ok (.getfield 330, 3) := by decide +kernel
theorem dX12_returns_108 : decode cX12_returns 108 = .ok (.iload_n 1, 1) := by decide +kernel
theorem dX12_returns_109 : decode cX12_returns 109 = .ok (.iconst 1, 1) := by decide +kernel
theorem dX12_returns_110 : decode cX12_returns 110 = .ok (.invokestatic 456, 3) := by decide +kernel
theorem dX12_returns_113 : decode cX12_returns 113 = .ok (.aload_n 0, 1) := by decide +kernel
theorem dX12_returns_114 : decode cX12_returns 114 = .ok (.getfield 330, 3) := by decide +kernel
theorem dX12_returns_117 : decode cX12_returns 117 = .ok (.iconst 2, 1) := by decide +kernel
theorem dX12_returns_118 : decode cX12_returns 118 = .ok (.invokestatic 307, 3) := by decide +kernel
theorem dX12_returns_121 : decode cX12_returns 121 = .ok (.invokevirtual 336, 3) := by decide +kernel
theorem dX12_returns_124 : decode cX12_returns 124 = .ok (.aload_n 0, 1) := by decide +kernel
theorem dX12_returns_125 : decode cX12_returns 125 = .ok (.aload_n 0, 1) := by decide +kernel
theorem dX12_returns_126 : decode cX12_returns 126 = .ok (.getfield 330, 3) := by decide +kernel
theorem dX12_returns_129 : decode cX12_returns 129 = .ok (.iload_n 1, 1) := by decide +kernel
theorem dX12_returns_130 : decode cX12_returns 130 = .ok (.iconst 2, 1) := by decide +kernel
theorem dX12_returns_131 : decode cX12_returns 131 = .ok (.invokestatic 456, 3) := by decide +kernel
theorem dX12_returns_134 : decode cX12_returns 134 = .ok (.aload_n 0, 1) := by decide +kernel
theorem dX12_returns_135 : decode cX12_returns 135 = .ok (.getfield 330, 3) := by decide +kernel
theorem dX12_returns_138 : decode cX12_returns 138 = .ok (.iconst 3, 1) := by decide +kernel
theorem dX12_returns_139 : decode cX12_returns 139 = .ok (.invokestatic 307, 3) := by decide +kernel
theorem dX12_returns_142 : decode cX12_returns 142 = .ok (.invokevirtual 336, 3) := by decide +kernel
theorem dX12_returns_145 : decode cX12_returns 145 = .ok (.aload_n 0, 1) := by decide +kernel
theorem dX12_returns_146 : decode cX12_returns 146 = .ok (.aload_n 0, 1) := by decide +kernel
theorem dX12_returns_147 : decode cX12_returns 147 = .ok (.getfield 330, 3) := by decide +kernel
theorem dX12_returns_150 : decode cX12_returns 150 = .ok (.iload_n 1, 1) := by decide +kernel
theorem dX12_returns_151 : decode cX12_returns 151 = .ok (.iconst 3, 1) := by decide +kernel
theorem dX12_returns_152 : decode cX12_returns 152 = .ok (.invokestatic 456, 3) := by decide +kernel
theorem dX12_returns_155 : decode cX12_returns 155 = .ok (.aload_n 0, 1) := by decide +kernel
theorem dX12_returns_156 : decode cX12_returns 156 = .ok (.getfield 330, 3) := by decide +kernel
theorem dX12_returns_159 : decode cX12_returns 159 = .ok (.bipush 8, 2) := by decide +kernel
theorem dX12_returns_161 : decode cX12_returns 161 = .ok (.invokestatic 307, 3) := by decide +kernel
theorem dX12_returns_164 : decode cX12_returns 164 = .ok (.invokevirtual 336, 3) := by decide +kernel
theorem dX12_returns_167 : decode cX12_returns 167 = .ok (.aload_n 0, 1) := by decide +kernel
theorem dX12_returns_168 : decode cX12_returns 168 = .ok (.aload_n 0, 1) := by decide +kernel
theorem dX12_returns_169 : decode cX12_returns 169 = .ok (.getfield 330, 3) := by decide +kernel
theorem dX12_returns_172 : decode cX12_returns 172 = .ok (.iload_n 1, 1) := by decide +kernel
theorem dX12_returns_173 : decode cX12_returns 173 = .ok (.iconst 4, 1) := by decide +kernel
theorem dX12_returns_174 : decode cX12_returns 174 = .ok (.invokestatic 456, 3) := by decide +kernel
theorem dX12_returns_177 : decode cX12_returns 177 = .ok (.aload_n 0, 1) := by decide +kernel
theorem dX12_returns_178 : decode cX12_returns 178 = .ok (.getfield 330, 3) := by decide +kernel
theorem dX12_returns_181 : decode cX12_returns 181 = .ok (.bipush 9, 2) := by decide +kernel
theorem dX12_returns_183 : decode cX12_returns 183 = .ok (.invokestatic 307, 3) := by decide +kernel
theorem dX12_returns_186 : decode cX12_returns 186 = .ok (.invokevirtual 336, 3) := by decide +kernel
theorem dX12_returns_189 : decode cX12_returns 189 = .ok (.iconst 0, 1) := by decide +kernel
theorem dX12_returns_190 : decode cX12_returns 190 = .ok (.istore_n 2, 1) := by decide +kernel
theorem dX12_returns_191 : decode cX12_returns 191 = .ok (.iload_n 2, 1) := by decide +kernel
theorem dX12_returns_192 : decode cX12_returns 192 = .ok (.iconst 5, 1) := by decide +kernel
theorem dX12_returns_193 : decode cX12_returns 193 = .ok (.if_icmp .ge 22, 3) := by decide +kernel
theorem dX12_returns_196 : decode cX12_returns 196 = .ok (.aload_n 0, 1) := by decide +kernel
theorem dX12_returns_197 : decode cX12_returns 197 = .ok (.aload_n 0, 1) := by decide +kernel
theorem dX12_returns_198 : decode cX12_returns 198 = .ok (.getfield 330, 3) := by decide +kernel
theorem dX12_returns_201 : decode cX12_returns 201 = .ok (.iload_n 1, 1) := by decide +kernel
theorem dX12_returns_202 : decode cX12_returns 202 = .ok (.iload_n 2, 1) := by decide +kernel
theorem dX12_returns_203 : decode cX12_returns 203 = .ok (.invokestatic 456, 3) := by decide +kernel
theorem dX12_returns_206 : decode cX12_returns 206 = .ok (.invokevirtual 246, 3) := by decide +kernel
theorem dX12_returns_209 : decode cX12_returns 209 = .ok (.iinc 2 1, 3) := by decide +kernel
theorem dX12_returns_212 : decode cX12_returns 212 = .ok (.goto (-21), 3) := by decide +kernel
theorem dX12_returns_215 : decode cX12_returns 215 = .ok (.aload_n 0, 1) := by decide +kernel
theorem dX12_returns_216 : decode cX12_returns 216 = .ok (.aload_n 0, 1) := by decide +kernel
theorem dX12_returns_217 : decode cX12_returns 217 = .ok (.invokevirtual 339, 3) := by decide +kernel
theorem dX12_returns_220 : decode cX12_returns 220 = .ok (.invokevirtual 417, 3) := by decide +kernel
theorem dX12_returns_223 : decode cX12_returns 223 = .ok (.aload_n 0, 1) := by decide +kernel
theorem dX12_returns_224 : decode cX12_returns 224 = .ok (.aload_n 0, 1) := by decide +kernel
theorem dX12_returns_225 : decode cX12_returns 225 = .ok (.getfield 330, 3) := by decide +kernel
theorem dX12_returns_228 : decode cX12_returns 228 = .ok (.iconst 2, 1) := by decide +kernel
theorem dX12_returns_229 : decode cX12_returns 229 = .ok (.invokestatic 307, 3) := by decide +kernel
theorem dX12_returns_232 : decode cX12_returns 232 = .ok (.invokevirtual 417, 3) := by decide +kernel
theorem dX12_returns_235 : decode cX12_returns 235 = .ok (.aload_n 0, 1) := by decide +kernel
theorem dX12_returns_236 : decode cX12_returns 236 = .ok (.aload_n 0, 1) := by decide +kernel
theorem dX12_returns_237 : decode cX12_returns 237 = .ok (.getfield 330, 3) := by decide +kernel
theorem dX12_returns_240 : decode cX12_returns 240 = .ok (.iconst 3, 1) := by decide +kernel
theorem dX12_returns_241 : decode cX12_returns 241 = .ok (.invokestatic 307, 3) := by decide +kernel
theorem dX12_returns_244 : decode cX12_returns 244 = .ok (.invokevirtual 417, 3) := by decide +kernel
theorem dX12_returns_247 : decode cX12_returns 247 = .ok (.aload_n 0, 1) := by decide +kernel
theorem dX12_returns_248 : decode cX12_returns 248 = .ok (.aload_n 0, 1) := by decide +kernel
theorem dX12_returns_249 : decode cX12_returns 249 = .ok (.getfield 330, 3) := by decide +kernel
theorem dX12_returns_252 : decode cX12_returns 252 = .ok (.bipush 8, 2) := by decide +kernel
theorem dX12_returns_254 : decode cX12_returns 254 = .ok (.invokestatic 307, 3) := by decide +kernel
theorem dX12_returns_257 : decode cX12_returns 257 = .ok (.invokevirtual 417, 3) := by decide +kernel
theorem dX12_returns_260 : decode cX12_returns 260 = .ok (.aload_n 0, 1) := by decide +kernel
theorem dX12_returns_261 : decode cX12_returns 261 = .ok (.aload_n 0, 1) := by decide +kernel
theorem dX12_returns_262 : decode cX12_returns 262 = .ok (.getfield 330, 3) := by decide +kernel
theorem dX12_returns_265 : decode cX12_returns 265 = .ok (.bipush 9, 2) := by decide +kernel
theorem dX12_returns_267 : decode cX12_returns 267 = .ok (.invokestatic 307, 3) := by decide +kernel
theorem dX12_returns_270 : decode cX12_returns 270 = .ok (.invokevirtual 417, 3) := by decide +kernel
theorem dX12_returns_273 : decode cX12_returns 273 = .ok (.aload_n 0, 1) := by decide +kernel
theorem dX12_returns_274 : decode cX12_returns 274 = .ok (.getfield 67, 3) := by decide +kernel
theorem dX12_returns_277 : decode cX12_returns 277 = .ok (.aload_n 0, 1) := by decide +kernel
theorem dX12_returns_278 : decode cX12_returns 278 = .ok (.getfield 330, 3) := by decide +kernel
theorem dX12_returns_281 : decode cX12_returns 281 = .ok (.aload_n 0, 1) := by decide +kernel
theorem dX12_returns_282 : decode cX12_returns 282 = .ok (.getfield 112, 3) := by decide +kernel
theorem dX12_returns_285 : decode cX12_returns 285 = .ok (.bipush 16, 2) := by decide +kernel
theorem dX12_returns_287 : decode cX12_returns 287 = .ok (.aload_n 0, 1) := by decide +kernel
theorem dX12_returns_288 : decode cX12_returns 288 = .ok (.getfield 330, 3) := by decide +kernel
theorem dX12_returns_291 : decode cX12_returns 291 = .ok (.imul, 1) := by decide +kernel
theorem dX12_returns_292 : decode cX12_returns 292 = .ok (.iload_n 1, 1) := by decide +kernel
theorem dX12_returns_293 : decode cX12_returns 293 = .ok (.iadd, 1) := by decide +kernel
theorem dX12_returns_294 : decode cX12_returns 294 = .ok (.iaload, 1) := by decide +kernel
theorem dX12_returns_295 : decode cX12_returns 295 = .ok (.iastore, 1) := by decide +kernel
theorem dX12_returns_296 : decode cX12_returns 296 = .ok (.aload_n 0, 1) := by decide +kernel
theorem dX12_returns_297 : decode cX12_returns 297 = .ok (.getfield 76, 3) := by decide +kernel
theorem dX12_returns_300 : decode cX12_returns 300 = .ok (.aload_n 0, 1) := by decide +kernel
theorem dX12_returns_301 : decode cX12_returns 301 = .ok (.getfield 330, 3) := by decide +kernel
theorem dX12_returns_304 : decode cX12_returns 304 = .ok (.aload_n 0, 1) := by decide +kernel
theorem dX12_returns_305 : decode cX12_returns 305 = .ok (.getfield 115, 3) := by decide +kernel
theorem dX12_returns_308 : decode cX12_returns 308 = .ok (.bipush 16, 2) := by decide +kernel
theorem dX12_returns_310 : decode cX12_returns 310 = .ok (.aload_n 0, 1) := by decide +kernel
theorem dX12_returns_311 : decode cX12_returns 311 = .ok (.getfield 330, 3) := by decide +kernel
theorem dX12_returns_314 : decode cX12_returns 314 = .ok (.imul, 1) := by decide +kernel
theorem dX12_returns_315 : decode cX12_returns 315 = .ok (.iload_n 1, 1) := by decide +kernel
theorem dX12_returns_316 : decode cX12_returns 316 = .ok (.iadd, 1) := by decide +kernel
theorem dX12_returns_317 : decode cX12_returns 317 = .ok (.baload, 1) := by decide +kernel
theorem dX12_returns_318 : decode cX12_returns 318 = .ok (.bastore, 1) := by decide +kernel
theorem dX12_returns_319 : decode cX12_returns 319 = .ok (.aload_n 0, 1) := by decide +kernel
theorem dX12_returns_320 : decode cX12_returns 320 = .ok (.getfield 94, 3) := by decide +kernel
theorem dX12_returns_323 : decode cX12_returns 323 = .ok (.aload_n 0, 1) := by decide +kernel
theorem dX12_returns_324 : decode cX12_returns 324 = .ok (.getfield 330, 3) := by decide +kernel
theorem dX12_returns_327 : decode cX12_returns 327 = .ok (.aload_n 0, 1) := by decide +kernel
theorem dX12_returns_328 : decode cX12_returns 328 = .ok (.getfield 118, 3) := by decide +kernel
theorem dX12_returns_331 : decode cX12_returns 331 = .ok (.bipush 16, 2) := by decide +kernel
theorem dX12_returns_333 : decode cX12_returns 333 = .ok (.aload_n 0, 1) := by decide +kernel
theorem dX12_returns_334 : decode cX12_returns 334 = .ok (.getfield 330, 3) := by decide +kernel
theorem dX12_returns_337 : decode cX12_returns 337 = .ok (.imul, 1) := by decide +kernel
theorem dX12_returns_338 : decode cX12_returns 338 = .ok (.iload_n 1, 1) := by decide +kernel
theorem dX12_returns_339 : decode cX12_returns 339 = .ok (.iadd, 1) := by decide +kernel
theorem dX12_returns_340 : decode cX12_returns 340 = .ok (.iaload, 1) := by decide +kernel
theorem dX12_returns_341 : decode cX12_returns 341 = .ok (.iastore, 1) := by decide +kernel
theorem dX12_returns_342 : decode cX12_returns 342 = .ok (.aload_n 0, 1) := by decide +kernel
theorem dX12_returns_343 : decode cX12_returns 343 = .ok (.aload_n 0, 1) := by decide +kernel
theorem dX12_returns_344 : decode cX12_returns 344 = .ok (.getfield 88, 3) := by decide +kernel
theorem dX12_returns_347 : decode cX12_returns 347 = .ok (.aload_n 0, 1) := by decide +kernel
theorem dX12_returns_348 : decode cX12_returns 348 = .ok (.getfield 330, 3) := by decide +kernel
theorem dX12_returns_351 : decode cX12_returns 351 = .ok (.iaload, 1) := by decide +kernel
theorem dX12_returns_352 : decode cX12_returns 352 = .ok (.aload_n 0, 1) := by decide +kernel
theorem dX12_returns_353 : decode cX12_returns 353 = .ok (.getfield 7, 3) := by decide +kernel
theorem dX12_returns_356 : decode cX12_returns 356 = .ok (.aload_n 0, 1) := by decide +kernel
theorem dX12_returns_357 : decode cX12_returns 357 = .ok (.getfield 330, 3) := by decide +kernel
theorem dX12_returns_360 : decode cX12_returns 360 = .ok (.iconst 2, 1) := by decide +kernel
theorem dX12_returns_361 : decode cX12_returns 361 = .ok (.invokestatic 307, 3) := by decide +kernel
theorem dX12_returns_364 : decode cX12_returns 364 = .ok (.iaload, 1) := by decide +kernel
theorem dX12_returns_365 : decode cX12_returns 365 = .ok (.invokevirtual 459, 3) := by decide +kernel
theorem dX12_returns_368 : decode cX12_returns 368 = .ok (.return_, 1) := by decide +kernel
theorem dX12_answers_0 : decode cX12_answers 0 = .ok (.aload_n 0, 1) := by decide +kernel
theorem dX12_answers_1 : decode cX12_answers 1 = .ok (.aload_n 0, 1) := by decide +kernel
theorem dX12_answers_2 : decode cX12_answers 2 = .ok (.getfield 330, 3) := by decide +kernel
theorem dX12_answers_5 : decode cX12_answers 5 = .ok (.bipush 10, 2) := by decide +kernel
theorem dX12_answers_7 : decode cX12_answers 7 = .ok (.invokestatic 307, 3) := by decide +kernel
theorem dX12_answers_10 : decode cX12_answers 10 = .ok (.iload_n 1, 1) := by decide +kernel
theorem dX12_answers_11 : decode cX12_answers 11 = .ok (.invokevirtual 333, 3) := by decide +kernel
theorem dX12_answers_14 : decode cX12_answers 14 = .ok (.return_, 1) := by decide +kernel
theorem dX12_service_0 : decode cX12_service 0 = .ok (.aload_n 0, 1) := by decide +kernel
theorem dX12_service_1 : decode cX12_service 1 = .ok (.dup, 1) := by decide +kernel
theorem dX12_service_2 : decode cX12_service 2 = .ok (.getfield 213, 3) := by decide +kernel
theorem dX12_service_5 : decode cX12_service 5 = .ok (.iconst 1, 1) := by decide +kernel
theorem dX12_service_6 : decode cX12_service 6 = .ok (.iadd, 1) := by decide +kernel
theorem dX12_service_7 : decode cX12_service 7 = .ok (.putfield 213, 3) := by decide +kernel
theorem dX12_service_10 : decode cX12_service 10 = .ok (.aload_n 0, 1) := by decide +kernel
theorem dX12_service_11 : decode cX12_service 11 = .ok (.getfield 7, 3) := by decide +kernel
theorem dX12_service_14 : decode cX12_service 14 = .ok (.aload_n 0, 1) := by decide +kernel
theorem dX12_service_15 : decode cX12_service 15 = .ok (.getfield 330, 3) := by decide +kernel
theorem dX12_service_18 : decode cX12_service 18 = .ok (.bipush 10, 2) := by decide +kernel
theorem dX12_service_20 : decode cX12_service 20 = .ok (.invokestatic 307, 3) := by decide +kernel
theorem dX12_service_23 : decode cX12_service 23 = .ok (.iaload, 1) := by decide +kernel
theorem dX12_service_24 : decode cX12_service 24 = .ok (.istore_n 2, 1) := by decide +kernel
theorem dX12_service_25 : decode cX12_service 25 = .ok (.aload_n 0, 1) := by decide +kernel
theorem dX12_service_26 : decode cX12_service 26 = .ok (.getfield 7, 3) := by decide +kernel
theorem dX12_service_29 : decode cX12_service 29 = .ok (.aload_n 0, 1) := by decide +kernel
theorem dX12_service_30 : decode cX12_service 30 = .ok (.getfield 330, 3) := by decide +kernel
theorem dX12_service_33 : decode cX12_service 33 = .ok (.bipush 11, 2) := by decide +kernel
theorem dX12_service_35 : decode cX12_service 35 = .ok (.invokestatic 307, 3) := by decide +kernel
theorem dX12_service_38 : decode cX12_service 38 = .ok (.iaload, 1) := by decide +kernel
theorem dX12_service_39 : decode cX12_service 39 = .ok (.istore_n 3, 1) := by decide +kernel
theorem dX12_service_40 : decode cX12_service 40 = .ok (.aload_n 0, 1) := by decide +kernel
theorem dX12_service_41 : decode cX12_service 41 = .ok (.getfield 7, 3) := by decide +kernel
theorem dX12_service_44 : decode cX12_service 44 = .ok (.aload_n 0, 1) := by decide +kernel
theorem dX12_service_45 : decode cX12_service 45 = .ok (.getfield 330, 3) := by decide +kernel
theorem dX12_service_48 : decode cX12_service 48 = .ok (.bipush 12, 2) := by decide +kernel
theorem dX12_service_50 : decode cX12_service 50 = .ok (.invokestatic 307, 3) := by decide +kernel
theorem dX12_service_53 : decode cX12_service 53 = .ok (.iaload, 1) := by decide +kernel
theorem dX12_service_54 : decode cX12_service 54 = .ok (.istore 4, 2) := by decide +kernel
theorem dX12_service_56 : decode cX12_service 56 = .ok (.aload_n 0, 1) := by decide +kernel
theorem dX12_service_57 : decode cX12_service 57 = .ok (.aload_n 0, 1) := by decide +kernel
theorem dX12_service_58 : decode cX12_service 58 = .ok (.getfield 330, 3) := by decide +kernel
theorem dX12_service_61 : decode cX12_service 61 = .ok (.bipush 10, 2) := by decide +kernel
theorem dX12_service_63 : decode cX12_service 63 = .ok (.invokestatic 307, 3) := by decide +kernel
theorem dX12_service_66 : decode cX12_service 66 = .ok (.sipush 584, 3) := by decide +kernel
theorem dX12_service_69 : decode cX12_service 69 = .ok (.invokevirtual 336, 3) := by decide +kernel
theorem dX12_service_72 : decode cX12_service 72 = .ok (.iconst 0, 1) := by decide +kernel
theorem dX12_service_73 : decode cX12_service 73 = .ok (.istore 5, 2) := by decide +kernel
theorem dX12_service_75 : decode cX12_service 75 = .ok (.iload 5, 2) := by decide +kernel
theorem dX12_service_77 : decode cX12_service 77 = .ok (.bipush 16, 2) := by decide +kernel
theorem dX12_service_79 : decode cX12_service 79 = .ok (.if_icmp .ge 60, 3) := by decide +kernel
theorem dX12_service_82 : decode cX12_service 82 = .ok (.iload 5, 2) := by decide +kernel
theorem dX12_service_84 : decode cX12_service 84 = .ok (.iconst 2, 1) := by decide +kernel
theorem dX12_service_85 : decode cX12_service 85 = .ok (.if_icmp .eq 23, 3) := by decide +kernel
theorem dX12_service_88 : decode cX12_service 88 = .ok (.iload 5, 2) := by decide +kernel
theorem dX12_service_90 : decode cX12_service 90 = .ok (.iconst 3, 1) := by decide +kernel
theorem dX12_service_91 : decode cX12_service 91 = .ok (.if_icmp .eq 17, 3) := by decide +kernel
theorem dX12_service_94 : decode cX12_service 94 = .ok (.iload 5, 2) := by decide +kernel
theorem dX12_service_96 : decode cX12_service 96 = .ok (.bipush 8, 2) := by decide +kernel
theorem dX12_service_98 : decode cX12_service 98 = .ok (.if_icmp .eq 10, 3) := by decide +kernel
theorem dX12_service_101 : decode cX12_service 101 = .ok (.iload 5, 2) := by decide +kernel
theorem dX12_service_103 : decode cX12_service 103 = .ok (.bipush 9, 2) := by decide +kernel
theorem dX12_service_105 : decode cX12_service 105 = .ok (.if_icmp .ne 7, 3) := by decide +kernel
theorem dX12_service_108 : decode cX12_service 108 = .ok (.iconst 1, 1) := by decide +kernel
theorem dX12_service_109 : decode cX12_service 109 = .ok (.goto 4, 3) := by decide +kernel
theorem dX12_service_112 : decode cX12_service 112 = .ok (.iconst 0, 1) := by decide +kernel
theorem dX12_service_113 : decode cX12_service 113 = .ok (.istore 6, 2) := by decide +kernel
theorem dX12_service_115 : decode cX12_service 115 = .ok (.iload 6, 2) := by decide +kernel
theorem dX12_service_117 : decode cX12_service 117 = .ok (.ifCond .ne 16, 3) := by decide +kernel
theorem dX12_service_120 : decode cX12_service 120 = .ok (.aload_n 0, 1) := by decide +kernel
theorem dX12_service_121 : decode cX12_service 121 = .ok (.aload_n 0, 1) := by decide +kernel
theorem dX12_service_122 : decode cX12_service 122 = .ok (.getfield 330, 3) := by decide +kernel
theorem dX12_service_125 : decode cX12_service 125 = .ok (.iload 5, 2) := by decide +kernel
theorem dX12_service_127 : decode cX12_service 127 = .ok (.invokestatic 307, 3) := by decide +kernel
theorem dX12_service_130 : decode cX12_service 130 = .ok (.invokevirtual 246, 3) := by decide +kernel
theorem dX12_service_133 : decode cX12_service 133 = .ok (.iinc 5 1, 3) := by decide +kernel
theorem dX12_service_136 : decode cX12_service 136 = .ok (.goto (-61), 3) := by decide +kernel
theorem dX12_service_139 : decode cX12_service 139 = .ok (.aload_n 0, 1) := by decide +kernel
theorem dX12_service_140 : decode cX12_service 140 = .ok (.iload_n 1, 1) := by decide +kernel
theorem dX12_service_141 : decode cX12_service 141 = .ok (.iload_n 2, 1) := by decide +kernel
theorem dX12_service_142 : decode cX12_service 142 = .ok (.iload_n 3, 1) := by decide +kernel
theorem dX12_service_143 : decode cX12_service 143 = .ok (.iload 4, 2) := by decide +kernel
theorem dX12_service_145 : decode cX12_service 145 = .ok (.invokevirtual 465, 3) := by decide +kernel
theorem dX12_service_148 : decode cX12_service 148 = .ok (.aload_n 0, 1) := by decide +kernel
theorem dX12_service_149 : decode cX12_service 149 = .ok (.aload_n 0, 1) := by decide +kernel
theorem dX12_service_150 : decode cX12_service 150 = .ok (.invokevirtual 339, 3) := by decide +kernel
theorem dX12_service_153 : decode cX12_service 153 = .ok (.invokevirtual 417, 3) := by decide +kernel
theorem dX12_service_156 : decode cX12_service 156 = .ok (.aload_n 0, 1) := by decide +kernel
theorem dX12_service_157 : decode cX12_service 157 = .ok (.aload_n 0, 1) := by decide +kernel
theorem dX12_service_158 : decode cX12_service 158 = .ok (.getfield 330, 3) := by decide +kernel
theorem dX12_service_161 : decode cX12_service 161 = .ok (.iconst 2, 1) := by decide +kernel
theorem dX12_service_162 : decode cX12_service 162 = .ok (.invokestatic 307, 3) := by decide +kernel
theorem dX12_service_165 : decode cX12_service 165 = .ok (.invokevirtual 417, 3) := by decide +kernel
theorem dX12_service_168 : decode cX12_service 168 = .ok (.aload_n 0, 1) := by decide +kernel
theorem dX12_service_169 : decode cX12_service 169 = .ok (.aload_n 0, 1) := by decide +kernel
theorem dX12_service_170 : decode cX12_service 170 = .ok (.getfield 330, 3) := by decide +kernel
theorem dX12_service_173 : decode cX12_service 173 = .ok (.iconst 3, 1) := by decide +kernel
theorem dX12_service_174 : decode cX12_service 174 = .ok (.invokestatic 307, 3) := by decide +kernel
theorem dX12_service_177 : decode cX12_service 177 = .ok (.invokevirtual 417, 3) := by decide +kernel
theorem dX12_service_180 : decode cX12_service 180 = .ok (.aload_n 0, 1) := by decide +kernel
theorem dX12_service_181 : decode cX12_service 181 = .ok (.aload_n 0, 1) := by decide +kernel
theorem dX12_service_182 : decode cX12_service 182 = .ok (.getfield 330, 3) := by decide +kernel
theorem dX12_service_185 : decode cX12_service 185 = .ok (.bipush 8, 2) := by decide +kernel
theorem dX12_service_187 : decode cX12_service 187 = .ok (.invokestatic 307, 3) := by decide +kernel
theorem dX12_service_190 : decode cX12_service 190 = .ok (.invokevirtual 417, 3) := by decide +kernel
theorem dX12_service_193 : decode cX12_service 193 = .ok (.aload_n 0, 1) := by decide +kernel
theorem dX12_service_194 : decode cX12_service 194 = .ok (.aload_n 0, 1) := by decide +kernel
theorem dX12_service_195 : decode cX12_service 195 = .ok (.getfield 330, 3) := by decide +kernel
theorem dX12_service_198 : decode cX12_service 198 = .ok (.bipush 9, 2) := by decide +kernel
theorem dX12_service_200 : decode cX12_service 200 = .ok (.invokestatic 307, 3) := by decide +kernel
theorem dX12_service_203 : decode cX12_service 203 = .ok (.invokevirtual 417, 3) := by decide +kernel
theorem dX12_service_206 : decode cX12_service 206 = .ok (.return_, 1) := by decide +kernel
theorem dX12_serves_0 : decode cX12_serves 0 = .ok (.iload_n 1, 1) := by decide +kernel
theorem dX12_serves_1 : decode cX12_serves 1 = .ok (.tableswitch 211 0 7 #[47, 55, 77, 90, 136, 149, 187, 200], 47) := by decide +kernel
theorem dX12_serves_48 : decode cX12_serves 48 = .ok (.aload_n 0, 1) := by decide +kernel
theorem dX12_serves_49 : decode cX12_serves 49 = .ok (.iload_n 2, 1) := by decide +kernel
theorem dX12_serves_50 : decode cX12_serves 50 = .ok (.invokevirtual 469, 3) := by decide +kernel
theorem dX12_serves_53 : decode cX12_serves 53 = .ok (.goto 167, 3) := by decide +kernel
theorem dX12_serves_56 : decode cX12_serves 56 = .ok (.aload_n 0, 1) := by decide +kernel
theorem dX12_serves_57 : decode cX12_serves 57 = .ok (.aload_n 0, 1) := by decide +kernel
theorem dX12_serves_58 : decode cX12_serves 58 = .ok (.sipush 584, 3) := by decide +kernel
theorem dX12_serves_61 : decode cX12_serves 61 = .ok (.invokevirtual 472, 3) := by decide +kernel
theorem dX12_serves_64 : decode cX12_serves 64 = .ok (.ifCond .eq 7, 3) := by decide +kernel
theorem dX12_serves_67 : decode cX12_serves 67 = .ok (.iconst 0, 1) := by decide +kernel
theorem dX12_serves_68 : decode cX12_serves 68 = .ok (.goto 4, 3) := by decide +kernel
theorem dX12_serves_71 : decode cX12_serves 71 = .ok (.iconst (-1), 1) := by decide +kernel
theorem dX12_serves_72 : decode cX12_serves 72 = .ok (.invokevirtual 475, 3) := by decide +kernel
theorem dX12_serves_75 : decode cX12_serves 75 = .ok (.goto 145, 3) := by decide +kernel
theorem dX12_serves_78 : decode cX12_serves 78 = .ok (.aload_n 0, 1) := by decide +kernel
theorem dX12_serves_79 : decode cX12_serves 79 = .ok (.iconst 0, 1) := by decide +kernel
theorem dX12_serves_80 : decode cX12_serves 80 = .ok (.invokevirtual 475, 3) := by decide +kernel
theorem dX12_serves_83 : decode cX12_serves 83 = .ok (.aload_n 0, 1) := by decide +kernel
theorem dX12_serves_84 : decode cX12_serves 84 = .ok (.iconst (-1), 1) := by decide +kernel
theorem dX12_serves_85 : decode cX12_serves 85 = .ok (.putfield 204, 3) := by decide +kernel
theorem dX12_serves_88 : decode cX12_serves 88 = .ok (.goto 132, 3) := by decide +kernel
theorem dX12_serves_91 : decode cX12_serves 91 = .ok (.aload_n 0, 1) := by decide +kernel
theorem dX12_serves_92 : decode cX12_serves 92 = .ok (.iload_n 2, 1) := by decide +kernel
theorem dX12_serves_93 : decode cX12_serves 93 = .ok (.iconst 1, 1) := by decide +kernel
theorem dX12_serves_94 : decode cX12_serves 94 = .ok (.if_icmp .lt 14, 3) := by decide +kernel
theorem dX12_serves_97 : decode cX12_serves 97 = .ok (.iload_n 2, 1) := by decide +kernel
theorem dX12_serves_98 : decode cX12_serves 98 = .ok (.sipush 10000, 3) := by decide +kernel
theorem dX12_serves_101 : decode cX12_serves 101 = .ok (.if_icmp .gt 7, 3) := by decide +kernel
theorem dX12_serves_104 : decode cX12_serves 104 = .ok (.iconst 0, 1) := by decide +kernel
theorem dX12_serves_105 : decode cX12_serves 105 = .ok (.goto 4, 3) := by decide +kernel
theorem dX12_serves_108 : decode cX12_serves 108 = .ok (.iconst (-1), 1) := by decide +kernel
theorem dX12_serves_109 : decode cX12_serves 109 = .ok (.invokevirtual 475, 3) := by decide +kernel
theorem dX12_serves_112 : decode cX12_serves 112 = .ok (.iload_n 2, 1) := by decide +kernel
theorem dX12_serves_113 : decode cX12_serves 113 = .ok (.iconst 1, 1) := by decide +kernel
theorem dX12_serves_114 : decode cX12_serves 114 = .ok (.if_icmp .lt 106, 3) := by decide +kernel
theorem dX12_serves_117 : decode cX12_serves 117 = .ok (.iload_n 2, 1) := by decide +kernel
theorem dX12_serves_118 : decode cX12_serves 118 = .ok (.sipush 10000, 3) := by decide +kernel
theorem dX12_serves_121 : decode cX12_serves 121 = .ok (.if_icmp .gt 99, 3) := by decide +kernel
theorem dX12_serves_124 : decode cX12_serves 124 = .ok (.aload_n 0, 1) := by decide +kernel
theorem dX12_serves_125 : decode cX12_serves 125 = .ok (.aload_n 0, 1) := by decide +kernel
theorem dX12_serves_126 : decode cX12_serves 126 = .ok (.getfield 201, 3) := by decide +kernel
theorem dX12_serves_129 : decode cX12_serves 129 = .ok (.iload_n 2, 1) := by decide +kernel
theorem dX12_serves_130 : decode cX12_serves 130 = .ok (.iadd, 1) := by decide +kernel
theorem dX12_serves_131 : decode cX12_serves 131 = .ok (.invokevirtual 478, 3) := by decide +kernel
theorem dX12_serves_134 : decode cX12_serves 134 = .ok (.goto 86, 3) := by decide +kernel
theorem dX12_serves_137 : decode cX12_serves 137 = .ok (.aload_n 0, 1) := by decide +kernel
theorem dX12_serves_138 : decode cX12_serves 138 = .ok (.sipush 584, 3) := by decide +kernel
theorem dX12_serves_141 : decode cX12_serves 141 = .ok (.iload_n 3, 1) := by decide +kernel
theorem dX12_serves_142 : decode cX12_serves 142 = .ok (.iload 4, 2) := by decide +kernel
theorem dX12_serves_144 : decode cX12_serves 144 = .ok (.invokevirtual 481, 3) := by decide +kernel
theorem dX12_serves_147 : decode cX12_serves 147 = .ok (.goto 73, 3) := by decide +kernel
theorem dX12_serves_150 : decode cX12_serves 150 = .ok (.aload_n 0, 1) := by decide +kernel
theorem dX12_serves_151 : decode cX12_serves 151 = .ok (.aload_n 0, 1) := by decide +kernel
theorem dX12_serves_152 : decode cX12_serves 152 = .ok (.sipush 584, 3) := by decide +kernel
theorem dX12_serves_155 : decode cX12_serves 155 = .ok (.iconst 2, 1) := by decide +kernel
theorem dX12_serves_156 : decode cX12_serves 156 = .ok (.invokevirtual 484, 3) := by decide +kernel
theorem dX12_serves_159 : decode cX12_serves 159 = .ok (.ifCond .eq 22, 3) := by decide +kernel
theorem dX12_serves_162 : decode cX12_serves 162 = .ok (.aload_n 0, 1) := by decide +kernel
theorem dX12_serves_163 : decode cX12_serves 163 = .ok (.aload_n 0, 1) := by decide +kernel
theorem dX12_serves_164 : decode cX12_serves 164 = .ok (.getfield 7, 3) := by decide +kernel
theorem dX12_serves_167 : decode cX12_serves 167 = .ok (.sipush 584, 3) := by decide +kernel
theorem dX12_serves_170 : decode cX12_serves 170 = .ok (.iaload, 1) := by decide +kernel
theorem dX12_serves_171 : decode cX12_serves 171 = .ok (.iload_n 3, 1) := by decide +kernel
theorem dX12_serves_172 : decode cX12_serves 172 = .ok (.invokestatic 260, 3) := by decide +kernel
theorem dX12_serves_175 : decode cX12_serves 175 = .ok (.invokevirtual 487, 3) := by decide +kernel
theorem dX12_serves_178 : decode cX12_serves 178 = .ok (.goto 4, 3) := by decide +kernel
theorem dX12_serves_181 : decode cX12_serves 181 = .ok (.iconst (-1), 1) := by decide +kernel
theorem dX12_serves_182 : decode cX12_serves 182 = .ok (.invokevirtual 475, 3) := by decide +kernel
theorem dX12_serves_185 : decode cX12_serves 185 = .ok (.goto 35, 3) := by decide +kernel
theorem dX12_serves_188 : decode cX12_serves 188 = .ok (.aload_n 0, 1) := by decide +kernel
theorem dX12_serves_189 : decode cX12_serves 189 = .ok (.iconst 1, 1) := by decide +kernel
theorem dX12_serves_190 : decode cX12_serves 190 = .ok (.putfield 228, 3) := by decide +kernel
theorem dX12_serves_193 : decode cX12_serves 193 = .ok (.aload_n 0, 1) := by decide +kernel
theorem dX12_serves_194 : decode cX12_serves 194 = .ok (.iconst 0, 1) := by decide +kernel
theorem dX12_serves_195 : decode cX12_serves 195 = .ok (.invokevirtual 475, 3) := by decide +kernel
theorem dX12_serves_198 : decode cX12_serves 198 = .ok (.goto 22, 3) := by decide +kernel
theorem dX12_serves_201 : decode cX12_serves 201 = .ok (.aload_n 0, 1) := by decide +kernel
theorem dX12_serves_202 : decode cX12_serves 202 = .ok (.aload_n 0, 1) := by decide +kernel
theorem dX12_serves_203 : decode cX12_serves 203 = .ok (.getfield 330, 3) := by decide +kernel
theorem dX12_serves_206 : decode cX12_serves 206 = .ok (.invokevirtual 475, 3) := by decide +kernel
theorem dX12_serves_209 : decode cX12_serves 209 = .ok (.goto 11, 3) := by decide +kernel
theorem dX12_serves_212 : decode cX12_serves 212 = .ok (.aload_n 0, 1) := by decide +kernel
theorem dX12_serves_213 : decode cX12_serves 213 = .ok (.aload_n 0, 1) := by decide +kernel
theorem dX12_serves_214 : decode cX12_serves 214 = .ok (.invokevirtual 491, 3) := by decide +kernel
theorem dX12_serves_217 : decode cX12_serves 217 = .ok (.invokevirtual 475, 3) := by decide +kernel
theorem dX12_serves_220 : decode cX12_serves 220 = .ok (.return_, 1) := by decide +kernel
theorem dX12_sleeps_0 : decode cX12_sleeps 0 = .ok (.aload_n 0, 1) := by decide +kernel
theorem dX12_sleeps_1 : decode cX12_sleeps 1 = .ok (.getfield 61, 3) := by decide +kernel
theorem dX12_sleeps_4 : decode cX12_sleeps 4 = .ok (.aload_n 0, 1) := by decide +kernel
theorem dX12_sleeps_5 : decode cX12_sleeps 5 = .ok (.getfield 330, 3) := by decide +kernel
theorem dX12_sleeps_8 : decode cX12_sleeps 8 = .ok (.iconst 1, 1) := by decide +kernel
theorem dX12_sleeps_9 : decode cX12_sleeps 9 = .ok (.iastore, 1) := by decide +kernel
theorem dX12_sleeps_10 : decode cX12_sleeps 10 = .ok (.aload_n 0, 1) := by decide +kernel
theorem dX12_sleeps_11 : decode cX12_sleeps 11 = .ok (.getfield 64, 3) := by decide +kernel
theorem dX12_sleeps_14 : decode cX12_sleeps 14 = .ok (.aload_n 0, 1) := by decide +kernel
theorem dX12_sleeps_15 : decode cX12_sleeps 15 = .ok (.getfield 330, 3) := by decide +kernel
theorem dX12_sleeps_18 : decode cX12_sleeps 18 = .ok (.iload_n 1, 1) := by decide +kernel
theorem dX12_sleeps_19 : decode cX12_sleeps 19 = .ok (.iastore, 1) := by decide +kernel
theorem dX12_sleeps_20 : decode cX12_sleeps 20 = .ok (.return_, 1) := by decide +kernel
theorem dX12_isWord_0 : decode cX12_isWord 0 = .ok (.aload_n 0, 1) := by decide +kernel
theorem dX12_isWord_1 : decode cX12_isWord 1 = .ok (.iload_n 1, 1) := by decide +kernel
theorem dX12_isWord_2 : decode cX12_isWord 2 = .ok (.iload_n 2, 1) := by decide +kernel
theorem dX12_isWord_3 : decode cX12_isWord 3 = .ok (.aload_n 0, 1) := by decide +kernel
theorem dX12_isWord_4 : decode cX12_isWord 4 = .ok (.getfield 7, 3) := by decide +kernel
theorem dX12_isWord_7 : decode cX12_isWord 7 = .ok (.iload_n 1, 1) := by decide +kernel
theorem dX12_isWord_8 : decode cX12_isWord 8 = .ok (.iaload, 1) := by decide +kernel
theorem dX12_isWord_9 : decode cX12_isWord 9 = .ok (.iconst 4, 1) := by decide +kernel
theorem dX12_isWord_10 : decode cX12_isWord 10 = .ok (.invokevirtual 358, 3) := by decide +kernel
theorem dX12_isWord_13 : decode cX12_isWord 13 = .ok (.ifCond .ne 20, 3) := by decide +kernel
theorem dX12_isWord_16 : decode cX12_isWord 16 = .ok (.aload_n 0, 1) := by decide +kernel
theorem dX12_isWord_17 : decode cX12_isWord 17 = .ok (.aload_n 0, 1) := by decide +kernel
theorem dX12_isWord_18 : decode cX12_isWord 18 = .ok (.getfield 7, 3) := by decide +kernel
theorem dX12_isWord_21 : decode cX12_isWord 21 = .ok (.iload_n 1, 1) := by decide +kernel
theorem dX12_isWord_22 : decode cX12_isWord 22 = .ok (.iaload, 1) := by decide +kernel
theorem dX12_isWord_23 : decode cX12_isWord 23 = .ok (.invokevirtual 408, 3) := by decide +kernel
theorem dX12_isWord_26 : decode cX12_isWord 26 = .ok (.ifCond .ne 7, 3) := by decide +kernel
theorem dX12_isWord_29 : decode cX12_isWord 29 = .ok (.iconst 1, 1) := by decide +kernel
theorem dX12_isWord_30 : decode cX12_isWord 30 = .ok (.goto 4, 3) := by decide +kernel
theorem dX12_isWord_33 : decode cX12_isWord 33 = .ok (.iconst 0, 1) := by decide +kernel
theorem dX12_isWord_34 : decode cX12_isWord 34 = .ok (.ireturn, 1) := by decide +kernel
theorem dX12_waits_0 : decode cX12_waits 0 = .ok (.aload_n 0, 1) := by decide +kernel
theorem dX12_waits_1 : decode cX12_waits 1 = .ok (.iload_n 1, 1) := by decide +kernel
theorem dX12_waits_2 : decode cX12_waits 2 = .ok (.iconst 1, 1) := by decide +kernel
theorem dX12_waits_3 : decode cX12_waits 3 = .ok (.invokevirtual 484, 3) := by decide +kernel
theorem dX12_waits_6 : decode cX12_waits 6 = .ok (.ifCond .eq 18, 3) := by decide +kernel
theorem dX12_waits_9 : decode cX12_waits 9 = .ok (.iload_n 3, 1) := by decide +kernel
theorem dX12_waits_10 : decode cX12_waits 10 = .ok (.ifCond .lt 14, 3) := by decide +kernel
theorem dX12_waits_13 : decode cX12_waits 13 = .ok (.iload_n 3, 1) := by decide +kernel
theorem dX12_waits_14 : decode cX12_waits 14 = .ok (.sipush 10000, 3) := by decide +kernel
theorem dX12_waits_17 : decode cX12_waits 17 = .ok (.if_icmp .gt 7, 3) := by decide +kernel
theorem dX12_waits_20 : decode cX12_waits 20 = .ok (.iconst 1, 1) := by decide +kernel
theorem dX12_waits_21 : decode cX12_waits 21 = .ok (.goto 4, 3) := by decide +kernel
theorem dX12_waits_24 : decode cX12_waits 24 = .ok (.iconst 0, 1) := by decide +kernel
theorem dX12_waits_25 : decode cX12_waits 25 = .ok (.istore 4, 2) := by decide +kernel
theorem dX12_waits_27 : decode cX12_waits 27 = .ok (.iload 4, 2) := by decide +kernel
theorem dX12_waits_29 : decode cX12_waits 29 = .ok (.ifCond .eq 18, 3) := by decide +kernel
theorem dX12_waits_32 : decode cX12_waits 32 = .ok (.aload_n 0, 1) := by decide +kernel
theorem dX12_waits_33 : decode cX12_waits 33 = .ok (.aload_n 0, 1) := by decide +kernel
theorem dX12_waits_34 : decode cX12_waits 34 = .ok (.getfield 7, 3) := by decide +kernel
theorem dX12_waits_37 : decode cX12_waits 37 = .ok (.iload_n 1, 1) := by decide +kernel
theorem dX12_waits_38 : decode cX12_waits 38 = .ok (.iaload, 1) := by decide +kernel
theorem dX12_waits_39 : decode cX12_waits 39 = .ok (.iconst 4, 1) := by decide +kernel
theorem dX12_waits_40 : decode cX12_waits 40 = .ok (.invokevirtual 264, 3) := by decide +kernel
theorem dX12_waits_43 : decode cX12_waits 43 = .ok (.iload_n 2, 1) := by decide +kernel
theorem dX12_waits_44 : decode cX12_waits 44 = .ok (.if_icmp .eq 18, 3) := by decide +kernel
theorem dX12_waits_47 : decode cX12_waits 47 = .ok (.aload_n 0, 1) := by decide +kernel
theorem dX12_waits_48 : decode cX12_waits 48 = .ok (.iload 4, 2) := by decide +kernel
theorem dX12_waits_50 : decode cX12_waits 50 = .ok (.ifCond .eq 7, 3) := by decide +kernel
theorem dX12_waits_53 : decode cX12_waits 53 = .ok (.iconst 1, 1) := by decide +kernel
theorem dX12_waits_54 : decode cX12_waits 54 = .ok (.goto 4, 3) := by decide +kernel
theorem dX12_waits_57 : decode cX12_waits 57 = .ok (.iconst (-1), 1) := by decide +kernel
theorem dX12_waits_58 : decode cX12_waits 58 = .ok (.invokevirtual 475, 3) := by decide +kernel
theorem dX12_waits_61 : decode cX12_waits 61 = .ok (.return_, 1) := by decide +kernel
theorem dX12_waits_62 : decode cX12_waits 62 = .ok (.aload_n 0, 1) := by decide +kernel
theorem dX12_waits_63 : decode cX12_waits 63 = .ok (.iconst 2, 1) := by decide +kernel
theorem dX12_waits_64 : decode cX12_waits 64 = .ok (.invokevirtual 475, 3) := by decide +kernel
theorem dX12_waits_67 : decode cX12_waits 67 = .ok (.aload_n 0, 1) := by decide +kernel
theorem dX12_waits_68 : decode cX12_waits 68 = .ok (.getfield 61, 3) := by decide +kernel
theorem dX12_waits_71 : decode cX12_waits 71 = .ok (.aload_n 0, 1) := by decide +kernel
theorem dX12_waits_72 : decode cX12_waits 72 = .ok (.getfield 330, 3) := by decide +kernel
theorem dX12_waits_75 : decode cX12_waits 75 = .ok (.iconst 2, 1) := by decide +kernel
theorem dX12_waits_76 : decode cX12_waits 76 = .ok (.iastore, 1) := by decide +kernel
theorem dX12_waits_77 : decode cX12_waits 77 = .ok (.aload_n 0, 1) := by decide +kernel
theorem dX12_waits_78 : decode cX12_waits 78 = .ok (.getfield 64, 3) := by decide +kernel
theorem dX12_waits_81 : decode cX12_waits 81 = .ok (.aload_n 0, 1) := by decide +kernel
theorem dX12_waits_82 : decode cX12_waits 82 = .ok (.getfield 330, 3) := by decide +kernel
theorem dX12_waits_85 : decode cX12_waits 85 = .ok (.aload_n 0, 1) := by decide +kernel
theorem dX12_waits_86 : decode cX12_waits 86 = .ok (.getfield 201, 3) := by decide +kernel
theorem dX12_waits_89 : decode cX12_waits 89 = .ok (.iload_n 3, 1) := by decide +kernel
theorem dX12_waits_90 : decode cX12_waits 90 = .ok (.iadd, 1) := by decide +kernel
theorem dX12_waits_91 : decode cX12_waits 91 = .ok (.iastore, 1) := by decide +kernel
theorem dX12_waits_92 : decode cX12_waits 92 = .ok (.aload_n 0, 1) := by decide +kernel
theorem dX12_waits_93 : decode cX12_waits 93 = .ok (.getfield 103, 3) := by decide +kernel
theorem dX12_waits_96 : decode cX12_waits 96 = .ok (.aload_n 0, 1) := by decide +kernel
theorem dX12_waits_97 : decode cX12_waits 97 = .ok (.getfield 330, 3) := by decide +kernel
theorem dX12_waits_100 : decode cX12_waits 100 = .ok (.aload_n 0, 1) := by decide +kernel
theorem dX12_waits_101 : decode cX12_waits 101 = .ok (.getfield 7, 3) := by decide +kernel
theorem dX12_waits_104 : decode cX12_waits 104 = .ok (.iload_n 1, 1) := by decide +kernel
theorem dX12_waits_105 : decode cX12_waits 105 = .ok (.iaload, 1) := by decide +kernel
theorem dX12_waits_106 : decode cX12_waits 106 = .ok (.iastore, 1) := by decide +kernel
theorem dX12_waits_107 : decode cX12_waits 107 = .ok (.aload_n 0, 1) := by decide +kernel
theorem dX12_waits_108 : decode cX12_waits 108 = .ok (.getfield 106, 3) := by decide +kernel
theorem dX12_waits_111 : decode cX12_waits 111 = .ok (.aload_n 0, 1) := by decide +kernel
theorem dX12_waits_112 : decode cX12_waits 112 = .ok (.getfield 330, 3) := by decide +kernel
theorem dX12_waits_115 : decode cX12_waits 115 = .ok (.aload_n 0, 1) := by decide +kernel
theorem dX12_waits_116 : decode cX12_waits 116 = .ok (.getfield 219, 3) := by decide +kernel
theorem dX12_waits_119 : decode cX12_waits 119 = .ok (.iastore, 1) := by decide +kernel
theorem dX12_waits_120 : decode cX12_waits 120 = .ok (.aload_n 0, 1) := by decide +kernel
theorem dX12_waits_121 : decode cX12_waits 121 = .ok (.dup, 1) := by decide +kernel
theorem dX12_waits_122 : decode cX12_waits 122 = .ok (.getfield 219, 3) := by decide +kernel
theorem dX12_waits_125 : decode cX12_waits 125 = .ok (.iconst 1, 1) := by decide +kernel
theorem dX12_waits_126 : decode cX12_waits 126 = .ok (.iadd, 1) := by decide +kernel
theorem dX12_waits_127 : decode cX12_waits 127 = .ok (.putfield 219, 3) := by decide +kernel
theorem dX12_waits_130 : decode cX12_waits 130 = .ok (.return_, 1) := by decide +kernel
theorem dX12_wakes_0 : decode cX12_wakes 0 = .ok (.iconst 0, 1) := by decide +kernel
theorem dX12_wakes_1 : decode cX12_wakes 1 = .ok (.istore 4, 2) := by decide +kernel
theorem dX12_wakes_3 : decode cX12_wakes 3 = .ok (.iconst 1, 1) := by decide +kernel
theorem dX12_wakes_4 : decode cX12_wakes 4 = .ok (.istore 5, 2) := by decide +kernel
theorem dX12_wakes_6 : decode cX12_wakes 6 = .ok (.iload 5, 2) := by decide +kernel
theorem dX12_wakes_8 : decode cX12_wakes 8 = .ok (.ifCond .eq 182, 3) := by decide +kernel
theorem dX12_wakes_11 : decode cX12_wakes 11 = .ok (.iload 4, 2) := by decide +kernel
theorem dX12_wakes_13 : decode cX12_wakes 13 = .ok (.i2l, 1) := by decide +kernel
theorem dX12_wakes_14 : decode cX12_wakes 14 = .ok (.lload_n 2, 1) := by decide +kernel
theorem dX12_wakes_15 : decode cX12_wakes 15 = .ok (.lcmp, 1) := by decide +kernel
theorem dX12_wakes_16 : decode cX12_wakes 16 = .ok (.ifCond .ge 174, 3) := by decide +kernel
theorem dX12_wakes_19 : decode cX12_wakes 19 = .ok (.iconst (-1), 1) := by decide +kernel
theorem dX12_wakes_20 : decode cX12_wakes 20 = .ok (.istore 6, 2) := by decide +kernel
theorem dX12_wakes_22 : decode cX12_wakes 22 = .ok (.iconst 0, 1) := by decide +kernel
theorem dX12_wakes_23 : decode cX12_wakes 23 = .ok (.istore 7, 2) := by decide +kernel
theorem dX12_wakes_25 : decode cX12_wakes 25 = .ok (.iload 7, 2) := by decide +kernel
theorem dX12_wakes_27 : decode cX12_wakes 27 = .ok (.aload_n 0, 1) := by decide +kernel
theorem dX12_wakes_28 : decode cX12_wakes 28 = .ok (.getfield 198, 3) := by decide +kernel
theorem dX12_wakes_31 : decode cX12_wakes 31 = .ok (.if_icmp .ge 104, 3) := by decide +kernel
theorem dX12_wakes_34 : decode cX12_wakes 34 = .ok (.aload_n 0, 1) := by decide +kernel
theorem dX12_wakes_35 : decode cX12_wakes 35 = .ok (.getfield 61, 3) := by decide +kernel
theorem dX12_wakes_38 : decode cX12_wakes 38 = .ok (.iload 7, 2) := by decide +kernel
theorem dX12_wakes_40 : decode cX12_wakes 40 = .ok (.iaload, 1) := by decide +kernel
theorem dX12_wakes_41 : decode cX12_wakes 41 = .ok (.iconst 2, 1) := by decide +kernel
theorem dX12_wakes_42 : decode cX12_wakes 42 = .ok (.if_icmp .ne 18, 3) := by decide +kernel
theorem dX12_wakes_45 : decode cX12_wakes 45 = .ok (.aload_n 0, 1) := by decide +kernel
theorem dX12_wakes_46 : decode cX12_wakes 46 = .ok (.getfield 103, 3) := by decide +kernel
theorem dX12_wakes_49 : decode cX12_wakes 49 = .ok (.iload 7, 2) := by decide +kernel
theorem dX12_wakes_51 : decode cX12_wakes 51 = .ok (.iaload, 1) := by decide +kernel
theorem dX12_wakes_52 : decode cX12_wakes 52 = .ok (.iload_n 1, 1) := by decide +kernel
theorem dX12_wakes_53 : decode cX12_wakes 53 = .ok (.if_icmp .ne 7, 3) := by decide +kernel
theorem dX12_wakes_56 : decode cX12_wakes 56 = .ok (.iconst 1, 1) := by decide +kernel
theorem dX12_wakes_57 : decode cX12_wakes 57 = .ok (.goto 4, 3) := by decide +kernel
theorem dX12_wakes_60 : decode cX12_wakes 60 = .ok (.iconst 0, 1) := by decide +kernel
theorem dX12_wakes_61 : decode cX12_wakes 61 = .ok (.istore 8, 2) := by decide +kernel
theorem dX12_wakes_63 : decode cX12_wakes 63 = .ok (.iload 8, 2) := by decide +kernel
theorem dX12_wakes_65 : decode cX12_wakes 65 = .ok (.ifCond .eq 64, 3) := by decide +kernel
theorem dX12_wakes_68 : decode cX12_wakes 68 = .ok (.iload 6, 2) := by decide +kernel
theorem dX12_wakes_70 : decode cX12_wakes 70 = .ok (.iconst (-1), 1) := by decide +kernel
theorem dX12_wakes_71 : decode cX12_wakes 71 = .ok (.if_icmp .eq 54, 3) := by decide +kernel
theorem dX12_wakes_74 : decode cX12_wakes 74 = .ok (.aload_n 0, 1) := by decide +kernel
theorem dX12_wakes_75 : decode cX12_wakes 75 = .ok (.getfield 85, 3) := by decide +kernel
theorem dX12_wakes_78 : decode cX12_wakes 78 = .ok (.iload 7, 2) := by decide +kernel
theorem dX12_wakes_80 : decode cX12_wakes 80 = .ok (.iaload, 1) := by decide +kernel
theorem dX12_wakes_81 : decode cX12_wakes 81 = .ok (.aload_n 0, 1) := by decide +kernel
theorem dX12_wakes_82 : decode cX12_wakes 82 = .ok (.getfield 85, 3) := by decide +kernel
theorem dX12_wakes_85 : decode cX12_wakes 85 = .ok (.iload 6, 2) := by decide +kernel
theorem dX12_wakes_87 : decode cX12_wakes 87 = .ok (.iaload, 1) := by decide +kernel
theorem dX12_wakes_88 : decode cX12_wakes 88 = .ok (.if_icmp .gt 37, 3) := by decide +kernel
theorem dX12_wakes_91 : decode cX12_wakes 91 = .ok (.aload_n 0, 1) := by decide +kernel
theorem dX12_wakes_92 : decode cX12_wakes 92 = .ok (.getfield 85, 3) := by decide +kernel
theorem dX12_wakes_95 : decode cX12_wakes 95 = .ok (.iload 7, 2) := by decide +kernel
theorem dX12_wakes_97 : decode cX12_wakes 97 = .ok (.iaload, 1) := by decide +kernel
theorem dX12_wakes_98 : decode cX12_wakes 98 = .ok (.aload_n 0, 1) := by decide +kernel
theorem dX12_wakes_99 : decode cX12_wakes 99 = .ok (.getfield 85, 3) := by decide +kernel
theorem dX12_wakes_102 : decode cX12_wakes 102 = .ok (.iload 6, 2) := by decide +kernel
theorem dX12_wakes_104 : decode cX12_wakes 104 = .ok (.iaload, 1) := by decide +kernel
theorem dX12_wakes_105 : decode cX12_wakes 105 = .ok (.if_icmp .ne 24, 3) := by decide +kernel
theorem dX12_wakes_108 : decode cX12_wakes 108 = .ok (.aload_n 0, 1) := by decide +kernel
theorem dX12_wakes_109 : decode cX12_wakes 109 = .ok (.getfield 106, 3) := by decide +kernel
theorem dX12_wakes_112 : decode cX12_wakes 112 = .ok (.iload 7, 2) := by decide +kernel
theorem dX12_wakes_114 : decode cX12_wakes 114 = .ok (.iaload, 1) := by decide +kernel
theorem dX12_wakes_115 : decode cX12_wakes 115 = .ok (.aload_n 0, 1) := by decide +kernel
theorem dX12_wakes_116 : decode cX12_wakes 116 = .ok (.getfield 106, 3) := by decide +kernel
theorem dX12_wakes_119 : decode cX12_wakes 119 = .ok (.iload 6, 2) := by decide +kernel
theorem dX12_wakes_121 : decode cX12_wakes 121 = .ok (.iaload, 1) := by decide +kernel
theorem dX12_wakes_122 : decode cX12_wakes 122 = .ok (.if_icmp .ge 7, 3) := by decide +kernel
theorem dX12_wakes_125 : decode cX12_wakes 125 = .ok (.iload 7, 2) := by decide +kernel
theorem dX12_wakes_127 : decode cX12_wakes 127 = .ok (.istore 6, 2) := by decide +kernel
theorem dX12_wakes_129 : decode cX12_wakes 129 = .ok (.iinc 7 1, 3) := by decide +kernel
theorem dX12_wakes_132 : decode cX12_wakes 132 = .ok (.goto (-107), 3) := by decide +kernel
theorem dX12_wakes_135 : decode cX12_wakes 135 = .ok (.iload 6, 2) := by decide +kernel
theorem dX12_wakes_137 : decode cX12_wakes 137 = .ok (.iconst (-1), 1) := by decide +kernel
theorem dX12_wakes_138 : decode cX12_wakes 138 = .ok (.if_icmp .eq 7, 3) := by decide +kernel
theorem dX12_wakes_141 : decode cX12_wakes 141 = .ok (.iconst 1, 1) := by decide +kernel
theorem dX12_wakes_142 : decode cX12_wakes 142 = .ok (.goto 4, 3) := by decide +kernel
theorem dX12_wakes_145 : decode cX12_wakes 145 = .ok (.iconst 0, 1) := by decide +kernel
theorem dX12_wakes_146 : decode cX12_wakes 146 = .ok (.istore 5, 2) := by decide +kernel
theorem dX12_wakes_148 : decode cX12_wakes 148 = .ok (.iload 5, 2) := by decide +kernel
theorem dX12_wakes_150 : decode cX12_wakes 150 = .ok (.ifCond .ne 6, 3) := by decide +kernel
theorem dX12_wakes_153 : decode cX12_wakes 153 = .ok (.goto (-147), 3) := by decide +kernel
theorem dX12_wakes_156 : decode cX12_wakes 156 = .ok (.aload_n 0, 1) := by decide +kernel
theorem dX12_wakes_157 : decode cX12_wakes 157 = .ok (.getfield 61, 3) := by decide +kernel
theorem dX12_wakes_160 : decode cX12_wakes 160 = .ok (.iload 6, 2) := by decide +kernel
theorem dX12_wakes_162 : decode cX12_wakes 162 = .ok (.iconst 0, 1) := by decide +kernel
theorem dX12_wakes_163 : decode cX12_wakes 163 = .ok (.iastore, 1) := by decide +kernel
theorem dX12_wakes_164 : decode cX12_wakes 164 = .ok (.aload_n 0, 1) := by decide +kernel
theorem dX12_wakes_165 : decode cX12_wakes 165 = .ok (.getfield 64, 3) := by decide +kernel
theorem dX12_wakes_168 : decode cX12_wakes 168 = .ok (.iload 6, 2) := by decide +kernel
theorem dX12_wakes_170 : decode cX12_wakes 170 = .ok (.iconst (-1), 1) := by decide +kernel
theorem dX12_wakes_171 : decode cX12_wakes 171 = .ok (.iastore, 1) := by decide +kernel
theorem dX12_wakes_172 : decode cX12_wakes 172 = .ok (.aload_n 0, 1) := by decide +kernel
theorem dX12_wakes_173 : decode cX12_wakes 173 = .ok (.iload 6, 2) := by decide +kernel
theorem dX12_wakes_175 : decode cX12_wakes 175 = .ok (.bipush 10, 2) := by decide +kernel
theorem dX12_wakes_177 : decode cX12_wakes 177 = .ok (.invokestatic 307, 3) := by decide +kernel
theorem dX12_wakes_180 : decode cX12_wakes 180 = .ok (.iconst 0, 1) := by decide +kernel
theorem dX12_wakes_181 : decode cX12_wakes 181 = .ok (.invokevirtual 333, 3) := by decide +kernel
theorem dX12_wakes_184 : decode cX12_wakes 184 = .ok (.iinc 4 1, 3) := by decide +kernel
theorem dX12_wakes_187 : decode cX12_wakes 187 = .ok (.goto (-181), 3) := by decide +kernel
theorem dX12_wakes_190 : decode cX12_wakes 190 = .ok (.iload 4, 2) := by decide +kernel
theorem dX12_wakes_192 : decode cX12_wakes 192 = .ok (.ireturn, 1) := by decide +kernel
theorem dX12_anyFreed_0 : decode cX12_anyFreed 0 = .ok (.iconst 0, 1) := by decide +kernel
theorem dX12_anyFreed_1 : decode cX12_anyFreed 1 = .ok (.istore_n 1, 1) := by decide +kernel
theorem dX12_anyFreed_2 : decode cX12_anyFreed 2 = .ok (.iconst 0, 1) := by decide +kernel
theorem dX12_anyFreed_3 : decode cX12_anyFreed 3 = .ok (.istore_n 2, 1) := by decide +kernel
theorem dX12_anyFreed_4 : decode cX12_anyFreed 4 = .ok (.iload_n 2, 1) := by decide +kernel
theorem dX12_anyFreed_5 : decode cX12_anyFreed 5 = .ok (.aload_n 0, 1) := by decide +kernel
theorem dX12_anyFreed_6 : decode cX12_anyFreed 6 = .ok (.getfield 225, 3) := by decide +kernel
theorem dX12_anyFreed_9 : decode cX12_anyFreed 9 = .ok (.if_icmp .ge 28, 3) := by decide +kernel
theorem dX12_anyFreed_12 : decode cX12_anyFreed 12 = .ok (.iload_n 1, 1) := by decide +kernel
theorem dX12_anyFreed_13 : decode cX12_anyFreed 13 = .ok (.ifCond .ne 12, 3) := by decide +kernel
theorem dX12_anyFreed_16 : decode cX12_anyFreed 16 = .ok (.aload_n 0, 1) := by decide +kernel
theorem dX12_anyFreed_17 : decode cX12_anyFreed 17 = .ok (.getfield 127, 3) := by decide +kernel
theorem dX12_anyFreed_20 : decode cX12_anyFreed 20 = .ok (.iload_n 2, 1) := by decide +kernel
theorem dX12_anyFreed_21 : decode cX12_anyFreed 21 = .ok (.baload, 1) := by decide +kernel
theorem dX12_anyFreed_22 : decode cX12_anyFreed 22 = .ok (.ifCond .eq 7, 3) := by decide +kernel
theorem dX12_anyFreed_25 : decode cX12_anyFreed 25 = .ok (.iconst 1, 1) := by decide +kernel
theorem dX12_anyFreed_26 : decode cX12_anyFreed 26 = .ok (.goto 4, 3) := by decide +kernel
theorem dX12_anyFreed_29 : decode cX12_anyFreed 29 = .ok (.iconst 0, 1) := by decide +kernel
theorem dX12_anyFreed_30 : decode cX12_anyFreed 30 = .ok (.istore_n 1, 1) := by decide +kernel
theorem dX12_anyFreed_31 : decode cX12_anyFreed 31 = .ok (.iinc 2 1, 3) := by decide +kernel
theorem dX12_anyFreed_34 : decode cX12_anyFreed 34 = .ok (.goto (-30), 3) := by decide +kernel
theorem dX12_anyFreed_37 : decode cX12_anyFreed 37 = .ok (.iload_n 1, 1) := by decide +kernel
theorem dX12_anyFreed_38 : decode cX12_anyFreed 38 = .ok (.ireturn, 1) := by decide +kernel
theorem dX12_freeBytes_0 : decode cX12_freeBytes 0 = .ok (.aload_n 0, 1) := by decide +kernel
theorem dX12_freeBytes_1 : decode cX12_freeBytes 1 = .ok (.getfield 175, 3) := by decide +kernel
theorem dX12_freeBytes_4 : decode cX12_freeBytes 4 = .ok (.aload_n 0, 1) := by decide +kernel
theorem dX12_freeBytes_5 : decode cX12_freeBytes 5 = .ok (.getfield 222, 3) := by decide +kernel
theorem dX12_freeBytes_8 : decode cX12_freeBytes 8 = .ok (.isub, 1) := by decide +kernel
theorem dX12_freeBytes_9 : decode cX12_freeBytes 9 = .ok (.istore_n 1, 1) := by decide +kernel
theorem dX12_freeBytes_10 : decode cX12_freeBytes 10 = .ok (.iconst 0, 1) := by decide +kernel
theorem dX12_freeBytes_11 : decode cX12_freeBytes 11 = .ok (.istore_n 2, 1) := by decide +kernel
theorem dX12_freeBytes_12 : decode cX12_freeBytes 12 = .ok (.iload_n 2, 1) := by decide +kernel
theorem dX12_freeBytes_13 : decode cX12_freeBytes 13 = .ok (.aload_n 0, 1) := by decide +kernel
theorem dX12_freeBytes_14 : decode cX12_freeBytes 14 = .ok (.getfield 225, 3) := by decide +kernel
theorem dX12_freeBytes_17 : decode cX12_freeBytes 17 = .ok (.if_icmp .ge 18, 3) := by decide +kernel
theorem dX12_freeBytes_20 : decode cX12_freeBytes 20 = .ok (.iload_n 1, 1) := by decide +kernel
theorem dX12_freeBytes_21 : decode cX12_freeBytes 21 = .ok (.aload_n 0, 1) := by decide +kernel
theorem dX12_freeBytes_22 : decode cX12_freeBytes 22 = .ok (.getfield 124, 3) := by decide +kernel
theorem dX12_freeBytes_25 : decode cX12_freeBytes 25 = .ok (.iload_n 2, 1) := by decide +kernel
theorem dX12_freeBytes_26 : decode cX12_freeBytes 26 = .ok (.iaload, 1) := by decide +kernel
theorem dX12_freeBytes_27 : decode cX12_freeBytes 27 = .ok (.isub, 1) := by decide +kernel
theorem dX12_freeBytes_28 : decode cX12_freeBytes 28 = .ok (.istore_n 1, 1) := by decide +kernel
theorem dX12_freeBytes_29 : decode cX12_freeBytes 29 = .ok (.iinc 2 1, 3) := by decide +kernel
theorem dX12_freeBytes_32 : decode cX12_freeBytes 32 = .ok (.goto (-20), 3) := by decide +kernel
theorem dX12_freeBytes_35 : decode cX12_freeBytes 35 = .ok (.iload_n 1, 1) := by decide +kernel
theorem dX12_freeBytes_36 : decode cX12_freeBytes 36 = .ok (.ireturn, 1) := by decide +kernel
theorem dX12_takes_0 : decode cX12_takes 0 = .ok (.aload_n 0, 1) := by decide +kernel
theorem dX12_takes_1 : decode cX12_takes 1 = .ok (.getfield 222, 3) := by decide +kernel
theorem dX12_takes_4 : decode cX12_takes 4 = .ok (.istore_n 2, 1) := by decide +kernel
theorem dX12_takes_5 : decode cX12_takes 5 = .ok (.iconst 0, 1) := by decide +kernel
theorem dX12_takes_6 : decode cX12_takes 6 = .ok (.istore_n 3, 1) := by decide +kernel
theorem dX12_takes_7 : decode cX12_takes 7 = .ok (.iload_n 3, 1) := by decide +kernel
theorem dX12_takes_8 : decode cX12_takes 8 = .ok (.aload_n 0, 1) := by decide +kernel
theorem dX12_takes_9 : decode cX12_takes 9 = .ok (.getfield 225, 3) := by decide +kernel
theorem dX12_takes_12 : decode cX12_takes 12 = .ok (.if_icmp .ge 35, 3) := by decide +kernel
theorem dX12_takes_15 : decode cX12_takes 15 = .ok (.aload_n 0, 1) := by decide +kernel
theorem dX12_takes_16 : decode cX12_takes 16 = .ok (.getfield 121, 3) := by decide +kernel
theorem dX12_takes_19 : decode cX12_takes 19 = .ok (.iload_n 3, 1) := by decide +kernel
theorem dX12_takes_20 : decode cX12_takes 20 = .ok (.iaload, 1) := by decide +kernel
theorem dX12_takes_21 : decode cX12_takes 21 = .ok (.iload_n 2, 1) := by decide +kernel
theorem dX12_takes_22 : decode cX12_takes 22 = .ok (.isub, 1) := by decide +kernel
theorem dX12_takes_23 : decode cX12_takes 23 = .ok (.iload_n 1, 1) := by decide +kernel
theorem dX12_takes_24 : decode cX12_takes 24 = .ok (.if_icmp .ge 23, 3) := by decide +kernel
theorem dX12_takes_27 : decode cX12_takes 27 = .ok (.aload_n 0, 1) := by decide +kernel
theorem dX12_takes_28 : decode cX12_takes 28 = .ok (.getfield 121, 3) := by decide +kernel
theorem dX12_takes_31 : decode cX12_takes 31 = .ok (.iload_n 3, 1) := by decide +kernel
theorem dX12_takes_32 : decode cX12_takes 32 = .ok (.iaload, 1) := by decide +kernel
theorem dX12_takes_33 : decode cX12_takes 33 = .ok (.aload_n 0, 1) := by decide +kernel
theorem dX12_takes_34 : decode cX12_takes 34 = .ok (.getfield 124, 3) := by decide +kernel
theorem dX12_takes_37 : decode cX12_takes 37 = .ok (.iload_n 3, 1) := by decide +kernel
theorem dX12_takes_38 : decode cX12_takes 38 = .ok (.iaload, 1) := by decide +kernel
theorem dX12_takes_39 : decode cX12_takes 39 = .ok (.iadd, 1) := by decide +kernel
theorem dX12_takes_40 : decode cX12_takes 40 = .ok (.istore_n 2, 1) := by decide +kernel
theorem dX12_takes_41 : decode cX12_takes 41 = .ok (.iinc 3 1, 3) := by decide +kernel
theorem dX12_takes_44 : decode cX12_takes 44 = .ok (.goto (-37), 3) := by decide +kernel
theorem dX12_takes_47 : decode cX12_takes 47 = .ok (.iload_n 3, 1) := by decide +kernel
theorem dX12_takes_48 : decode cX12_takes 48 = .ok (.aload_n 0, 1) := by decide +kernel
theorem dX12_takes_49 : decode cX12_takes 49 = .ok (.getfield 225, 3) := by decide +kernel
theorem dX12_takes_52 : decode cX12_takes 52 = .ok (.if_icmp .ne 15, 3) := by decide +kernel
theorem dX12_takes_55 : decode cX12_takes 55 = .ok (.aload_n 0, 1) := by decide +kernel
theorem dX12_takes_56 : decode cX12_takes 56 = .ok (.getfield 175, 3) := by decide +kernel
theorem dX12_takes_59 : decode cX12_takes 59 = .ok (.iload_n 2, 1) := by decide +kernel
theorem dX12_takes_60 : decode cX12_takes 60 = .ok (.isub, 1) := by decide +kernel
theorem dX12_takes_61 : decode cX12_takes 61 = .ok (.iload_n 1, 1) := by decide +kernel
theorem dX12_takes_62 : decode cX12_takes 62 = .ok (.if_icmp .ge 5, 3) := by decide +kernel
theorem dX12_takes_65 : decode cX12_takes 65 = .ok (.iconst (-1), 1) := by decide +kernel
theorem dX12_takes_66 : decode cX12_takes 66 = .ok (.ireturn, 1) := by decide +kernel
theorem dX12_takes_67 : decode cX12_takes 67 = .ok (.aload_n 0, 1) := by decide +kernel
theorem dX12_takes_68 : decode cX12_takes 68 = .ok (.getfield 225, 3) := by decide +kernel
theorem dX12_takes_71 : decode cX12_takes 71 = .ok (.istore 4, 2) := by decide +kernel
theorem dX12_takes_73 : decode cX12_takes 73 = .ok (.iload 4, 2) := by decide +kernel
theorem dX12_takes_75 : decode cX12_takes 75 = .ok (.iload_n 3, 1) := by decide +kernel
theorem dX12_takes_76 : decode cX12_takes 76 = .ok (.if_icmp .le 73, 3) := by decide +kernel
theorem dX12_takes_79 : decode cX12_takes 79 = .ok (.aload_n 0, 1) := by decide +kernel
theorem dX12_takes_80 : decode cX12_takes 80 = .ok (.getfield 121, 3) := by decide +kernel
theorem dX12_takes_83 : decode cX12_takes 83 = .ok (.iload 4, 2) := by decide +kernel
theorem dX12_takes_85 : decode cX12_takes 85 = .ok (.aload_n 0, 1) := by decide +kernel
theorem dX12_takes_86 : decode cX12_takes 86 = .ok (.getfield 121, 3) := by decide +kernel
theorem dX12_takes_89 : decode cX12_takes 89 = .ok (.iload 4, 2) := by decide +kernel
theorem dX12_takes_91 : decode cX12_takes 91 = .ok (.iconst 1, 1) := by decide +kernel
theorem dX12_takes_92 : decode cX12_takes 92 = .ok (.isub, 1) := by decide +kernel
theorem dX12_takes_93 : decode cX12_takes 93 = .ok (.iaload, 1) := by decide +kernel
theorem dX12_takes_94 : decode cX12_takes 94 = .ok (.iastore, 1) := by decide +kernel
theorem dX12_takes_95 : decode cX12_takes 95 = .ok (.aload_n 0, 1) := by decide +kernel
theorem dX12_takes_96 : decode cX12_takes 96 = .ok (.getfield 124, 3) := by decide +kernel
theorem dX12_takes_99 : decode cX12_takes 99 = .ok (.iload 4, 2) := by decide +kernel
theorem dX12_takes_101 : decode cX12_takes 101 = .ok (.aload_n 0, 1) := by decide +kernel
theorem dX12_takes_102 : decode cX12_takes 102 = .ok (.getfield 124, 3) := by decide +kernel
theorem dX12_takes_105 : decode cX12_takes 105 = .ok (.iload 4, 2) := by decide +kernel
theorem dX12_takes_107 : decode cX12_takes 107 = .ok (.iconst 1, 1) := by decide +kernel
theorem dX12_takes_108 : decode cX12_takes 108 = .ok (.isub, 1) := by decide +kernel
theorem dX12_takes_109 : decode cX12_takes 109 = .ok (.iaload, 1) := by decide +kernel
theorem dX12_takes_110 : decode cX12_takes 110 = .ok (.iastore, 1) := by decide +kernel
theorem dX12_takes_111 : decode cX12_takes 111 = .ok (.aload_n 0, 1) := by decide +kernel
theorem dX12_takes_112 : decode cX12_takes 112 = .ok (.getfield 127, 3) := by decide +kernel
theorem dX12_takes_115 : decode cX12_takes 115 = .ok (.iload 4, 2) := by decide +kernel
theorem dX12_takes_117 : decode cX12_takes 117 = .ok (.aload_n 0, 1) := by decide +kernel
theorem dX12_takes_118 : decode cX12_takes 118 = .ok (.getfield 127, 3) := by decide +kernel
theorem dX12_takes_121 : decode cX12_takes 121 = .ok (.iload 4, 2) := by decide +kernel
theorem dX12_takes_123 : decode cX12_takes 123 = .ok (.iconst 1, 1) := by decide +kernel
theorem dX12_takes_124 : decode cX12_takes 124 = .ok (.isub, 1) := by decide +kernel
theorem dX12_takes_125 : decode cX12_takes 125 = .ok (.baload, 1) := by decide +kernel
theorem dX12_takes_126 : decode cX12_takes 126 = .ok (.bastore, 1) := by decide +kernel
theorem dX12_takes_127 : decode cX12_takes 127 = .ok (.aload_n 0, 1) := by decide +kernel
theorem dX12_takes_128 : decode cX12_takes 128 = .ok (.getfield 130, 3) := by decide +kernel
theorem dX12_takes_131 : decode cX12_takes 131 = .ok (.iload 4, 2) := by decide +kernel
theorem dX12_takes_133 : decode cX12_takes 133 = .ok (.aload_n 0, 1) := by decide +kernel
theorem dX12_takes_134 : decode cX12_takes 134 = .ok (.getfield 130, 3) := by decide +kernel
theorem dX12_takes_137 : decode cX12_takes 137 = .ok (.iload 4, 2) := by decide +kernel
theorem dX12_takes_139 : decode cX12_takes 139 = .ok (.iconst 1, 1) := by decide +kernel
theorem dX12_takes_140 : decode cX12_takes 140 = .ok (.isub, 1) := by decide +kernel
theorem dX12_takes_141 : decode cX12_takes 141 = .ok (.baload, 1) := by decide +kernel
theorem dX12_takes_142 : decode cX12_takes 142 = .ok (.bastore, 1) := by decide +kernel
theorem dX12_takes_143 : decode cX12_takes 143 = .ok (.iinc 4 (-1), 3) := by decide +kernel
theorem dX12_takes_146 : decode cX12_takes 146 = .ok (.goto (-73), 3) := by decide +kernel
theorem dX12_takes_149 : decode cX12_takes 149 = .ok (.aload_n 0, 1) := by decide +kernel
theorem dX12_takes_150 : decode cX12_takes 150 = .ok (.dup, 1) := by decide +kernel
theorem dX12_takes_151 : decode cX12_takes 151 = .ok (.getfield 225, 3) := by decide +kernel
theorem dX12_takes_154 : decode cX12_takes 154 = .ok (.iconst 1, 1) := by decide +kernel
theorem dX12_takes_155 : decode cX12_takes 155 = .ok (.iadd, 1) := by decide +kernel
theorem dX12_takes_156 : decode cX12_takes 156 = .ok (.putfield 225, 3) := by decide +kernel
theorem dX12_takes_159 : decode cX12_takes 159 = .ok (.aload_n 0, 1) := by decide +kernel
theorem dX12_takes_160 : decode cX12_takes 160 = .ok (.getfield 121, 3) := by decide +kernel
theorem dX12_takes_163 : decode cX12_takes 163 = .ok (.iload_n 3, 1) := by decide +kernel
theorem dX12_takes_164 : decode cX12_takes 164 = .ok (.iload_n 2, 1) := by decide +kernel
theorem dX12_takes_165 : decode cX12_takes 165 = .ok (.iastore, 1) := by decide +kernel
theorem dX12_takes_166 : decode cX12_takes 166 = .ok (.aload_n 0, 1) := by decide +kernel
theorem dX12_takes_167 : decode cX12_takes 167 = .ok (.getfield 124, 3) := by decide +kernel
theorem dX12_takes_170 : decode cX12_takes 170 = .ok (.iload_n 3, 1) := by decide +kernel
theorem dX12_takes_171 : decode cX12_takes 171 = .ok (.iload_n 1, 1) := by decide +kernel
theorem dX12_takes_172 : decode cX12_takes 172 = .ok (.iastore, 1) := by decide +kernel
theorem dX12_takes_173 : decode cX12_takes 173 = .ok (.aload_n 0, 1) := by decide +kernel
theorem dX12_takes_174 : decode cX12_takes 174 = .ok (.getfield 127, 3) := by decide +kernel
theorem dX12_takes_177 : decode cX12_takes 177 = .ok (.iload_n 3, 1) := by decide +kernel
theorem dX12_takes_178 : decode cX12_takes 178 = .ok (.iconst 0, 1) := by decide +kernel
theorem dX12_takes_179 : decode cX12_takes 179 = .ok (.bastore, 1) := by decide +kernel
theorem dX12_takes_180 : decode cX12_takes 180 = .ok (.aload_n 0, 1) := by decide +kernel
theorem dX12_takes_181 : decode cX12_takes 181 = .ok (.getfield 130, 3) := by decide +kernel
theorem dX12_takes_184 : decode cX12_takes 184 = .ok (.iload_n 3, 1) := by decide +kernel
theorem dX12_takes_185 : decode cX12_takes 185 = .ok (.iconst 0, 1) := by decide +kernel
theorem dX12_takes_186 : decode cX12_takes 186 = .ok (.bastore, 1) := by decide +kernel
theorem dX12_takes_187 : decode cX12_takes 187 = .ok (.aload_n 0, 1) := by decide +kernel
theorem dX12_takes_188 : decode cX12_takes 188 = .ok (.iload_n 2, 1) := by decide +kernel
theorem dX12_takes_189 : decode cX12_takes 189 = .ok (.iload_n 2, 1) := by decide +kernel
theorem dX12_takes_190 : decode cX12_takes 190 = .ok (.iload_n 1, 1) := by decide +kernel
theorem dX12_takes_191 : decode cX12_takes 191 = .ok (.iadd, 1) := by decide +kernel
theorem dX12_takes_192 : decode cX12_takes 192 = .ok (.invokevirtual 459, 3) := by decide +kernel
theorem dX12_takes_195 : decode cX12_takes 195 = .ok (.iload_n 2, 1) := by decide +kernel
theorem dX12_takes_196 : decode cX12_takes 196 = .ok (.ireturn, 1) := by decide +kernel
theorem dX12_gets_0 : decode cX12_gets 0 = .ok (.aload_n 0, 1) := by decide +kernel
theorem dX12_gets_1 : decode cX12_gets 1 = .ok (.iload_n 2, 1) := by decide +kernel
theorem dX12_gets_2 : decode cX12_gets 2 = .ok (.invokevirtual 494, 3) := by decide +kernel
theorem dX12_gets_5 : decode cX12_gets 5 = .ok (.istore_n 3, 1) := by decide +kernel
theorem dX12_gets_6 : decode cX12_gets 6 = .ok (.iload_n 3, 1) := by decide +kernel
theorem dX12_gets_7 : decode cX12_gets 7 = .ok (.iconst (-1), 1) := by decide +kernel
theorem dX12_gets_8 : decode cX12_gets 8 = .ok (.if_icmp .ne 5, 3) := by decide +kernel
theorem dX12_gets_11 : decode cX12_gets 11 = .ok (.iconst 0, 1) := by decide +kernel
theorem dX12_gets_12 : decode cX12_gets 12 = .ok (.ireturn, 1) := by decide +kernel
theorem dX12_gets_13 : decode cX12_gets 13 = .ok (.aload_n 0, 1) := by decide +kernel
theorem dX12_gets_14 : decode cX12_gets 14 = .ok (.iload_n 1, 1) := by decide +kernel
theorem dX12_gets_15 : decode cX12_gets 15 = .ok (.bipush 10, 2) := by decide +kernel
theorem dX12_gets_17 : decode cX12_gets 17 = .ok (.invokestatic 307, 3) := by decide +kernel
theorem dX12_gets_20 : decode cX12_gets 20 = .ok (.iload_n 3, 1) := by decide +kernel
theorem dX12_gets_21 : decode cX12_gets 21 = .ok (.iload_n 3, 1) := by decide +kernel
theorem dX12_gets_22 : decode cX12_gets 22 = .ok (.iload_n 3, 1) := by decide +kernel
theorem dX12_gets_23 : decode cX12_gets 23 = .ok (.iload_n 2, 1) := by decide +kernel
theorem dX12_gets_24 : decode cX12_gets 24 = .ok (.iadd, 1) := by decide +kernel
theorem dX12_gets_25 : decode cX12_gets 25 = .ok (.bipush 91, 2) := by decide +kernel
theorem dX12_gets_27 : decode cX12_gets 27 = .ok (.iconst 0, 1) := by decide +kernel
theorem dX12_gets_28 : decode cX12_gets 28 = .ok (.iconst 1, 1) := by decide +kernel
theorem dX12_gets_29 : decode cX12_gets 29 = .ok (.invokevirtual 250, 3) := by decide +kernel
theorem dX12_gets_32 : decode cX12_gets 32 = .ok (.iconst 1, 1) := by decide +kernel
theorem dX12_gets_33 : decode cX12_gets 33 = .ok (.ireturn, 1) := by decide +kernel
theorem dX12_alloc_0 : decode cX12_alloc 0 = .ok (.iload_n 1, 1) := by decide +kernel
theorem dX12_alloc_1 : decode cX12_alloc 1 = .ok (.iconst 1, 1) := by decide +kernel
theorem dX12_alloc_2 : decode cX12_alloc 2 = .ok (.if_icmp .lt 16, 3) := by decide +kernel
theorem dX12_alloc_5 : decode cX12_alloc 5 = .ok (.iload_n 1, 1) := by decide +kernel
theorem dX12_alloc_6 : decode cX12_alloc 6 = .ok (.aload_n 0, 1) := by decide +kernel
theorem dX12_alloc_7 : decode cX12_alloc 7 = .ok (.getfield 175, 3) := by decide +kernel
theorem dX12_alloc_10 : decode cX12_alloc 10 = .ok (.aload_n 0, 1) := by decide +kernel
theorem dX12_alloc_11 : decode cX12_alloc 11 = .ok (.getfield 222, 3) := by decide +kernel
theorem dX12_alloc_14 : decode cX12_alloc 14 = .ok (.isub, 1) := by decide +kernel
theorem dX12_alloc_15 : decode cX12_alloc 15 = .ok (.if_icmp .le 4, 3) := by decide +kernel
theorem dX12_alloc_18 : decode cX12_alloc 18 = .ok (.return_, 1) := by decide +kernel
theorem dX12_alloc_19 : decode cX12_alloc 19 = .ok (.iload_n 1, 1) := by decide +kernel
theorem dX12_alloc_20 : decode cX12_alloc 20 = .ok (.bipush 15, 2) := by decide +kernel
theorem dX12_alloc_22 : decode cX12_alloc 22 = .ok (.iadd, 1) := by decide +kernel
theorem dX12_alloc_23 : decode cX12_alloc 23 = .ok (.bipush 16, 2) := by decide +kernel
theorem dX12_alloc_25 : decode cX12_alloc 25 = .ok (.idiv, 1) := by decide +kernel
theorem dX12_alloc_26 : decode cX12_alloc 26 = .ok (.bipush 16, 2) := by decide +kernel
theorem dX12_alloc_28 : decode cX12_alloc 28 = .ok (.imul, 1) := by decide +kernel
theorem dX12_alloc_29 : decode cX12_alloc 29 = .ok (.istore_n 2, 1) := by decide +kernel
theorem dX12_alloc_30 : decode cX12_alloc 30 = .ok (.aload_n 0, 1) := by decide +kernel
theorem dX12_alloc_31 : decode cX12_alloc 31 = .ok (.aload_n 0, 1) := by decide +kernel
theorem dX12_alloc_32 : decode cX12_alloc 32 = .ok (.getfield 330, 3) := by decide +kernel
theorem dX12_alloc_35 : decode cX12_alloc 35 = .ok (.iload_n 2, 1) := by decide +kernel
theorem dX12_alloc_36 : decode cX12_alloc 36 = .ok (.invokevirtual 497, 3) := by decide +kernel
theorem dX12_alloc_39 : decode cX12_alloc 39 = .ok (.ifCond .ne 10, 3) := by decide +kernel
theorem dX12_alloc_42 : decode cX12_alloc 42 = .ok (.aload_n 0, 1) := by decide +kernel
theorem dX12_alloc_43 : decode cX12_alloc 43 = .ok (.invokevirtual 500, 3) := by decide +kernel
theorem dX12_alloc_46 : decode cX12_alloc 46 = .ok (.ifCond .ne 4, 3) := by decide +kernel
theorem dX12_alloc_49 : decode cX12_alloc 49 = .ok (.return_, 1) := by decide +kernel
theorem dX12_alloc_50 : decode cX12_alloc 50 = .ok (.aload_n 0, 1) := by decide +kernel
theorem dX12_alloc_51 : decode cX12_alloc 51 = .ok (.aload_n 0, 1) := by decide +kernel
theorem dX12_alloc_52 : decode cX12_alloc 52 = .ok (.getfield 228, 3) := by decide +kernel
theorem dX12_alloc_55 : decode cX12_alloc 55 = .ok (.ifCond .ne 11, 3) := by decide +kernel
theorem dX12_alloc_58 : decode cX12_alloc 58 = .ok (.aload_n 0, 1) := by decide +kernel
theorem dX12_alloc_59 : decode cX12_alloc 59 = .ok (.getfield 231, 3) := by decide +kernel
theorem dX12_alloc_62 : decode cX12_alloc 62 = .ok (.iconst (-1), 1) := by decide +kernel
theorem dX12_alloc_63 : decode cX12_alloc 63 = .ok (.if_icmp .ne 7, 3) := by decide +kernel
theorem dX12_alloc_66 : decode cX12_alloc 66 = .ok (.iconst 1, 1) := by decide +kernel
theorem dX12_alloc_67 : decode cX12_alloc 67 = .ok (.goto 4, 3) := by decide +kernel
theorem dX12_alloc_70 : decode cX12_alloc 70 = .ok (.iconst 0, 1) := by decide +kernel
theorem dX12_alloc_71 : decode cX12_alloc 71 = .ok (.putfield 228, 3) := by decide +kernel
theorem dX12_alloc_74 : decode cX12_alloc 74 = .ok (.aload_n 0, 1) := by decide +kernel
theorem dX12_alloc_75 : decode cX12_alloc 75 = .ok (.getfield 109, 3) := by decide +kernel
theorem dX12_alloc_78 : decode cX12_alloc 78 = .ok (.aload_n 0, 1) := by decide +kernel
theorem dX12_alloc_79 : decode cX12_alloc 79 = .ok (.getfield 330, 3) := by decide +kernel
theorem dX12_alloc_82 : decode cX12_alloc 82 = .ok (.iload_n 2, 1) := by decide +kernel
theorem dX12_alloc_83 : decode cX12_alloc 83 = .ok (.iastore, 1) := by decide +kernel
theorem dX12_alloc_84 : decode cX12_alloc 84 = .ok (.aload_n 0, 1) := by decide +kernel
theorem dX12_alloc_85 : decode cX12_alloc 85 = .ok (.getfield 61, 3) := by decide +kernel
theorem dX12_alloc_88 : decode cX12_alloc 88 = .ok (.aload_n 0, 1) := by decide +kernel
theorem dX12_alloc_89 : decode cX12_alloc 89 = .ok (.getfield 330, 3) := by decide +kernel
theorem dX12_alloc_92 : decode cX12_alloc 92 = .ok (.iconst 1, 1) := by decide +kernel
theorem dX12_alloc_93 : decode cX12_alloc 93 = .ok (.iastore, 1) := by decide +kernel
theorem dX12_alloc_94 : decode cX12_alloc 94 = .ok (.aload_n 0, 1) := by decide +kernel
theorem dX12_alloc_95 : decode cX12_alloc 95 = .ok (.getfield 64, 3) := by decide +kernel
theorem dX12_alloc_98 : decode cX12_alloc 98 = .ok (.aload_n 0, 1) := by decide +kernel
theorem dX12_alloc_99 : decode cX12_alloc 99 = .ok (.getfield 330, 3) := by decide +kernel
theorem dX12_alloc_102 : decode cX12_alloc 102 = .ok (.iconst (-1), 1) := by decide +kernel
theorem dX12_alloc_103 : decode cX12_alloc 103 = .ok (.iastore, 1) := by decide +kernel
theorem dX12_alloc_104 : decode cX12_alloc 104 = .ok (.return_, 1) := by decide +kernel
theorem dX12_free_0 : decode cX12_free 0 = .ok (.aload_n 0, 1) := by decide +kernel
theorem dX12_free_1 : decode cX12_free 1 = .ok (.getfield 25, 3) := by decide +kernel
theorem dX12_free_4 : decode cX12_free 4 = .ok (.iload_n 1, 1) := by decide +kernel
theorem dX12_free_5 : decode cX12_free 5 = .ok (.baload, 1) := by decide +kernel
theorem dX12_free_6 : decode cX12_free 6 = .ok (.ifCond .eq 23, 3) := by decide +kernel
theorem dX12_free_9 : decode cX12_free 9 = .ok (.aload_n 0, 1) := by decide +kernel
theorem dX12_free_10 : decode cX12_free 10 = .ok (.getfield 22, 3) := by decide +kernel
theorem dX12_free_13 : decode cX12_free 13 = .ok (.iload_n 1, 1) := by decide +kernel
theorem dX12_free_14 : decode cX12_free 14 = .ok (.iaload, 1) := by decide +kernel
theorem dX12_free_15 : decode cX12_free 15 = .ok (.ifCond .ne 14, 3) := by decide +kernel
theorem dX12_free_18 : decode cX12_free 18 = .ok (.aload_n 0, 1) := by decide +kernel
theorem dX12_free_19 : decode cX12_free 19 = .ok (.getfield 19, 3) := by decide +kernel
theorem dX12_free_22 : decode cX12_free 22 = .ok (.iload_n 1, 1) := by decide +kernel
theorem dX12_free_23 : decode cX12_free 23 = .ok (.iaload, 1) := by decide +kernel
theorem dX12_free_24 : decode cX12_free 24 = .ok (.iconst 2, 1) := by decide +kernel
theorem dX12_free_25 : decode cX12_free 25 = .ok (.iand, 1) := by decide +kernel
theorem dX12_free_26 : decode cX12_free 26 = .ok (.ifCond .ne 5, 3) := by decide +kernel
theorem dX12_free_29 : decode cX12_free 29 = .ok (.iconst 0, 1) := by decide +kernel
theorem dX12_free_30 : decode cX12_free 30 = .ok (.ireturn, 1) := by decide +kernel
theorem dX12_free_31 : decode cX12_free 31 = .ok (.iconst 0, 1) := by decide +kernel
theorem dX12_free_32 : decode cX12_free 32 = .ok (.istore_n 2, 1) := by decide +kernel
theorem dX12_free_33 : decode cX12_free 33 = .ok (.iload_n 2, 1) := by decide +kernel
theorem dX12_free_34 : decode cX12_free 34 = .ok (.aload_n 0, 1) := by decide +kernel
theorem dX12_free_35 : decode cX12_free 35 = .ok (.getfield 225, 3) := by decide +kernel
theorem dX12_free_38 : decode cX12_free 38 = .ok (.if_icmp .ge 104, 3) := by decide +kernel
theorem dX12_free_41 : decode cX12_free 41 = .ok (.aload_n 0, 1) := by decide +kernel
theorem dX12_free_42 : decode cX12_free 42 = .ok (.getfield 127, 3) := by decide +kernel
theorem dX12_free_45 : decode cX12_free 45 = .ok (.iload_n 2, 1) := by decide +kernel
theorem dX12_free_46 : decode cX12_free 46 = .ok (.baload, 1) := by decide +kernel
theorem dX12_free_47 : decode cX12_free 47 = .ok (.ifCond .ne 89, 3) := by decide +kernel
theorem dX12_free_50 : decode cX12_free 50 = .ok (.aload_n 0, 1) := by decide +kernel
theorem dX12_free_51 : decode cX12_free 51 = .ok (.getfield 121, 3) := by decide +kernel
theorem dX12_free_54 : decode cX12_free 54 = .ok (.iload_n 2, 1) := by decide +kernel
theorem dX12_free_55 : decode cX12_free 55 = .ok (.iaload, 1) := by decide +kernel
theorem dX12_free_56 : decode cX12_free 56 = .ok (.aload_n 0, 1) := by decide +kernel
theorem dX12_free_57 : decode cX12_free 57 = .ok (.getfield 13, 3) := by decide +kernel
theorem dX12_free_60 : decode cX12_free 60 = .ok (.iload_n 1, 1) := by decide +kernel
theorem dX12_free_61 : decode cX12_free 61 = .ok (.iaload, 1) := by decide +kernel
theorem dX12_free_62 : decode cX12_free 62 = .ok (.if_icmp .ne 74, 3) := by decide +kernel
theorem dX12_free_65 : decode cX12_free 65 = .ok (.aload_n 0, 1) := by decide +kernel
theorem dX12_free_66 : decode cX12_free 66 = .ok (.getfield 121, 3) := by decide +kernel
theorem dX12_free_69 : decode cX12_free 69 = .ok (.iload_n 2, 1) := by decide +kernel
theorem dX12_free_70 : decode cX12_free 70 = .ok (.iaload, 1) := by decide +kernel
theorem dX12_free_71 : decode cX12_free 71 = .ok (.aload_n 0, 1) := by decide +kernel
theorem dX12_free_72 : decode cX12_free 72 = .ok (.getfield 124, 3) := by decide +kernel
theorem dX12_free_75 : decode cX12_free 75 = .ok (.iload_n 2, 1) := by decide +kernel
theorem dX12_free_76 : decode cX12_free 76 = .ok (.iaload, 1) := by decide +kernel
theorem dX12_free_77 : decode cX12_free 77 = .ok (.iadd, 1) := by decide +kernel
theorem dX12_free_78 : decode cX12_free 78 = .ok (.aload_n 0, 1) := by decide +kernel
theorem dX12_free_79 : decode cX12_free 79 = .ok (.getfield 16, 3) := by decide +kernel
theorem dX12_free_82 : decode cX12_free 82 = .ok (.iload_n 1, 1) := by decide +kernel
theorem dX12_free_83 : decode cX12_free 83 = .ok (.iaload, 1) := by decide +kernel
theorem dX12_free_84 : decode cX12_free 84 = .ok (.if_icmp .ne 52, 3) := by decide +kernel
theorem dX12_free_87 : decode cX12_free 87 = .ok (.aload_n 0, 1) := by decide +kernel
theorem dX12_free_88 : decode cX12_free 88 = .ok (.getfield 127, 3) := by decide +kernel
theorem dX12_free_91 : decode cX12_free 91 = .ok (.iload_n 2, 1) := by decide +kernel
theorem dX12_free_92 : decode cX12_free 92 = .ok (.iconst 1, 1) := by decide +kernel
theorem dX12_free_93 : decode cX12_free 93 = .ok (.bastore, 1) := by decide +kernel
theorem dX12_free_94 : decode cX12_free 94 = .ok (.aload_n 0, 1) := by decide +kernel
theorem dX12_free_95 : decode cX12_free 95 = .ok (.getfield 130, 3) := by decide +kernel
theorem dX12_free_98 : decode cX12_free 98 = .ok (.iload_n 2, 1) := by decide +kernel
theorem dX12_free_99 : decode cX12_free 99 = .ok (.iconst 0, 1) := by decide +kernel
theorem dX12_free_100 : decode cX12_free 100 = .ok (.bastore, 1) := by decide +kernel
theorem dX12_free_101 : decode cX12_free 101 = .ok (.aload_n 0, 1) := by decide +kernel
theorem dX12_free_102 : decode cX12_free 102 = .ok (.getfield 13, 3) := by decide +kernel
theorem dX12_free_105 : decode cX12_free 105 = .ok (.iload_n 1, 1) := by decide +kernel
theorem dX12_free_106 : decode cX12_free 106 = .ok (.iaload, 1) := by decide +kernel
theorem dX12_free_107 : decode cX12_free 107 = .ok (.istore_n 3, 1) := by decide +kernel
theorem dX12_free_108 : decode cX12_free 108 = .ok (.iload_n 3, 1) := by decide +kernel
theorem dX12_free_109 : decode cX12_free 109 = .ok (.aload_n 0, 1) := by decide +kernel
theorem dX12_free_110 : decode cX12_free 110 = .ok (.getfield 16, 3) := by decide +kernel
theorem dX12_free_113 : decode cX12_free 113 = .ok (.iload_n 1, 1) := by decide +kernel
theorem dX12_free_114 : decode cX12_free 114 = .ok (.iaload, 1) := by decide +kernel
theorem dX12_free_115 : decode cX12_free 115 = .ok (.if_icmp .ge 19, 3) := by decide +kernel
theorem dX12_free_118 : decode cX12_free 118 = .ok (.aload_n 0, 1) := by decide +kernel
theorem dX12_free_119 : decode cX12_free 119 = .ok (.getfield 185, 3) := by decide +kernel
theorem dX12_free_122 : decode cX12_free 122 = .ok (.iload_n 3, 1) := by decide +kernel
theorem dX12_free_123 : decode cX12_free 123 = .ok (.bipush 16, 2) := by decide +kernel
theorem dX12_free_125 : decode cX12_free 125 = .ok (.idiv, 1) := by decide +kernel
theorem dX12_free_126 : decode cX12_free 126 = .ok (.iconst 1, 1) := by decide +kernel
theorem dX12_free_127 : decode cX12_free 127 = .ok (.bastore, 1) := by decide +kernel
theorem dX12_free_128 : decode cX12_free 128 = .ok (.iinc 3 16, 3) := by decide +kernel
theorem dX12_free_131 : decode cX12_free 131 = .ok (.goto (-23), 3) := by decide +kernel
theorem dX12_free_134 : decode cX12_free 134 = .ok (.iconst 1, 1) := by decide +kernel
theorem dX12_free_135 : decode cX12_free 135 = .ok (.ireturn, 1) := by decide +kernel
theorem dX12_free_136 : decode cX12_free 136 = .ok (.iinc 2 1, 3) := by decide +kernel
theorem dX12_free_139 : decode cX12_free 139 = .ok (.goto (-106), 3) := by decide +kernel
theorem dX12_free_142 : decode cX12_free 142 = .ok (.iconst 0, 1) := by decide +kernel
theorem dX12_free_143 : decode cX12_free 143 = .ok (.ireturn, 1) := by decide +kernel
theorem dX12_sweep_0 : decode cX12_sweep 0 = .ok (.aload_n 0, 1) := by decide +kernel
theorem dX12_sweep_1 : decode cX12_sweep 1 = .ok (.getfield 231, 3) := by decide +kernel
theorem dX12_sweep_4 : decode cX12_sweep 4 = .ok (.iconst (-1), 1) := by decide +kernel
theorem dX12_sweep_5 : decode cX12_sweep 5 = .ok (.if_icmp .ne 108, 3) := by decide +kernel
theorem dX12_sweep_8 : decode cX12_sweep 8 = .ok (.iconst 0, 1) := by decide +kernel
theorem dX12_sweep_9 : decode cX12_sweep 9 = .ok (.istore_n 1, 1) := by decide +kernel
theorem dX12_sweep_10 : decode cX12_sweep 10 = .ok (.iconst 0, 1) := by decide +kernel
theorem dX12_sweep_11 : decode cX12_sweep 11 = .ok (.istore_n 2, 1) := by decide +kernel
theorem dX12_sweep_12 : decode cX12_sweep 12 = .ok (.iload_n 2, 1) := by decide +kernel
theorem dX12_sweep_13 : decode cX12_sweep 13 = .ok (.aload_n 0, 1) := by decide +kernel
theorem dX12_sweep_14 : decode cX12_sweep 14 = .ok (.getfield 225, 3) := by decide +kernel
theorem dX12_sweep_17 : decode cX12_sweep 17 = .ok (.if_icmp .ge 31, 3) := by decide +kernel
theorem dX12_sweep_20 : decode cX12_sweep 20 = .ok (.iload_n 1, 1) := by decide +kernel
theorem dX12_sweep_21 : decode cX12_sweep 21 = .ok (.aload_n 0, 1) := by decide +kernel
theorem dX12_sweep_22 : decode cX12_sweep 22 = .ok (.getfield 127, 3) := by decide +kernel
theorem dX12_sweep_25 : decode cX12_sweep 25 = .ok (.iload_n 2, 1) := by decide +kernel
theorem dX12_sweep_26 : decode cX12_sweep 26 = .ok (.baload, 1) := by decide +kernel
theorem dX12_sweep_27 : decode cX12_sweep 27 = .ok (.ifCond .eq 12, 3) := by decide +kernel
theorem dX12_sweep_30 : decode cX12_sweep 30 = .ok (.aload_n 0, 1) := by decide +kernel
theorem dX12_sweep_31 : decode cX12_sweep 31 = .ok (.getfield 124, 3) := by decide +kernel
theorem dX12_sweep_34 : decode cX12_sweep 34 = .ok (.iload_n 2, 1) := by decide +kernel
theorem dX12_sweep_35 : decode cX12_sweep 35 = .ok (.iaload, 1) := by decide +kernel
theorem dX12_sweep_36 : decode cX12_sweep 36 = .ok (.goto 4, 3) := by decide +kernel
theorem dX12_sweep_39 : decode cX12_sweep 39 = .ok (.iconst 0, 1) := by decide +kernel
theorem dX12_sweep_40 : decode cX12_sweep 40 = .ok (.iadd, 1) := by decide +kernel
theorem dX12_sweep_41 : decode cX12_sweep 41 = .ok (.istore_n 1, 1) := by decide +kernel
theorem dX12_sweep_42 : decode cX12_sweep 42 = .ok (.iinc 2 1, 3) := by decide +kernel
theorem dX12_sweep_45 : decode cX12_sweep 45 = .ok (.goto (-33), 3) := by decide +kernel
theorem dX12_sweep_48 : decode cX12_sweep 48 = .ok (.iload_n 1, 1) := by decide +kernel
theorem dX12_sweep_49 : decode cX12_sweep 49 = .ok (.ifCond .le 58, 3) := by decide +kernel
theorem dX12_sweep_52 : decode cX12_sweep 52 = .ok (.aload_n 0, 1) := by decide +kernel
theorem dX12_sweep_53 : decode cX12_sweep 53 = .ok (.getfield 228, 3) := by decide +kernel
theorem dX12_sweep_56 : decode cX12_sweep 56 = .ok (.ifCond .ne 18, 3) := by decide +kernel
theorem dX12_sweep_59 : decode cX12_sweep 59 = .ok (.iconst 4, 1) := by decide +kernel
theorem dX12_sweep_60 : decode cX12_sweep 60 = .ok (.iload_n 1, 1) := by decide +kernel
theorem dX12_sweep_61 : decode cX12_sweep 61 = .ok (.imul, 1) := by decide +kernel
theorem dX12_sweep_62 : decode cX12_sweep 62 = .ok (.aload_n 0, 1) := by decide +kernel
theorem dX12_sweep_63 : decode cX12_sweep 63 = .ok (.getfield 175, 3) := by decide +kernel
theorem dX12_sweep_66 : decode cX12_sweep 66 = .ok (.aload_n 0, 1) := by decide +kernel
theorem dX12_sweep_67 : decode cX12_sweep 67 = .ok (.getfield 222, 3) := by decide +kernel
theorem dX12_sweep_70 : decode cX12_sweep 70 = .ok (.isub, 1) := by decide +kernel
theorem dX12_sweep_71 : decode cX12_sweep 71 = .ok (.if_icmp .lt 36, 3) := by decide +kernel
theorem dX12_sweep_74 : decode cX12_sweep 74 = .ok (.aload_n 0, 1) := by decide +kernel
theorem dX12_sweep_75 : decode cX12_sweep 75 = .ok (.iconst 0, 1) := by decide +kernel
theorem dX12_sweep_76 : decode cX12_sweep 76 = .ok (.putfield 231, 3) := by decide +kernel
theorem dX12_sweep_79 : decode cX12_sweep 79 = .ok (.iconst 0, 1) := by decide +kernel
theorem dX12_sweep_80 : decode cX12_sweep 80 = .ok (.istore_n 2, 1) := by decide +kernel
theorem dX12_sweep_81 : decode cX12_sweep 81 = .ok (.iload_n 2, 1) := by decide +kernel
theorem dX12_sweep_82 : decode cX12_sweep 82 = .ok (.aload_n 0, 1) := by decide +kernel
theorem dX12_sweep_83 : decode cX12_sweep 83 = .ok (.getfield 225, 3) := by decide +kernel
theorem dX12_sweep_86 : decode cX12_sweep 86 = .ok (.if_icmp .ge 21, 3) := by decide +kernel
theorem dX12_sweep_89 : decode cX12_sweep 89 = .ok (.aload_n 0, 1) := by decide +kernel
theorem dX12_sweep_90 : decode cX12_sweep 90 = .ok (.getfield 130, 3) := by decide +kernel
theorem dX12_sweep_93 : decode cX12_sweep 93 = .ok (.iload_n 2, 1) := by decide +kernel
theorem dX12_sweep_94 : decode cX12_sweep 94 = .ok (.aload_n 0, 1) := by decide +kernel
theorem dX12_sweep_95 : decode cX12_sweep 95 = .ok (.getfield 127, 3) := by decide +kernel
theorem dX12_sweep_98 : decode cX12_sweep 98 = .ok (.iload_n 2, 1) := by decide +kernel
theorem dX12_sweep_99 : decode cX12_sweep 99 = .ok (.baload, 1) := by decide +kernel
theorem dX12_sweep_100 : decode cX12_sweep 100 = .ok (.bastore, 1) := by decide +kernel
theorem dX12_sweep_101 : decode cX12_sweep 101 = .ok (.iinc 2 1, 3) := by decide +kernel
theorem dX12_sweep_104 : decode cX12_sweep 104 = .ok (.goto (-23), 3) := by decide +kernel
theorem dX12_sweep_107 : decode cX12_sweep 107 = .ok (.aload_n 0, 1) := by decide +kernel
theorem dX12_sweep_108 : decode cX12_sweep 108 = .ok (.iconst 0, 1) := by decide +kernel
theorem dX12_sweep_109 : decode cX12_sweep 109 = .ok (.putfield 228, 3) := by decide +kernel
theorem dX12_sweep_112 : decode cX12_sweep 112 = .ok (.return_, 1) := by decide +kernel
theorem dX12_sweep_113 : decode cX12_sweep 113 = .ok (.iconst 0, 1) := by decide +kernel
theorem dX12_sweep_114 : decode cX12_sweep 114 = .ok (.istore_n 1, 1) := by decide +kernel
theorem dX12_sweep_115 : decode cX12_sweep 115 = .ok (.iload_n 1, 1) := by decide +kernel
theorem dX12_sweep_116 : decode cX12_sweep 116 = .ok (.iconst 4, 1) := by decide +kernel
theorem dX12_sweep_117 : decode cX12_sweep 117 = .ok (.if_icmp .ge 82, 3) := by decide +kernel
theorem dX12_sweep_120 : decode cX12_sweep 120 = .ok (.aload_n 0, 1) := by decide +kernel
theorem dX12_sweep_121 : decode cX12_sweep 121 = .ok (.getfield 231, 3) := by decide +kernel
theorem dX12_sweep_124 : decode cX12_sweep 124 = .ok (.aload_n 0, 1) := by decide +kernel
theorem dX12_sweep_125 : decode cX12_sweep 125 = .ok (.getfield 175, 3) := by decide +kernel
theorem dX12_sweep_128 : decode cX12_sweep 128 = .ok (.bipush 16, 2) := by decide +kernel
theorem dX12_sweep_130 : decode cX12_sweep 130 = .ok (.idiv, 1) := by decide +kernel
theorem dX12_sweep_131 : decode cX12_sweep 131 = .ok (.if_icmp .ge 68, 3) := by decide +kernel
theorem dX12_sweep_134 : decode cX12_sweep 134 = .ok (.aload_n 0, 1) := by decide +kernel
theorem dX12_sweep_135 : decode cX12_sweep 135 = .ok (.bipush 16, 2) := by decide +kernel
theorem dX12_sweep_137 : decode cX12_sweep 137 = .ok (.aload_n 0, 1) := by decide +kernel
theorem dX12_sweep_138 : decode cX12_sweep 138 = .ok (.getfield 231, 3) := by decide +kernel
theorem dX12_sweep_141 : decode cX12_sweep 141 = .ok (.imul, 1) := by decide +kernel
theorem dX12_sweep_142 : decode cX12_sweep 142 = .ok (.sipush 582, 3) := by decide +kernel
theorem dX12_sweep_145 : decode cX12_sweep 145 = .ok (.invokevirtual 414, 3) := by decide +kernel
theorem dX12_sweep_148 : decode cX12_sweep 148 = .ok (.aload_n 0, 1) := by decide +kernel
theorem dX12_sweep_149 : decode cX12_sweep 149 = .ok (.getfield 182, 3) := by decide +kernel
theorem dX12_sweep_152 : decode cX12_sweep 152 = .ok (.aload_n 0, 1) := by decide +kernel
theorem dX12_sweep_153 : decode cX12_sweep 153 = .ok (.getfield 231, 3) := by decide +kernel
theorem dX12_sweep_156 : decode cX12_sweep 156 = .ok (.aload_n 0, 1) := by decide +kernel
theorem dX12_sweep_157 : decode cX12_sweep 157 = .ok (.getfield 25, 3) := by decide +kernel
theorem dX12_sweep_160 : decode cX12_sweep 160 = .ok (.sipush 582, 3) := by decide +kernel
theorem dX12_sweep_163 : decode cX12_sweep 163 = .ok (.baload, 1) := by decide +kernel
theorem dX12_sweep_164 : decode cX12_sweep 164 = .ok (.ifCond .eq 17, 3) := by decide +kernel
theorem dX12_sweep_167 : decode cX12_sweep 167 = .ok (.aload_n 0, 1) := by decide +kernel
theorem dX12_sweep_168 : decode cX12_sweep 168 = .ok (.sipush 582, 3) := by decide +kernel
theorem dX12_sweep_171 : decode cX12_sweep 171 = .ok (.invokevirtual 256, 3) := by decide +kernel
theorem dX12_sweep_174 : decode cX12_sweep 174 = .ok (.ifCond .ne 7, 3) := by decide +kernel
theorem dX12_sweep_177 : decode cX12_sweep 177 = .ok (.iconst 1, 1) := by decide +kernel
theorem dX12_sweep_178 : decode cX12_sweep 178 = .ok (.goto 4, 3) := by decide +kernel
theorem dX12_sweep_181 : decode cX12_sweep 181 = .ok (.iconst 0, 1) := by decide +kernel
theorem dX12_sweep_182 : decode cX12_sweep 182 = .ok (.bastore, 1) := by decide +kernel
theorem dX12_sweep_183 : decode cX12_sweep 183 = .ok (.aload_n 0, 1) := by decide +kernel
theorem dX12_sweep_184 : decode cX12_sweep 184 = .ok (.dup, 1) := by decide +kernel
theorem dX12_sweep_185 : decode cX12_sweep 185 = .ok (.getfield 231, 3) := by decide +kernel
theorem dX12_sweep_188 : decode cX12_sweep 188 = .ok (.iconst 1, 1) := by decide +kernel
theorem dX12_sweep_189 : decode cX12_sweep 189 = .ok (.iadd, 1) := by decide +kernel
theorem dX12_sweep_190 : decode cX12_sweep 190 = .ok (.putfield 231, 3) := by decide +kernel
theorem dX12_sweep_193 : decode cX12_sweep 193 = .ok (.iinc 1 1, 3) := by decide +kernel
theorem dX12_sweep_196 : decode cX12_sweep 196 = .ok (.goto (-81), 3) := by decide +kernel
theorem dX12_sweep_199 : decode cX12_sweep 199 = .ok (.aload_n 0, 1) := by decide +kernel
theorem dX12_sweep_200 : decode cX12_sweep 200 = .ok (.getfield 231, 3) := by decide +kernel
theorem dX12_sweep_203 : decode cX12_sweep 203 = .ok (.aload_n 0, 1) := by decide +kernel
theorem dX12_sweep_204 : decode cX12_sweep 204 = .ok (.getfield 175, 3) := by decide +kernel
theorem dX12_sweep_207 : decode cX12_sweep 207 = .ok (.bipush 16, 2) := by decide +kernel
theorem dX12_sweep_209 : decode cX12_sweep 209 = .ok (.idiv, 1) := by decide +kernel
theorem dX12_sweep_210 : decode cX12_sweep 210 = .ok (.if_icmp .ge 4, 3) := by decide +kernel
theorem dX12_sweep_213 : decode cX12_sweep 213 = .ok (.return_, 1) := by decide +kernel
theorem dX12_sweep_214 : decode cX12_sweep 214 = .ok (.iconst 0, 1) := by decide +kernel
theorem dX12_sweep_215 : decode cX12_sweep 215 = .ok (.istore_n 1, 1) := by decide +kernel
theorem dX12_sweep_216 : decode cX12_sweep 216 = .ok (.iload_n 1, 1) := by decide +kernel
theorem dX12_sweep_217 : decode cX12_sweep 217 = .ok (.sipush 582, 3) := by decide +kernel
theorem dX12_sweep_220 : decode cX12_sweep 220 = .ok (.if_icmp .ge 14, 3) := by decide +kernel
theorem dX12_sweep_223 : decode cX12_sweep 223 = .ok (.aload_n 0, 1) := by decide +kernel
theorem dX12_sweep_224 : decode cX12_sweep 224 = .ok (.iload_n 1, 1) := by decide +kernel
theorem dX12_sweep_225 : decode cX12_sweep 225 = .ok (.invokevirtual 417, 3) := by decide +kernel
theorem dX12_sweep_228 : decode cX12_sweep 228 = .ok (.iinc 1 1, 3) := by decide +kernel
theorem dX12_sweep_231 : decode cX12_sweep 231 = .ok (.goto (-15), 3) := by decide +kernel
theorem dX12_sweep_234 : decode cX12_sweep 234 = .ok (.iconst 0, 1) := by decide +kernel
theorem dX12_sweep_235 : decode cX12_sweep 235 = .ok (.istore_n 1, 1) := by decide +kernel
theorem dX12_sweep_236 : decode cX12_sweep 236 = .ok (.iconst 0, 1) := by decide +kernel
theorem dX12_sweep_237 : decode cX12_sweep 237 = .ok (.istore_n 2, 1) := by decide +kernel
theorem dX12_sweep_238 : decode cX12_sweep 238 = .ok (.iload_n 2, 1) := by decide +kernel
theorem dX12_sweep_239 : decode cX12_sweep 239 = .ok (.aload_n 0, 1) := by decide +kernel
theorem dX12_sweep_240 : decode cX12_sweep 240 = .ok (.getfield 225, 3) := by decide +kernel
theorem dX12_sweep_243 : decode cX12_sweep 243 = .ok (.if_icmp .ge 140, 3) := by decide +kernel
theorem dX12_sweep_246 : decode cX12_sweep 246 = .ok (.aload_n 0, 1) := by decide +kernel
theorem dX12_sweep_247 : decode cX12_sweep 247 = .ok (.getfield 127, 3) := by decide +kernel
theorem dX12_sweep_250 : decode cX12_sweep 250 = .ok (.iload_n 2, 1) := by decide +kernel
theorem dX12_sweep_251 : decode cX12_sweep 251 = .ok (.baload, 1) := by decide +kernel
theorem dX12_sweep_252 : decode cX12_sweep 252 = .ok (.ifCond .eq 16, 3) := by decide +kernel
theorem dX12_sweep_255 : decode cX12_sweep 255 = .ok (.aload_n 0, 1) := by decide +kernel
theorem dX12_sweep_256 : decode cX12_sweep 256 = .ok (.getfield 130, 3) := by decide +kernel
theorem dX12_sweep_259 : decode cX12_sweep 259 = .ok (.iload_n 2, 1) := by decide +kernel
theorem dX12_sweep_260 : decode cX12_sweep 260 = .ok (.baload, 1) := by decide +kernel
theorem dX12_sweep_261 : decode cX12_sweep 261 = .ok (.ifCond .eq 7, 3) := by decide +kernel
theorem dX12_sweep_264 : decode cX12_sweep 264 = .ok (.iconst 1, 1) := by decide +kernel
theorem dX12_sweep_265 : decode cX12_sweep 265 = .ok (.goto 4, 3) := by decide +kernel
theorem dX12_sweep_268 : decode cX12_sweep 268 = .ok (.iconst 0, 1) := by decide +kernel
theorem dX12_sweep_269 : decode cX12_sweep 269 = .ok (.istore_n 3, 1) := by decide +kernel
theorem dX12_sweep_270 : decode cX12_sweep 270 = .ok (.aload_n 0, 1) := by decide +kernel
theorem dX12_sweep_271 : decode cX12_sweep 271 = .ok (.getfield 121, 3) := by decide +kernel
theorem dX12_sweep_274 : decode cX12_sweep 274 = .ok (.iload_n 2, 1) := by decide +kernel
theorem dX12_sweep_275 : decode cX12_sweep 275 = .ok (.iaload, 1) := by decide +kernel
theorem dX12_sweep_276 : decode cX12_sweep 276 = .ok (.istore 4, 2) := by decide +kernel
theorem dX12_sweep_278 : decode cX12_sweep 278 = .ok (.iload_n 3, 1) := by decide +kernel
theorem dX12_sweep_279 : decode cX12_sweep 279 = .ok (.ifCond .eq 38, 3) := by decide +kernel
theorem dX12_sweep_282 : decode cX12_sweep 282 = .ok (.iload 4, 2) := by decide +kernel
theorem dX12_sweep_284 : decode cX12_sweep 284 = .ok (.aload_n 0, 1) := by decide +kernel
theorem dX12_sweep_285 : decode cX12_sweep 285 = .ok (.getfield 121, 3) := by decide +kernel
theorem dX12_sweep_288 : decode cX12_sweep 288 = .ok (.iload_n 2, 1) := by decide +kernel
theorem dX12_sweep_289 : decode cX12_sweep 289 = .ok (.iaload, 1) := by decide +kernel
theorem dX12_sweep_290 : decode cX12_sweep 290 = .ok (.aload_n 0, 1) := by decide +kernel
theorem dX12_sweep_291 : decode cX12_sweep 291 = .ok (.getfield 124, 3) := by decide +kernel
theorem dX12_sweep_294 : decode cX12_sweep 294 = .ok (.iload_n 2, 1) := by decide +kernel
theorem dX12_sweep_295 : decode cX12_sweep 295 = .ok (.iaload, 1) := by decide +kernel
theorem dX12_sweep_296 : decode cX12_sweep 296 = .ok (.iadd, 1) := by decide +kernel
theorem dX12_sweep_297 : decode cX12_sweep 297 = .ok (.if_icmp .ge 20, 3) := by decide +kernel
theorem dX12_sweep_300 : decode cX12_sweep 300 = .ok (.aload_n 0, 1) := by decide +kernel
theorem dX12_sweep_301 : decode cX12_sweep 301 = .ok (.getfield 185, 3) := by decide +kernel
theorem dX12_sweep_304 : decode cX12_sweep 304 = .ok (.iload 4, 2) := by decide +kernel
theorem dX12_sweep_306 : decode cX12_sweep 306 = .ok (.bipush 16, 2) := by decide +kernel
theorem dX12_sweep_308 : decode cX12_sweep 308 = .ok (.idiv, 1) := by decide +kernel
theorem dX12_sweep_309 : decode cX12_sweep 309 = .ok (.iconst 0, 1) := by decide +kernel
theorem dX12_sweep_310 : decode cX12_sweep 310 = .ok (.bastore, 1) := by decide +kernel
theorem dX12_sweep_311 : decode cX12_sweep 311 = .ok (.iinc 4 16, 3) := by decide +kernel
theorem dX12_sweep_314 : decode cX12_sweep 314 = .ok (.goto (-36), 3) := by decide +kernel
theorem dX12_sweep_317 : decode cX12_sweep 317 = .ok (.aload_n 0, 1) := by decide +kernel
theorem dX12_sweep_318 : decode cX12_sweep 318 = .ok (.getfield 121, 3) := by decide +kernel
theorem dX12_sweep_321 : decode cX12_sweep 321 = .ok (.iload_n 1, 1) := by decide +kernel
theorem dX12_sweep_322 : decode cX12_sweep 322 = .ok (.aload_n 0, 1) := by decide +kernel
theorem dX12_sweep_323 : decode cX12_sweep 323 = .ok (.getfield 121, 3) := by decide +kernel
theorem dX12_sweep_326 : decode cX12_sweep 326 = .ok (.iload_n 2, 1) := by decide +kernel
theorem dX12_sweep_327 : decode cX12_sweep 327 = .ok (.iaload, 1) := by decide +kernel
theorem dX12_sweep_328 : decode cX12_sweep 328 = .ok (.iastore, 1) := by decide +kernel
theorem dX12_sweep_329 : decode cX12_sweep 329 = .ok (.aload_n 0, 1) := by decide +kernel
theorem dX12_sweep_330 : decode cX12_sweep 330 = .ok (.getfield 124, 3) := by decide +kernel
theorem dX12_sweep_333 : decode cX12_sweep 333 = .ok (.iload_n 1, 1) := by decide +kernel
theorem dX12_sweep_334 : decode cX12_sweep 334 = .ok (.aload_n 0, 1) := by decide +kernel
theorem dX12_sweep_335 : decode cX12_sweep 335 = .ok (.getfield 124, 3) := by decide +kernel
theorem dX12_sweep_338 : decode cX12_sweep 338 = .ok (.iload_n 2, 1) := by decide +kernel
theorem dX12_sweep_339 : decode cX12_sweep 339 = .ok (.iaload, 1) := by decide +kernel
theorem dX12_sweep_340 : decode cX12_sweep 340 = .ok (.iastore, 1) := by decide +kernel
theorem dX12_sweep_341 : decode cX12_sweep 341 = .ok (.aload_n 0, 1) := by decide +kernel
theorem dX12_sweep_342 : decode cX12_sweep 342 = .ok (.getfield 127, 3) := by decide +kernel
theorem dX12_sweep_345 : decode cX12_sweep 345 = .ok (.iload_n 1, 1) := by decide +kernel
theorem dX12_sweep_346 : decode cX12_sweep 346 = .ok (.aload_n 0, 1) := by decide +kernel
theorem dX12_sweep_347 : decode cX12_sweep 347 = .ok (.getfield 127, 3) := by decide +kernel
theorem dX12_sweep_350 : decode cX12_sweep 350 = .ok (.iload_n 2, 1) := by decide +kernel
theorem dX12_sweep_351 : decode cX12_sweep 351 = .ok (.baload, 1) := by decide +kernel
theorem dX12_sweep_352 : decode cX12_sweep 352 = .ok (.bastore, 1) := by decide +kernel
theorem dX12_sweep_353 : decode cX12_sweep 353 = .ok (.aload_n 0, 1) := by decide +kernel
theorem dX12_sweep_354 : decode cX12_sweep 354 = .ok (.getfield 130, 3) := by decide +kernel
theorem dX12_sweep_357 : decode cX12_sweep 357 = .ok (.iload_n 1, 1) := by decide +kernel
theorem dX12_sweep_358 : decode cX12_sweep 358 = .ok (.aload_n 0, 1) := by decide +kernel
theorem dX12_sweep_359 : decode cX12_sweep 359 = .ok (.getfield 130, 3) := by decide +kernel
theorem dX12_sweep_362 : decode cX12_sweep 362 = .ok (.iload_n 2, 1) := by decide +kernel
theorem dX12_sweep_363 : decode cX12_sweep 363 = .ok (.baload, 1) := by decide +kernel
theorem dX12_sweep_364 : decode cX12_sweep 364 = .ok (.bastore, 1) := by decide +kernel
theorem dX12_sweep_365 : decode cX12_sweep 365 = .ok (.iload_n 1, 1) := by decide +kernel
theorem dX12_sweep_366 : decode cX12_sweep 366 = .ok (.iload_n 3, 1) := by decide +kernel
theorem dX12_sweep_367 : decode cX12_sweep 367 = .ok (.ifCond .eq 7, 3) := by decide +kernel
theorem dX12_sweep_370 : decode cX12_sweep 370 = .ok (.iconst 0, 1) := by decide +kernel
theorem dX12_sweep_371 : decode cX12_sweep 371 = .ok (.goto 4, 3) := by decide +kernel
theorem dX12_sweep_374 : decode cX12_sweep 374 = .ok (.iconst 1, 1) := by decide +kernel
theorem dX12_sweep_375 : decode cX12_sweep 375 = .ok (.iadd, 1) := by decide +kernel
theorem dX12_sweep_376 : decode cX12_sweep 376 = .ok (.istore_n 1, 1) := by decide +kernel
theorem dX12_sweep_377 : decode cX12_sweep 377 = .ok (.iinc 2 1, 3) := by decide +kernel
theorem dX12_sweep_380 : decode cX12_sweep 380 = .ok (.goto (-142), 3) := by decide +kernel
theorem dX12_sweep_383 : decode cX12_sweep 383 = .ok (.aload_n 0, 1) := by decide +kernel
theorem dX12_sweep_384 : decode cX12_sweep 384 = .ok (.iload_n 1, 1) := by decide +kernel
theorem dX12_sweep_385 : decode cX12_sweep 385 = .ok (.putfield 225, 3) := by decide +kernel
theorem dX12_sweep_388 : decode cX12_sweep 388 = .ok (.aload_n 0, 1) := by decide +kernel
theorem dX12_sweep_389 : decode cX12_sweep 389 = .ok (.iconst (-1), 1) := by decide +kernel
theorem dX12_sweep_390 : decode cX12_sweep 390 = .ok (.putfield 231, 3) := by decide +kernel
theorem dX12_sweep_393 : decode cX12_sweep 393 = .ok (.aload_n 0, 1) := by decide +kernel
theorem dX12_sweep_394 : decode cX12_sweep 394 = .ok (.dup, 1) := by decide +kernel
theorem dX12_sweep_395 : decode cX12_sweep 395 = .ok (.getfield 234, 3) := by decide +kernel
theorem dX12_sweep_398 : decode cX12_sweep 398 = .ok (.iconst 1, 1) := by decide +kernel
theorem dX12_sweep_399 : decode cX12_sweep 399 = .ok (.iadd, 1) := by decide +kernel
theorem dX12_sweep_400 : decode cX12_sweep 400 = .ok (.putfield 234, 3) := by decide +kernel
theorem dX12_sweep_403 : decode cX12_sweep 403 = .ok (.iconst 0, 1) := by decide +kernel
theorem dX12_sweep_404 : decode cX12_sweep 404 = .ok (.istore_n 2, 1) := by decide +kernel
theorem dX12_sweep_405 : decode cX12_sweep 405 = .ok (.iload_n 2, 1) := by decide +kernel
theorem dX12_sweep_406 : decode cX12_sweep 406 = .ok (.aload_n 0, 1) := by decide +kernel
theorem dX12_sweep_407 : decode cX12_sweep 407 = .ok (.getfield 198, 3) := by decide +kernel
theorem dX12_sweep_410 : decode cX12_sweep 410 = .ok (.if_icmp .ge 66, 3) := by decide +kernel
theorem dX12_sweep_413 : decode cX12_sweep 413 = .ok (.aload_n 0, 1) := by decide +kernel
theorem dX12_sweep_414 : decode cX12_sweep 414 = .ok (.getfield 61, 3) := by decide +kernel
theorem dX12_sweep_417 : decode cX12_sweep 417 = .ok (.iload_n 2, 1) := by decide +kernel
theorem dX12_sweep_418 : decode cX12_sweep 418 = .ok (.iaload, 1) := by decide +kernel
theorem dX12_sweep_419 : decode cX12_sweep 419 = .ok (.iconst 1, 1) := by decide +kernel
theorem dX12_sweep_420 : decode cX12_sweep 420 = .ok (.if_icmp .ne 50, 3) := by decide +kernel
theorem dX12_sweep_423 : decode cX12_sweep 423 = .ok (.aload_n 0, 1) := by decide +kernel
theorem dX12_sweep_424 : decode cX12_sweep 424 = .ok (.getfield 109, 3) := by decide +kernel
theorem dX12_sweep_427 : decode cX12_sweep 427 = .ok (.iload_n 2, 1) := by decide +kernel
theorem dX12_sweep_428 : decode cX12_sweep 428 = .ok (.iaload, 1) := by decide +kernel
theorem dX12_sweep_429 : decode cX12_sweep 429 = .ok (.ifCond .le 41, 3) := by decide +kernel
theorem dX12_sweep_432 : decode cX12_sweep 432 = .ok (.aload_n 0, 1) := by decide +kernel
theorem dX12_sweep_433 : decode cX12_sweep 433 = .ok (.iload_n 2, 1) := by decide +kernel
theorem dX12_sweep_434 : decode cX12_sweep 434 = .ok (.aload_n 0, 1) := by decide +kernel
theorem dX12_sweep_435 : decode cX12_sweep 435 = .ok (.getfield 109, 3) := by decide +kernel
theorem dX12_sweep_438 : decode cX12_sweep 438 = .ok (.iload_n 2, 1) := by decide +kernel
theorem dX12_sweep_439 : decode cX12_sweep 439 = .ok (.iaload, 1) := by decide +kernel
theorem dX12_sweep_440 : decode cX12_sweep 440 = .ok (.invokevirtual 497, 3) := by decide +kernel
theorem dX12_sweep_443 : decode cX12_sweep 443 = .ok (.ifCond .ne 13, 3) := by decide +kernel
theorem dX12_sweep_446 : decode cX12_sweep 446 = .ok (.aload_n 0, 1) := by decide +kernel
theorem dX12_sweep_447 : decode cX12_sweep 447 = .ok (.iload_n 2, 1) := by decide +kernel
theorem dX12_sweep_448 : decode cX12_sweep 448 = .ok (.bipush 10, 2) := by decide +kernel
theorem dX12_sweep_450 : decode cX12_sweep 450 = .ok (.invokestatic 307, 3) := by decide +kernel
theorem dX12_sweep_453 : decode cX12_sweep 453 = .ok (.invokevirtual 246, 3) := by decide +kernel
theorem dX12_sweep_456 : decode cX12_sweep 456 = .ok (.aload_n 0, 1) := by decide +kernel
theorem dX12_sweep_457 : decode cX12_sweep 457 = .ok (.getfield 109, 3) := by decide +kernel
theorem dX12_sweep_460 : decode cX12_sweep 460 = .ok (.iload_n 2, 1) := by decide +kernel
theorem dX12_sweep_461 : decode cX12_sweep 461 = .ok (.iconst 0, 1) := by decide +kernel
theorem dX12_sweep_462 : decode cX12_sweep 462 = .ok (.iastore, 1) := by decide +kernel
theorem dX12_sweep_463 : decode cX12_sweep 463 = .ok (.aload_n 0, 1) := by decide +kernel
theorem dX12_sweep_464 : decode cX12_sweep 464 = .ok (.getfield 61, 3) := by decide +kernel
theorem dX12_sweep_467 : decode cX12_sweep 467 = .ok (.iload_n 2, 1) := by decide +kernel
theorem dX12_sweep_468 : decode cX12_sweep 468 = .ok (.iconst 0, 1) := by decide +kernel
theorem dX12_sweep_469 : decode cX12_sweep 469 = .ok (.iastore, 1) := by decide +kernel
theorem dX12_sweep_470 : decode cX12_sweep 470 = .ok (.iinc 2 1, 3) := by decide +kernel
theorem dX12_sweep_473 : decode cX12_sweep 473 = .ok (.goto (-68), 3) := by decide +kernel
theorem dX12_sweep_476 : decode cX12_sweep 476 = .ok (.return_, 1) := by decide +kernel
theorem dX12_areEnded_0 : decode cX12_areEnded 0 = .ok (.iconst 1, 1) := by decide +kernel
theorem dX12_areEnded_1 : decode cX12_areEnded 1 = .ok (.istore_n 1, 1) := by decide +kernel
theorem dX12_areEnded_2 : decode cX12_areEnded 2 = .ok (.iconst 0, 1) := by decide +kernel
theorem dX12_areEnded_3 : decode cX12_areEnded 3 = .ok (.istore_n 2, 1) := by decide +kernel
theorem dX12_areEnded_4 : decode cX12_areEnded 4 = .ok (.iload_n 2, 1) := by decide +kernel
theorem dX12_areEnded_5 : decode cX12_areEnded 5 = .ok (.aload_n 0, 1) := by decide +kernel
theorem dX12_areEnded_6 : decode cX12_areEnded 6 = .ok (.getfield 198, 3) := by decide +kernel
theorem dX12_areEnded_9 : decode cX12_areEnded 9 = .ok (.if_icmp .ge 29, 3) := by decide +kernel
theorem dX12_areEnded_12 : decode cX12_areEnded 12 = .ok (.iload_n 1, 1) := by decide +kernel
theorem dX12_areEnded_13 : decode cX12_areEnded 13 = .ok (.ifCond .eq 17, 3) := by decide +kernel
theorem dX12_areEnded_16 : decode cX12_areEnded 16 = .ok (.aload_n 0, 1) := by decide +kernel
theorem dX12_areEnded_17 : decode cX12_areEnded 17 = .ok (.getfield 61, 3) := by decide +kernel
theorem dX12_areEnded_20 : decode cX12_areEnded 20 = .ok (.iload_n 2, 1) := by decide +kernel
theorem dX12_areEnded_21 : decode cX12_areEnded 21 = .ok (.iaload, 1) := by decide +kernel
theorem dX12_areEnded_22 : decode cX12_areEnded 22 = .ok (.iconst 3, 1) := by decide +kernel
theorem dX12_areEnded_23 : decode cX12_areEnded 23 = .ok (.if_icmp .ne 7, 3) := by decide +kernel
theorem dX12_areEnded_26 : decode cX12_areEnded 26 = .ok (.iconst 1, 1) := by decide +kernel
theorem dX12_areEnded_27 : decode cX12_areEnded 27 = .ok (.goto 4, 3) := by decide +kernel
theorem dX12_areEnded_30 : decode cX12_areEnded 30 = .ok (.iconst 0, 1) := by decide +kernel
theorem dX12_areEnded_31 : decode cX12_areEnded 31 = .ok (.istore_n 1, 1) := by decide +kernel
theorem dX12_areEnded_32 : decode cX12_areEnded 32 = .ok (.iinc 2 1, 3) := by decide +kernel
theorem dX12_areEnded_35 : decode cX12_areEnded 35 = .ok (.goto (-31), 3) := by decide +kernel
theorem dX12_areEnded_38 : decode cX12_areEnded 38 = .ok (.iload_n 1, 1) := by decide +kernel
theorem dX12_areEnded_39 : decode cX12_areEnded 39 = .ok (.ireturn, 1) := by decide +kernel
theorem dX12_isAhead_0 : decode cX12_isAhead 0 = .ok (.iload_n 2, 1) := by decide +kernel
theorem dX12_isAhead_1 : decode cX12_isAhead 1 = .ok (.iconst (-1), 1) := by decide +kernel
theorem dX12_isAhead_2 : decode cX12_isAhead 2 = .ok (.if_icmp .eq 48, 3) := by decide +kernel
theorem dX12_isAhead_5 : decode cX12_isAhead 5 = .ok (.aload_n 0, 1) := by decide +kernel
theorem dX12_isAhead_6 : decode cX12_isAhead 6 = .ok (.getfield 85, 3) := by decide +kernel
theorem dX12_isAhead_9 : decode cX12_isAhead 9 = .ok (.iload_n 1, 1) := by decide +kernel
theorem dX12_isAhead_10 : decode cX12_isAhead 10 = .ok (.iaload, 1) := by decide +kernel
theorem dX12_isAhead_11 : decode cX12_isAhead 11 = .ok (.aload_n 0, 1) := by decide +kernel
theorem dX12_isAhead_12 : decode cX12_isAhead 12 = .ok (.getfield 85, 3) := by decide +kernel
theorem dX12_isAhead_15 : decode cX12_isAhead 15 = .ok (.iload_n 2, 1) := by decide +kernel
theorem dX12_isAhead_16 : decode cX12_isAhead 16 = .ok (.iaload, 1) := by decide +kernel
theorem dX12_isAhead_17 : decode cX12_isAhead 17 = .ok (.if_icmp .gt 33, 3) := by decide +kernel
theorem dX12_isAhead_20 : decode cX12_isAhead 20 = .ok (.aload_n 0, 1) := by decide +kernel
theorem dX12_isAhead_21 : decode cX12_isAhead 21 = .ok (.getfield 85, 3) := by decide +kernel
theorem dX12_isAhead_24 : decode cX12_isAhead 24 = .ok (.iload_n 1, 1) := by decide +kernel
theorem dX12_isAhead_25 : decode cX12_isAhead 25 = .ok (.iaload, 1) := by decide +kernel
theorem dX12_isAhead_26 : decode cX12_isAhead 26 = .ok (.aload_n 0, 1) := by decide +kernel
theorem dX12_isAhead_27 : decode cX12_isAhead 27 = .ok (.getfield 85, 3) := by decide +kernel
theorem dX12_isAhead_30 : decode cX12_isAhead 30 = .ok (.iload_n 2, 1) := by decide +kernel
theorem dX12_isAhead_31 : decode cX12_isAhead 31 = .ok (.iaload, 1) := by decide +kernel
theorem dX12_isAhead_32 : decode cX12_isAhead 32 = .ok (.if_icmp .ne 22, 3) := by decide +kernel
theorem dX12_isAhead_35 : decode cX12_isAhead 35 = .ok (.aload_n 0, 1) := by decide +kernel
theorem dX12_isAhead_36 : decode cX12_isAhead 36 = .ok (.getfield 97, 3) := by decide +kernel
theorem dX12_isAhead_39 : decode cX12_isAhead 39 = .ok (.iload_n 1, 1) := by decide +kernel
theorem dX12_isAhead_40 : decode cX12_isAhead 40 = .ok (.iaload, 1) := by decide +kernel
theorem dX12_isAhead_41 : decode cX12_isAhead 41 = .ok (.aload_n 0, 1) := by decide +kernel
theorem dX12_isAhead_42 : decode cX12_isAhead 42 = .ok (.getfield 97, 3) := by decide +kernel
theorem dX12_isAhead_45 : decode cX12_isAhead 45 = .ok (.iload_n 2, 1) := by decide +kernel
theorem dX12_isAhead_46 : decode cX12_isAhead 46 = .ok (.iaload, 1) := by decide +kernel
theorem dX12_isAhead_47 : decode cX12_isAhead 47 = .ok (.if_icmp .ge 7, 3) := by decide +kernel
theorem dX12_isAhead_50 : decode cX12_isAhead 50 = .ok (.iconst 1, 1) := by decide +kernel
theorem dX12_isAhead_51 : decode cX12_isAhead 51 = .ok (.goto 4, 3) := by decide +kernel
theorem dX12_isAhead_54 : decode cX12_isAhead 54 = .ok (.iconst 0, 1) := by decide +kernel
theorem dX12_isAhead_55 : decode cX12_isAhead 55 = .ok (.ireturn, 1) := by decide +kernel
theorem dX12_chooses_0 : decode cX12_chooses 0 = .ok (.aload_n 0, 1) := by decide +kernel
theorem dX12_chooses_1 : decode cX12_chooses 1 = .ok (.getfield 204, 3) := by decide +kernel
theorem dX12_chooses_4 : decode cX12_chooses 4 = .ok (.iconst (-1), 1) := by decide +kernel
theorem dX12_chooses_5 : decode cX12_chooses 5 = .ok (.if_icmp .eq 19, 3) := by decide +kernel
theorem dX12_chooses_8 : decode cX12_chooses 8 = .ok (.aload_n 0, 1) := by decide +kernel
theorem dX12_chooses_9 : decode cX12_chooses 9 = .ok (.getfield 61, 3) := by decide +kernel
theorem dX12_chooses_12 : decode cX12_chooses 12 = .ok (.aload_n 0, 1) := by decide +kernel
theorem dX12_chooses_13 : decode cX12_chooses 13 = .ok (.getfield 204, 3) := by decide +kernel
theorem dX12_chooses_16 : decode cX12_chooses 16 = .ok (.iaload, 1) := by decide +kernel
theorem dX12_chooses_17 : decode cX12_chooses 17 = .ok (.ifCond .ne 7, 3) := by decide +kernel
theorem dX12_chooses_20 : decode cX12_chooses 20 = .ok (.iconst 1, 1) := by decide +kernel
theorem dX12_chooses_21 : decode cX12_chooses 21 = .ok (.goto 4, 3) := by decide +kernel
theorem dX12_chooses_24 : decode cX12_chooses 24 = .ok (.iconst 0, 1) := by decide +kernel
theorem dX12_chooses_25 : decode cX12_chooses 25 = .ok (.istore_n 1, 1) := by decide +kernel
theorem dX12_chooses_26 : decode cX12_chooses 26 = .ok (.iconst 0, 1) := by decide +kernel
theorem dX12_chooses_27 : decode cX12_chooses 27 = .ok (.istore_n 2, 1) := by decide +kernel
theorem dX12_chooses_28 : decode cX12_chooses 28 = .ok (.iload_n 2, 1) := by decide +kernel
theorem dX12_chooses_29 : decode cX12_chooses 29 = .ok (.aload_n 0, 1) := by decide +kernel
theorem dX12_chooses_30 : decode cX12_chooses 30 = .ok (.getfield 198, 3) := by decide +kernel
theorem dX12_chooses_33 : decode cX12_chooses 33 = .ok (.if_icmp .ge 120, 3) := by decide +kernel
theorem dX12_chooses_36 : decode cX12_chooses 36 = .ok (.iload_n 1, 1) := by decide +kernel
theorem dX12_chooses_37 : decode cX12_chooses 37 = .ok (.ifCond .eq 116, 3) := by decide +kernel
theorem dX12_chooses_40 : decode cX12_chooses 40 = .ok (.iload_n 2, 1) := by decide +kernel
theorem dX12_chooses_41 : decode cX12_chooses 41 = .ok (.aload_n 0, 1) := by decide +kernel
theorem dX12_chooses_42 : decode cX12_chooses 42 = .ok (.getfield 204, 3) := by decide +kernel
theorem dX12_chooses_45 : decode cX12_chooses 45 = .ok (.if_icmp .eq 16, 3) := by decide +kernel
theorem dX12_chooses_48 : decode cX12_chooses 48 = .ok (.aload_n 0, 1) := by decide +kernel
theorem dX12_chooses_49 : decode cX12_chooses 49 = .ok (.getfield 61, 3) := by decide +kernel
theorem dX12_chooses_52 : decode cX12_chooses 52 = .ok (.iload_n 2, 1) := by decide +kernel
theorem dX12_chooses_53 : decode cX12_chooses 53 = .ok (.iaload, 1) := by decide +kernel
theorem dX12_chooses_54 : decode cX12_chooses 54 = .ok (.ifCond .ne 7, 3) := by decide +kernel
theorem dX12_chooses_57 : decode cX12_chooses 57 = .ok (.iconst 1, 1) := by decide +kernel
theorem dX12_chooses_58 : decode cX12_chooses 58 = .ok (.goto 4, 3) := by decide +kernel
theorem dX12_chooses_61 : decode cX12_chooses 61 = .ok (.iconst 0, 1) := by decide +kernel
theorem dX12_chooses_62 : decode cX12_chooses 62 = .ok (.istore_n 3, 1) := by decide +kernel
theorem dX12_chooses_63 : decode cX12_chooses 63 = .ok (.iload_n 3, 1) := by decide +kernel
theorem dX12_chooses_64 : decode cX12_chooses 64 = .ok (.ifCond .eq 69, 3) := by decide +kernel
theorem dX12_chooses_67 : decode cX12_chooses 67 = .ok (.aload_n 0, 1) := by decide +kernel
theorem dX12_chooses_68 : decode cX12_chooses 68 = .ok (.getfield 76, 3) := by decide +kernel
theorem dX12_chooses_71 : decode cX12_chooses 71 = .ok (.aload_n 0, 1) := by decide +kernel
theorem dX12_chooses_72 : decode cX12_chooses 72 = .ok (.getfield 204, 3) := by decide +kernel
theorem dX12_chooses_75 : decode cX12_chooses 75 = .ok (.baload, 1) := by decide +kernel
theorem dX12_chooses_76 : decode cX12_chooses 76 = .ok (.ifCond .eq 57, 3) := by decide +kernel
theorem dX12_chooses_79 : decode cX12_chooses 79 = .ok (.aload_n 0, 1) := by decide +kernel
theorem dX12_chooses_80 : decode cX12_chooses 80 = .ok (.getfield 85, 3) := by decide +kernel
theorem dX12_chooses_83 : decode cX12_chooses 83 = .ok (.iload_n 2, 1) := by decide +kernel
theorem dX12_chooses_84 : decode cX12_chooses 84 = .ok (.iaload, 1) := by decide +kernel
theorem dX12_chooses_85 : decode cX12_chooses 85 = .ok (.aload_n 0, 1) := by decide +kernel
theorem dX12_chooses_86 : decode cX12_chooses 86 = .ok (.getfield 85, 3) := by decide +kernel
theorem dX12_chooses_89 : decode cX12_chooses 89 = .ok (.aload_n 0, 1) := by decide +kernel
theorem dX12_chooses_90 : decode cX12_chooses 90 = .ok (.getfield 204, 3) := by decide +kernel
theorem dX12_chooses_93 : decode cX12_chooses 93 = .ok (.iaload, 1) := by decide +kernel
theorem dX12_chooses_94 : decode cX12_chooses 94 = .ok (.if_icmp .gt 35, 3) := by decide +kernel
theorem dX12_chooses_97 : decode cX12_chooses 97 = .ok (.aload_n 0, 1) := by decide +kernel
theorem dX12_chooses_98 : decode cX12_chooses 98 = .ok (.getfield 85, 3) := by decide +kernel
theorem dX12_chooses_101 : decode cX12_chooses 101 = .ok (.iload_n 2, 1) := by decide +kernel
theorem dX12_chooses_102 : decode cX12_chooses 102 = .ok (.iaload, 1) := by decide +kernel
theorem dX12_chooses_103 : decode cX12_chooses 103 = .ok (.aload_n 0, 1) := by decide +kernel
theorem dX12_chooses_104 : decode cX12_chooses 104 = .ok (.getfield 85, 3) := by decide +kernel
theorem dX12_chooses_107 : decode cX12_chooses 107 = .ok (.aload_n 0, 1) := by decide +kernel
theorem dX12_chooses_108 : decode cX12_chooses 108 = .ok (.getfield 204, 3) := by decide +kernel
theorem dX12_chooses_111 : decode cX12_chooses 111 = .ok (.iaload, 1) := by decide +kernel
theorem dX12_chooses_112 : decode cX12_chooses 112 = .ok (.if_icmp .ne 21, 3) := by decide +kernel
theorem dX12_chooses_115 : decode cX12_chooses 115 = .ok (.aload_n 0, 1) := by decide +kernel
theorem dX12_chooses_116 : decode cX12_chooses 116 = .ok (.getfield 100, 3) := by decide +kernel
theorem dX12_chooses_119 : decode cX12_chooses 119 = .ok (.aload_n 0, 1) := by decide +kernel
theorem dX12_chooses_120 : decode cX12_chooses 120 = .ok (.getfield 204, 3) := by decide +kernel
theorem dX12_chooses_123 : decode cX12_chooses 123 = .ok (.iaload, 1) := by decide +kernel
theorem dX12_chooses_124 : decode cX12_chooses 124 = .ok (.bipush 50, 2) := by decide +kernel
theorem dX12_chooses_126 : decode cX12_chooses 126 = .ok (.if_icmp .lt 7, 3) := by decide +kernel
theorem dX12_chooses_129 : decode cX12_chooses 129 = .ok (.iconst 1, 1) := by decide +kernel
theorem dX12_chooses_130 : decode cX12_chooses 130 = .ok (.goto 4, 3) := by decide +kernel
theorem dX12_chooses_133 : decode cX12_chooses 133 = .ok (.iconst 0, 1) := by decide +kernel
theorem dX12_chooses_134 : decode cX12_chooses 134 = .ok (.istore 4, 2) := by decide +kernel
theorem dX12_chooses_136 : decode cX12_chooses 136 = .ok (.iload 4, 2) := by decide +kernel
theorem dX12_chooses_138 : decode cX12_chooses 138 = .ok (.ifCond .ne 7, 3) := by decide +kernel
theorem dX12_chooses_141 : decode cX12_chooses 141 = .ok (.iconst 1, 1) := by decide +kernel
theorem dX12_chooses_142 : decode cX12_chooses 142 = .ok (.goto 4, 3) := by decide +kernel
theorem dX12_chooses_145 : decode cX12_chooses 145 = .ok (.iconst 0, 1) := by decide +kernel
theorem dX12_chooses_146 : decode cX12_chooses 146 = .ok (.istore_n 1, 1) := by decide +kernel
theorem dX12_chooses_147 : decode cX12_chooses 147 = .ok (.iinc 2 1, 3) := by decide +kernel
theorem dX12_chooses_150 : decode cX12_chooses 150 = .ok (.goto (-122), 3) := by decide +kernel
theorem dX12_chooses_153 : decode cX12_chooses 153 = .ok (.iload_n 1, 1) := by decide +kernel
theorem dX12_chooses_154 : decode cX12_chooses 154 = .ok (.ifCond .eq 4, 3) := by decide +kernel
theorem dX12_chooses_157 : decode cX12_chooses 157 = .ok (.return_, 1) := by decide +kernel
theorem dX12_chooses_158 : decode cX12_chooses 158 = .ok (.iconst (-1), 1) := by decide +kernel
theorem dX12_chooses_159 : decode cX12_chooses 159 = .ok (.istore_n 2, 1) := by decide +kernel
theorem dX12_chooses_160 : decode cX12_chooses 160 = .ok (.iconst 0, 1) := by decide +kernel
theorem dX12_chooses_161 : decode cX12_chooses 161 = .ok (.istore_n 3, 1) := by decide +kernel
theorem dX12_chooses_162 : decode cX12_chooses 162 = .ok (.iload_n 3, 1) := by decide +kernel
theorem dX12_chooses_163 : decode cX12_chooses 163 = .ok (.aload_n 0, 1) := by decide +kernel
theorem dX12_chooses_164 : decode cX12_chooses 164 = .ok (.getfield 198, 3) := by decide +kernel
theorem dX12_chooses_167 : decode cX12_chooses 167 = .ok (.if_icmp .ge 29, 3) := by decide +kernel
theorem dX12_chooses_170 : decode cX12_chooses 170 = .ok (.aload_n 0, 1) := by decide +kernel
theorem dX12_chooses_171 : decode cX12_chooses 171 = .ok (.getfield 61, 3) := by decide +kernel
theorem dX12_chooses_174 : decode cX12_chooses 174 = .ok (.iload_n 3, 1) := by decide +kernel
theorem dX12_chooses_175 : decode cX12_chooses 175 = .ok (.iaload, 1) := by decide +kernel
theorem dX12_chooses_176 : decode cX12_chooses 176 = .ok (.ifCond .ne 14, 3) := by decide +kernel
theorem dX12_chooses_179 : decode cX12_chooses 179 = .ok (.aload_n 0, 1) := by decide +kernel
theorem dX12_chooses_180 : decode cX12_chooses 180 = .ok (.iload_n 3, 1) := by decide +kernel
theorem dX12_chooses_181 : decode cX12_chooses 181 = .ok (.iload_n 2, 1) := by decide +kernel
theorem dX12_chooses_182 : decode cX12_chooses 182 = .ok (.invokevirtual 503, 3) := by decide +kernel
theorem dX12_chooses_185 : decode cX12_chooses 185 = .ok (.ifCond .eq 5, 3) := by decide +kernel
theorem dX12_chooses_188 : decode cX12_chooses 188 = .ok (.iload_n 3, 1) := by decide +kernel
theorem dX12_chooses_189 : decode cX12_chooses 189 = .ok (.istore_n 2, 1) := by decide +kernel
theorem dX12_chooses_190 : decode cX12_chooses 190 = .ok (.iinc 3 1, 3) := by decide +kernel
theorem dX12_chooses_193 : decode cX12_chooses 193 = .ok (.goto (-31), 3) := by decide +kernel
theorem dX12_chooses_196 : decode cX12_chooses 196 = .ok (.iload_n 2, 1) := by decide +kernel
theorem dX12_chooses_197 : decode cX12_chooses 197 = .ok (.iconst (-1), 1) := by decide +kernel
theorem dX12_chooses_198 : decode cX12_chooses 198 = .ok (.if_icmp .ne 9, 3) := by decide +kernel
theorem dX12_chooses_201 : decode cX12_chooses 201 = .ok (.aload_n 0, 1) := by decide +kernel
theorem dX12_chooses_202 : decode cX12_chooses 202 = .ok (.iconst (-1), 1) := by decide +kernel
theorem dX12_chooses_203 : decode cX12_chooses 203 = .ok (.putfield 204, 3) := by decide +kernel
theorem dX12_chooses_206 : decode cX12_chooses 206 = .ok (.return_, 1) := by decide +kernel
theorem dX12_chooses_207 : decode cX12_chooses 207 = .ok (.iload_n 2, 1) := by decide +kernel
theorem dX12_chooses_208 : decode cX12_chooses 208 = .ok (.aload_n 0, 1) := by decide +kernel
theorem dX12_chooses_209 : decode cX12_chooses 209 = .ok (.getfield 204, 3) := by decide +kernel
theorem dX12_chooses_212 : decode cX12_chooses 212 = .ok (.if_icmp .eq 13, 3) := by decide +kernel
theorem dX12_chooses_215 : decode cX12_chooses 215 = .ok (.aload_n 0, 1) := by decide +kernel
theorem dX12_chooses_216 : decode cX12_chooses 216 = .ok (.dup, 1) := by decide +kernel
theorem dX12_chooses_217 : decode cX12_chooses 217 = .ok (.getfield 216, 3) := by decide +kernel
theorem dX12_chooses_220 : decode cX12_chooses 220 = .ok (.iconst 1, 1) := by decide +kernel
theorem dX12_chooses_221 : decode cX12_chooses 221 = .ok (.iadd, 1) := by decide +kernel
theorem dX12_chooses_222 : decode cX12_chooses 222 = .ok (.putfield 216, 3) := by decide +kernel
theorem dX12_chooses_225 : decode cX12_chooses 225 = .ok (.aload_n 0, 1) := by decide +kernel
theorem dX12_chooses_226 : decode cX12_chooses 226 = .ok (.iload_n 2, 1) := by decide +kernel
theorem dX12_chooses_227 : decode cX12_chooses 227 = .ok (.putfield 204, 3) := by decide +kernel
theorem dX12_chooses_230 : decode cX12_chooses 230 = .ok (.aload_n 0, 1) := by decide +kernel
theorem dX12_chooses_231 : decode cX12_chooses 231 = .ok (.getfield 97, 3) := by decide +kernel
theorem dX12_chooses_234 : decode cX12_chooses 234 = .ok (.iload_n 2, 1) := by decide +kernel
theorem dX12_chooses_235 : decode cX12_chooses 235 = .ok (.aload_n 0, 1) := by decide +kernel
theorem dX12_chooses_236 : decode cX12_chooses 236 = .ok (.getfield 201, 3) := by decide +kernel
theorem dX12_chooses_239 : decode cX12_chooses 239 = .ok (.iastore, 1) := by decide +kernel
theorem dX12_chooses_240 : decode cX12_chooses 240 = .ok (.aload_n 0, 1) := by decide +kernel
theorem dX12_chooses_241 : decode cX12_chooses 241 = .ok (.getfield 100, 3) := by decide +kernel
theorem dX12_chooses_244 : decode cX12_chooses 244 = .ok (.iload_n 2, 1) := by decide +kernel
theorem dX12_chooses_245 : decode cX12_chooses 245 = .ok (.iconst 0, 1) := by decide +kernel
theorem dX12_chooses_246 : decode cX12_chooses 246 = .ok (.iastore, 1) := by decide +kernel
theorem dX12_chooses_247 : decode cX12_chooses 247 = .ok (.iconst 0, 1) := by decide +kernel
theorem dX12_chooses_248 : decode cX12_chooses 248 = .ok (.istore_n 3, 1) := by decide +kernel
theorem dX12_chooses_249 : decode cX12_chooses 249 = .ok (.iload_n 3, 1) := by decide +kernel
theorem dX12_chooses_250 : decode cX12_chooses 250 = .ok (.bipush 16, 2) := by decide +kernel
theorem dX12_chooses_252 : decode cX12_chooses 252 = .ok (.if_icmp .gt 18, 3) := by decide +kernel
theorem dX12_chooses_255 : decode cX12_chooses 255 = .ok (.aload_n 0, 1) := by decide +kernel
theorem dX12_chooses_256 : decode cX12_chooses 256 = .ok (.iload_n 2, 1) := by decide +kernel
theorem dX12_chooses_257 : decode cX12_chooses 257 = .ok (.iload_n 3, 1) := by decide +kernel
theorem dX12_chooses_258 : decode cX12_chooses 258 = .ok (.invokestatic 307, 3) := by decide +kernel
theorem dX12_chooses_261 : decode cX12_chooses 261 = .ok (.invokevirtual 417, 3) := by decide +kernel
theorem dX12_chooses_264 : decode cX12_chooses 264 = .ok (.iinc 3 1, 3) := by decide +kernel
theorem dX12_chooses_267 : decode cX12_chooses 267 = .ok (.goto (-18), 3) := by decide +kernel
theorem dX12_chooses_270 : decode cX12_chooses 270 = .ok (.return_, 1) := by decide +kernel
theorem dX12_step_0 : decode cX12_step 0 = .ok (.aload_n 0, 1) := by decide +kernel
theorem dX12_step_1 : decode cX12_step 1 = .ok (.dup, 1) := by decide +kernel
theorem dX12_step_2 : decode cX12_step 2 = .ok (.getfield 201, 3) := by decide +kernel
theorem dX12_step_5 : decode cX12_step 5 = .ok (.iconst 1, 1) := by decide +kernel
theorem dX12_step_6 : decode cX12_step 6 = .ok (.iadd, 1) := by decide +kernel
theorem dX12_step_7 : decode cX12_step 7 = .ok (.putfield 201, 3) := by decide +kernel
theorem dX12_step_10 : decode cX12_step 10 = .ok (.iconst 0, 1) := by decide +kernel
theorem dX12_step_11 : decode cX12_step 11 = .ok (.istore_n 1, 1) := by decide +kernel
theorem dX12_step_12 : decode cX12_step 12 = .ok (.iload_n 1, 1) := by decide +kernel
theorem dX12_step_13 : decode cX12_step 13 = .ok (.aload_n 0, 1) := by decide +kernel
theorem dX12_step_14 : decode cX12_step 14 = .ok (.getfield 198, 3) := by decide +kernel
theorem dX12_step_17 : decode cX12_step 17 = .ok (.if_icmp .ge 79, 3) := by decide +kernel
theorem dX12_step_20 : decode cX12_step 20 = .ok (.aload_n 0, 1) := by decide +kernel
theorem dX12_step_21 : decode cX12_step 21 = .ok (.getfield 61, 3) := by decide +kernel
theorem dX12_step_24 : decode cX12_step 24 = .ok (.iload_n 1, 1) := by decide +kernel
theorem dX12_step_25 : decode cX12_step 25 = .ok (.iaload, 1) := by decide +kernel
theorem dX12_step_26 : decode cX12_step 26 = .ok (.iconst 1, 1) := by decide +kernel
theorem dX12_step_27 : decode cX12_step 27 = .ok (.if_icmp .eq 13, 3) := by decide +kernel
theorem dX12_step_30 : decode cX12_step 30 = .ok (.aload_n 0, 1) := by decide +kernel
theorem dX12_step_31 : decode cX12_step 31 = .ok (.getfield 61, 3) := by decide +kernel
theorem dX12_step_34 : decode cX12_step 34 = .ok (.iload_n 1, 1) := by decide +kernel
theorem dX12_step_35 : decode cX12_step 35 = .ok (.iaload, 1) := by decide +kernel
theorem dX12_step_36 : decode cX12_step 36 = .ok (.iconst 2, 1) := by decide +kernel
theorem dX12_step_37 : decode cX12_step 37 = .ok (.if_icmp .ne 30, 3) := by decide +kernel
theorem dX12_step_40 : decode cX12_step 40 = .ok (.aload_n 0, 1) := by decide +kernel
theorem dX12_step_41 : decode cX12_step 41 = .ok (.getfield 64, 3) := by decide +kernel
theorem dX12_step_44 : decode cX12_step 44 = .ok (.iload_n 1, 1) := by decide +kernel
theorem dX12_step_45 : decode cX12_step 45 = .ok (.iaload, 1) := by decide +kernel
theorem dX12_step_46 : decode cX12_step 46 = .ok (.iconst (-1), 1) := by decide +kernel
theorem dX12_step_47 : decode cX12_step 47 = .ok (.if_icmp .eq 20, 3) := by decide +kernel
theorem dX12_step_50 : decode cX12_step 50 = .ok (.aload_n 0, 1) := by decide +kernel
theorem dX12_step_51 : decode cX12_step 51 = .ok (.getfield 64, 3) := by decide +kernel
theorem dX12_step_54 : decode cX12_step 54 = .ok (.iload_n 1, 1) := by decide +kernel
theorem dX12_step_55 : decode cX12_step 55 = .ok (.iaload, 1) := by decide +kernel
theorem dX12_step_56 : decode cX12_step 56 = .ok (.aload_n 0, 1) := by decide +kernel
theorem dX12_step_57 : decode cX12_step 57 = .ok (.getfield 201, 3) := by decide +kernel
theorem dX12_step_60 : decode cX12_step 60 = .ok (.if_icmp .gt 7, 3) := by decide +kernel
theorem dX12_step_63 : decode cX12_step 63 = .ok (.iconst 1, 1) := by decide +kernel
theorem dX12_step_64 : decode cX12_step 64 = .ok (.goto 4, 3) := by decide +kernel
theorem dX12_step_67 : decode cX12_step 67 = .ok (.iconst 0, 1) := by decide +kernel
theorem dX12_step_68 : decode cX12_step 68 = .ok (.istore_n 2, 1) := by decide +kernel
theorem dX12_step_69 : decode cX12_step 69 = .ok (.iload_n 2, 1) := by decide +kernel
theorem dX12_step_70 : decode cX12_step 70 = .ok (.ifCond .ne 6, 3) := by decide +kernel
theorem dX12_step_73 : decode cX12_step 73 = .ok (.goto 17, 3) := by decide +kernel
theorem dX12_step_76 : decode cX12_step 76 = .ok (.aload_n 0, 1) := by decide +kernel
theorem dX12_step_77 : decode cX12_step 77 = .ok (.getfield 61, 3) := by decide +kernel
theorem dX12_step_80 : decode cX12_step 80 = .ok (.iload_n 1, 1) := by decide +kernel
theorem dX12_step_81 : decode cX12_step 81 = .ok (.iconst 0, 1) := by decide +kernel
theorem dX12_step_82 : decode cX12_step 82 = .ok (.iastore, 1) := by decide +kernel
theorem dX12_step_83 : decode cX12_step 83 = .ok (.aload_n 0, 1) := by decide +kernel
theorem dX12_step_84 : decode cX12_step 84 = .ok (.getfield 64, 3) := by decide +kernel
theorem dX12_step_87 : decode cX12_step 87 = .ok (.iload_n 1, 1) := by decide +kernel
theorem dX12_step_88 : decode cX12_step 88 = .ok (.iconst (-1), 1) := by decide +kernel
theorem dX12_step_89 : decode cX12_step 89 = .ok (.iastore, 1) := by decide +kernel
theorem dX12_step_90 : decode cX12_step 90 = .ok (.iinc 1 1, 3) := by decide +kernel
theorem dX12_step_93 : decode cX12_step 93 = .ok (.goto (-81), 3) := by decide +kernel
theorem dX12_step_96 : decode cX12_step 96 = .ok (.aload_n 0, 1) := by decide +kernel
theorem dX12_step_97 : decode cX12_step 97 = .ok (.invokevirtual 506, 3) := by decide +kernel
theorem dX12_step_100 : decode cX12_step 100 = .ok (.aload_n 0, 1) := by decide +kernel
theorem dX12_step_101 : decode cX12_step 101 = .ok (.getfield 204, 3) := by decide +kernel
theorem dX12_step_104 : decode cX12_step 104 = .ok (.iconst (-1), 1) := by decide +kernel
theorem dX12_step_105 : decode cX12_step 105 = .ok (.if_icmp .eq 123, 3) := by decide +kernel
theorem dX12_step_108 : decode cX12_step 108 = .ok (.aload_n 0, 1) := by decide +kernel
theorem dX12_step_109 : decode cX12_step 109 = .ok (.aload_n 0, 1) := by decide +kernel
theorem dX12_step_110 : decode cX12_step 110 = .ok (.getfield 204, 3) := by decide +kernel
theorem dX12_step_113 : decode cX12_step 113 = .ok (.putfield 330, 3) := by decide +kernel
theorem dX12_step_116 : decode cX12_step 116 = .ok (.aload_n 0, 1) := by decide +kernel
theorem dX12_step_117 : decode cX12_step 117 = .ok (.getfield 100, 3) := by decide +kernel
theorem dX12_step_120 : decode cX12_step 120 = .ok (.aload_n 0, 1) := by decide +kernel
theorem dX12_step_121 : decode cX12_step 121 = .ok (.getfield 330, 3) := by decide +kernel
theorem dX12_step_124 : decode cX12_step 124 = .ok (.dup2, 1) := by decide +kernel
theorem dX12_step_125 : decode cX12_step 125 = .ok (.iaload, 1) := by decide +kernel
theorem dX12_step_126 : decode cX12_step 126 = .ok (.iconst 1, 1) := by decide +kernel
theorem dX12_step_127 : decode cX12_step 127 = .ok (.iadd, 1) := by decide +kernel
theorem dX12_step_128 : decode cX12_step 128 = .ok (.iastore, 1) := by decide +kernel
theorem dX12_step_129 : decode cX12_step 129 = .ok (.aload_n 0, 1) := by decide +kernel
theorem dX12_step_130 : decode cX12_step 130 = .ok (.invokevirtual 509, 3) := by decide +kernel
theorem dX12_step_133 : decode cX12_step 133 = .ok (.istore_n 1, 1) := by decide +kernel
theorem dX12_step_134 : decode cX12_step 134 = .ok (.iload_n 1, 1) := by decide +kernel
theorem dX12_step_135 : decode cX12_step 135 = .ok (.ifCond .ne 19, 3) := by decide +kernel
theorem dX12_step_138 : decode cX12_step 138 = .ok (.aload_n 0, 1) := by decide +kernel
theorem dX12_step_139 : decode cX12_step 139 = .ok (.getfield 82, 3) := by decide +kernel
theorem dX12_step_142 : decode cX12_step 142 = .ok (.aload_n 0, 1) := by decide +kernel
theorem dX12_step_143 : decode cX12_step 143 = .ok (.getfield 330, 3) := by decide +kernel
theorem dX12_step_146 : decode cX12_step 146 = .ok (.dup2, 1) := by decide +kernel
theorem dX12_step_147 : decode cX12_step 147 = .ok (.iaload, 1) := by decide +kernel
theorem dX12_step_148 : decode cX12_step 148 = .ok (.iconst 1, 1) := by decide +kernel
theorem dX12_step_149 : decode cX12_step 149 = .ok (.iadd, 1) := by decide +kernel
theorem dX12_step_150 : decode cX12_step 150 = .ok (.iastore, 1) := by decide +kernel
theorem dX12_step_151 : decode cX12_step 151 = .ok (.goto 77, 3) := by decide +kernel
theorem dX12_step_154 : decode cX12_step 154 = .ok (.aload_n 0, 1) := by decide +kernel
theorem dX12_step_155 : decode cX12_step 155 = .ok (.dup, 1) := by decide +kernel
theorem dX12_step_156 : decode cX12_step 156 = .ok (.getfield 207, 3) := by decide +kernel
theorem dX12_step_159 : decode cX12_step 159 = .ok (.iconst 1, 1) := by decide +kernel
theorem dX12_step_160 : decode cX12_step 160 = .ok (.iadd, 1) := by decide +kernel
theorem dX12_step_161 : decode cX12_step 161 = .ok (.putfield 207, 3) := by decide +kernel
theorem dX12_step_164 : decode cX12_step 164 = .ok (.aload_n 0, 1) := by decide +kernel
theorem dX12_step_165 : decode cX12_step 165 = .ok (.getfield 79, 3) := by decide +kernel
theorem dX12_step_168 : decode cX12_step 168 = .ok (.aload_n 0, 1) := by decide +kernel
theorem dX12_step_169 : decode cX12_step 169 = .ok (.getfield 330, 3) := by decide +kernel
theorem dX12_step_172 : decode cX12_step 172 = .ok (.iload_n 1, 1) := by decide +kernel
theorem dX12_step_173 : decode cX12_step 173 = .ok (.iastore, 1) := by decide +kernel
theorem dX12_step_174 : decode cX12_step 174 = .ok (.aload_n 0, 1) := by decide +kernel
theorem dX12_step_175 : decode cX12_step 175 = .ok (.getfield 70, 3) := by decide +kernel
theorem dX12_step_178 : decode cX12_step 178 = .ok (.aload_n 0, 1) := by decide +kernel
theorem dX12_step_179 : decode cX12_step 179 = .ok (.getfield 330, 3) := by decide +kernel
theorem dX12_step_182 : decode cX12_step 182 = .ok (.iaload, 1) := by decide +kernel
theorem dX12_step_183 : decode cX12_step 183 = .ok (.ifCond .le 7, 3) := by decide +kernel
theorem dX12_step_186 : decode cX12_step 186 = .ok (.iconst 1, 1) := by decide +kernel
theorem dX12_step_187 : decode cX12_step 187 = .ok (.goto 4, 3) := by decide +kernel
theorem dX12_step_190 : decode cX12_step 190 = .ok (.iconst 0, 1) := by decide +kernel
theorem dX12_step_191 : decode cX12_step 191 = .ok (.istore_n 2, 1) := by decide +kernel
theorem dX12_step_192 : decode cX12_step 192 = .ok (.aload_n 0, 1) := by decide +kernel
theorem dX12_step_193 : decode cX12_step 193 = .ok (.invokevirtual 450, 3) := by decide +kernel
theorem dX12_step_196 : decode cX12_step 196 = .ok (.iload_n 2, 1) := by decide +kernel
theorem dX12_step_197 : decode cX12_step 197 = .ok (.ifCond .eq 31, 3) := by decide +kernel
theorem dX12_step_200 : decode cX12_step 200 = .ok (.aload_n 0, 1) := by decide +kernel
theorem dX12_step_201 : decode cX12_step 201 = .ok (.aload_n 0, 1) := by decide +kernel
theorem dX12_step_202 : decode cX12_step 202 = .ok (.getfield 330, 3) := by decide +kernel
theorem dX12_step_205 : decode cX12_step 205 = .ok (.bipush 10, 2) := by decide +kernel
theorem dX12_step_207 : decode cX12_step 207 = .ok (.invokestatic 307, 3) := by decide +kernel
theorem dX12_step_210 : decode cX12_step 210 = .ok (.iconst (-1), 1) := by decide +kernel
theorem dX12_step_211 : decode cX12_step 211 = .ok (.invokevirtual 333, 3) := by decide +kernel
theorem dX12_step_214 : decode cX12_step 214 = .ok (.aload_n 0, 1) := by decide +kernel
theorem dX12_step_215 : decode cX12_step 215 = .ok (.aload_n 0, 1) := by decide +kernel
theorem dX12_step_216 : decode cX12_step 216 = .ok (.getfield 330, 3) := by decide +kernel
theorem dX12_step_219 : decode cX12_step 219 = .ok (.bipush 11, 2) := by decide +kernel
theorem dX12_step_221 : decode cX12_step 221 = .ok (.invokestatic 307, 3) := by decide +kernel
theorem dX12_step_224 : decode cX12_step 224 = .ok (.iload_n 1, 1) := by decide +kernel
theorem dX12_step_225 : decode cX12_step 225 = .ok (.invokevirtual 333, 3) := by decide +kernel
theorem dX12_step_228 : decode cX12_step 228 = .ok (.aload_n 0, 1) := by decide +kernel
theorem dX12_step_229 : decode cX12_step 229 = .ok (.invokevirtual 512, 3) := by decide +kernel
theorem dX12_step_232 : decode cX12_step 232 = .ok (.return_, 1) := by decide +kernel
theorem dX12_run_0 : decode cX12_run 0 = .ok (.iload_n 1, 1) := by decide +kernel
theorem dX12_run_1 : decode cX12_run 1 = .ok (.ifCond .lt 10, 3) := by decide +kernel
theorem dX12_run_4 : decode cX12_run 4 = .ok (.iload_n 1, 1) := by decide +kernel
theorem dX12_run_5 : decode cX12_run 5 = .ok (.sipush 5000, 3) := by decide +kernel
theorem dX12_run_8 : decode cX12_run 8 = .ok (.if_icmp .le 5, 3) := by decide +kernel
theorem dX12_run_11 : decode cX12_run 11 = .ok (.iconst (-1), 1) := by decide +kernel
theorem dX12_run_12 : decode cX12_run 12 = .ok (.ireturn, 1) := by decide +kernel
theorem dX12_run_13 : decode cX12_run 13 = .ok (.iconst 0, 1) := by decide +kernel
theorem dX12_run_14 : decode cX12_run 14 = .ok (.istore_n 2, 1) := by decide +kernel
theorem dX12_run_15 : decode cX12_run 15 = .ok (.aload_n 0, 1) := by decide +kernel
theorem dX12_run_16 : decode cX12_run 16 = .ok (.getfield 191, 3) := by decide +kernel
theorem dX12_run_19 : decode cX12_run 19 = .ok (.ifCond .eq 25, 3) := by decide +kernel
theorem dX12_run_22 : decode cX12_run 22 = .ok (.iload_n 2, 1) := by decide +kernel
theorem dX12_run_23 : decode cX12_run 23 = .ok (.iload_n 1, 1) := by decide +kernel
theorem dX12_run_24 : decode cX12_run 24 = .ok (.if_icmp .ge 20, 3) := by decide +kernel
theorem dX12_run_27 : decode cX12_run 27 = .ok (.aload_n 0, 1) := by decide +kernel
theorem dX12_run_28 : decode cX12_run 28 = .ok (.invokevirtual 515, 3) := by decide +kernel
theorem dX12_run_31 : decode cX12_run 31 = .ok (.ifCond .ne 13, 3) := by decide +kernel
theorem dX12_run_34 : decode cX12_run 34 = .ok (.aload_n 0, 1) := by decide +kernel
theorem dX12_run_35 : decode cX12_run 35 = .ok (.invokevirtual 518, 3) := by decide +kernel
theorem dX12_run_38 : decode cX12_run 38 = .ok (.iinc 2 1, 3) := by decide +kernel
theorem dX12_run_41 : decode cX12_run 41 = .ok (.goto (-26), 3) := by decide +kernel
theorem dX12_run_44 : decode cX12_run 44 = .ok (.iload_n 2, 1) := by decide +kernel
theorem dX12_run_45 : decode cX12_run 45 = .ok (.ireturn, 1) := by decide +kernel
theorem dX12_input_0 : decode cX12_input 0 = .ok (.iload_n 1, 1) := by decide +kernel
theorem dX12_input_1 : decode cX12_input 1 = .ok (.ifCond .lt 26, 3) := by decide +kernel
theorem dX12_input_4 : decode cX12_input 4 = .ok (.iload_n 1, 1) := by decide +kernel
theorem dX12_input_5 : decode cX12_input 5 = .ok (.sipush 255, 3) := by decide +kernel
theorem dX12_input_8 : decode cX12_input 8 = .ok (.if_icmp .gt 19, 3) := by decide +kernel
theorem dX12_input_11 : decode cX12_input 11 = .ok (.aload_n 0, 1) := by decide +kernel
theorem dX12_input_12 : decode cX12_input 12 = .ok (.getfield 237, 3) := by decide +kernel
theorem dX12_input_15 : decode cX12_input 15 = .ok (.bipush 64, 2) := by decide +kernel
theorem dX12_input_17 : decode cX12_input 17 = .ok (.if_icmp .eq 10, 3) := by decide +kernel
theorem dX12_input_20 : decode cX12_input 20 = .ok (.aload_n 0, 1) := by decide +kernel
theorem dX12_input_21 : decode cX12_input 21 = .ok (.getfield 191, 3) := by decide +kernel
theorem dX12_input_24 : decode cX12_input 24 = .ok (.ifCond .ne 5, 3) := by decide +kernel
theorem dX12_input_27 : decode cX12_input 27 = .ok (.iconst 0, 1) := by decide +kernel
theorem dX12_input_28 : decode cX12_input 28 = .ok (.ireturn, 1) := by decide +kernel
theorem dX12_input_29 : decode cX12_input 29 = .ok (.aload_n 0, 1) := by decide +kernel
theorem dX12_input_30 : decode cX12_input 30 = .ok (.getfield 133, 3) := by decide +kernel
theorem dX12_input_33 : decode cX12_input 33 = .ok (.aload_n 0, 1) := by decide +kernel
theorem dX12_input_34 : decode cX12_input 34 = .ok (.getfield 237, 3) := by decide +kernel
theorem dX12_input_37 : decode cX12_input 37 = .ok (.iload_n 1, 1) := by decide +kernel
theorem dX12_input_38 : decode cX12_input 38 = .ok (.iastore, 1) := by decide +kernel
theorem dX12_input_39 : decode cX12_input 39 = .ok (.aload_n 0, 1) := by decide +kernel
theorem dX12_input_40 : decode cX12_input 40 = .ok (.dup, 1) := by decide +kernel
theorem dX12_input_41 : decode cX12_input 41 = .ok (.getfield 237, 3) := by decide +kernel
theorem dX12_input_44 : decode cX12_input 44 = .ok (.iconst 1, 1) := by decide +kernel
theorem dX12_input_45 : decode cX12_input 45 = .ok (.iadd, 1) := by decide +kernel
theorem dX12_input_46 : decode cX12_input 46 = .ok (.putfield 237, 3) := by decide +kernel
theorem dX12_input_49 : decode cX12_input 49 = .ok (.iconst 1, 1) := by decide +kernel
theorem dX12_input_50 : decode cX12_input 50 = .ok (.ireturn, 1) := by decide +kernel
theorem dX12_fetch_0 : decode cX12_fetch 0 = .ok (.aload_n 0, 1) := by decide +kernel
theorem dX12_fetch_1 : decode cX12_fetch 1 = .ok (.getfield 243, 3) := by decide +kernel
theorem dX12_fetch_4 : decode cX12_fetch 4 = .ok (.bipush 7, 2) := by decide +kernel
theorem dX12_fetch_6 : decode cX12_fetch 6 = .ok (.if_icmp .ge 10, 3) := by decide +kernel
theorem dX12_fetch_9 : decode cX12_fetch 9 = .ok (.aload_n 0, 1) := by decide +kernel
theorem dX12_fetch_10 : decode cX12_fetch 10 = .ok (.getfield 243, 3) := by decide +kernel
theorem dX12_fetch_13 : decode cX12_fetch 13 = .ok (.goto 5, 3) := by decide +kernel
theorem dX12_fetch_16 : decode cX12_fetch 16 = .ok (.bipush 7, 2) := by decide +kernel
theorem dX12_fetch_18 : decode cX12_fetch 18 = .ok (.istore_n 1, 1) := by decide +kernel
theorem dX12_fetch_19 : decode cX12_fetch 19 = .ok (.iload_n 1, 1) := by decide +kernel
theorem dX12_fetch_20 : decode cX12_fetch 20 = .ok (.i2l, 1) := by decide +kernel
theorem dX12_fetch_21 : decode cX12_fetch 21 = .ok (.lstore_n 2, 1) := by decide +kernel
theorem dX12_fetch_22 : decode cX12_fetch 22 = .ok (.iconst 0, 1) := by decide +kernel
theorem dX12_fetch_23 : decode cX12_fetch 23 = .ok (.istore 4, 2) := by decide +kernel
theorem dX12_fetch_25 : decode cX12_fetch 25 = .ok (.iload 4, 2) := by decide +kernel
theorem dX12_fetch_27 : decode cX12_fetch 27 = .ok (.bipush 7, 2) := by decide +kernel
theorem dX12_fetch_29 : decode cX12_fetch 29 = .ok (.if_icmp .ge 40, 3) := by decide +kernel
theorem dX12_fetch_32 : decode cX12_fetch 32 = .ok (.lload_n 2, 1) := by decide +kernel
theorem dX12_fetch_33 : decode cX12_fetch 33 = .ok (.bipush 8, 2) := by decide +kernel
theorem dX12_fetch_35 : decode cX12_fetch 35 = .ok (.lshl, 1) := by decide +kernel
theorem dX12_fetch_36 : decode cX12_fetch 36 = .ok (.lstore_n 2, 1) := by decide +kernel
theorem dX12_fetch_37 : decode cX12_fetch 37 = .ok (.iload 4, 2) := by decide +kernel
theorem dX12_fetch_39 : decode cX12_fetch 39 = .ok (.iload_n 1, 1) := by decide +kernel
theorem dX12_fetch_40 : decode cX12_fetch 40 = .ok (.if_icmp .ge 23, 3) := by decide +kernel
theorem dX12_fetch_43 : decode cX12_fetch 43 = .ok (.lload_n 2, 1) := by decide +kernel
theorem dX12_fetch_44 : decode cX12_fetch 44 = .ok (.aload_n 0, 1) := by decide +kernel
theorem dX12_fetch_45 : decode cX12_fetch 45 = .ok (.getfield 136, 3) := by decide +kernel
theorem dX12_fetch_48 : decode cX12_fetch 48 = .ok (.aload_n 0, 1) := by decide +kernel
theorem dX12_fetch_49 : decode cX12_fetch 49 = .ok (.getfield 240, 3) := by decide +kernel
theorem dX12_fetch_52 : decode cX12_fetch 52 = .ok (.iload 4, 2) := by decide +kernel
theorem dX12_fetch_54 : decode cX12_fetch 54 = .ok (.iadd, 1) := by decide +kernel
theorem dX12_fetch_55 : decode cX12_fetch 55 = .ok (.sipush 500, 3) := by decide +kernel
theorem dX12_fetch_58 : decode cX12_fetch 58 = .ok (.irem, 1) := by decide +kernel
theorem dX12_fetch_59 : decode cX12_fetch 59 = .ok (.iaload, 1) := by decide +kernel
theorem dX12_fetch_60 : decode cX12_fetch 60 = .ok (.i2l, 1) := by decide +kernel
theorem dX12_fetch_61 : decode cX12_fetch 61 = .ok (.lor, 1) := by decide +kernel
theorem dX12_fetch_62 : decode cX12_fetch 62 = .ok (.lstore_n 2, 1) := by decide +kernel
theorem dX12_fetch_63 : decode cX12_fetch 63 = .ok (.iinc 4 1, 3) := by decide +kernel
theorem dX12_fetch_66 : decode cX12_fetch 66 = .ok (.goto (-41), 3) := by decide +kernel
theorem dX12_fetch_69 : decode cX12_fetch 69 = .ok (.aload_n 0, 1) := by decide +kernel
theorem dX12_fetch_70 : decode cX12_fetch 70 = .ok (.aload_n 0, 1) := by decide +kernel
theorem dX12_fetch_71 : decode cX12_fetch 71 = .ok (.getfield 240, 3) := by decide +kernel
theorem dX12_fetch_74 : decode cX12_fetch 74 = .ok (.iload_n 1, 1) := by decide +kernel
theorem dX12_fetch_75 : decode cX12_fetch 75 = .ok (.iadd, 1) := by decide +kernel
theorem dX12_fetch_76 : decode cX12_fetch 76 = .ok (.sipush 500, 3) := by decide +kernel
theorem dX12_fetch_79 : decode cX12_fetch 79 = .ok (.irem, 1) := by decide +kernel
theorem dX12_fetch_80 : decode cX12_fetch 80 = .ok (.putfield 240, 3) := by decide +kernel
theorem dX12_fetch_83 : decode cX12_fetch 83 = .ok (.aload_n 0, 1) := by decide +kernel
theorem dX12_fetch_84 : decode cX12_fetch 84 = .ok (.dup, 1) := by decide +kernel
theorem dX12_fetch_85 : decode cX12_fetch 85 = .ok (.getfield 243, 3) := by decide +kernel
theorem dX12_fetch_88 : decode cX12_fetch 88 = .ok (.iload_n 1, 1) := by decide +kernel
theorem dX12_fetch_89 : decode cX12_fetch 89 = .ok (.isub, 1) := by decide +kernel
theorem dX12_fetch_90 : decode cX12_fetch 90 = .ok (.putfield 243, 3) := by decide +kernel
theorem dX12_fetch_93 : decode cX12_fetch 93 = .ok (.lload_n 2, 1) := by decide +kernel
theorem dX12_fetch_94 : decode cX12_fetch 94 = .ok (.lreturn, 1) := by decide +kernel
theorem dX12_register_0 : decode cX12_register 0 = .ok (.iload_n 1, 1) := by decide +kernel
theorem dX12_register_1 : decode cX12_register 1 = .ok (.ifCond .lt 21, 3) := by decide +kernel
theorem dX12_register_4 : decode cX12_register 4 = .ok (.iload_n 1, 1) := by decide +kernel
theorem dX12_register_5 : decode cX12_register 5 = .ok (.aload_n 0, 1) := by decide +kernel
theorem dX12_register_6 : decode cX12_register 6 = .ok (.getfield 198, 3) := by decide +kernel
theorem dX12_register_9 : decode cX12_register 9 = .ok (.if_icmp .ge 13, 3) := by decide +kernel
theorem dX12_register_12 : decode cX12_register 12 = .ok (.iload_n 2, 1) := by decide +kernel
theorem dX12_register_13 : decode cX12_register 13 = .ok (.ifCond .lt 9, 3) := by decide +kernel
theorem dX12_register_16 : decode cX12_register 16 = .ok (.iload_n 2, 1) := by decide +kernel
theorem dX12_register_17 : decode cX12_register 17 = .ok (.bipush 16, 2) := by decide +kernel
theorem dX12_register_19 : decode cX12_register 19 = .ok (.if_icmp .le 7, 3) := by decide +kernel
theorem dX12_register_22 : decode cX12_register 22 = .ok (.ldc2_w 521, 3) := by decide +kernel
theorem dX12_register_25 : decode cX12_register 25 = .ok (.lreturn, 1) := by decide +kernel
theorem dX12_register_26 : decode cX12_register 26 = .ok (.iload_n 1, 1) := by decide +kernel
theorem dX12_register_27 : decode cX12_register 27 = .ok (.iload_n 2, 1) := by decide +kernel
theorem dX12_register_28 : decode cX12_register 28 = .ok (.invokestatic 307, 3) := by decide +kernel
theorem dX12_register_31 : decode cX12_register 31 = .ok (.istore 4, 2) := by decide +kernel
theorem dX12_register_33 : decode cX12_register 33 = .ok (.iload_n 3, 1) := by decide +kernel
theorem dX12_register_34 : decode cX12_register 34 = .ok (.tableswitch 105 0 5 #[38, 49, 60, 71, 80, 89], 38) := by decide +kernel
theorem dX12_register_72 : decode cX12_register 72 = .ok (.aload_n 0, 1) := by decide +kernel
theorem dX12_register_73 : decode cX12_register 73 = .ok (.getfield 7, 3) := by decide +kernel
theorem dX12_register_76 : decode cX12_register 76 = .ok (.iload 4, 2) := by decide +kernel
theorem dX12_register_78 : decode cX12_register 78 = .ok (.iaload, 1) := by decide +kernel
theorem dX12_register_79 : decode cX12_register 79 = .ok (.invokestatic 260, 3) := by decide +kernel
theorem dX12_register_82 : decode cX12_register 82 = .ok (.lreturn, 1) := by decide +kernel
theorem dX12_register_83 : decode cX12_register 83 = .ok (.aload_n 0, 1) := by decide +kernel
theorem dX12_register_84 : decode cX12_register 84 = .ok (.getfield 13, 3) := by decide +kernel
theorem dX12_register_87 : decode cX12_register 87 = .ok (.iload 4, 2) := by decide +kernel
theorem dX12_register_89 : decode cX12_register 89 = .ok (.iaload, 1) := by decide +kernel
theorem dX12_register_90 : decode cX12_register 90 = .ok (.invokestatic 260, 3) := by decide +kernel
theorem dX12_register_93 : decode cX12_register 93 = .ok (.lreturn, 1) := by decide +kernel
theorem dX12_register_94 : decode cX12_register 94 = .ok (.aload_n 0, 1) := by decide +kernel
theorem dX12_register_95 : decode cX12_register 95 = .ok (.getfield 16, 3) := by decide +kernel
theorem dX12_register_98 : decode cX12_register 98 = .ok (.iload 4, 2) := by decide +kernel
theorem dX12_register_100 : decode cX12_register 100 = .ok (.iaload, 1) := by decide +kernel
theorem dX12_register_101 : decode cX12_register 101 = .ok (.invokestatic 260, 3) := by decide +kernel
theorem dX12_register_104 : decode cX12_register 104 = .ok (.lreturn, 1) := by decide +kernel
theorem dX12_register_105 : decode cX12_register 105 = .ok (.aload_n 0, 1) := by decide +kernel
theorem dX12_register_106 : decode cX12_register 106 = .ok (.getfield 19, 3) := by decide +kernel
theorem dX12_register_109 : decode cX12_register 109 = .ok (.iload 4, 2) := by decide +kernel
theorem dX12_register_111 : decode cX12_register 111 = .ok (.iaload, 1) := by decide +kernel
theorem dX12_register_112 : decode cX12_register 112 = .ok (.i2l, 1) := by decide +kernel
theorem dX12_register_113 : decode cX12_register 113 = .ok (.lreturn, 1) := by decide +kernel
theorem dX12_register_114 : decode cX12_register 114 = .ok (.aload_n 0, 1) := by decide +kernel
theorem dX12_register_115 : decode cX12_register 115 = .ok (.getfield 22, 3) := by decide +kernel
theorem dX12_register_118 : decode cX12_register 118 = .ok (.iload 4, 2) := by decide +kernel
theorem dX12_register_120 : decode cX12_register 120 = .ok (.iaload, 1) := by decide +kernel
theorem dX12_register_121 : decode cX12_register 121 = .ok (.i2l, 1) := by decide +kernel
theorem dX12_register_122 : decode cX12_register 122 = .ok (.lreturn, 1) := by decide +kernel
theorem dX12_register_123 : decode cX12_register 123 = .ok (.aload_n 0, 1) := by decide +kernel
theorem dX12_register_124 : decode cX12_register 124 = .ok (.getfield 25, 3) := by decide +kernel
theorem dX12_register_127 : decode cX12_register 127 = .ok (.iload 4, 2) := by decide +kernel
theorem dX12_register_129 : decode cX12_register 129 = .ok (.baload, 1) := by decide +kernel
theorem dX12_register_130 : decode cX12_register 130 = .ok (.ifCond .eq 7, 3) := by decide +kernel
theorem dX12_register_133 : decode cX12_register 133 = .ok (.lconst 1, 1) := by decide +kernel
theorem dX12_register_134 : decode cX12_register 134 = .ok (.goto 4, 3) := by decide +kernel
theorem dX12_register_137 : decode cX12_register 137 = .ok (.lconst 0, 1) := by decide +kernel
theorem dX12_register_138 : decode cX12_register 138 = .ok (.lreturn, 1) := by decide +kernel
theorem dX12_register_139 : decode cX12_register 139 = .ok (.ldc2_w 521, 3) := by decide +kernel
theorem dX12_register_142 : decode cX12_register 142 = .ok (.lreturn, 1) := by decide +kernel
theorem dX12_memory_0 : decode cX12_memory 0 = .ok (.aload_n 0, 1) := by decide +kernel
theorem dX12_memory_1 : decode cX12_memory 1 = .ok (.getfield 191, 3) := by decide +kernel
theorem dX12_memory_4 : decode cX12_memory 4 = .ok (.ifCond .eq 32, 3) := by decide +kernel
theorem dX12_memory_7 : decode cX12_memory 7 = .ok (.iload_n 2, 1) := by decide +kernel
theorem dX12_memory_8 : decode cX12_memory 8 = .ok (.iconst 1, 1) := by decide +kernel
theorem dX12_memory_9 : decode cX12_memory 9 = .ok (.if_icmp .eq 13, 3) := by decide +kernel
theorem dX12_memory_12 : decode cX12_memory 12 = .ok (.iload_n 2, 1) := by decide +kernel
theorem dX12_memory_13 : decode cX12_memory 13 = .ok (.iconst 2, 1) := by decide +kernel
theorem dX12_memory_14 : decode cX12_memory 14 = .ok (.if_icmp .eq 8, 3) := by decide +kernel
theorem dX12_memory_17 : decode cX12_memory 17 = .ok (.iload_n 2, 1) := by decide +kernel
theorem dX12_memory_18 : decode cX12_memory 18 = .ok (.iconst 4, 1) := by decide +kernel
theorem dX12_memory_19 : decode cX12_memory 19 = .ok (.if_icmp .ne 17, 3) := by decide +kernel
theorem dX12_memory_22 : decode cX12_memory 22 = .ok (.iload_n 1, 1) := by decide +kernel
theorem dX12_memory_23 : decode cX12_memory 23 = .ok (.ifCond .lt 13, 3) := by decide +kernel
theorem dX12_memory_26 : decode cX12_memory 26 = .ok (.iload_n 1, 1) := by decide +kernel
theorem dX12_memory_27 : decode cX12_memory 27 = .ok (.aload_n 0, 1) := by decide +kernel
theorem dX12_memory_28 : decode cX12_memory 28 = .ok (.getfield 175, 3) := by decide +kernel
theorem dX12_memory_31 : decode cX12_memory 31 = .ok (.iload_n 2, 1) := by decide +kernel
theorem dX12_memory_32 : decode cX12_memory 32 = .ok (.isub, 1) := by decide +kernel
theorem dX12_memory_33 : decode cX12_memory 33 = .ok (.if_icmp .le 7, 3) := by decide +kernel
theorem dX12_memory_36 : decode cX12_memory 36 = .ok (.ldc2_w 521, 3) := by decide +kernel
theorem dX12_memory_39 : decode cX12_memory 39 = .ok (.lreturn, 1) := by decide +kernel
theorem dX12_memory_40 : decode cX12_memory 40 = .ok (.aload_n 0, 1) := by decide +kernel
theorem dX12_memory_41 : decode cX12_memory 41 = .ok (.iload_n 1, 1) := by decide +kernel
theorem dX12_memory_42 : decode cX12_memory 42 = .ok (.iload_n 2, 1) := by decide +kernel
theorem dX12_memory_43 : decode cX12_memory 43 = .ok (.invokevirtual 264, 3) := by decide +kernel
theorem dX12_memory_46 : decode cX12_memory 46 = .ok (.invokestatic 260, 3) := by decide +kernel
theorem dX12_memory_49 : decode cX12_memory 49 = .ok (.lreturn, 1) := by decide +kernel
theorem dX12_tag_0 : decode cX12_tag 0 = .ok (.aload_n 0, 1) := by decide +kernel
theorem dX12_tag_1 : decode cX12_tag 1 = .ok (.getfield 191, 3) := by decide +kernel
theorem dX12_tag_4 : decode cX12_tag 4 = .ok (.ifCond .eq 18, 3) := by decide +kernel
theorem dX12_tag_7 : decode cX12_tag 7 = .ok (.iload_n 1, 1) := by decide +kernel
theorem dX12_tag_8 : decode cX12_tag 8 = .ok (.ifCond .lt 14, 3) := by decide +kernel
theorem dX12_tag_11 : decode cX12_tag 11 = .ok (.iload_n 1, 1) := by decide +kernel
theorem dX12_tag_12 : decode cX12_tag 12 = .ok (.aload_n 0, 1) := by decide +kernel
theorem dX12_tag_13 : decode cX12_tag 13 = .ok (.getfield 175, 3) := by decide +kernel
theorem dX12_tag_16 : decode cX12_tag 16 = .ok (.bipush 16, 2) := by decide +kernel
theorem dX12_tag_18 : decode cX12_tag 18 = .ok (.idiv, 1) := by decide +kernel
theorem dX12_tag_19 : decode cX12_tag 19 = .ok (.if_icmp .lt 5, 3) := by decide +kernel
theorem dX12_tag_22 : decode cX12_tag 22 = .ok (.iconst (-1), 1) := by decide +kernel
theorem dX12_tag_23 : decode cX12_tag 23 = .ok (.ireturn, 1) := by decide +kernel
theorem dX12_tag_24 : decode cX12_tag 24 = .ok (.aload_n 0, 1) := by decide +kernel
theorem dX12_tag_25 : decode cX12_tag 25 = .ok (.getfield 182, 3) := by decide +kernel
theorem dX12_tag_28 : decode cX12_tag 28 = .ok (.iload_n 1, 1) := by decide +kernel
theorem dX12_tag_29 : decode cX12_tag 29 = .ok (.baload, 1) := by decide +kernel
theorem dX12_tag_30 : decode cX12_tag 30 = .ok (.ifCond .eq 7, 3) := by decide +kernel
theorem dX12_tag_33 : decode cX12_tag 33 = .ok (.iconst 1, 1) := by decide +kernel
theorem dX12_tag_34 : decode cX12_tag 34 = .ok (.goto 4, 3) := by decide +kernel
theorem dX12_tag_37 : decode cX12_tag 37 = .ok (.iconst 0, 1) := by decide +kernel
theorem dX12_tag_38 : decode cX12_tag 38 = .ok (.aload_n 0, 1) := by decide +kernel
theorem dX12_tag_39 : decode cX12_tag 39 = .ok (.getfield 185, 3) := by decide +kernel
theorem dX12_tag_42 : decode cX12_tag 42 = .ok (.iload_n 1, 1) := by decide +kernel
theorem dX12_tag_43 : decode cX12_tag 43 = .ok (.baload, 1) := by decide +kernel
theorem dX12_tag_44 : decode cX12_tag 44 = .ok (.ifCond .eq 7, 3) := by decide +kernel
theorem dX12_tag_47 : decode cX12_tag 47 = .ok (.iconst 2, 1) := by decide +kernel
theorem dX12_tag_48 : decode cX12_tag 48 = .ok (.goto 4, 3) := by decide +kernel
theorem dX12_tag_51 : decode cX12_tag 51 = .ok (.iconst 0, 1) := by decide +kernel
theorem dX12_tag_52 : decode cX12_tag 52 = .ok (.iadd, 1) := by decide +kernel
theorem dX12_tag_53 : decode cX12_tag 53 = .ok (.ireturn, 1) := by decide +kernel
theorem dX12_thread_0 : decode cX12_thread 0 = .ok (.iload_n 1, 1) := by decide +kernel
theorem dX12_thread_1 : decode cX12_thread 1 = .ok (.ifCond .lt 11, 3) := by decide +kernel
theorem dX12_thread_4 : decode cX12_thread 4 = .ok (.iload_n 1, 1) := by decide +kernel
theorem dX12_thread_5 : decode cX12_thread 5 = .ok (.aload_n 0, 1) := by decide +kernel
theorem dX12_thread_6 : decode cX12_thread 6 = .ok (.getfield 198, 3) := by decide +kernel
theorem dX12_thread_9 : decode cX12_thread 9 = .ok (.if_icmp .lt 5, 3) := by decide +kernel
theorem dX12_thread_12 : decode cX12_thread 12 = .ok (.iconst (-1), 1) := by decide +kernel
theorem dX12_thread_13 : decode cX12_thread 13 = .ok (.ireturn, 1) := by decide +kernel
theorem dX12_thread_14 : decode cX12_thread 14 = .ok (.iload_n 2, 1) := by decide +kernel
theorem dX12_thread_15 : decode cX12_thread 15 = .ok (.tableswitch 109 0 7 #[45, 52, 59, 66, 81, 88, 95, 102], 45) := by decide +kernel
theorem dX12_thread_60 : decode cX12_thread 60 = .ok (.aload_n 0, 1) := by decide +kernel
theorem dX12_thread_61 : decode cX12_thread 61 = .ok (.getfield 61, 3) := by decide +kernel
theorem dX12_thread_64 : decode cX12_thread 64 = .ok (.iload_n 1, 1) := by decide +kernel
theorem dX12_thread_65 : decode cX12_thread 65 = .ok (.iaload, 1) := by decide +kernel
theorem dX12_thread_66 : decode cX12_thread 66 = .ok (.ireturn, 1) := by decide +kernel
theorem dX12_thread_67 : decode cX12_thread 67 = .ok (.aload_n 0, 1) := by decide +kernel
theorem dX12_thread_68 : decode cX12_thread 68 = .ok (.getfield 67, 3) := by decide +kernel
theorem dX12_thread_71 : decode cX12_thread 71 = .ok (.iload_n 1, 1) := by decide +kernel
theorem dX12_thread_72 : decode cX12_thread 72 = .ok (.iaload, 1) := by decide +kernel
theorem dX12_thread_73 : decode cX12_thread 73 = .ok (.ireturn, 1) := by decide +kernel
theorem dX12_thread_74 : decode cX12_thread 74 = .ok (.aload_n 0, 1) := by decide +kernel
theorem dX12_thread_75 : decode cX12_thread 75 = .ok (.getfield 70, 3) := by decide +kernel
theorem dX12_thread_78 : decode cX12_thread 78 = .ok (.iload_n 1, 1) := by decide +kernel
theorem dX12_thread_79 : decode cX12_thread 79 = .ok (.iaload, 1) := by decide +kernel
theorem dX12_thread_80 : decode cX12_thread 80 = .ok (.ireturn, 1) := by decide +kernel
theorem dX12_thread_81 : decode cX12_thread 81 = .ok (.aload_n 0, 1) := by decide +kernel
theorem dX12_thread_82 : decode cX12_thread 82 = .ok (.getfield 76, 3) := by decide +kernel
theorem dX12_thread_85 : decode cX12_thread 85 = .ok (.iload_n 1, 1) := by decide +kernel
theorem dX12_thread_86 : decode cX12_thread 86 = .ok (.baload, 1) := by decide +kernel
theorem dX12_thread_87 : decode cX12_thread 87 = .ok (.ifCond .eq 7, 3) := by decide +kernel
theorem dX12_thread_90 : decode cX12_thread 90 = .ok (.iconst 1, 1) := by decide +kernel
theorem dX12_thread_91 : decode cX12_thread 91 = .ok (.goto 4, 3) := by decide +kernel
theorem dX12_thread_94 : decode cX12_thread 94 = .ok (.iconst 0, 1) := by decide +kernel
theorem dX12_thread_95 : decode cX12_thread 95 = .ok (.ireturn, 1) := by decide +kernel
theorem dX12_thread_96 : decode cX12_thread 96 = .ok (.aload_n 0, 1) := by decide +kernel
theorem dX12_thread_97 : decode cX12_thread 97 = .ok (.getfield 79, 3) := by decide +kernel
theorem dX12_thread_100 : decode cX12_thread 100 = .ok (.iload_n 1, 1) := by decide +kernel
theorem dX12_thread_101 : decode cX12_thread 101 = .ok (.iaload, 1) := by decide +kernel
theorem dX12_thread_102 : decode cX12_thread 102 = .ok (.ireturn, 1) := by decide +kernel
theorem dX12_thread_103 : decode cX12_thread 103 = .ok (.aload_n 0, 1) := by decide +kernel
theorem dX12_thread_104 : decode cX12_thread 104 = .ok (.getfield 82, 3) := by decide +kernel
theorem dX12_thread_107 : decode cX12_thread 107 = .ok (.iload_n 1, 1) := by decide +kernel
theorem dX12_thread_108 : decode cX12_thread 108 = .ok (.iaload, 1) := by decide +kernel
theorem dX12_thread_109 : decode cX12_thread 109 = .ok (.ireturn, 1) := by decide +kernel
theorem dX12_thread_110 : decode cX12_thread 110 = .ok (.aload_n 0, 1) := by decide +kernel
theorem dX12_thread_111 : decode cX12_thread 111 = .ok (.getfield 64, 3) := by decide +kernel
theorem dX12_thread_114 : decode cX12_thread 114 = .ok (.iload_n 1, 1) := by decide +kernel
theorem dX12_thread_115 : decode cX12_thread 115 = .ok (.iaload, 1) := by decide +kernel
theorem dX12_thread_116 : decode cX12_thread 116 = .ok (.ireturn, 1) := by decide +kernel
theorem dX12_thread_117 : decode cX12_thread 117 = .ok (.aload_n 0, 1) := by decide +kernel
theorem dX12_thread_118 : decode cX12_thread 118 = .ok (.getfield 88, 3) := by decide +kernel
theorem dX12_thread_121 : decode cX12_thread 121 = .ok (.iload_n 1, 1) := by decide +kernel
theorem dX12_thread_122 : decode cX12_thread 122 = .ok (.iaload, 1) := by decide +kernel
theorem dX12_thread_123 : decode cX12_thread 123 = .ok (.ireturn, 1) := by decide +kernel
theorem dX12_thread_124 : decode cX12_thread 124 = .ok (.iconst (-1), 1) := by decide +kernel
theorem dX12_thread_125 : decode cX12_thread 125 = .ok (.ireturn, 1) := by decide +kernel
theorem dX12_compartment_0 : decode cX12_compartment 0 = .ok (.iload_n 1, 1) := by decide +kernel
theorem dX12_compartment_1 : decode cX12_compartment 1 = .ok (.ifCond .lt 11, 3) := by decide +kernel
theorem dX12_compartment_4 : decode cX12_compartment 4 = .ok (.iload_n 1, 1) := by decide +kernel
theorem dX12_compartment_5 : decode cX12_compartment 5 = .ok (.aload_n 0, 1) := by decide +kernel
theorem dX12_compartment_6 : decode cX12_compartment 6 = .ok (.getfield 195, 3) := by decide +kernel
theorem dX12_compartment_9 : decode cX12_compartment 9 = .ok (.if_icmp .lt 5, 3) := by decide +kernel
theorem dX12_compartment_12 : decode cX12_compartment 12 = .ok (.iconst (-1), 1) := by decide +kernel
theorem dX12_compartment_13 : decode cX12_compartment 13 = .ok (.ireturn, 1) := by decide +kernel
theorem dX12_compartment_14 : decode cX12_compartment 14 = .ok (.iload_n 2, 1) := by decide +kernel
theorem dX12_compartment_15 : decode cX12_compartment 15 = .ok (.tableswitch 57 0 3 #[29, 36, 43, 50], 29) := by decide +kernel
theorem dX12_compartment_44 : decode cX12_compartment 44 = .ok (.aload_n 0, 1) := by decide +kernel
theorem dX12_compartment_45 : decode cX12_compartment 45 = .ok (.getfield 40, 3) := by decide +kernel
theorem dX12_compartment_48 : decode cX12_compartment 48 = .ok (.iload_n 1, 1) := by decide +kernel
theorem dX12_compartment_49 : decode cX12_compartment 49 = .ok (.iaload, 1) := by decide +kernel
theorem dX12_compartment_50 : decode cX12_compartment 50 = .ok (.ireturn, 1) := by decide +kernel
theorem dX12_compartment_51 : decode cX12_compartment 51 = .ok (.aload_n 0, 1) := by decide +kernel
theorem dX12_compartment_52 : decode cX12_compartment 52 = .ok (.getfield 43, 3) := by decide +kernel
theorem dX12_compartment_55 : decode cX12_compartment 55 = .ok (.iload_n 1, 1) := by decide +kernel
theorem dX12_compartment_56 : decode cX12_compartment 56 = .ok (.iaload, 1) := by decide +kernel
theorem dX12_compartment_57 : decode cX12_compartment 57 = .ok (.ireturn, 1) := by decide +kernel
theorem dX12_compartment_58 : decode cX12_compartment 58 = .ok (.aload_n 0, 1) := by decide +kernel
theorem dX12_compartment_59 : decode cX12_compartment 59 = .ok (.getfield 46, 3) := by decide +kernel
theorem dX12_compartment_62 : decode cX12_compartment 62 = .ok (.iload_n 1, 1) := by decide +kernel
theorem dX12_compartment_63 : decode cX12_compartment 63 = .ok (.iaload, 1) := by decide +kernel
theorem dX12_compartment_64 : decode cX12_compartment 64 = .ok (.ireturn, 1) := by decide +kernel
theorem dX12_compartment_65 : decode cX12_compartment 65 = .ok (.aload_n 0, 1) := by decide +kernel
theorem dX12_compartment_66 : decode cX12_compartment 66 = .ok (.getfield 49, 3) := by decide +kernel
theorem dX12_compartment_69 : decode cX12_compartment 69 = .ok (.iload_n 1, 1) := by decide +kernel
theorem dX12_compartment_70 : decode cX12_compartment 70 = .ok (.iaload, 1) := by decide +kernel
theorem dX12_compartment_71 : decode cX12_compartment 71 = .ok (.ireturn, 1) := by decide +kernel
theorem dX12_compartment_72 : decode cX12_compartment 72 = .ok (.iconst (-1), 1) := by decide +kernel
theorem dX12_compartment_73 : decode cX12_compartment 73 = .ok (.ireturn, 1) := by decide +kernel
theorem dX12_heap_0 : decode cX12_heap 0 = .ok (.aload_n 0, 1) := by decide +kernel
theorem dX12_heap_1 : decode cX12_heap 1 = .ok (.getfield 191, 3) := by decide +kernel
theorem dX12_heap_4 : decode cX12_heap 4 = .ok (.ifCond .eq 13, 3) := by decide +kernel
theorem dX12_heap_7 : decode cX12_heap 7 = .ok (.iload_n 1, 1) := by decide +kernel
theorem dX12_heap_8 : decode cX12_heap 8 = .ok (.ifCond .lt 9, 3) := by decide +kernel
theorem dX12_heap_11 : decode cX12_heap 11 = .ok (.iload_n 1, 1) := by decide +kernel
theorem dX12_heap_12 : decode cX12_heap 12 = .ok (.bipush 7, 2) := by decide +kernel
theorem dX12_heap_14 : decode cX12_heap 14 = .ok (.if_icmp .ne 5, 3) := by decide +kernel
theorem dX12_heap_17 : decode cX12_heap 17 = .ok (.iconst (-1), 1) := by decide +kernel
theorem dX12_heap_18 : decode cX12_heap 18 = .ok (.ireturn, 1) := by decide +kernel
theorem dX12_heap_19 : decode cX12_heap 19 = .ok (.iconst 0, 1) := by decide +kernel
theorem dX12_heap_20 : decode cX12_heap 20 = .ok (.istore_n 2, 1) := by decide +kernel
theorem dX12_heap_21 : decode cX12_heap 21 = .ok (.iconst 0, 1) := by decide +kernel
theorem dX12_heap_22 : decode cX12_heap 22 = .ok (.istore_n 3, 1) := by decide +kernel
theorem dX12_heap_23 : decode cX12_heap 23 = .ok (.iconst 0, 1) := by decide +kernel
theorem dX12_heap_24 : decode cX12_heap 24 = .ok (.istore 4, 2) := by decide +kernel
theorem dX12_heap_26 : decode cX12_heap 26 = .ok (.iconst (-1), 1) := by decide +kernel
theorem dX12_heap_27 : decode cX12_heap 27 = .ok (.istore 5, 2) := by decide +kernel
theorem dX12_heap_29 : decode cX12_heap 29 = .ok (.iconst 0, 1) := by decide +kernel
theorem dX12_heap_30 : decode cX12_heap 30 = .ok (.istore 6, 2) := by decide +kernel
theorem dX12_heap_32 : decode cX12_heap 32 = .ok (.iload 6, 2) := by decide +kernel
theorem dX12_heap_34 : decode cX12_heap 34 = .ok (.aload_n 0, 1) := by decide +kernel
theorem dX12_heap_35 : decode cX12_heap 35 = .ok (.getfield 225, 3) := by decide +kernel
theorem dX12_heap_38 : decode cX12_heap 38 = .ok (.if_icmp .ge 64, 3) := by decide +kernel
theorem dX12_heap_41 : decode cX12_heap 41 = .ok (.aload_n 0, 1) := by decide +kernel
theorem dX12_heap_42 : decode cX12_heap 42 = .ok (.getfield 127, 3) := by decide +kernel
theorem dX12_heap_45 : decode cX12_heap 45 = .ok (.iload 6, 2) := by decide +kernel
theorem dX12_heap_47 : decode cX12_heap 47 = .ok (.baload, 1) := by decide +kernel
theorem dX12_heap_48 : decode cX12_heap 48 = .ok (.ifCond .eq 18, 3) := by decide +kernel
theorem dX12_heap_51 : decode cX12_heap 51 = .ok (.iload 4, 2) := by decide +kernel
theorem dX12_heap_53 : decode cX12_heap 53 = .ok (.aload_n 0, 1) := by decide +kernel
theorem dX12_heap_54 : decode cX12_heap 54 = .ok (.getfield 124, 3) := by decide +kernel
theorem dX12_heap_57 : decode cX12_heap 57 = .ok (.iload 6, 2) := by decide +kernel
theorem dX12_heap_59 : decode cX12_heap 59 = .ok (.iaload, 1) := by decide +kernel
theorem dX12_heap_60 : decode cX12_heap 60 = .ok (.iadd, 1) := by decide +kernel
theorem dX12_heap_61 : decode cX12_heap 61 = .ok (.istore 4, 2) := by decide +kernel
theorem dX12_heap_63 : decode cX12_heap 63 = .ok (.goto 33, 3) := by decide +kernel
theorem dX12_heap_66 : decode cX12_heap 66 = .ok (.iload_n 2, 1) := by decide +kernel
theorem dX12_heap_67 : decode cX12_heap 67 = .ok (.iload_n 1, 1) := by decide +kernel
theorem dX12_heap_68 : decode cX12_heap 68 = .ok (.bipush 8, 2) := by decide +kernel
theorem dX12_heap_70 : decode cX12_heap 70 = .ok (.isub, 1) := by decide +kernel
theorem dX12_heap_71 : decode cX12_heap 71 = .ok (.if_icmp .ne 12, 3) := by decide +kernel
theorem dX12_heap_74 : decode cX12_heap 74 = .ok (.aload_n 0, 1) := by decide +kernel
theorem dX12_heap_75 : decode cX12_heap 75 = .ok (.getfield 121, 3) := by decide +kernel
theorem dX12_heap_78 : decode cX12_heap 78 = .ok (.iload 6, 2) := by decide +kernel
theorem dX12_heap_80 : decode cX12_heap 80 = .ok (.iaload, 1) := by decide +kernel
theorem dX12_heap_81 : decode cX12_heap 81 = .ok (.istore 5, 2) := by decide +kernel
theorem dX12_heap_83 : decode cX12_heap 83 = .ok (.iinc 2 1, 3) := by decide +kernel
theorem dX12_heap_86 : decode cX12_heap 86 = .ok (.iload_n 3, 1) := by decide +kernel
theorem dX12_heap_87 : decode cX12_heap 87 = .ok (.aload_n 0, 1) := by decide +kernel
theorem dX12_heap_88 : decode cX12_heap 88 = .ok (.getfield 124, 3) := by decide +kernel
theorem dX12_heap_91 : decode cX12_heap 91 = .ok (.iload 6, 2) := by decide +kernel
theorem dX12_heap_93 : decode cX12_heap 93 = .ok (.iaload, 1) := by decide +kernel
theorem dX12_heap_94 : decode cX12_heap 94 = .ok (.iadd, 1) := by decide +kernel
theorem dX12_heap_95 : decode cX12_heap 95 = .ok (.istore_n 3, 1) := by decide +kernel
theorem dX12_heap_96 : decode cX12_heap 96 = .ok (.iinc 6 1, 3) := by decide +kernel
theorem dX12_heap_99 : decode cX12_heap 99 = .ok (.goto (-67), 3) := by decide +kernel
theorem dX12_heap_102 : decode cX12_heap 102 = .ok (.iload_n 1, 1) := by decide +kernel
theorem dX12_heap_103 : decode cX12_heap 103 = .ok (.tableswitch 68 0 6 #[41, 46, 48, 50, 53, 58, 63], 41) := by decide +kernel
theorem dX12_heap_144 : decode cX12_heap 144 = .ok (.aload_n 0, 1) := by decide +kernel
theorem dX12_heap_145 : decode cX12_heap 145 = .ok (.getfield 222, 3) := by decide +kernel
theorem dX12_heap_148 : decode cX12_heap 148 = .ok (.ireturn, 1) := by decide +kernel
theorem dX12_heap_149 : decode cX12_heap 149 = .ok (.iload_n 2, 1) := by decide +kernel
theorem dX12_heap_150 : decode cX12_heap 150 = .ok (.ireturn, 1) := by decide +kernel
theorem dX12_heap_151 : decode cX12_heap 151 = .ok (.iload_n 3, 1) := by decide +kernel
theorem dX12_heap_152 : decode cX12_heap 152 = .ok (.ireturn, 1) := by decide +kernel
theorem dX12_heap_153 : decode cX12_heap 153 = .ok (.iload 4, 2) := by decide +kernel
theorem dX12_heap_155 : decode cX12_heap 155 = .ok (.ireturn, 1) := by decide +kernel
theorem dX12_heap_156 : decode cX12_heap 156 = .ok (.aload_n 0, 1) := by decide +kernel
theorem dX12_heap_157 : decode cX12_heap 157 = .ok (.invokevirtual 491, 3) := by decide +kernel
theorem dX12_heap_160 : decode cX12_heap 160 = .ok (.ireturn, 1) := by decide +kernel
theorem dX12_heap_161 : decode cX12_heap 161 = .ok (.aload_n 0, 1) := by decide +kernel
theorem dX12_heap_162 : decode cX12_heap 162 = .ok (.getfield 234, 3) := by decide +kernel
theorem dX12_heap_165 : decode cX12_heap 165 = .ok (.ireturn, 1) := by decide +kernel
theorem dX12_heap_166 : decode cX12_heap 166 = .ok (.aload_n 0, 1) := by decide +kernel
theorem dX12_heap_167 : decode cX12_heap 167 = .ok (.getfield 231, 3) := by decide +kernel
theorem dX12_heap_170 : decode cX12_heap 170 = .ok (.ireturn, 1) := by decide +kernel
theorem dX12_heap_171 : decode cX12_heap 171 = .ok (.iload 5, 2) := by decide +kernel
theorem dX12_heap_173 : decode cX12_heap 173 = .ok (.ireturn, 1) := by decide +kernel
theorem dX12_count_0 : decode cX12_count 0 = .ok (.iload_n 1, 1) := by decide +kernel
theorem dX12_count_1 : decode cX12_count 1 = .ok (.tableswitch 113 0 9 #[55, 60, 65, 70, 75, 80, 85, 90, 95, 100], 55) := by decide +kernel
theorem dX12_count_56 : decode cX12_count 56 = .ok (.aload_n 0, 1) := by decide +kernel
theorem dX12_count_57 : decode cX12_count 57 = .ok (.getfield 201, 3) := by decide +kernel
theorem dX12_count_60 : decode cX12_count 60 = .ok (.ireturn, 1) := by decide +kernel
theorem dX12_count_61 : decode cX12_count 61 = .ok (.aload_n 0, 1) := by decide +kernel
theorem dX12_count_62 : decode cX12_count 62 = .ok (.getfield 204, 3) := by decide +kernel
theorem dX12_count_65 : decode cX12_count 65 = .ok (.ireturn, 1) := by decide +kernel
theorem dX12_count_66 : decode cX12_count 66 = .ok (.aload_n 0, 1) := by decide +kernel
theorem dX12_count_67 : decode cX12_count 67 = .ok (.getfield 207, 3) := by decide +kernel
theorem dX12_count_70 : decode cX12_count 70 = .ok (.ireturn, 1) := by decide +kernel
theorem dX12_count_71 : decode cX12_count 71 = .ok (.aload_n 0, 1) := by decide +kernel
theorem dX12_count_72 : decode cX12_count 72 = .ok (.getfield 210, 3) := by decide +kernel
theorem dX12_count_75 : decode cX12_count 75 = .ok (.ireturn, 1) := by decide +kernel
theorem dX12_count_76 : decode cX12_count 76 = .ok (.aload_n 0, 1) := by decide +kernel
theorem dX12_count_77 : decode cX12_count 77 = .ok (.getfield 213, 3) := by decide +kernel
theorem dX12_count_80 : decode cX12_count 80 = .ok (.ireturn, 1) := by decide +kernel
theorem dX12_count_81 : decode cX12_count 81 = .ok (.aload_n 0, 1) := by decide +kernel
theorem dX12_count_82 : decode cX12_count 82 = .ok (.getfield 216, 3) := by decide +kernel
theorem dX12_count_85 : decode cX12_count 85 = .ok (.ireturn, 1) := by decide +kernel
theorem dX12_count_86 : decode cX12_count 86 = .ok (.aload_n 0, 1) := by decide +kernel
theorem dX12_count_87 : decode cX12_count 87 = .ok (.getfield 272, 3) := by decide +kernel
theorem dX12_count_90 : decode cX12_count 90 = .ok (.ireturn, 1) := by decide +kernel
theorem dX12_count_91 : decode cX12_count 91 = .ok (.aload_n 0, 1) := by decide +kernel
theorem dX12_count_92 : decode cX12_count 92 = .ok (.getfield 243, 3) := by decide +kernel
theorem dX12_count_95 : decode cX12_count 95 = .ok (.ireturn, 1) := by decide +kernel
theorem dX12_count_96 : decode cX12_count 96 = .ok (.aload_n 0, 1) := by decide +kernel
theorem dX12_count_97 : decode cX12_count 97 = .ok (.getfield 237, 3) := by decide +kernel
theorem dX12_count_100 : decode cX12_count 100 = .ok (.ireturn, 1) := by decide +kernel
theorem dX12_count_101 : decode cX12_count 101 = .ok (.aload_n 0, 1) := by decide +kernel
theorem dX12_count_102 : decode cX12_count 102 = .ok (.getfield 191, 3) := by decide +kernel
theorem dX12_count_105 : decode cX12_count 105 = .ok (.ifCond .eq 7, 3) := by decide +kernel
theorem dX12_count_108 : decode cX12_count 108 = .ok (.iconst 1, 1) := by decide +kernel
theorem dX12_count_109 : decode cX12_count 109 = .ok (.goto 4, 3) := by decide +kernel
theorem dX12_count_112 : decode cX12_count 112 = .ok (.iconst 0, 1) := by decide +kernel
theorem dX12_count_113 : decode cX12_count 113 = .ok (.ireturn, 1) := by decide +kernel
theorem dX12_count_114 : decode cX12_count 114 = .ok (.iconst (-1), 1) := by decide +kernel
theorem dX12_count_115 : decode cX12_count 115 = .ok (.ireturn, 1) := by decide +kernel
theorem dX12_isMore_0 : decode cX12_isMore 0 = .ok (.aload_n 0, 1) := by decide +kernel
theorem dX12_isMore_1 : decode cX12_isMore 1 = .ok (.getfield 22, 3) := by decide +kernel
theorem dX12_isMore_4 : decode cX12_isMore 4 = .ok (.iload_n 1, 1) := by decide +kernel
theorem dX12_isMore_5 : decode cX12_isMore 5 = .ok (.iaload, 1) := by decide +kernel
theorem dX12_isMore_6 : decode cX12_isMore 6 = .ok (.ifCond .eq 24, 3) := by decide +kernel
theorem dX12_isMore_9 : decode cX12_isMore 9 = .ok (.aload_n 0, 1) := by decide +kernel
theorem dX12_isMore_10 : decode cX12_isMore 10 = .ok (.getfield 22, 3) := by decide +kernel
theorem dX12_isMore_13 : decode cX12_isMore 13 = .ok (.iload_n 1, 1) := by decide +kernel
theorem dX12_isMore_14 : decode cX12_isMore 14 = .ok (.iaload, 1) := by decide +kernel
theorem dX12_isMore_15 : decode cX12_isMore 15 = .ok (.iconst 4, 1) := by decide +kernel
theorem dX12_isMore_16 : decode cX12_isMore 16 = .ok (.if_icmp .lt 14, 3) := by decide +kernel
theorem dX12_isMore_19 : decode cX12_isMore 19 = .ok (.aload_n 0, 1) := by decide +kernel
theorem dX12_isMore_20 : decode cX12_isMore 20 = .ok (.getfield 22, 3) := by decide +kernel
theorem dX12_isMore_23 : decode cX12_isMore 23 = .ok (.iload_n 1, 1) := by decide +kernel
theorem dX12_isMore_24 : decode cX12_isMore 24 = .ok (.iaload, 1) := by decide +kernel
theorem dX12_isMore_25 : decode cX12_isMore 25 = .ok (.bipush 7, 2) := by decide +kernel
theorem dX12_isMore_27 : decode cX12_isMore 27 = .ok (.if_icmp .le 7, 3) := by decide +kernel
theorem dX12_isMore_30 : decode cX12_isMore 30 = .ok (.iconst 1, 1) := by decide +kernel
theorem dX12_isMore_31 : decode cX12_isMore 31 = .ok (.goto 4, 3) := by decide +kernel
theorem dX12_isMore_34 : decode cX12_isMore 34 = .ok (.iconst 0, 1) := by decide +kernel
theorem dX12_isMore_35 : decode cX12_isMore 35 = .ok (.istore_n 2, 1) := by decide +kernel
theorem dX12_isMore_36 : decode cX12_isMore 36 = .ok (.aload_n 0, 1) := by decide +kernel
theorem dX12_isMore_37 : decode cX12_isMore 37 = .ok (.getfield 25, 3) := by decide +kernel
theorem dX12_isMore_40 : decode cX12_isMore 40 = .ok (.iload_n 1, 1) := by decide +kernel
theorem dX12_isMore_41 : decode cX12_isMore 41 = .ok (.baload, 1) := by decide +kernel
theorem dX12_isMore_42 : decode cX12_isMore 42 = .ok (.ifCond .eq 29, 3) := by decide +kernel
theorem dX12_isMore_45 : decode cX12_isMore 45 = .ok (.iload_n 2, 1) := by decide +kernel
theorem dX12_isMore_46 : decode cX12_isMore 46 = .ok (.ifCond .eq 25, 3) := by decide +kernel
theorem dX12_isMore_49 : decode cX12_isMore 49 = .ok (.aload_n 0, 1) := by decide +kernel
theorem dX12_isMore_50 : decode cX12_isMore 50 = .ok (.getfield 13, 3) := by decide +kernel
theorem dX12_isMore_53 : decode cX12_isMore 53 = .ok (.iload_n 1, 1) := by decide +kernel
theorem dX12_isMore_54 : decode cX12_isMore 54 = .ok (.iaload, 1) := by decide +kernel
theorem dX12_isMore_55 : decode cX12_isMore 55 = .ok (.invokestatic 260, 3) := by decide +kernel
theorem dX12_isMore_58 : decode cX12_isMore 58 = .ok (.aload_n 0, 1) := by decide +kernel
theorem dX12_isMore_59 : decode cX12_isMore 59 = .ok (.getfield 16, 3) := by decide +kernel
theorem dX12_isMore_62 : decode cX12_isMore 62 = .ok (.iload_n 1, 1) := by decide +kernel
theorem dX12_isMore_63 : decode cX12_isMore 63 = .ok (.iaload, 1) := by decide +kernel
theorem dX12_isMore_64 : decode cX12_isMore 64 = .ok (.invokestatic 260, 3) := by decide +kernel
theorem dX12_isMore_67 : decode cX12_isMore 67 = .ok (.lcmp, 1) := by decide +kernel
theorem dX12_isMore_68 : decode cX12_isMore 68 = .ok (.ifCond .lt 5, 3) := by decide +kernel
theorem dX12_isMore_71 : decode cX12_isMore 71 = .ok (.iconst 0, 1) := by decide +kernel
theorem dX12_isMore_72 : decode cX12_isMore 72 = .ok (.ireturn, 1) := by decide +kernel
theorem dX12_isMore_73 : decode cX12_isMore 73 = .ok (.aload_n 0, 1) := by decide +kernel
theorem dX12_isMore_74 : decode cX12_isMore 74 = .ok (.getfield 19, 3) := by decide +kernel
theorem dX12_isMore_77 : decode cX12_isMore 77 = .ok (.iload_n 1, 1) := by decide +kernel
theorem dX12_isMore_78 : decode cX12_isMore 78 = .ok (.iaload, 1) := by decide +kernel
theorem dX12_isMore_79 : decode cX12_isMore 79 = .ok (.istore_n 3, 1) := by decide +kernel
theorem dX12_isMore_80 : decode cX12_isMore 80 = .ok (.bipush 27, 2) := by decide +kernel
theorem dX12_isMore_82 : decode cX12_isMore 82 = .ok (.istore 4, 2) := by decide +kernel
theorem dX12_isMore_84 : decode cX12_isMore 84 = .ok (.aload_n 0, 1) := by decide +kernel
theorem dX12_isMore_85 : decode cX12_isMore 85 = .ok (.getfield 13, 3) := by decide +kernel
theorem dX12_isMore_88 : decode cX12_isMore 88 = .ok (.iload_n 1, 1) := by decide +kernel
theorem dX12_isMore_89 : decode cX12_isMore 89 = .ok (.iaload, 1) := by decide +kernel
theorem dX12_isMore_90 : decode cX12_isMore 90 = .ok (.ldc_w 301, 3) := by decide +kernel
theorem dX12_isMore_93 : decode cX12_isMore 93 = .ok (.if_icmp .lt 26, 3) := by decide +kernel
theorem dX12_isMore_96 : decode cX12_isMore 96 = .ok (.aload_n 0, 1) := by decide +kernel
theorem dX12_isMore_97 : decode cX12_isMore 97 = .ok (.getfield 16, 3) := by decide +kernel
theorem dX12_isMore_100 : decode cX12_isMore 100 = .ok (.iload_n 1, 1) := by decide +kernel
theorem dX12_isMore_101 : decode cX12_isMore 101 = .ok (.iaload, 1) := by decide +kernel
theorem dX12_isMore_102 : decode cX12_isMore 102 = .ok (.invokestatic 260, 3) := by decide +kernel
theorem dX12_isMore_105 : decode cX12_isMore 105 = .ok (.ldc2_w 523, 3) := by decide +kernel
theorem dX12_isMore_108 : decode cX12_isMore 108 = .ok (.lcmp, 1) := by decide +kernel
theorem dX12_isMore_109 : decode cX12_isMore 109 = .ok (.ifCond .gt 10, 3) := by decide +kernel
theorem dX12_isMore_112 : decode cX12_isMore 112 = .ok (.iload_n 3, 1) := by decide +kernel
theorem dX12_isMore_113 : decode cX12_isMore 113 = .ok (.bipush (-68), 2) := by decide +kernel
theorem dX12_isMore_115 : decode cX12_isMore 115 = .ok (.iand, 1) := by decide +kernel
theorem dX12_isMore_116 : decode cX12_isMore 116 = .ok (.ifCond .eq 33, 3) := by decide +kernel
theorem dX12_isMore_119 : decode cX12_isMore 119 = .ok (.aload_n 0, 1) := by decide +kernel
theorem dX12_isMore_120 : decode cX12_isMore 120 = .ok (.getfield 13, 3) := by decide +kernel
theorem dX12_isMore_123 : decode cX12_isMore 123 = .ok (.iload_n 1, 1) := by decide +kernel
theorem dX12_isMore_124 : decode cX12_isMore 124 = .ok (.iaload, 1) := by decide +kernel
theorem dX12_isMore_125 : decode cX12_isMore 125 = .ok (.bipush 8, 2) := by decide +kernel
theorem dX12_isMore_127 : decode cX12_isMore 127 = .ok (.if_icmp .lt 26, 3) := by decide +kernel
theorem dX12_isMore_130 : decode cX12_isMore 130 = .ok (.aload_n 0, 1) := by decide +kernel
theorem dX12_isMore_131 : decode cX12_isMore 131 = .ok (.getfield 16, 3) := by decide +kernel
theorem dX12_isMore_134 : decode cX12_isMore 134 = .ok (.iload_n 1, 1) := by decide +kernel
theorem dX12_isMore_135 : decode cX12_isMore 135 = .ok (.iaload, 1) := by decide +kernel
theorem dX12_isMore_136 : decode cX12_isMore 136 = .ok (.sipush 264, 3) := by decide +kernel
theorem dX12_isMore_139 : decode cX12_isMore 139 = .ok (.if_icmp .gt 14, 3) := by decide +kernel
theorem dX12_isMore_142 : decode cX12_isMore 142 = .ok (.iload_n 3, 1) := by decide +kernel
theorem dX12_isMore_143 : decode cX12_isMore 143 = .ok (.bipush (-97), 2) := by decide +kernel
theorem dX12_isMore_145 : decode cX12_isMore 145 = .ok (.iand, 1) := by decide +kernel
theorem dX12_isMore_146 : decode cX12_isMore 146 = .ok (.ifCond .ne 7, 3) := by decide +kernel
theorem dX12_isMore_149 : decode cX12_isMore 149 = .ok (.iconst 1, 1) := by decide +kernel
theorem dX12_isMore_150 : decode cX12_isMore 150 = .ok (.goto 4, 3) := by decide +kernel
theorem dX12_isMore_153 : decode cX12_isMore 153 = .ok (.iconst 0, 1) := by decide +kernel
theorem dX12_isMore_154 : decode cX12_isMore 154 = .ok (.istore 5, 2) := by decide +kernel
theorem dX12_isMore_156 : decode cX12_isMore 156 = .ok (.iconst 0, 1) := by decide +kernel
theorem dX12_isMore_157 : decode cX12_isMore 157 = .ok (.istore 6, 2) := by decide +kernel
theorem dX12_isMore_159 : decode cX12_isMore 159 = .ok (.iload 6, 2) := by decide +kernel
theorem dX12_isMore_161 : decode cX12_isMore 161 = .ok (.aload_n 0, 1) := by decide +kernel
theorem dX12_isMore_162 : decode cX12_isMore 162 = .ok (.getfield 195, 3) := by decide +kernel
theorem dX12_isMore_165 : decode cX12_isMore 165 = .ok (.if_icmp .ge 116, 3) := by decide +kernel
theorem dX12_isMore_168 : decode cX12_isMore 168 = .ok (.iload 5, 2) := by decide +kernel
theorem dX12_isMore_170 : decode cX12_isMore 170 = .ok (.ifCond .ne 42, 3) := by decide +kernel
theorem dX12_isMore_173 : decode cX12_isMore 173 = .ok (.aload_n 0, 1) := by decide +kernel
theorem dX12_isMore_174 : decode cX12_isMore 174 = .ok (.getfield 13, 3) := by decide +kernel
theorem dX12_isMore_177 : decode cX12_isMore 177 = .ok (.iload_n 1, 1) := by decide +kernel
theorem dX12_isMore_178 : decode cX12_isMore 178 = .ok (.iaload, 1) := by decide +kernel
theorem dX12_isMore_179 : decode cX12_isMore 179 = .ok (.aload_n 0, 1) := by decide +kernel
theorem dX12_isMore_180 : decode cX12_isMore 180 = .ok (.getfield 40, 3) := by decide +kernel
theorem dX12_isMore_183 : decode cX12_isMore 183 = .ok (.iload 6, 2) := by decide +kernel
theorem dX12_isMore_185 : decode cX12_isMore 185 = .ok (.iaload, 1) := by decide +kernel
theorem dX12_isMore_186 : decode cX12_isMore 186 = .ok (.if_icmp .lt 30, 3) := by decide +kernel
theorem dX12_isMore_189 : decode cX12_isMore 189 = .ok (.aload_n 0, 1) := by decide +kernel
theorem dX12_isMore_190 : decode cX12_isMore 190 = .ok (.getfield 16, 3) := by decide +kernel
theorem dX12_isMore_193 : decode cX12_isMore 193 = .ok (.iload_n 1, 1) := by decide +kernel
theorem dX12_isMore_194 : decode cX12_isMore 194 = .ok (.iaload, 1) := by decide +kernel
theorem dX12_isMore_195 : decode cX12_isMore 195 = .ok (.aload_n 0, 1) := by decide +kernel
theorem dX12_isMore_196 : decode cX12_isMore 196 = .ok (.getfield 46, 3) := by decide +kernel
theorem dX12_isMore_199 : decode cX12_isMore 199 = .ok (.iload 6, 2) := by decide +kernel
theorem dX12_isMore_201 : decode cX12_isMore 201 = .ok (.iaload, 1) := by decide +kernel
theorem dX12_isMore_202 : decode cX12_isMore 202 = .ok (.if_icmp .gt 14, 3) := by decide +kernel
theorem dX12_isMore_205 : decode cX12_isMore 205 = .ok (.iload_n 3, 1) := by decide +kernel
theorem dX12_isMore_206 : decode cX12_isMore 206 = .ok (.bipush (-78), 2) := by decide +kernel
theorem dX12_isMore_208 : decode cX12_isMore 208 = .ok (.iand, 1) := by decide +kernel
theorem dX12_isMore_209 : decode cX12_isMore 209 = .ok (.ifCond .ne 7, 3) := by decide +kernel
theorem dX12_isMore_212 : decode cX12_isMore 212 = .ok (.iconst 1, 1) := by decide +kernel
theorem dX12_isMore_213 : decode cX12_isMore 213 = .ok (.goto 4, 3) := by decide +kernel
theorem dX12_isMore_216 : decode cX12_isMore 216 = .ok (.iconst 0, 1) := by decide +kernel
theorem dX12_isMore_217 : decode cX12_isMore 217 = .ok (.istore 5, 2) := by decide +kernel
theorem dX12_isMore_219 : decode cX12_isMore 219 = .ok (.iload 5, 2) := by decide +kernel
theorem dX12_isMore_221 : decode cX12_isMore 221 = .ok (.ifCond .ne 47, 3) := by decide +kernel
theorem dX12_isMore_224 : decode cX12_isMore 224 = .ok (.aload_n 0, 1) := by decide +kernel
theorem dX12_isMore_225 : decode cX12_isMore 225 = .ok (.getfield 13, 3) := by decide +kernel
theorem dX12_isMore_228 : decode cX12_isMore 228 = .ok (.iload_n 1, 1) := by decide +kernel
theorem dX12_isMore_229 : decode cX12_isMore 229 = .ok (.iaload, 1) := by decide +kernel
theorem dX12_isMore_230 : decode cX12_isMore 230 = .ok (.aload_n 0, 1) := by decide +kernel
theorem dX12_isMore_231 : decode cX12_isMore 231 = .ok (.getfield 46, 3) := by decide +kernel
theorem dX12_isMore_234 : decode cX12_isMore 234 = .ok (.iload 6, 2) := by decide +kernel
theorem dX12_isMore_236 : decode cX12_isMore 236 = .ok (.iaload, 1) := by decide +kernel
theorem dX12_isMore_237 : decode cX12_isMore 237 = .ok (.if_icmp .lt 35, 3) := by decide +kernel
theorem dX12_isMore_240 : decode cX12_isMore 240 = .ok (.aload_n 0, 1) := by decide +kernel
theorem dX12_isMore_241 : decode cX12_isMore 241 = .ok (.getfield 16, 3) := by decide +kernel
theorem dX12_isMore_244 : decode cX12_isMore 244 = .ok (.iload_n 1, 1) := by decide +kernel
theorem dX12_isMore_245 : decode cX12_isMore 245 = .ok (.iaload, 1) := by decide +kernel
theorem dX12_isMore_246 : decode cX12_isMore 246 = .ok (.aload_n 0, 1) := by decide +kernel
theorem dX12_isMore_247 : decode cX12_isMore 247 = .ok (.getfield 49, 3) := by decide +kernel
theorem dX12_isMore_250 : decode cX12_isMore 250 = .ok (.iload 6, 2) := by decide +kernel
theorem dX12_isMore_252 : decode cX12_isMore 252 = .ok (.iaload, 1) := by decide +kernel
theorem dX12_isMore_253 : decode cX12_isMore 253 = .ok (.if_icmp .gt 19, 3) := by decide +kernel
theorem dX12_isMore_256 : decode cX12_isMore 256 = .ok (.iload_n 3, 1) := by decide +kernel
theorem dX12_isMore_257 : decode cX12_isMore 257 = .ok (.iload 4, 2) := by decide +kernel
theorem dX12_isMore_259 : decode cX12_isMore 259 = .ok (.bipush 64, 2) := by decide +kernel
theorem dX12_isMore_261 : decode cX12_isMore 261 = .ok (.ior, 1) := by decide +kernel
theorem dX12_isMore_262 : decode cX12_isMore 262 = .ok (.iconst (-1), 1) := by decide +kernel
theorem dX12_isMore_263 : decode cX12_isMore 263 = .ok (.ixor, 1) := by decide +kernel
theorem dX12_isMore_264 : decode cX12_isMore 264 = .ok (.iand, 1) := by decide +kernel
theorem dX12_isMore_265 : decode cX12_isMore 265 = .ok (.ifCond .ne 7, 3) := by decide +kernel
theorem dX12_isMore_268 : decode cX12_isMore 268 = .ok (.iconst 1, 1) := by decide +kernel
theorem dX12_isMore_269 : decode cX12_isMore 269 = .ok (.goto 4, 3) := by decide +kernel
theorem dX12_isMore_272 : decode cX12_isMore 272 = .ok (.iconst 0, 1) := by decide +kernel
theorem dX12_isMore_273 : decode cX12_isMore 273 = .ok (.istore 5, 2) := by decide +kernel
theorem dX12_isMore_275 : decode cX12_isMore 275 = .ok (.iinc 6 1, 3) := by decide +kernel
theorem dX12_isMore_278 : decode cX12_isMore 278 = .ok (.goto (-119), 3) := by decide +kernel
theorem dX12_isMore_281 : decode cX12_isMore 281 = .ok (.iconst 0, 1) := by decide +kernel
theorem dX12_isMore_282 : decode cX12_isMore 282 = .ok (.istore 6, 2) := by decide +kernel
theorem dX12_isMore_284 : decode cX12_isMore 284 = .ok (.iload 6, 2) := by decide +kernel
theorem dX12_isMore_286 : decode cX12_isMore 286 = .ok (.aload_n 0, 1) := by decide +kernel
theorem dX12_isMore_287 : decode cX12_isMore 287 = .ok (.getfield 198, 3) := by decide +kernel
theorem dX12_isMore_290 : decode cX12_isMore 290 = .ok (.if_icmp .ge 66, 3) := by decide +kernel
theorem dX12_isMore_293 : decode cX12_isMore 293 = .ok (.iload 5, 2) := by decide +kernel
theorem dX12_isMore_295 : decode cX12_isMore 295 = .ok (.ifCond .ne 48, 3) := by decide +kernel
theorem dX12_isMore_298 : decode cX12_isMore 298 = .ok (.aload_n 0, 1) := by decide +kernel
theorem dX12_isMore_299 : decode cX12_isMore 299 = .ok (.getfield 13, 3) := by decide +kernel
theorem dX12_isMore_302 : decode cX12_isMore 302 = .ok (.iload_n 1, 1) := by decide +kernel
theorem dX12_isMore_303 : decode cX12_isMore 303 = .ok (.iaload, 1) := by decide +kernel
theorem dX12_isMore_304 : decode cX12_isMore 304 = .ok (.aload_n 0, 1) := by decide +kernel
theorem dX12_isMore_305 : decode cX12_isMore 305 = .ok (.getfield 88, 3) := by decide +kernel
theorem dX12_isMore_308 : decode cX12_isMore 308 = .ok (.iload 6, 2) := by decide +kernel
theorem dX12_isMore_310 : decode cX12_isMore 310 = .ok (.iaload, 1) := by decide +kernel
theorem dX12_isMore_311 : decode cX12_isMore 311 = .ok (.if_icmp .lt 36, 3) := by decide +kernel
theorem dX12_isMore_314 : decode cX12_isMore 314 = .ok (.aload_n 0, 1) := by decide +kernel
theorem dX12_isMore_315 : decode cX12_isMore 315 = .ok (.getfield 16, 3) := by decide +kernel
theorem dX12_isMore_318 : decode cX12_isMore 318 = .ok (.iload_n 1, 1) := by decide +kernel
theorem dX12_isMore_319 : decode cX12_isMore 319 = .ok (.iaload, 1) := by decide +kernel
theorem dX12_isMore_320 : decode cX12_isMore 320 = .ok (.aload_n 0, 1) := by decide +kernel
theorem dX12_isMore_321 : decode cX12_isMore 321 = .ok (.getfield 91, 3) := by decide +kernel
theorem dX12_isMore_324 : decode cX12_isMore 324 = .ok (.iload 6, 2) := by decide +kernel
theorem dX12_isMore_326 : decode cX12_isMore 326 = .ok (.iaload, 1) := by decide +kernel
theorem dX12_isMore_327 : decode cX12_isMore 327 = .ok (.if_icmp .gt 20, 3) := by decide +kernel
theorem dX12_isMore_330 : decode cX12_isMore 330 = .ok (.iload_n 3, 1) := by decide +kernel
theorem dX12_isMore_331 : decode cX12_isMore 331 = .ok (.iload 4, 2) := by decide +kernel
theorem dX12_isMore_333 : decode cX12_isMore 333 = .ok (.sipush 128, 3) := by decide +kernel
theorem dX12_isMore_336 : decode cX12_isMore 336 = .ok (.ior, 1) := by decide +kernel
theorem dX12_isMore_337 : decode cX12_isMore 337 = .ok (.iconst (-1), 1) := by decide +kernel
theorem dX12_isMore_338 : decode cX12_isMore 338 = .ok (.ixor, 1) := by decide +kernel
theorem dX12_isMore_339 : decode cX12_isMore 339 = .ok (.iand, 1) := by decide +kernel
theorem dX12_isMore_340 : decode cX12_isMore 340 = .ok (.ifCond .ne 7, 3) := by decide +kernel
theorem dX12_isMore_343 : decode cX12_isMore 343 = .ok (.iconst 1, 1) := by decide +kernel
theorem dX12_isMore_344 : decode cX12_isMore 344 = .ok (.goto 4, 3) := by decide +kernel
theorem dX12_isMore_347 : decode cX12_isMore 347 = .ok (.iconst 0, 1) := by decide +kernel
theorem dX12_isMore_348 : decode cX12_isMore 348 = .ok (.istore 5, 2) := by decide +kernel
theorem dX12_isMore_350 : decode cX12_isMore 350 = .ok (.iinc 6 1, 3) := by decide +kernel
theorem dX12_isMore_353 : decode cX12_isMore 353 = .ok (.goto (-69), 3) := by decide +kernel
theorem dX12_isMore_356 : decode cX12_isMore 356 = .ok (.iconst 0, 1) := by decide +kernel
theorem dX12_isMore_357 : decode cX12_isMore 357 = .ok (.istore 6, 2) := by decide +kernel
theorem dX12_isMore_359 : decode cX12_isMore 359 = .ok (.iload 6, 2) := by decide +kernel
theorem dX12_isMore_361 : decode cX12_isMore 361 = .ok (.aload_n 0, 1) := by decide +kernel
theorem dX12_isMore_362 : decode cX12_isMore 362 = .ok (.getfield 225, 3) := by decide +kernel
theorem dX12_isMore_365 : decode cX12_isMore 365 = .ok (.if_icmp .ge 73, 3) := by decide +kernel
theorem dX12_isMore_368 : decode cX12_isMore 368 = .ok (.iload 5, 2) := by decide +kernel
theorem dX12_isMore_370 : decode cX12_isMore 370 = .ok (.ifCond .ne 55, 3) := by decide +kernel
theorem dX12_isMore_373 : decode cX12_isMore 373 = .ok (.aload_n 0, 1) := by decide +kernel
theorem dX12_isMore_374 : decode cX12_isMore 374 = .ok (.getfield 13, 3) := by decide +kernel
theorem dX12_isMore_377 : decode cX12_isMore 377 = .ok (.iload_n 1, 1) := by decide +kernel
theorem dX12_isMore_378 : decode cX12_isMore 378 = .ok (.iaload, 1) := by decide +kernel
theorem dX12_isMore_379 : decode cX12_isMore 379 = .ok (.aload_n 0, 1) := by decide +kernel
theorem dX12_isMore_380 : decode cX12_isMore 380 = .ok (.getfield 121, 3) := by decide +kernel
theorem dX12_isMore_383 : decode cX12_isMore 383 = .ok (.iload 6, 2) := by decide +kernel
theorem dX12_isMore_385 : decode cX12_isMore 385 = .ok (.iaload, 1) := by decide +kernel
theorem dX12_isMore_386 : decode cX12_isMore 386 = .ok (.if_icmp .lt 43, 3) := by decide +kernel
theorem dX12_isMore_389 : decode cX12_isMore 389 = .ok (.aload_n 0, 1) := by decide +kernel
theorem dX12_isMore_390 : decode cX12_isMore 390 = .ok (.getfield 16, 3) := by decide +kernel
theorem dX12_isMore_393 : decode cX12_isMore 393 = .ok (.iload_n 1, 1) := by decide +kernel
theorem dX12_isMore_394 : decode cX12_isMore 394 = .ok (.iaload, 1) := by decide +kernel
theorem dX12_isMore_395 : decode cX12_isMore 395 = .ok (.aload_n 0, 1) := by decide +kernel
theorem dX12_isMore_396 : decode cX12_isMore 396 = .ok (.getfield 121, 3) := by decide +kernel
theorem dX12_isMore_399 : decode cX12_isMore 399 = .ok (.iload 6, 2) := by decide +kernel
theorem dX12_isMore_401 : decode cX12_isMore 401 = .ok (.iaload, 1) := by decide +kernel
theorem dX12_isMore_402 : decode cX12_isMore 402 = .ok (.aload_n 0, 1) := by decide +kernel
theorem dX12_isMore_403 : decode cX12_isMore 403 = .ok (.getfield 124, 3) := by decide +kernel
theorem dX12_isMore_406 : decode cX12_isMore 406 = .ok (.iload 6, 2) := by decide +kernel
theorem dX12_isMore_408 : decode cX12_isMore 408 = .ok (.iaload, 1) := by decide +kernel
theorem dX12_isMore_409 : decode cX12_isMore 409 = .ok (.iadd, 1) := by decide +kernel
theorem dX12_isMore_410 : decode cX12_isMore 410 = .ok (.if_icmp .gt 19, 3) := by decide +kernel
theorem dX12_isMore_413 : decode cX12_isMore 413 = .ok (.iload_n 3, 1) := by decide +kernel
theorem dX12_isMore_414 : decode cX12_isMore 414 = .ok (.iload 4, 2) := by decide +kernel
theorem dX12_isMore_416 : decode cX12_isMore 416 = .ok (.bipush 64, 2) := by decide +kernel
theorem dX12_isMore_418 : decode cX12_isMore 418 = .ok (.ior, 1) := by decide +kernel
theorem dX12_isMore_419 : decode cX12_isMore 419 = .ok (.iconst (-1), 1) := by decide +kernel
theorem dX12_isMore_420 : decode cX12_isMore 420 = .ok (.ixor, 1) := by decide +kernel
theorem dX12_isMore_421 : decode cX12_isMore 421 = .ok (.iand, 1) := by decide +kernel
theorem dX12_isMore_422 : decode cX12_isMore 422 = .ok (.ifCond .ne 7, 3) := by decide +kernel
theorem dX12_isMore_425 : decode cX12_isMore 425 = .ok (.iconst 1, 1) := by decide +kernel
theorem dX12_isMore_426 : decode cX12_isMore 426 = .ok (.goto 4, 3) := by decide +kernel
theorem dX12_isMore_429 : decode cX12_isMore 429 = .ok (.iconst 0, 1) := by decide +kernel
theorem dX12_isMore_430 : decode cX12_isMore 430 = .ok (.istore 5, 2) := by decide +kernel
theorem dX12_isMore_432 : decode cX12_isMore 432 = .ok (.iinc 6 1, 3) := by decide +kernel
theorem dX12_isMore_435 : decode cX12_isMore 435 = .ok (.goto (-76), 3) := by decide +kernel
theorem dX12_isMore_438 : decode cX12_isMore 438 = .ok (.iload 5, 2) := by decide +kernel
theorem dX12_isMore_440 : decode cX12_isMore 440 = .ok (.ifCond .ne 7, 3) := by decide +kernel
theorem dX12_isMore_443 : decode cX12_isMore 443 = .ok (.iconst 1, 1) := by decide +kernel
theorem dX12_isMore_444 : decode cX12_isMore 444 = .ok (.goto 4, 3) := by decide +kernel
theorem dX12_isMore_447 : decode cX12_isMore 447 = .ok (.iconst 0, 1) := by decide +kernel
theorem dX12_isMore_448 : decode cX12_isMore 448 = .ok (.ireturn, 1) := by decide +kernel
theorem dX12_broken_0 : decode cX12_broken 0 = .ok (.aload_n 0, 1) := by decide +kernel
theorem dX12_broken_1 : decode cX12_broken 1 = .ok (.getfield 191, 3) := by decide +kernel
theorem dX12_broken_4 : decode cX12_broken 4 = .ok (.ifCond .eq 12, 3) := by decide +kernel
theorem dX12_broken_7 : decode cX12_broken 7 = .ok (.iload_n 1, 1) := by decide +kernel
theorem dX12_broken_8 : decode cX12_broken 8 = .ok (.ifCond .lt 8, 3) := by decide +kernel
theorem dX12_broken_11 : decode cX12_broken 11 = .ok (.iload_n 1, 1) := by decide +kernel
theorem dX12_broken_12 : decode cX12_broken 12 = .ok (.iconst 2, 1) := by decide +kernel
theorem dX12_broken_13 : decode cX12_broken 13 = .ok (.if_icmp .le 5, 3) := by decide +kernel
theorem dX12_broken_16 : decode cX12_broken 16 = .ok (.iconst 0, 1) := by decide +kernel
theorem dX12_broken_17 : decode cX12_broken 17 = .ok (.ireturn, 1) := by decide +kernel
theorem dX12_broken_18 : decode cX12_broken 18 = .ok (.iconst 0, 1) := by decide +kernel
theorem dX12_broken_19 : decode cX12_broken 19 = .ok (.istore_n 2, 1) := by decide +kernel
theorem dX12_broken_20 : decode cX12_broken 20 = .ok (.iconst 0, 1) := by decide +kernel
theorem dX12_broken_21 : decode cX12_broken 21 = .ok (.istore_n 3, 1) := by decide +kernel
theorem dX12_broken_22 : decode cX12_broken 22 = .ok (.iload_n 3, 1) := by decide +kernel
theorem dX12_broken_23 : decode cX12_broken 23 = .ok (.aload_n 0, 1) := by decide +kernel
theorem dX12_broken_24 : decode cX12_broken 24 = .ok (.getfield 175, 3) := by decide +kernel
theorem dX12_broken_27 : decode cX12_broken 27 = .ok (.bipush 16, 2) := by decide +kernel
theorem dX12_broken_29 : decode cX12_broken 29 = .ok (.idiv, 1) := by decide +kernel
theorem dX12_broken_30 : decode cX12_broken 30 = .ok (.if_icmp .ge 65, 3) := by decide +kernel
theorem dX12_broken_33 : decode cX12_broken 33 = .ok (.iload_n 1, 1) := by decide +kernel
theorem dX12_broken_34 : decode cX12_broken 34 = .ok (.iconst 1, 1) := by decide +kernel
theorem dX12_broken_35 : decode cX12_broken 35 = .ok (.if_icmp .eq 60, 3) := by decide +kernel
theorem dX12_broken_38 : decode cX12_broken 38 = .ok (.aload_n 0, 1) := by decide +kernel
theorem dX12_broken_39 : decode cX12_broken 39 = .ok (.bipush 16, 2) := by decide +kernel
theorem dX12_broken_41 : decode cX12_broken 41 = .ok (.iload_n 3, 1) := by decide +kernel
theorem dX12_broken_42 : decode cX12_broken 42 = .ok (.imul, 1) := by decide +kernel
theorem dX12_broken_43 : decode cX12_broken 43 = .ok (.sipush 585, 3) := by decide +kernel
theorem dX12_broken_46 : decode cX12_broken 46 = .ok (.invokevirtual 414, 3) := by decide +kernel
theorem dX12_broken_49 : decode cX12_broken 49 = .ok (.iload_n 2, 1) := by decide +kernel
theorem dX12_broken_50 : decode cX12_broken 50 = .ok (.iload_n 1, 1) := by decide +kernel
theorem dX12_broken_51 : decode cX12_broken 51 = .ok (.ifCond .ne 21, 3) := by decide +kernel
theorem dX12_broken_54 : decode cX12_broken 54 = .ok (.aload_n 0, 1) := by decide +kernel
theorem dX12_broken_55 : decode cX12_broken 55 = .ok (.sipush 585, 3) := by decide +kernel
theorem dX12_broken_58 : decode cX12_broken 58 = .ok (.invokevirtual 525, 3) := by decide +kernel
theorem dX12_broken_61 : decode cX12_broken 61 = .ok (.ifCond .eq 7, 3) := by decide +kernel
theorem dX12_broken_64 : decode cX12_broken 64 = .ok (.iconst 1, 1) := by decide +kernel
theorem dX12_broken_65 : decode cX12_broken 65 = .ok (.goto 22, 3) := by decide +kernel
theorem dX12_broken_68 : decode cX12_broken 68 = .ok (.iconst 0, 1) := by decide +kernel
theorem dX12_broken_69 : decode cX12_broken 69 = .ok (.goto 18, 3) := by decide +kernel
theorem dX12_broken_72 : decode cX12_broken 72 = .ok (.aload_n 0, 1) := by decide +kernel
theorem dX12_broken_73 : decode cX12_broken 73 = .ok (.sipush 585, 3) := by decide +kernel
theorem dX12_broken_76 : decode cX12_broken 76 = .ok (.invokevirtual 528, 3) := by decide +kernel
theorem dX12_broken_79 : decode cX12_broken 79 = .ok (.ifCond .eq 7, 3) := by decide +kernel
theorem dX12_broken_82 : decode cX12_broken 82 = .ok (.iconst 1, 1) := by decide +kernel
theorem dX12_broken_83 : decode cX12_broken 83 = .ok (.goto 4, 3) := by decide +kernel
theorem dX12_broken_86 : decode cX12_broken 86 = .ok (.iconst 0, 1) := by decide +kernel
theorem dX12_broken_87 : decode cX12_broken 87 = .ok (.iadd, 1) := by decide +kernel
theorem dX12_broken_88 : decode cX12_broken 88 = .ok (.istore_n 2, 1) := by decide +kernel
theorem dX12_broken_89 : decode cX12_broken 89 = .ok (.iinc 3 1, 3) := by decide +kernel
theorem dX12_broken_92 : decode cX12_broken 92 = .ok (.goto (-70), 3) := by decide +kernel
theorem dX12_broken_95 : decode cX12_broken 95 = .ok (.iconst 0, 1) := by decide +kernel
theorem dX12_broken_96 : decode cX12_broken 96 = .ok (.istore_n 3, 1) := by decide +kernel
theorem dX12_broken_97 : decode cX12_broken 97 = .ok (.iload_n 3, 1) := by decide +kernel
theorem dX12_broken_98 : decode cX12_broken 98 = .ok (.sipush 582, 3) := by decide +kernel
theorem dX12_broken_101 : decode cX12_broken 101 = .ok (.if_icmp .ge 29, 3) := by decide +kernel
theorem dX12_broken_104 : decode cX12_broken 104 = .ok (.iload_n 1, 1) := by decide +kernel
theorem dX12_broken_105 : decode cX12_broken 105 = .ok (.ifCond .ne 25, 3) := by decide +kernel
theorem dX12_broken_108 : decode cX12_broken 108 = .ok (.iload_n 2, 1) := by decide +kernel
theorem dX12_broken_109 : decode cX12_broken 109 = .ok (.aload_n 0, 1) := by decide +kernel
theorem dX12_broken_110 : decode cX12_broken 110 = .ok (.iload_n 3, 1) := by decide +kernel
theorem dX12_broken_111 : decode cX12_broken 111 = .ok (.invokevirtual 525, 3) := by decide +kernel
theorem dX12_broken_114 : decode cX12_broken 114 = .ok (.ifCond .eq 7, 3) := by decide +kernel
theorem dX12_broken_117 : decode cX12_broken 117 = .ok (.iconst 1, 1) := by decide +kernel
theorem dX12_broken_118 : decode cX12_broken 118 = .ok (.goto 4, 3) := by decide +kernel
theorem dX12_broken_121 : decode cX12_broken 121 = .ok (.iconst 0, 1) := by decide +kernel
theorem dX12_broken_122 : decode cX12_broken 122 = .ok (.iadd, 1) := by decide +kernel
theorem dX12_broken_123 : decode cX12_broken 123 = .ok (.istore_n 2, 1) := by decide +kernel
theorem dX12_broken_124 : decode cX12_broken 124 = .ok (.iinc 3 1, 3) := by decide +kernel
theorem dX12_broken_127 : decode cX12_broken 127 = .ok (.goto (-30), 3) := by decide +kernel
theorem dX12_broken_130 : decode cX12_broken 130 = .ok (.iconst 0, 1) := by decide +kernel
theorem dX12_broken_131 : decode cX12_broken 131 = .ok (.istore_n 3, 1) := by decide +kernel
theorem dX12_broken_132 : decode cX12_broken 132 = .ok (.iload_n 3, 1) := by decide +kernel
theorem dX12_broken_133 : decode cX12_broken 133 = .ok (.bipush 16, 2) := by decide +kernel
theorem dX12_broken_135 : decode cX12_broken 135 = .ok (.if_icmp .gt 115, 3) := by decide +kernel
theorem dX12_broken_138 : decode cX12_broken 138 = .ok (.iload_n 1, 1) := by decide +kernel
theorem dX12_broken_139 : decode cX12_broken 139 = .ok (.iconst 1, 1) := by decide +kernel
theorem dX12_broken_140 : decode cX12_broken 140 = .ok (.if_icmp .ne 110, 3) := by decide +kernel
theorem dX12_broken_143 : decode cX12_broken 143 = .ok (.aload_n 0, 1) := by decide +kernel
theorem dX12_broken_144 : decode cX12_broken 144 = .ok (.getfield 204, 3) := by decide +kernel
theorem dX12_broken_147 : decode cX12_broken 147 = .ok (.iconst (-1), 1) := by decide +kernel
theorem dX12_broken_148 : decode cX12_broken 148 = .ok (.if_icmp .eq 102, 3) := by decide +kernel
theorem dX12_broken_151 : decode cX12_broken 151 = .ok (.iload_n 2, 1) := by decide +kernel
theorem dX12_broken_152 : decode cX12_broken 152 = .ok (.aload_n 0, 1) := by decide +kernel
theorem dX12_broken_153 : decode cX12_broken 153 = .ok (.getfield 25, 3) := by decide +kernel
theorem dX12_broken_156 : decode cX12_broken 156 = .ok (.aload_n 0, 1) := by decide +kernel
theorem dX12_broken_157 : decode cX12_broken 157 = .ok (.getfield 204, 3) := by decide +kernel
theorem dX12_broken_160 : decode cX12_broken 160 = .ok (.iload_n 3, 1) := by decide +kernel
theorem dX12_broken_161 : decode cX12_broken 161 = .ok (.invokestatic 307, 3) := by decide +kernel
theorem dX12_broken_164 : decode cX12_broken 164 = .ok (.baload, 1) := by decide +kernel
theorem dX12_broken_165 : decode cX12_broken 165 = .ok (.ifCond .eq 76, 3) := by decide +kernel
theorem dX12_broken_168 : decode cX12_broken 168 = .ok (.aload_n 0, 1) := by decide +kernel
theorem dX12_broken_169 : decode cX12_broken 169 = .ok (.getfield 13, 3) := by decide +kernel
theorem dX12_broken_172 : decode cX12_broken 172 = .ok (.aload_n 0, 1) := by decide +kernel
theorem dX12_broken_173 : decode cX12_broken 173 = .ok (.getfield 204, 3) := by decide +kernel
theorem dX12_broken_176 : decode cX12_broken 176 = .ok (.iload_n 3, 1) := by decide +kernel
theorem dX12_broken_177 : decode cX12_broken 177 = .ok (.invokestatic 307, 3) := by decide +kernel
theorem dX12_broken_180 : decode cX12_broken 180 = .ok (.iaload, 1) := by decide +kernel
theorem dX12_broken_181 : decode cX12_broken 181 = .ok (.invokestatic 260, 3) := by decide +kernel
theorem dX12_broken_184 : decode cX12_broken 184 = .ok (.aload_n 0, 1) := by decide +kernel
theorem dX12_broken_185 : decode cX12_broken 185 = .ok (.getfield 16, 3) := by decide +kernel
theorem dX12_broken_188 : decode cX12_broken 188 = .ok (.aload_n 0, 1) := by decide +kernel
theorem dX12_broken_189 : decode cX12_broken 189 = .ok (.getfield 204, 3) := by decide +kernel
theorem dX12_broken_192 : decode cX12_broken 192 = .ok (.iload_n 3, 1) := by decide +kernel
theorem dX12_broken_193 : decode cX12_broken 193 = .ok (.invokestatic 307, 3) := by decide +kernel
theorem dX12_broken_196 : decode cX12_broken 196 = .ok (.iaload, 1) := by decide +kernel
theorem dX12_broken_197 : decode cX12_broken 197 = .ok (.invokestatic 260, 3) := by decide +kernel
theorem dX12_broken_200 : decode cX12_broken 200 = .ok (.lcmp, 1) := by decide +kernel
theorem dX12_broken_201 : decode cX12_broken 201 = .ok (.ifCond .ge 40, 3) := by decide +kernel
theorem dX12_broken_204 : decode cX12_broken 204 = .ok (.aload_n 0, 1) := by decide +kernel
theorem dX12_broken_205 : decode cX12_broken 205 = .ok (.getfield 19, 3) := by decide +kernel
theorem dX12_broken_208 : decode cX12_broken 208 = .ok (.aload_n 0, 1) := by decide +kernel
theorem dX12_broken_209 : decode cX12_broken 209 = .ok (.getfield 204, 3) := by decide +kernel
theorem dX12_broken_212 : decode cX12_broken 212 = .ok (.iload_n 3, 1) := by decide +kernel
theorem dX12_broken_213 : decode cX12_broken 213 = .ok (.invokestatic 307, 3) := by decide +kernel
theorem dX12_broken_216 : decode cX12_broken 216 = .ok (.iaload, 1) := by decide +kernel
theorem dX12_broken_217 : decode cX12_broken 217 = .ok (.iconst 3, 1) := by decide +kernel
theorem dX12_broken_218 : decode cX12_broken 218 = .ok (.iand, 1) := by decide +kernel
theorem dX12_broken_219 : decode cX12_broken 219 = .ok (.ifCond .eq 22, 3) := by decide +kernel
theorem dX12_broken_222 : decode cX12_broken 222 = .ok (.aload_n 0, 1) := by decide +kernel
theorem dX12_broken_223 : decode cX12_broken 223 = .ok (.aload_n 0, 1) := by decide +kernel
theorem dX12_broken_224 : decode cX12_broken 224 = .ok (.getfield 204, 3) := by decide +kernel
theorem dX12_broken_227 : decode cX12_broken 227 = .ok (.iload_n 3, 1) := by decide +kernel
theorem dX12_broken_228 : decode cX12_broken 228 = .ok (.invokestatic 307, 3) := by decide +kernel
theorem dX12_broken_231 : decode cX12_broken 231 = .ok (.invokevirtual 256, 3) := by decide +kernel
theorem dX12_broken_234 : decode cX12_broken 234 = .ok (.ifCond .eq 7, 3) := by decide +kernel
theorem dX12_broken_237 : decode cX12_broken 237 = .ok (.iconst 1, 1) := by decide +kernel
theorem dX12_broken_238 : decode cX12_broken 238 = .ok (.goto 4, 3) := by decide +kernel
theorem dX12_broken_241 : decode cX12_broken 241 = .ok (.iconst 0, 1) := by decide +kernel
theorem dX12_broken_242 : decode cX12_broken 242 = .ok (.iadd, 1) := by decide +kernel
theorem dX12_broken_243 : decode cX12_broken 243 = .ok (.istore_n 2, 1) := by decide +kernel
theorem dX12_broken_244 : decode cX12_broken 244 = .ok (.iinc 3 1, 3) := by decide +kernel
theorem dX12_broken_247 : decode cX12_broken 247 = .ok (.goto (-115), 3) := by decide +kernel
theorem dX12_broken_250 : decode cX12_broken 250 = .ok (.iload_n 2, 1) := by decide +kernel
theorem dX12_broken_251 : decode cX12_broken 251 = .ok (.ireturn, 1) := by decide +kernel
theorem dX12_isStray_0 : decode cX12_isStray 0 = .ok (.aload_n 0, 1) := by decide +kernel
theorem dX12_isStray_1 : decode cX12_isStray 1 = .ok (.getfield 25, 3) := by decide +kernel
theorem dX12_isStray_4 : decode cX12_isStray 4 = .ok (.iload_n 1, 1) := by decide +kernel
theorem dX12_isStray_5 : decode cX12_isStray 5 = .ok (.baload, 1) := by decide +kernel
theorem dX12_isStray_6 : decode cX12_isStray 6 = .ok (.ifCond .eq 62, 3) := by decide +kernel
theorem dX12_isStray_9 : decode cX12_isStray 9 = .ok (.aload_n 0, 1) := by decide +kernel
theorem dX12_isStray_10 : decode cX12_isStray 10 = .ok (.getfield 19, 3) := by decide +kernel
theorem dX12_isStray_13 : decode cX12_isStray 13 = .ok (.iload_n 1, 1) := by decide +kernel
theorem dX12_isStray_14 : decode cX12_isStray 14 = .ok (.iaload, 1) := by decide +kernel
theorem dX12_isStray_15 : decode cX12_isStray 15 = .ok (.iconst 3, 1) := by decide +kernel
theorem dX12_isStray_16 : decode cX12_isStray 16 = .ok (.iand, 1) := by decide +kernel
theorem dX12_isStray_17 : decode cX12_isStray 17 = .ok (.ifCond .eq 51, 3) := by decide +kernel
theorem dX12_isStray_20 : decode cX12_isStray 20 = .ok (.aload_n 0, 1) := by decide +kernel
theorem dX12_isStray_21 : decode cX12_isStray 21 = .ok (.getfield 13, 3) := by decide +kernel
theorem dX12_isStray_24 : decode cX12_isStray 24 = .ok (.iload_n 1, 1) := by decide +kernel
theorem dX12_isStray_25 : decode cX12_isStray 25 = .ok (.iaload, 1) := by decide +kernel
theorem dX12_isStray_26 : decode cX12_isStray 26 = .ok (.invokestatic 260, 3) := by decide +kernel
theorem dX12_isStray_29 : decode cX12_isStray 29 = .ok (.aload_n 0, 1) := by decide +kernel
theorem dX12_isStray_30 : decode cX12_isStray 30 = .ok (.getfield 16, 3) := by decide +kernel
theorem dX12_isStray_33 : decode cX12_isStray 33 = .ok (.iload_n 1, 1) := by decide +kernel
theorem dX12_isStray_34 : decode cX12_isStray 34 = .ok (.iaload, 1) := by decide +kernel
theorem dX12_isStray_35 : decode cX12_isStray 35 = .ok (.invokestatic 260, 3) := by decide +kernel
theorem dX12_isStray_38 : decode cX12_isStray 38 = .ok (.lcmp, 1) := by decide +kernel
theorem dX12_isStray_39 : decode cX12_isStray 39 = .ok (.ifCond .ge 29, 3) := by decide +kernel
theorem dX12_isStray_42 : decode cX12_isStray 42 = .ok (.aload_n 0, 1) := by decide +kernel
theorem dX12_isStray_43 : decode cX12_isStray 43 = .ok (.getfield 13, 3) := by decide +kernel
theorem dX12_isStray_46 : decode cX12_isStray 46 = .ok (.iload_n 1, 1) := by decide +kernel
theorem dX12_isStray_47 : decode cX12_isStray 47 = .ok (.iaload, 1) := by decide +kernel
theorem dX12_isStray_48 : decode cX12_isStray 48 = .ok (.aload_n 0, 1) := by decide +kernel
theorem dX12_isStray_49 : decode cX12_isStray 49 = .ok (.getfield 222, 3) := by decide +kernel
theorem dX12_isStray_52 : decode cX12_isStray 52 = .ok (.if_icmp .lt 16, 3) := by decide +kernel
theorem dX12_isStray_55 : decode cX12_isStray 55 = .ok (.aload_n 0, 1) := by decide +kernel
theorem dX12_isStray_56 : decode cX12_isStray 56 = .ok (.getfield 13, 3) := by decide +kernel
theorem dX12_isStray_59 : decode cX12_isStray 59 = .ok (.iload_n 1, 1) := by decide +kernel
theorem dX12_isStray_60 : decode cX12_isStray 60 = .ok (.iaload, 1) := by decide +kernel
theorem dX12_isStray_61 : decode cX12_isStray 61 = .ok (.aload_n 0, 1) := by decide +kernel
theorem dX12_isStray_62 : decode cX12_isStray 62 = .ok (.getfield 175, 3) := by decide +kernel
theorem dX12_isStray_65 : decode cX12_isStray 65 = .ok (.if_icmp .lt 5, 3) := by decide +kernel
theorem dX12_isStray_68 : decode cX12_isStray 68 = .ok (.iconst 0, 1) := by decide +kernel
theorem dX12_isStray_69 : decode cX12_isStray 69 = .ok (.ireturn, 1) := by decide +kernel
theorem dX12_isStray_70 : decode cX12_isStray 70 = .ok (.iconst 0, 1) := by decide +kernel
theorem dX12_isStray_71 : decode cX12_isStray 71 = .ok (.istore_n 2, 1) := by decide +kernel
theorem dX12_isStray_72 : decode cX12_isStray 72 = .ok (.iconst 0, 1) := by decide +kernel
theorem dX12_isStray_73 : decode cX12_isStray 73 = .ok (.istore_n 3, 1) := by decide +kernel
theorem dX12_isStray_74 : decode cX12_isStray 74 = .ok (.iload_n 3, 1) := by decide +kernel
theorem dX12_isStray_75 : decode cX12_isStray 75 = .ok (.aload_n 0, 1) := by decide +kernel
theorem dX12_isStray_76 : decode cX12_isStray 76 = .ok (.getfield 225, 3) := by decide +kernel
theorem dX12_isStray_79 : decode cX12_isStray 79 = .ok (.if_icmp .ge 56, 3) := by decide +kernel
theorem dX12_isStray_82 : decode cX12_isStray 82 = .ok (.iload_n 2, 1) := by decide +kernel
theorem dX12_isStray_83 : decode cX12_isStray 83 = .ok (.ifCond .ne 40, 3) := by decide +kernel
theorem dX12_isStray_86 : decode cX12_isStray 86 = .ok (.aload_n 0, 1) := by decide +kernel
theorem dX12_isStray_87 : decode cX12_isStray 87 = .ok (.getfield 13, 3) := by decide +kernel
theorem dX12_isStray_90 : decode cX12_isStray 90 = .ok (.iload_n 1, 1) := by decide +kernel
theorem dX12_isStray_91 : decode cX12_isStray 91 = .ok (.iaload, 1) := by decide +kernel
theorem dX12_isStray_92 : decode cX12_isStray 92 = .ok (.aload_n 0, 1) := by decide +kernel
theorem dX12_isStray_93 : decode cX12_isStray 93 = .ok (.getfield 121, 3) := by decide +kernel
theorem dX12_isStray_96 : decode cX12_isStray 96 = .ok (.iload_n 3, 1) := by decide +kernel
theorem dX12_isStray_97 : decode cX12_isStray 97 = .ok (.iaload, 1) := by decide +kernel
theorem dX12_isStray_98 : decode cX12_isStray 98 = .ok (.if_icmp .lt 29, 3) := by decide +kernel
theorem dX12_isStray_101 : decode cX12_isStray 101 = .ok (.aload_n 0, 1) := by decide +kernel
theorem dX12_isStray_102 : decode cX12_isStray 102 = .ok (.getfield 13, 3) := by decide +kernel
theorem dX12_isStray_105 : decode cX12_isStray 105 = .ok (.iload_n 1, 1) := by decide +kernel
theorem dX12_isStray_106 : decode cX12_isStray 106 = .ok (.iaload, 1) := by decide +kernel
theorem dX12_isStray_107 : decode cX12_isStray 107 = .ok (.aload_n 0, 1) := by decide +kernel
theorem dX12_isStray_108 : decode cX12_isStray 108 = .ok (.getfield 121, 3) := by decide +kernel
theorem dX12_isStray_111 : decode cX12_isStray 111 = .ok (.iload_n 3, 1) := by decide +kernel
theorem dX12_isStray_112 : decode cX12_isStray 112 = .ok (.iaload, 1) := by decide +kernel
theorem dX12_isStray_113 : decode cX12_isStray 113 = .ok (.aload_n 0, 1) := by decide +kernel
theorem dX12_isStray_114 : decode cX12_isStray 114 = .ok (.getfield 124, 3) := by decide +kernel
theorem dX12_isStray_117 : decode cX12_isStray 117 = .ok (.iload_n 3, 1) := by decide +kernel
theorem dX12_isStray_118 : decode cX12_isStray 118 = .ok (.iaload, 1) := by decide +kernel
theorem dX12_isStray_119 : decode cX12_isStray 119 = .ok (.iadd, 1) := by decide +kernel
theorem dX12_isStray_120 : decode cX12_isStray 120 = .ok (.if_icmp .ge 7, 3) := by decide +kernel
theorem dX12_isStray_123 : decode cX12_isStray 123 = .ok (.iconst 1, 1) := by decide +kernel
theorem dX12_isStray_124 : decode cX12_isStray 124 = .ok (.goto 4, 3) := by decide +kernel
theorem dX12_isStray_127 : decode cX12_isStray 127 = .ok (.iconst 0, 1) := by decide +kernel
theorem dX12_isStray_128 : decode cX12_isStray 128 = .ok (.istore_n 2, 1) := by decide +kernel
theorem dX12_isStray_129 : decode cX12_isStray 129 = .ok (.iinc 3 1, 3) := by decide +kernel
theorem dX12_isStray_132 : decode cX12_isStray 132 = .ok (.goto (-58), 3) := by decide +kernel
theorem dX12_isStray_135 : decode cX12_isStray 135 = .ok (.iload_n 2, 1) := by decide +kernel
theorem dX12_isStray_136 : decode cX12_isStray 136 = .ok (.ifCond .ne 7, 3) := by decide +kernel
theorem dX12_isStray_139 : decode cX12_isStray 139 = .ok (.iconst 1, 1) := by decide +kernel
theorem dX12_isStray_140 : decode cX12_isStray 140 = .ok (.goto 4, 3) := by decide +kernel
theorem dX12_isStray_143 : decode cX12_isStray 143 = .ok (.iconst 0, 1) := by decide +kernel
theorem dX12_isStray_144 : decode cX12_isStray 144 = .ok (.ireturn, 1) := by decide +kernel
theorem dJ9_max_7cf53_0 : decode cJ9_max_7cf53 0 = .ok (.iload_n 0, 1) := by decide +kernel
theorem dJ9_max_7cf53_1 : decode cJ9_max_7cf53 1 = .ok (.iload_n 1, 1) := by decide +kernel
theorem dJ9_max_7cf53_2 : decode cJ9_max_7cf53 2 = .ok (.if_icmp .lt 7, 3) := by decide +kernel
theorem dJ9_max_7cf53_5 : decode cJ9_max_7cf53 5 = .ok (.iload_n 0, 1) := by decide +kernel
theorem dJ9_max_7cf53_6 : decode cJ9_max_7cf53 6 = .ok (.goto 4, 3) := by decide +kernel
theorem dJ9_max_7cf53_9 : decode cJ9_max_7cf53 9 = .ok (.iload_n 1, 1) := by decide +kernel
theorem dJ9_max_7cf53_10 : decode cJ9_max_7cf53 10 = .ok (.ireturn, 1) := by decide +kernel
theorem dJ9_min_7cf53_0 : decode cJ9_min_7cf53 0 = .ok (.iload_n 0, 1) := by decide +kernel
theorem dJ9_min_7cf53_1 : decode cJ9_min_7cf53 1 = .ok (.iload_n 1, 1) := by decide +kernel
theorem dJ9_min_7cf53_2 : decode cJ9_min_7cf53 2 = .ok (.if_icmp .gt 7, 3) := by decide +kernel
theorem dJ9_min_7cf53_5 : decode cJ9_min_7cf53 5 = .ok (.iload_n 0, 1) := by decide +kernel
theorem dJ9_min_7cf53_6 : decode cJ9_min_7cf53 6 = .ok (.goto 4, 3) := by decide +kernel
theorem dJ9_min_7cf53_9 : decode cJ9_min_7cf53 9 = .ok (.iload_n 1, 1) := by decide +kernel
theorem dJ9_min_7cf53_10 : decode cJ9_min_7cf53 10 = .ok (.ireturn, 1) := by decide +kernel
theorem dJ9_min_f86c9_0 : decode cJ9_min_f86c9 0 = .ok (.lload_n 0, 1) := by decide +kernel
theorem dJ9_min_f86c9_1 : decode cJ9_min_f86c9 1 = .ok (.lload_n 2, 1) := by decide +kernel
theorem dJ9_min_f86c9_2 : decode cJ9_min_f86c9 2 = .ok (.lcmp, 1) := by decide +kernel
theorem dJ9_min_f86c9_3 : decode cJ9_min_f86c9 3 = .ok (.ifCond .gt 7, 3) := by decide +kernel
theorem dJ9_min_f86c9_6 : decode cJ9_min_f86c9 6 = .ok (.lload_n 0, 1) := by decide +kernel
theorem dJ9_min_f86c9_7 : decode cJ9_min_f86c9 7 = .ok (.goto 4, 3) := by decide +kernel
theorem dJ9_min_f86c9_10 : decode cJ9_min_f86c9 10 = .ok (.lload_n 2, 1) := by decide +kernel
theorem dJ9_min_f86c9_11 : decode cJ9_min_f86c9 11 = .ok (.lreturn, 1) := by decide +kernel
theorem dJ7_fill_53178_0 : decode cJ7_fill_53178 0 = .ok (.iconst 0, 1) := by decide +kernel
theorem dJ7_fill_53178_1 : decode cJ7_fill_53178 1 = .ok (.istore_n 2, 1) := by decide +kernel
theorem dJ7_fill_53178_2 : decode cJ7_fill_53178 2 = .ok (.aload_n 0, 1) := by decide +kernel
theorem dJ7_fill_53178_3 : decode cJ7_fill_53178 3 = .ok (.arraylength, 1) := by decide +kernel
theorem dJ7_fill_53178_4 : decode cJ7_fill_53178 4 = .ok (.istore_n 3, 1) := by decide +kernel
theorem dJ7_fill_53178_5 : decode cJ7_fill_53178 5 = .ok (.iload_n 2, 1) := by decide +kernel
theorem dJ7_fill_53178_6 : decode cJ7_fill_53178 6 = .ok (.iload_n 3, 1) := by decide +kernel
theorem dJ7_fill_53178_7 : decode cJ7_fill_53178 7 = .ok (.if_icmp .ge 13, 3) := by decide +kernel
theorem dJ7_fill_53178_10 : decode cJ7_fill_53178 10 = .ok (.aload_n 0, 1) := by decide +kernel
theorem dJ7_fill_53178_11 : decode cJ7_fill_53178 11 = .ok (.iload_n 2, 1) := by decide +kernel
theorem dJ7_fill_53178_12 : decode cJ7_fill_53178 12 = .ok (.iload_n 1, 1) := by decide +kernel
theorem dJ7_fill_53178_13 : decode cJ7_fill_53178 13 = .ok (.iastore, 1) := by decide +kernel
theorem dJ7_fill_53178_14 : decode cJ7_fill_53178 14 = .ok (.iinc 2 1, 3) := by decide +kernel
theorem dJ7_fill_53178_17 : decode cJ7_fill_53178 17 = .ok (.goto (-12), 3) := by decide +kernel
theorem dJ7_fill_53178_20 : decode cJ7_fill_53178 20 = .ok (.return_, 1) := by decide +kernel
theorem dJ7_fill_031fb_0 : decode cJ7_fill_031fb 0 = .ok (.iconst 0, 1) := by decide +kernel
theorem dJ7_fill_031fb_1 : decode cJ7_fill_031fb 1 = .ok (.istore_n 2, 1) := by decide +kernel
theorem dJ7_fill_031fb_2 : decode cJ7_fill_031fb 2 = .ok (.aload_n 0, 1) := by decide +kernel
theorem dJ7_fill_031fb_3 : decode cJ7_fill_031fb 3 = .ok (.arraylength, 1) := by decide +kernel
theorem dJ7_fill_031fb_4 : decode cJ7_fill_031fb 4 = .ok (.istore_n 3, 1) := by decide +kernel
theorem dJ7_fill_031fb_5 : decode cJ7_fill_031fb 5 = .ok (.iload_n 2, 1) := by decide +kernel
theorem dJ7_fill_031fb_6 : decode cJ7_fill_031fb 6 = .ok (.iload_n 3, 1) := by decide +kernel
theorem dJ7_fill_031fb_7 : decode cJ7_fill_031fb 7 = .ok (.if_icmp .ge 13, 3) := by decide +kernel
theorem dJ7_fill_031fb_10 : decode cJ7_fill_031fb 10 = .ok (.aload_n 0, 1) := by decide +kernel
theorem dJ7_fill_031fb_11 : decode cJ7_fill_031fb 11 = .ok (.iload_n 2, 1) := by decide +kernel
theorem dJ7_fill_031fb_12 : decode cJ7_fill_031fb 12 = .ok (.iload_n 1, 1) := by decide +kernel
theorem dJ7_fill_031fb_13 : decode cJ7_fill_031fb 13 = .ok (.bastore, 1) := by decide +kernel
theorem dJ7_fill_031fb_14 : decode cJ7_fill_031fb 14 = .ok (.iinc 2 1, 3) := by decide +kernel
theorem dJ7_fill_031fb_17 : decode cJ7_fill_031fb 17 = .ok (.goto (-12), 3) := by decide +kernel
theorem dJ7_fill_031fb_20 : decode cJ7_fill_031fb 20 = .ok (.return_, 1) := by decide +kernel
theorem dL_cell_0 : decode cL_cell 0 = .ok (.iload_n 1, 1) := by decide +kernel
theorem dL_cell_1 : decode cL_cell 1 = .ok (.aload_n 0, 1) := by decide +kernel
theorem dL_cell_2 : decode cL_cell 2 = .ok (.arraylength, 1) := by decide +kernel
theorem dL_cell_3 : decode cL_cell 3 = .ok (.if_icmp .ge 9, 3) := by decide +kernel
theorem dL_cell_6 : decode cL_cell 6 = .ok (.aload_n 0, 1) := by decide +kernel
theorem dL_cell_7 : decode cL_cell 7 = .ok (.iload_n 1, 1) := by decide +kernel
theorem dL_cell_8 : decode cL_cell 8 = .ok (.iaload, 1) := by decide +kernel
theorem dL_cell_9 : decode cL_cell 9 = .ok (.goto 4, 3) := by decide +kernel
theorem dL_cell_12 : decode cL_cell 12 = .ok (.iconst 0, 1) := by decide +kernel
theorem dL_cell_13 : decode cL_cell 13 = .ok (.ireturn, 1) := by decide +kernel
theorem dL_law_0 : decode cL_law 0 = .ok (.new 7, 3) := by decide +kernel
theorem dL_law_3 : decode cL_law 3 = .ok (.dup, 1) := by decide +kernel
theorem dL_law_4 : decode cL_law 4 = .ok (.aload_n 0, 1) := by decide +kernel
theorem dL_law_5 : decode cL_law 5 = .ok (.iconst 0, 1) := by decide +kernel
theorem dL_law_6 : decode cL_law 6 = .ok (.invokestatic 9, 3) := by decide +kernel
theorem dL_law_9 : decode cL_law 9 = .ok (.invokespecial 15, 3) := by decide +kernel
theorem dL_law_12 : decode cL_law 12 = .ok (.astore_n 1, 1) := by decide +kernel
theorem dL_law_13 : decode cL_law 13 = .ok (.new 18, 3) := by decide +kernel
theorem dL_law_16 : decode cL_law 16 = .ok (.dup, 1) := by decide +kernel
theorem dL_law_17 : decode cL_law 17 = .ok (.aload_n 0, 1) := by decide +kernel
theorem dL_law_18 : decode cL_law 18 = .ok (.iconst 0, 1) := by decide +kernel
theorem dL_law_19 : decode cL_law 19 = .ok (.invokestatic 9, 3) := by decide +kernel
theorem dL_law_22 : decode cL_law 22 = .ok (.invokespecial 20, 3) := by decide +kernel
theorem dL_law_25 : decode cL_law 25 = .ok (.astore_n 2, 1) := by decide +kernel
theorem dL_law_26 : decode cL_law 26 = .ok (.iconst 1, 1) := by decide +kernel
theorem dL_law_27 : decode cL_law 27 = .ok (.istore_n 3, 1) := by decide +kernel
theorem dL_law_28 : decode cL_law 28 = .ok (.iload_n 3, 1) := by decide +kernel
theorem dL_law_29 : decode cL_law 29 = .ok (.aload_n 0, 1) := by decide +kernel
theorem dL_law_30 : decode cL_law 30 = .ok (.arraylength, 1) := by decide +kernel
theorem dL_law_31 : decode cL_law 31 = .ok (.bipush 6, 2) := by decide +kernel
theorem dL_law_33 : decode cL_law 33 = .ok (.isub, 1) := by decide +kernel
theorem dL_law_34 : decode cL_law 34 = .ok (.if_icmp .gt 479, 3) := by decide +kernel
theorem dL_law_37 : decode cL_law 37 = .ok (.aload_n 0, 1) := by decide +kernel
theorem dL_law_38 : decode cL_law 38 = .ok (.iload_n 3, 1) := by decide +kernel
theorem dL_law_39 : decode cL_law 39 = .ok (.iaload, 1) := by decide +kernel
theorem dL_law_40 : decode cL_law 40 = .ok (.bipush 15, 2) := by decide +kernel
theorem dL_law_42 : decode cL_law 42 = .ok (.iand, 1) := by decide +kernel
theorem dL_law_43 : decode cL_law 43 = .ok (.tableswitch 464 0 13 #[69, 132, 155, 168, 191, 214, 228, 272, 306, 329, 362, 395, 418, 441], 69) := by decide +kernel
theorem dL_law_112 : decode cL_law 112 = .ok (.aload_n 1, 1) := by decide +kernel
theorem dL_law_113 : decode cL_law 113 = .ok (.aload_n 0, 1) := by decide +kernel
theorem dL_law_114 : decode cL_law 114 = .ok (.iload_n 3, 1) := by decide +kernel
theorem dL_law_115 : decode cL_law 115 = .ok (.iconst 1, 1) := by decide +kernel
theorem dL_law_116 : decode cL_law 116 = .ok (.iadd, 1) := by decide +kernel
theorem dL_law_117 : decode cL_law 117 = .ok (.iaload, 1) := by decide +kernel
theorem dL_law_118 : decode cL_law 118 = .ok (.aload_n 0, 1) := by decide +kernel
theorem dL_law_119 : decode cL_law 119 = .ok (.iload_n 3, 1) := by decide +kernel
theorem dL_law_120 : decode cL_law 120 = .ok (.iconst 2, 1) := by decide +kernel
theorem dL_law_121 : decode cL_law 121 = .ok (.iadd, 1) := by decide +kernel
theorem dL_law_122 : decode cL_law 122 = .ok (.iaload, 1) := by decide +kernel
theorem dL_law_123 : decode cL_law 123 = .ok (.aload_n 0, 1) := by decide +kernel
theorem dL_law_124 : decode cL_law 124 = .ok (.iload_n 3, 1) := by decide +kernel
theorem dL_law_125 : decode cL_law 125 = .ok (.iconst 3, 1) := by decide +kernel
theorem dL_law_126 : decode cL_law 126 = .ok (.iadd, 1) := by decide +kernel
theorem dL_law_127 : decode cL_law 127 = .ok (.iaload, 1) := by decide +kernel
theorem dL_law_128 : decode cL_law 128 = .ok (.aload_n 0, 1) := by decide +kernel
theorem dL_law_129 : decode cL_law 129 = .ok (.iload_n 3, 1) := by decide +kernel
theorem dL_law_130 : decode cL_law 130 = .ok (.iconst 4, 1) := by decide +kernel
theorem dL_law_131 : decode cL_law 131 = .ok (.iadd, 1) := by decide +kernel
theorem dL_law_132 : decode cL_law 132 = .ok (.iaload, 1) := by decide +kernel
theorem dL_law_133 : decode cL_law 133 = .ok (.aload_n 0, 1) := by decide +kernel
theorem dL_law_134 : decode cL_law 134 = .ok (.iload_n 3, 1) := by decide +kernel
theorem dL_law_135 : decode cL_law 135 = .ok (.iconst 5, 1) := by decide +kernel
theorem dL_law_136 : decode cL_law 136 = .ok (.iadd, 1) := by decide +kernel
theorem dL_law_137 : decode cL_law 137 = .ok (.iaload, 1) := by decide +kernel
theorem dL_law_138 : decode cL_law 138 = .ok (.invokevirtual 21, 3) := by decide +kernel
theorem dL_law_141 : decode cL_law 141 = .ok (.aload_n 2, 1) := by decide +kernel
theorem dL_law_142 : decode cL_law 142 = .ok (.aload_n 0, 1) := by decide +kernel
theorem dL_law_143 : decode cL_law 143 = .ok (.iload_n 3, 1) := by decide +kernel
theorem dL_law_144 : decode cL_law 144 = .ok (.iconst 1, 1) := by decide +kernel
theorem dL_law_145 : decode cL_law 145 = .ok (.iadd, 1) := by decide +kernel
theorem dL_law_146 : decode cL_law 146 = .ok (.iaload, 1) := by decide +kernel
theorem dL_law_147 : decode cL_law 147 = .ok (.aload_n 0, 1) := by decide +kernel
theorem dL_law_148 : decode cL_law 148 = .ok (.iload_n 3, 1) := by decide +kernel
theorem dL_law_149 : decode cL_law 149 = .ok (.iconst 2, 1) := by decide +kernel
theorem dL_law_150 : decode cL_law 150 = .ok (.iadd, 1) := by decide +kernel
theorem dL_law_151 : decode cL_law 151 = .ok (.iaload, 1) := by decide +kernel
theorem dL_law_152 : decode cL_law 152 = .ok (.aload_n 0, 1) := by decide +kernel
theorem dL_law_153 : decode cL_law 153 = .ok (.iload_n 3, 1) := by decide +kernel
theorem dL_law_154 : decode cL_law 154 = .ok (.iconst 3, 1) := by decide +kernel
theorem dL_law_155 : decode cL_law 155 = .ok (.iadd, 1) := by decide +kernel
theorem dL_law_156 : decode cL_law 156 = .ok (.iaload, 1) := by decide +kernel
theorem dL_law_157 : decode cL_law 157 = .ok (.aload_n 0, 1) := by decide +kernel
theorem dL_law_158 : decode cL_law 158 = .ok (.iload_n 3, 1) := by decide +kernel
theorem dL_law_159 : decode cL_law 159 = .ok (.iconst 4, 1) := by decide +kernel
theorem dL_law_160 : decode cL_law 160 = .ok (.iadd, 1) := by decide +kernel
theorem dL_law_161 : decode cL_law 161 = .ok (.iaload, 1) := by decide +kernel
theorem dL_law_162 : decode cL_law 162 = .ok (.aload_n 0, 1) := by decide +kernel
theorem dL_law_163 : decode cL_law 163 = .ok (.iload_n 3, 1) := by decide +kernel
theorem dL_law_164 : decode cL_law 164 = .ok (.iconst 5, 1) := by decide +kernel
theorem dL_law_165 : decode cL_law 165 = .ok (.iadd, 1) := by decide +kernel
theorem dL_law_166 : decode cL_law 166 = .ok (.iaload, 1) := by decide +kernel
theorem dL_law_167 : decode cL_law 167 = .ok (.invokevirtual 25, 3) := by decide +kernel
theorem dL_law_170 : decode cL_law 170 = .ok (.if_icmp .eq 337, 3) := by decide +kernel
theorem dL_law_173 : decode cL_law 173 = .ok (.iconst 0, 1) := by decide +kernel
theorem dL_law_174 : decode cL_law 174 = .ok (.ireturn, 1) := by decide +kernel
theorem dL_law_175 : decode cL_law 175 = .ok (.aload_n 1, 1) := by decide +kernel
theorem dL_law_176 : decode cL_law 176 = .ok (.aload_n 0, 1) := by decide +kernel
theorem dL_law_177 : decode cL_law 177 = .ok (.iload_n 3, 1) := by decide +kernel
theorem dL_law_178 : decode cL_law 178 = .ok (.iconst 1, 1) := by decide +kernel
theorem dL_law_179 : decode cL_law 179 = .ok (.iadd, 1) := by decide +kernel
theorem dL_law_180 : decode cL_law 180 = .ok (.iaload, 1) := by decide +kernel
theorem dL_law_181 : decode cL_law 181 = .ok (.invokevirtual 26, 3) := by decide +kernel
theorem dL_law_184 : decode cL_law 184 = .ok (.aload_n 2, 1) := by decide +kernel
theorem dL_law_185 : decode cL_law 185 = .ok (.aload_n 0, 1) := by decide +kernel
theorem dL_law_186 : decode cL_law 186 = .ok (.iload_n 3, 1) := by decide +kernel
theorem dL_law_187 : decode cL_law 187 = .ok (.iconst 1, 1) := by decide +kernel
theorem dL_law_188 : decode cL_law 188 = .ok (.iadd, 1) := by decide +kernel
theorem dL_law_189 : decode cL_law 189 = .ok (.iaload, 1) := by decide +kernel
theorem dL_law_190 : decode cL_law 190 = .ok (.invokevirtual 30, 3) := by decide +kernel
theorem dL_law_193 : decode cL_law 193 = .ok (.if_icmp .eq 314, 3) := by decide +kernel
theorem dL_law_196 : decode cL_law 196 = .ok (.iconst 0, 1) := by decide +kernel
theorem dL_law_197 : decode cL_law 197 = .ok (.ireturn, 1) := by decide +kernel
theorem dL_law_198 : decode cL_law 198 = .ok (.aload_n 1, 1) := by decide +kernel
theorem dL_law_199 : decode cL_law 199 = .ok (.invokevirtual 31, 3) := by decide +kernel
theorem dL_law_202 : decode cL_law 202 = .ok (.aload_n 2, 1) := by decide +kernel
theorem dL_law_203 : decode cL_law 203 = .ok (.invokevirtual 35, 3) := by decide +kernel
theorem dL_law_206 : decode cL_law 206 = .ok (.if_icmp .eq 301, 3) := by decide +kernel
theorem dL_law_209 : decode cL_law 209 = .ok (.iconst 0, 1) := by decide +kernel
theorem dL_law_210 : decode cL_law 210 = .ok (.ireturn, 1) := by decide +kernel
theorem dL_law_211 : decode cL_law 211 = .ok (.aload_n 1, 1) := by decide +kernel
theorem dL_law_212 : decode cL_law 212 = .ok (.aload_n 0, 1) := by decide +kernel
theorem dL_law_213 : decode cL_law 213 = .ok (.iload_n 3, 1) := by decide +kernel
theorem dL_law_214 : decode cL_law 214 = .ok (.iconst 1, 1) := by decide +kernel
theorem dL_law_215 : decode cL_law 215 = .ok (.iadd, 1) := by decide +kernel
theorem dL_law_216 : decode cL_law 216 = .ok (.iaload, 1) := by decide +kernel
theorem dL_law_217 : decode cL_law 217 = .ok (.invokevirtual 36, 3) := by decide +kernel
theorem dL_law_220 : decode cL_law 220 = .ok (.aload_n 2, 1) := by decide +kernel
theorem dL_law_221 : decode cL_law 221 = .ok (.aload_n 0, 1) := by decide +kernel
theorem dL_law_222 : decode cL_law 222 = .ok (.iload_n 3, 1) := by decide +kernel
theorem dL_law_223 : decode cL_law 223 = .ok (.iconst 1, 1) := by decide +kernel
theorem dL_law_224 : decode cL_law 224 = .ok (.iadd, 1) := by decide +kernel
theorem dL_law_225 : decode cL_law 225 = .ok (.iaload, 1) := by decide +kernel
theorem dL_law_226 : decode cL_law 226 = .ok (.invokevirtual 39, 3) := by decide +kernel
theorem dL_law_229 : decode cL_law 229 = .ok (.if_icmp .eq 278, 3) := by decide +kernel
theorem dL_law_232 : decode cL_law 232 = .ok (.iconst 0, 1) := by decide +kernel
theorem dL_law_233 : decode cL_law 233 = .ok (.ireturn, 1) := by decide +kernel
theorem dL_law_234 : decode cL_law 234 = .ok (.aload_n 1, 1) := by decide +kernel
theorem dL_law_235 : decode cL_law 235 = .ok (.aload_n 0, 1) := by decide +kernel
theorem dL_law_236 : decode cL_law 236 = .ok (.iload_n 3, 1) := by decide +kernel
theorem dL_law_237 : decode cL_law 237 = .ok (.iconst 1, 1) := by decide +kernel
theorem dL_law_238 : decode cL_law 238 = .ok (.iadd, 1) := by decide +kernel
theorem dL_law_239 : decode cL_law 239 = .ok (.iaload, 1) := by decide +kernel
theorem dL_law_240 : decode cL_law 240 = .ok (.invokevirtual 40, 3) := by decide +kernel
theorem dL_law_243 : decode cL_law 243 = .ok (.aload_n 2, 1) := by decide +kernel
theorem dL_law_244 : decode cL_law 244 = .ok (.aload_n 0, 1) := by decide +kernel
theorem dL_law_245 : decode cL_law 245 = .ok (.iload_n 3, 1) := by decide +kernel
theorem dL_law_246 : decode cL_law 246 = .ok (.iconst 1, 1) := by decide +kernel
theorem dL_law_247 : decode cL_law 247 = .ok (.iadd, 1) := by decide +kernel
theorem dL_law_248 : decode cL_law 248 = .ok (.iaload, 1) := by decide +kernel
theorem dL_law_249 : decode cL_law 249 = .ok (.invokevirtual 44, 3) := by decide +kernel
theorem dL_law_252 : decode cL_law 252 = .ok (.if_icmp .eq 255, 3) := by decide +kernel
theorem dL_law_255 : decode cL_law 255 = .ok (.iconst 0, 1) := by decide +kernel
theorem dL_law_256 : decode cL_law 256 = .ok (.ireturn, 1) := by decide +kernel
theorem dL_law_257 : decode cL_law 257 = .ok (.aload_n 1, 1) := by decide +kernel
theorem dL_law_258 : decode cL_law 258 = .ok (.invokevirtual 45, 3) := by decide +kernel
theorem dL_law_261 : decode cL_law 261 = .ok (.aload_n 2, 1) := by decide +kernel
theorem dL_law_262 : decode cL_law 262 = .ok (.invokevirtual 49, 3) := by decide +kernel
theorem dL_law_265 : decode cL_law 265 = .ok (.lcmp, 1) := by decide +kernel
theorem dL_law_266 : decode cL_law 266 = .ok (.ifCond .eq 241, 3) := by decide +kernel
theorem dL_law_269 : decode cL_law 269 = .ok (.iconst 0, 1) := by decide +kernel
theorem dL_law_270 : decode cL_law 270 = .ok (.ireturn, 1) := by decide +kernel
theorem dL_law_271 : decode cL_law 271 = .ok (.aload_n 1, 1) := by decide +kernel
theorem dL_law_272 : decode cL_law 272 = .ok (.aload_n 0, 1) := by decide +kernel
theorem dL_law_273 : decode cL_law 273 = .ok (.iload_n 3, 1) := by decide +kernel
theorem dL_law_274 : decode cL_law 274 = .ok (.iconst 1, 1) := by decide +kernel
theorem dL_law_275 : decode cL_law 275 = .ok (.iadd, 1) := by decide +kernel
theorem dL_law_276 : decode cL_law 276 = .ok (.iaload, 1) := by decide +kernel
theorem dL_law_277 : decode cL_law 277 = .ok (.aload_n 0, 1) := by decide +kernel
theorem dL_law_278 : decode cL_law 278 = .ok (.iload_n 3, 1) := by decide +kernel
theorem dL_law_279 : decode cL_law 279 = .ok (.iconst 2, 1) := by decide +kernel
theorem dL_law_280 : decode cL_law 280 = .ok (.iadd, 1) := by decide +kernel
theorem dL_law_281 : decode cL_law 281 = .ok (.iaload, 1) := by decide +kernel
theorem dL_law_282 : decode cL_law 282 = .ok (.aload_n 0, 1) := by decide +kernel
theorem dL_law_283 : decode cL_law 283 = .ok (.iload_n 3, 1) := by decide +kernel
theorem dL_law_284 : decode cL_law 284 = .ok (.iconst 3, 1) := by decide +kernel
theorem dL_law_285 : decode cL_law 285 = .ok (.iadd, 1) := by decide +kernel
theorem dL_law_286 : decode cL_law 286 = .ok (.iaload, 1) := by decide +kernel
theorem dL_law_287 : decode cL_law 287 = .ok (.invokevirtual 50, 3) := by decide +kernel
theorem dL_law_290 : decode cL_law 290 = .ok (.aload_n 2, 1) := by decide +kernel
theorem dL_law_291 : decode cL_law 291 = .ok (.aload_n 0, 1) := by decide +kernel
theorem dL_law_292 : decode cL_law 292 = .ok (.iload_n 3, 1) := by decide +kernel
theorem dL_law_293 : decode cL_law 293 = .ok (.iconst 1, 1) := by decide +kernel
theorem dL_law_294 : decode cL_law 294 = .ok (.iadd, 1) := by decide +kernel
theorem dL_law_295 : decode cL_law 295 = .ok (.iaload, 1) := by decide +kernel
theorem dL_law_296 : decode cL_law 296 = .ok (.aload_n 0, 1) := by decide +kernel
theorem dL_law_297 : decode cL_law 297 = .ok (.iload_n 3, 1) := by decide +kernel
theorem dL_law_298 : decode cL_law 298 = .ok (.iconst 2, 1) := by decide +kernel
theorem dL_law_299 : decode cL_law 299 = .ok (.iadd, 1) := by decide +kernel
theorem dL_law_300 : decode cL_law 300 = .ok (.iaload, 1) := by decide +kernel
theorem dL_law_301 : decode cL_law 301 = .ok (.aload_n 0, 1) := by decide +kernel
theorem dL_law_302 : decode cL_law 302 = .ok (.iload_n 3, 1) := by decide +kernel
theorem dL_law_303 : decode cL_law 303 = .ok (.iconst 3, 1) := by decide +kernel
theorem dL_law_304 : decode cL_law 304 = .ok (.iadd, 1) := by decide +kernel
theorem dL_law_305 : decode cL_law 305 = .ok (.iaload, 1) := by decide +kernel
theorem dL_law_306 : decode cL_law 306 = .ok (.invokevirtual 54, 3) := by decide +kernel
theorem dL_law_309 : decode cL_law 309 = .ok (.lcmp, 1) := by decide +kernel
theorem dL_law_310 : decode cL_law 310 = .ok (.ifCond .eq 197, 3) := by decide +kernel
theorem dL_law_313 : decode cL_law 313 = .ok (.iconst 0, 1) := by decide +kernel
theorem dL_law_314 : decode cL_law 314 = .ok (.ireturn, 1) := by decide +kernel
theorem dL_law_315 : decode cL_law 315 = .ok (.aload_n 1, 1) := by decide +kernel
theorem dL_law_316 : decode cL_law 316 = .ok (.aload_n 0, 1) := by decide +kernel
theorem dL_law_317 : decode cL_law 317 = .ok (.iload_n 3, 1) := by decide +kernel
theorem dL_law_318 : decode cL_law 318 = .ok (.iconst 1, 1) := by decide +kernel
theorem dL_law_319 : decode cL_law 319 = .ok (.iadd, 1) := by decide +kernel
theorem dL_law_320 : decode cL_law 320 = .ok (.iaload, 1) := by decide +kernel
theorem dL_law_321 : decode cL_law 321 = .ok (.aload_n 0, 1) := by decide +kernel
theorem dL_law_322 : decode cL_law 322 = .ok (.iload_n 3, 1) := by decide +kernel
theorem dL_law_323 : decode cL_law 323 = .ok (.iconst 2, 1) := by decide +kernel
theorem dL_law_324 : decode cL_law 324 = .ok (.iadd, 1) := by decide +kernel
theorem dL_law_325 : decode cL_law 325 = .ok (.iaload, 1) := by decide +kernel
theorem dL_law_326 : decode cL_law 326 = .ok (.invokevirtual 55, 3) := by decide +kernel
theorem dL_law_329 : decode cL_law 329 = .ok (.aload_n 2, 1) := by decide +kernel
theorem dL_law_330 : decode cL_law 330 = .ok (.aload_n 0, 1) := by decide +kernel
theorem dL_law_331 : decode cL_law 331 = .ok (.iload_n 3, 1) := by decide +kernel
theorem dL_law_332 : decode cL_law 332 = .ok (.iconst 1, 1) := by decide +kernel
theorem dL_law_333 : decode cL_law 333 = .ok (.iadd, 1) := by decide +kernel
theorem dL_law_334 : decode cL_law 334 = .ok (.iaload, 1) := by decide +kernel
theorem dL_law_335 : decode cL_law 335 = .ok (.aload_n 0, 1) := by decide +kernel
theorem dL_law_336 : decode cL_law 336 = .ok (.iload_n 3, 1) := by decide +kernel
theorem dL_law_337 : decode cL_law 337 = .ok (.iconst 2, 1) := by decide +kernel
theorem dL_law_338 : decode cL_law 338 = .ok (.iadd, 1) := by decide +kernel
theorem dL_law_339 : decode cL_law 339 = .ok (.iaload, 1) := by decide +kernel
theorem dL_law_340 : decode cL_law 340 = .ok (.invokevirtual 59, 3) := by decide +kernel
theorem dL_law_343 : decode cL_law 343 = .ok (.lcmp, 1) := by decide +kernel
theorem dL_law_344 : decode cL_law 344 = .ok (.ifCond .eq 163, 3) := by decide +kernel
theorem dL_law_347 : decode cL_law 347 = .ok (.iconst 0, 1) := by decide +kernel
theorem dL_law_348 : decode cL_law 348 = .ok (.ireturn, 1) := by decide +kernel
theorem dL_law_349 : decode cL_law 349 = .ok (.aload_n 1, 1) := by decide +kernel
theorem dL_law_350 : decode cL_law 350 = .ok (.aload_n 0, 1) := by decide +kernel
theorem dL_law_351 : decode cL_law 351 = .ok (.iload_n 3, 1) := by decide +kernel
theorem dL_law_352 : decode cL_law 352 = .ok (.iconst 1, 1) := by decide +kernel
theorem dL_law_353 : decode cL_law 353 = .ok (.iadd, 1) := by decide +kernel
theorem dL_law_354 : decode cL_law 354 = .ok (.iaload, 1) := by decide +kernel
theorem dL_law_355 : decode cL_law 355 = .ok (.invokevirtual 60, 3) := by decide +kernel
theorem dL_law_358 : decode cL_law 358 = .ok (.aload_n 2, 1) := by decide +kernel
theorem dL_law_359 : decode cL_law 359 = .ok (.aload_n 0, 1) := by decide +kernel
theorem dL_law_360 : decode cL_law 360 = .ok (.iload_n 3, 1) := by decide +kernel
theorem dL_law_361 : decode cL_law 361 = .ok (.iconst 1, 1) := by decide +kernel
theorem dL_law_362 : decode cL_law 362 = .ok (.iadd, 1) := by decide +kernel
theorem dL_law_363 : decode cL_law 363 = .ok (.iaload, 1) := by decide +kernel
theorem dL_law_364 : decode cL_law 364 = .ok (.invokevirtual 63, 3) := by decide +kernel
theorem dL_law_367 : decode cL_law 367 = .ok (.if_icmp .eq 140, 3) := by decide +kernel
theorem dL_law_370 : decode cL_law 370 = .ok (.iconst 0, 1) := by decide +kernel
theorem dL_law_371 : decode cL_law 371 = .ok (.ireturn, 1) := by decide +kernel
theorem dL_law_372 : decode cL_law 372 = .ok (.aload_n 1, 1) := by decide +kernel
theorem dL_law_373 : decode cL_law 373 = .ok (.aload_n 0, 1) := by decide +kernel
theorem dL_law_374 : decode cL_law 374 = .ok (.iload_n 3, 1) := by decide +kernel
theorem dL_law_375 : decode cL_law 375 = .ok (.iconst 1, 1) := by decide +kernel
theorem dL_law_376 : decode cL_law 376 = .ok (.iadd, 1) := by decide +kernel
theorem dL_law_377 : decode cL_law 377 = .ok (.iaload, 1) := by decide +kernel
theorem dL_law_378 : decode cL_law 378 = .ok (.aload_n 0, 1) := by decide +kernel
theorem dL_law_379 : decode cL_law 379 = .ok (.iload_n 3, 1) := by decide +kernel
theorem dL_law_380 : decode cL_law 380 = .ok (.iconst 2, 1) := by decide +kernel
theorem dL_law_381 : decode cL_law 381 = .ok (.iadd, 1) := by decide +kernel
theorem dL_law_382 : decode cL_law 382 = .ok (.iaload, 1) := by decide +kernel
theorem dL_law_383 : decode cL_law 383 = .ok (.invokevirtual 64, 3) := by decide +kernel
theorem dL_law_386 : decode cL_law 386 = .ok (.aload_n 2, 1) := by decide +kernel
theorem dL_law_387 : decode cL_law 387 = .ok (.aload_n 0, 1) := by decide +kernel
theorem dL_law_388 : decode cL_law 388 = .ok (.iload_n 3, 1) := by decide +kernel
theorem dL_law_389 : decode cL_law 389 = .ok (.iconst 1, 1) := by decide +kernel
theorem dL_law_390 : decode cL_law 390 = .ok (.iadd, 1) := by decide +kernel
theorem dL_law_391 : decode cL_law 391 = .ok (.iaload, 1) := by decide +kernel
theorem dL_law_392 : decode cL_law 392 = .ok (.aload_n 0, 1) := by decide +kernel
theorem dL_law_393 : decode cL_law 393 = .ok (.iload_n 3, 1) := by decide +kernel
theorem dL_law_394 : decode cL_law 394 = .ok (.iconst 2, 1) := by decide +kernel
theorem dL_law_395 : decode cL_law 395 = .ok (.iadd, 1) := by decide +kernel
theorem dL_law_396 : decode cL_law 396 = .ok (.iaload, 1) := by decide +kernel
theorem dL_law_397 : decode cL_law 397 = .ok (.invokevirtual 68, 3) := by decide +kernel
theorem dL_law_400 : decode cL_law 400 = .ok (.if_icmp .eq 107, 3) := by decide +kernel
theorem dL_law_403 : decode cL_law 403 = .ok (.iconst 0, 1) := by decide +kernel
theorem dL_law_404 : decode cL_law 404 = .ok (.ireturn, 1) := by decide +kernel
theorem dL_law_405 : decode cL_law 405 = .ok (.aload_n 1, 1) := by decide +kernel
theorem dL_law_406 : decode cL_law 406 = .ok (.aload_n 0, 1) := by decide +kernel
theorem dL_law_407 : decode cL_law 407 = .ok (.iload_n 3, 1) := by decide +kernel
theorem dL_law_408 : decode cL_law 408 = .ok (.iconst 1, 1) := by decide +kernel
theorem dL_law_409 : decode cL_law 409 = .ok (.iadd, 1) := by decide +kernel
theorem dL_law_410 : decode cL_law 410 = .ok (.iaload, 1) := by decide +kernel
theorem dL_law_411 : decode cL_law 411 = .ok (.aload_n 0, 1) := by decide +kernel
theorem dL_law_412 : decode cL_law 412 = .ok (.iload_n 3, 1) := by decide +kernel
theorem dL_law_413 : decode cL_law 413 = .ok (.iconst 2, 1) := by decide +kernel
theorem dL_law_414 : decode cL_law 414 = .ok (.iadd, 1) := by decide +kernel
theorem dL_law_415 : decode cL_law 415 = .ok (.iaload, 1) := by decide +kernel
theorem dL_law_416 : decode cL_law 416 = .ok (.invokevirtual 69, 3) := by decide +kernel
theorem dL_law_419 : decode cL_law 419 = .ok (.aload_n 2, 1) := by decide +kernel
theorem dL_law_420 : decode cL_law 420 = .ok (.aload_n 0, 1) := by decide +kernel
theorem dL_law_421 : decode cL_law 421 = .ok (.iload_n 3, 1) := by decide +kernel
theorem dL_law_422 : decode cL_law 422 = .ok (.iconst 1, 1) := by decide +kernel
theorem dL_law_423 : decode cL_law 423 = .ok (.iadd, 1) := by decide +kernel
theorem dL_law_424 : decode cL_law 424 = .ok (.iaload, 1) := by decide +kernel
theorem dL_law_425 : decode cL_law 425 = .ok (.aload_n 0, 1) := by decide +kernel
theorem dL_law_426 : decode cL_law 426 = .ok (.iload_n 3, 1) := by decide +kernel
theorem dL_law_427 : decode cL_law 427 = .ok (.iconst 2, 1) := by decide +kernel
theorem dL_law_428 : decode cL_law 428 = .ok (.iadd, 1) := by decide +kernel
theorem dL_law_429 : decode cL_law 429 = .ok (.iaload, 1) := by decide +kernel
theorem dL_law_430 : decode cL_law 430 = .ok (.invokevirtual 72, 3) := by decide +kernel
theorem dL_law_433 : decode cL_law 433 = .ok (.if_icmp .eq 74, 3) := by decide +kernel
theorem dL_law_436 : decode cL_law 436 = .ok (.iconst 0, 1) := by decide +kernel
theorem dL_law_437 : decode cL_law 437 = .ok (.ireturn, 1) := by decide +kernel
theorem dL_law_438 : decode cL_law 438 = .ok (.aload_n 1, 1) := by decide +kernel
theorem dL_law_439 : decode cL_law 439 = .ok (.aload_n 0, 1) := by decide +kernel
theorem dL_law_440 : decode cL_law 440 = .ok (.iload_n 3, 1) := by decide +kernel
theorem dL_law_441 : decode cL_law 441 = .ok (.iconst 1, 1) := by decide +kernel
theorem dL_law_442 : decode cL_law 442 = .ok (.iadd, 1) := by decide +kernel
theorem dL_law_443 : decode cL_law 443 = .ok (.iaload, 1) := by decide +kernel
theorem dL_law_444 : decode cL_law 444 = .ok (.invokevirtual 73, 3) := by decide +kernel
theorem dL_law_447 : decode cL_law 447 = .ok (.aload_n 2, 1) := by decide +kernel
theorem dL_law_448 : decode cL_law 448 = .ok (.aload_n 0, 1) := by decide +kernel
theorem dL_law_449 : decode cL_law 449 = .ok (.iload_n 3, 1) := by decide +kernel
theorem dL_law_450 : decode cL_law 450 = .ok (.iconst 1, 1) := by decide +kernel
theorem dL_law_451 : decode cL_law 451 = .ok (.iadd, 1) := by decide +kernel
theorem dL_law_452 : decode cL_law 452 = .ok (.iaload, 1) := by decide +kernel
theorem dL_law_453 : decode cL_law 453 = .ok (.invokevirtual 76, 3) := by decide +kernel
theorem dL_law_456 : decode cL_law 456 = .ok (.if_icmp .eq 51, 3) := by decide +kernel
theorem dL_law_459 : decode cL_law 459 = .ok (.iconst 0, 1) := by decide +kernel
theorem dL_law_460 : decode cL_law 460 = .ok (.ireturn, 1) := by decide +kernel
theorem dL_law_461 : decode cL_law 461 = .ok (.aload_n 1, 1) := by decide +kernel
theorem dL_law_462 : decode cL_law 462 = .ok (.aload_n 0, 1) := by decide +kernel
theorem dL_law_463 : decode cL_law 463 = .ok (.iload_n 3, 1) := by decide +kernel
theorem dL_law_464 : decode cL_law 464 = .ok (.iconst 1, 1) := by decide +kernel
theorem dL_law_465 : decode cL_law 465 = .ok (.iadd, 1) := by decide +kernel
theorem dL_law_466 : decode cL_law 466 = .ok (.iaload, 1) := by decide +kernel
theorem dL_law_467 : decode cL_law 467 = .ok (.invokevirtual 77, 3) := by decide +kernel
theorem dL_law_470 : decode cL_law 470 = .ok (.aload_n 2, 1) := by decide +kernel
theorem dL_law_471 : decode cL_law 471 = .ok (.aload_n 0, 1) := by decide +kernel
theorem dL_law_472 : decode cL_law 472 = .ok (.iload_n 3, 1) := by decide +kernel
theorem dL_law_473 : decode cL_law 473 = .ok (.iconst 1, 1) := by decide +kernel
theorem dL_law_474 : decode cL_law 474 = .ok (.iadd, 1) := by decide +kernel
theorem dL_law_475 : decode cL_law 475 = .ok (.iaload, 1) := by decide +kernel
theorem dL_law_476 : decode cL_law 476 = .ok (.invokevirtual 80, 3) := by decide +kernel
theorem dL_law_479 : decode cL_law 479 = .ok (.if_icmp .eq 28, 3) := by decide +kernel
theorem dL_law_482 : decode cL_law 482 = .ok (.iconst 0, 1) := by decide +kernel
theorem dL_law_483 : decode cL_law 483 = .ok (.ireturn, 1) := by decide +kernel
theorem dL_law_484 : decode cL_law 484 = .ok (.aload_n 1, 1) := by decide +kernel
theorem dL_law_485 : decode cL_law 485 = .ok (.aload_n 0, 1) := by decide +kernel
theorem dL_law_486 : decode cL_law 486 = .ok (.iload_n 3, 1) := by decide +kernel
theorem dL_law_487 : decode cL_law 487 = .ok (.iconst 1, 1) := by decide +kernel
theorem dL_law_488 : decode cL_law 488 = .ok (.iadd, 1) := by decide +kernel
theorem dL_law_489 : decode cL_law 489 = .ok (.iaload, 1) := by decide +kernel
theorem dL_law_490 : decode cL_law 490 = .ok (.invokevirtual 81, 3) := by decide +kernel
theorem dL_law_493 : decode cL_law 493 = .ok (.aload_n 2, 1) := by decide +kernel
theorem dL_law_494 : decode cL_law 494 = .ok (.aload_n 0, 1) := by decide +kernel
theorem dL_law_495 : decode cL_law 495 = .ok (.iload_n 3, 1) := by decide +kernel
theorem dL_law_496 : decode cL_law 496 = .ok (.iconst 1, 1) := by decide +kernel
theorem dL_law_497 : decode cL_law 497 = .ok (.iadd, 1) := by decide +kernel
theorem dL_law_498 : decode cL_law 498 = .ok (.iaload, 1) := by decide +kernel
theorem dL_law_499 : decode cL_law 499 = .ok (.invokevirtual 84, 3) := by decide +kernel
theorem dL_law_502 : decode cL_law 502 = .ok (.if_icmp .eq 5, 3) := by decide +kernel
theorem dL_law_505 : decode cL_law 505 = .ok (.iconst 0, 1) := by decide +kernel
theorem dL_law_506 : decode cL_law 506 = .ok (.ireturn, 1) := by decide +kernel
theorem dL_law_507 : decode cL_law 507 = .ok (.iinc 3 6, 3) := by decide +kernel
theorem dL_law_510 : decode cL_law 510 = .ok (.goto (-482), 3) := by decide +kernel
theorem dL_law_513 : decode cL_law 513 = .ok (.iconst 1, 1) := by decide +kernel
theorem dL_law_514 : decode cL_law 514 = .ok (.ireturn, 1) := by decide +kernel
