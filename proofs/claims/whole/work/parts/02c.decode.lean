theorem dX12_next_100 : decode cX12_next 100 = .ok (.iload_n 3, 1) := by decide +kernel
theorem dX12_next_101 : decode cX12_next 101 = .ok (.if_icmp .le 10, 3) := by decide +kernel
theorem dX12_next_104 : decode cX12_next 104 = .ok (.aload_n 0, 1) := by decide +kernel
theorem dX12_next_105 : decode cX12_next 105 = .ok (.iconst 2, 1) := by decide +kernel
theorem dX12_next_106 : decode cX12_next 106 = .ok (.iload 4, 2) := by decide +kernel
theorem dX12_next_108 : decode cX12_next 108 = .ok (.invokevirtual 287, 3) := by decide +kernel
theorem dX12_next_111 : decode cX12_next 111 = .ok (.iload 5, 2) := by decide +kernel
theorem dX12_next_113 : decode cX12_next 113 = .ok (.iload_n 2, 1) := by decide +kernel
theorem dX12_next_114 : decode cX12_next 114 = .ok (.if_icmp .lt 9, 3) := by decide +kernel
theorem dX12_next_117 : decode cX12_next 117 = .ok (.iload 5, 2) := by decide +kernel
theorem dX12_next_119 : decode cX12_next 119 = .ok (.iload_n 3, 1) := by decide +kernel
theorem dX12_next_120 : decode cX12_next 120 = .ok (.if_icmp .le 7, 3) := by decide +kernel
theorem dX12_next_123 : decode cX12_next 123 = .ok (.iload_n 2, 1) := by decide +kernel
theorem dX12_next_124 : decode cX12_next 124 = .ok (.goto 5, 3) := by decide +kernel
theorem dX12_next_127 : decode cX12_next 127 = .ok (.iload 5, 2) := by decide +kernel
theorem dX12_next_129 : decode cX12_next 129 = .ok (.ireturn, 1) := by decide +kernel
theorem dX12_readCompartment_0 : decode cX12_readCompartment 0 = .ok (.aload_n 0, 1) := by decide +kernel
theorem dX12_readCompartment_1 : decode cX12_readCompartment 1 = .ok (.getfield 139, 3) := by decide +kernel
theorem dX12_readCompartment_4 : decode cX12_readCompartment 4 = .ok (.iload_n 1, 1) := by decide +kernel
theorem dX12_readCompartment_5 : decode cX12_readCompartment 5 = .ok (.aload_n 0, 1) := by decide +kernel
theorem dX12_readCompartment_6 : decode cX12_readCompartment 6 = .ok (.iconst 2, 1) := by decide +kernel
theorem dX12_readCompartment_7 : decode cX12_readCompartment 7 = .ok (.iconst 1, 1) := by decide +kernel
theorem dX12_readCompartment_8 : decode cX12_readCompartment 8 = .ok (.sipush 200, 3) := by decide +kernel
theorem dX12_readCompartment_11 : decode cX12_readCompartment 11 = .ok (.invokevirtual 291, 3) := by decide +kernel
theorem dX12_readCompartment_14 : decode cX12_readCompartment 14 = .ok (.iastore, 1) := by decide +kernel
theorem dX12_readCompartment_15 : decode cX12_readCompartment 15 = .ok (.aload_n 0, 1) := by decide +kernel
theorem dX12_readCompartment_16 : decode cX12_readCompartment 16 = .ok (.getfield 142, 3) := by decide +kernel
theorem dX12_readCompartment_19 : decode cX12_readCompartment 19 = .ok (.iload_n 1, 1) := by decide +kernel
theorem dX12_readCompartment_20 : decode cX12_readCompartment 20 = .ok (.aload_n 0, 1) := by decide +kernel
theorem dX12_readCompartment_21 : decode cX12_readCompartment 21 = .ok (.iconst 1, 1) := by decide +kernel
theorem dX12_readCompartment_22 : decode cX12_readCompartment 22 = .ok (.iconst 0, 1) := by decide +kernel
theorem dX12_readCompartment_23 : decode cX12_readCompartment 23 = .ok (.bipush 32, 2) := by decide +kernel
theorem dX12_readCompartment_25 : decode cX12_readCompartment 25 = .ok (.invokevirtual 291, 3) := by decide +kernel
theorem dX12_readCompartment_28 : decode cX12_readCompartment 28 = .ok (.iastore, 1) := by decide +kernel
theorem dX12_readCompartment_29 : decode cX12_readCompartment 29 = .ok (.aload_n 0, 1) := by decide +kernel
theorem dX12_readCompartment_30 : decode cX12_readCompartment 30 = .ok (.getfield 52, 3) := by decide +kernel
theorem dX12_readCompartment_33 : decode cX12_readCompartment 33 = .ok (.iload_n 1, 1) := by decide +kernel
theorem dX12_readCompartment_34 : decode cX12_readCompartment 34 = .ok (.aload_n 0, 1) := by decide +kernel
theorem dX12_readCompartment_35 : decode cX12_readCompartment 35 = .ok (.iconst 1, 1) := by decide +kernel
theorem dX12_readCompartment_36 : decode cX12_readCompartment 36 = .ok (.iconst 0, 1) := by decide +kernel
theorem dX12_readCompartment_37 : decode cX12_readCompartment 37 = .ok (.bipush 8, 2) := by decide +kernel
theorem dX12_readCompartment_39 : decode cX12_readCompartment 39 = .ok (.invokevirtual 291, 3) := by decide +kernel
theorem dX12_readCompartment_42 : decode cX12_readCompartment 42 = .ok (.iastore, 1) := by decide +kernel
theorem dX12_readCompartment_43 : decode cX12_readCompartment 43 = .ok (.aload_n 0, 1) := by decide +kernel
theorem dX12_readCompartment_44 : decode cX12_readCompartment 44 = .ok (.getfield 145, 3) := by decide +kernel
theorem dX12_readCompartment_47 : decode cX12_readCompartment 47 = .ok (.iload_n 1, 1) := by decide +kernel
theorem dX12_readCompartment_48 : decode cX12_readCompartment 48 = .ok (.aload_n 0, 1) := by decide +kernel
theorem dX12_readCompartment_49 : decode cX12_readCompartment 49 = .ok (.iconst 1, 1) := by decide +kernel
theorem dX12_readCompartment_50 : decode cX12_readCompartment 50 = .ok (.iconst 0, 1) := by decide +kernel
theorem dX12_readCompartment_51 : decode cX12_readCompartment 51 = .ok (.bipush 16, 2) := by decide +kernel
theorem dX12_readCompartment_53 : decode cX12_readCompartment 53 = .ok (.invokevirtual 291, 3) := by decide +kernel
theorem dX12_readCompartment_56 : decode cX12_readCompartment 56 = .ok (.iastore, 1) := by decide +kernel
theorem dX12_readCompartment_57 : decode cX12_readCompartment 57 = .ok (.iconst 0, 1) := by decide +kernel
theorem dX12_readCompartment_58 : decode cX12_readCompartment 58 = .ok (.istore_n 2, 1) := by decide +kernel
theorem dX12_readCompartment_59 : decode cX12_readCompartment 59 = .ok (.iload_n 2, 1) := by decide +kernel
theorem dX12_readCompartment_60 : decode cX12_readCompartment 60 = .ok (.aload_n 0, 1) := by decide +kernel
theorem dX12_readCompartment_61 : decode cX12_readCompartment 61 = .ok (.getfield 52, 3) := by decide +kernel
theorem dX12_readCompartment_64 : decode cX12_readCompartment 64 = .ok (.iload_n 1, 1) := by decide +kernel
theorem dX12_readCompartment_65 : decode cX12_readCompartment 65 = .ok (.iaload, 1) := by decide +kernel
theorem dX12_readCompartment_66 : decode cX12_readCompartment 66 = .ok (.if_icmp .ge 52, 3) := by decide +kernel
theorem dX12_readCompartment_69 : decode cX12_readCompartment 69 = .ok (.aload_n 0, 1) := by decide +kernel
theorem dX12_readCompartment_70 : decode cX12_readCompartment 70 = .ok (.getfield 55, 3) := by decide +kernel
theorem dX12_readCompartment_73 : decode cX12_readCompartment 73 = .ok (.bipush 8, 2) := by decide +kernel
theorem dX12_readCompartment_75 : decode cX12_readCompartment 75 = .ok (.iload_n 1, 1) := by decide +kernel
theorem dX12_readCompartment_76 : decode cX12_readCompartment 76 = .ok (.imul, 1) := by decide +kernel
theorem dX12_readCompartment_77 : decode cX12_readCompartment 77 = .ok (.iload_n 2, 1) := by decide +kernel
theorem dX12_readCompartment_78 : decode cX12_readCompartment 78 = .ok (.iadd, 1) := by decide +kernel
theorem dX12_readCompartment_79 : decode cX12_readCompartment 79 = .ok (.aload_n 0, 1) := by decide +kernel
theorem dX12_readCompartment_80 : decode cX12_readCompartment 80 = .ok (.iconst 2, 1) := by decide +kernel
theorem dX12_readCompartment_81 : decode cX12_readCompartment 81 = .ok (.iconst 0, 1) := by decide +kernel
theorem dX12_readCompartment_82 : decode cX12_readCompartment 82 = .ok (.aload_n 0, 1) := by decide +kernel
theorem dX12_readCompartment_83 : decode cX12_readCompartment 83 = .ok (.getfield 139, 3) := by decide +kernel
theorem dX12_readCompartment_86 : decode cX12_readCompartment 86 = .ok (.iload_n 1, 1) := by decide +kernel
theorem dX12_readCompartment_87 : decode cX12_readCompartment 87 = .ok (.iaload, 1) := by decide +kernel
theorem dX12_readCompartment_88 : decode cX12_readCompartment 88 = .ok (.iconst 1, 1) := by decide +kernel
theorem dX12_readCompartment_89 : decode cX12_readCompartment 89 = .ok (.isub, 1) := by decide +kernel
theorem dX12_readCompartment_90 : decode cX12_readCompartment 90 = .ok (.invokevirtual 291, 3) := by decide +kernel
theorem dX12_readCompartment_93 : decode cX12_readCompartment 93 = .ok (.iastore, 1) := by decide +kernel
theorem dX12_readCompartment_94 : decode cX12_readCompartment 94 = .ok (.aload_n 0, 1) := by decide +kernel
theorem dX12_readCompartment_95 : decode cX12_readCompartment 95 = .ok (.getfield 58, 3) := by decide +kernel
theorem dX12_readCompartment_98 : decode cX12_readCompartment 98 = .ok (.bipush 8, 2) := by decide +kernel
theorem dX12_readCompartment_100 : decode cX12_readCompartment 100 = .ok (.iload_n 1, 1) := by decide +kernel
theorem dX12_readCompartment_101 : decode cX12_readCompartment 101 = .ok (.imul, 1) := by decide +kernel
theorem dX12_readCompartment_102 : decode cX12_readCompartment 102 = .ok (.iload_n 2, 1) := by decide +kernel
theorem dX12_readCompartment_103 : decode cX12_readCompartment 103 = .ok (.iadd, 1) := by decide +kernel
theorem dX12_readCompartment_104 : decode cX12_readCompartment 104 = .ok (.aload_n 0, 1) := by decide +kernel
theorem dX12_readCompartment_105 : decode cX12_readCompartment 105 = .ok (.iconst 1, 1) := by decide +kernel
theorem dX12_readCompartment_106 : decode cX12_readCompartment 106 = .ok (.iconst 1, 1) := by decide +kernel
theorem dX12_readCompartment_107 : decode cX12_readCompartment 107 = .ok (.iconst 3, 1) := by decide +kernel
theorem dX12_readCompartment_108 : decode cX12_readCompartment 108 = .ok (.invokevirtual 291, 3) := by decide +kernel
theorem dX12_readCompartment_111 : decode cX12_readCompartment 111 = .ok (.iastore, 1) := by decide +kernel
theorem dX12_readCompartment_112 : decode cX12_readCompartment 112 = .ok (.iinc 2 1, 3) := by decide +kernel
theorem dX12_readCompartment_115 : decode cX12_readCompartment 115 = .ok (.goto (-56), 3) := by decide +kernel
theorem dX12_readCompartment_118 : decode cX12_readCompartment 118 = .ok (.iconst 0, 1) := by decide +kernel
theorem dX12_readCompartment_119 : decode cX12_readCompartment 119 = .ok (.istore_n 2, 1) := by decide +kernel
theorem dX12_readCompartment_120 : decode cX12_readCompartment 120 = .ok (.iload_n 2, 1) := by decide +kernel
theorem dX12_readCompartment_121 : decode cX12_readCompartment 121 = .ok (.aload_n 0, 1) := by decide +kernel
theorem dX12_readCompartment_122 : decode cX12_readCompartment 122 = .ok (.getfield 145, 3) := by decide +kernel
theorem dX12_readCompartment_125 : decode cX12_readCompartment 125 = .ok (.iload_n 1, 1) := by decide +kernel
theorem dX12_readCompartment_126 : decode cX12_readCompartment 126 = .ok (.iaload, 1) := by decide +kernel
theorem dX12_readCompartment_127 : decode cX12_readCompartment 127 = .ok (.if_icmp .ge 193, 3) := by decide +kernel
theorem dX12_readCompartment_130 : decode cX12_readCompartment 130 = .ok (.bipush 16, 2) := by decide +kernel
theorem dX12_readCompartment_132 : decode cX12_readCompartment 132 = .ok (.iload_n 1, 1) := by decide +kernel
theorem dX12_readCompartment_133 : decode cX12_readCompartment 133 = .ok (.imul, 1) := by decide +kernel
theorem dX12_readCompartment_134 : decode cX12_readCompartment 134 = .ok (.iload_n 2, 1) := by decide +kernel
theorem dX12_readCompartment_135 : decode cX12_readCompartment 135 = .ok (.iadd, 1) := by decide +kernel
theorem dX12_readCompartment_136 : decode cX12_readCompartment 136 = .ok (.istore_n 3, 1) := by decide +kernel
theorem dX12_readCompartment_137 : decode cX12_readCompartment 137 = .ok (.aload_n 0, 1) := by decide +kernel
theorem dX12_readCompartment_138 : decode cX12_readCompartment 138 = .ok (.getfield 157, 3) := by decide +kernel
theorem dX12_readCompartment_141 : decode cX12_readCompartment 141 = .ok (.iload_n 3, 1) := by decide +kernel
theorem dX12_readCompartment_142 : decode cX12_readCompartment 142 = .ok (.aload_n 0, 1) := by decide +kernel
theorem dX12_readCompartment_143 : decode cX12_readCompartment 143 = .ok (.getfield 281, 3) := by decide +kernel
theorem dX12_readCompartment_146 : decode cX12_readCompartment 146 = .ok (.iastore, 1) := by decide +kernel
theorem dX12_readCompartment_147 : decode cX12_readCompartment 147 = .ok (.aload_n 0, 1) := by decide +kernel
theorem dX12_readCompartment_148 : decode cX12_readCompartment 148 = .ok (.iconst 1, 1) := by decide +kernel
theorem dX12_readCompartment_149 : decode cX12_readCompartment 149 = .ok (.iconst 0, 1) := by decide +kernel
theorem dX12_readCompartment_150 : decode cX12_readCompartment 150 = .ok (.iconst 4, 1) := by decide +kernel
theorem dX12_readCompartment_151 : decode cX12_readCompartment 151 = .ok (.invokevirtual 291, 3) := by decide +kernel
theorem dX12_readCompartment_154 : decode cX12_readCompartment 154 = .ok (.istore 4, 2) := by decide +kernel
theorem dX12_readCompartment_156 : decode cX12_readCompartment 156 = .ok (.aload_n 0, 1) := by decide +kernel
theorem dX12_readCompartment_157 : decode cX12_readCompartment 157 = .ok (.getfield 148, 3) := by decide +kernel
theorem dX12_readCompartment_160 : decode cX12_readCompartment 160 = .ok (.iload_n 3, 1) := by decide +kernel
theorem dX12_readCompartment_161 : decode cX12_readCompartment 161 = .ok (.iload 4, 2) := by decide +kernel
theorem dX12_readCompartment_163 : decode cX12_readCompartment 163 = .ok (.iastore, 1) := by decide +kernel
theorem dX12_readCompartment_164 : decode cX12_readCompartment 164 = .ok (.aload_n 0, 1) := by decide +kernel
theorem dX12_readCompartment_165 : decode cX12_readCompartment 165 = .ok (.getfield 151, 3) := by decide +kernel
theorem dX12_readCompartment_168 : decode cX12_readCompartment 168 = .ok (.iload_n 3, 1) := by decide +kernel
theorem dX12_readCompartment_169 : decode cX12_readCompartment 169 = .ok (.aload_n 0, 1) := by decide +kernel
theorem dX12_readCompartment_170 : decode cX12_readCompartment 170 = .ok (.iconst 1, 1) := by decide +kernel
theorem dX12_readCompartment_171 : decode cX12_readCompartment 171 = .ok (.iload 4, 2) := by decide +kernel
theorem dX12_readCompartment_173 : decode cX12_readCompartment 173 = .ok (.iconst 2, 1) := by decide +kernel
theorem dX12_readCompartment_174 : decode cX12_readCompartment 174 = .ok (.if_icmp .ne 7, 3) := by decide +kernel
theorem dX12_readCompartment_177 : decode cX12_readCompartment 177 = .ok (.iconst 1, 1) := by decide +kernel
theorem dX12_readCompartment_178 : decode cX12_readCompartment 178 = .ok (.goto 4, 3) := by decide +kernel
theorem dX12_readCompartment_181 : decode cX12_readCompartment 181 = .ok (.iconst 0, 1) := by decide +kernel
theorem dX12_readCompartment_182 : decode cX12_readCompartment 182 = .ok (.iload 4, 2) := by decide +kernel
theorem dX12_readCompartment_184 : decode cX12_readCompartment 184 = .ok (.iconst 1, 1) := by decide +kernel
theorem dX12_readCompartment_185 : decode cX12_readCompartment 185 = .ok (.if_icmp .ne 8, 3) := by decide +kernel
theorem dX12_readCompartment_188 : decode cX12_readCompartment 188 = .ok (.bipush 8, 2) := by decide +kernel
theorem dX12_readCompartment_190 : decode cX12_readCompartment 190 = .ok (.goto 28, 3) := by decide +kernel
theorem dX12_readCompartment_193 : decode cX12_readCompartment 193 = .ok (.iload 4, 2) := by decide +kernel
theorem dX12_readCompartment_195 : decode cX12_readCompartment 195 = .ok (.iconst 2, 1) := by decide +kernel
theorem dX12_readCompartment_196 : decode cX12_readCompartment 196 = .ok (.if_icmp .ne 7, 3) := by decide +kernel
theorem dX12_readCompartment_199 : decode cX12_readCompartment 199 = .ok (.iconst 3, 1) := by decide +kernel
theorem dX12_readCompartment_200 : decode cX12_readCompartment 200 = .ok (.goto 18, 3) := by decide +kernel
theorem dX12_readCompartment_203 : decode cX12_readCompartment 203 = .ok (.iload 4, 2) := by decide +kernel
theorem dX12_readCompartment_205 : decode cX12_readCompartment 205 = .ok (.iconst 3, 1) := by decide +kernel
theorem dX12_readCompartment_206 : decode cX12_readCompartment 206 = .ok (.if_icmp .ne 9, 3) := by decide +kernel
theorem dX12_readCompartment_209 : decode cX12_readCompartment 209 = .ok (.sipush 239, 3) := by decide +kernel
theorem dX12_readCompartment_212 : decode cX12_readCompartment 212 = .ok (.goto 6, 3) := by decide +kernel
theorem dX12_readCompartment_215 : decode cX12_readCompartment 215 = .ok (.sipush 255, 3) := by decide +kernel
theorem dX12_readCompartment_218 : decode cX12_readCompartment 218 = .ok (.invokevirtual 291, 3) := by decide +kernel
theorem dX12_readCompartment_221 : decode cX12_readCompartment 221 = .ok (.iastore, 1) := by decide +kernel
theorem dX12_readCompartment_222 : decode cX12_readCompartment 222 = .ok (.aload_n 0, 1) := by decide +kernel
theorem dX12_readCompartment_223 : decode cX12_readCompartment 223 = .ok (.getfield 281, 3) := by decide +kernel
theorem dX12_readCompartment_226 : decode cX12_readCompartment 226 = .ok (.istore 5, 2) := by decide +kernel
theorem dX12_readCompartment_228 : decode cX12_readCompartment 228 = .ok (.aload_n 0, 1) := by decide +kernel
theorem dX12_readCompartment_229 : decode cX12_readCompartment 229 = .ok (.getfield 154, 3) := by decide +kernel
theorem dX12_readCompartment_232 : decode cX12_readCompartment 232 = .ok (.iload_n 3, 1) := by decide +kernel
theorem dX12_readCompartment_233 : decode cX12_readCompartment 233 = .ok (.aload_n 0, 1) := by decide +kernel
theorem dX12_readCompartment_234 : decode cX12_readCompartment 234 = .ok (.iconst 1, 1) := by decide +kernel
theorem dX12_readCompartment_235 : decode cX12_readCompartment 235 = .ok (.iload 4, 2) := by decide +kernel
theorem dX12_readCompartment_237 : decode cX12_readCompartment 237 = .ok (.iconst 3, 1) := by decide +kernel
theorem dX12_readCompartment_238 : decode cX12_readCompartment 238 = .ok (.if_icmp .ne 7, 3) := by decide +kernel
theorem dX12_readCompartment_241 : decode cX12_readCompartment 241 = .ok (.iconst 1, 1) := by decide +kernel
theorem dX12_readCompartment_242 : decode cX12_readCompartment 242 = .ok (.goto 4, 3) := by decide +kernel
theorem dX12_readCompartment_245 : decode cX12_readCompartment 245 = .ok (.iconst 0, 1) := by decide +kernel
theorem dX12_readCompartment_246 : decode cX12_readCompartment 246 = .ok (.iload 4, 2) := by decide +kernel
theorem dX12_readCompartment_248 : decode cX12_readCompartment 248 = .ok (.iconst 1, 1) := by decide +kernel
theorem dX12_readCompartment_249 : decode cX12_readCompartment 249 = .ok (.if_icmp .eq 9, 3) := by decide +kernel
theorem dX12_readCompartment_252 : decode cX12_readCompartment 252 = .ok (.iload 4, 2) := by decide +kernel
theorem dX12_readCompartment_254 : decode cX12_readCompartment 254 = .ok (.iconst 2, 1) := by decide +kernel
theorem dX12_readCompartment_255 : decode cX12_readCompartment 255 = .ok (.if_icmp .ne 7, 3) := by decide +kernel
theorem dX12_readCompartment_258 : decode cX12_readCompartment 258 = .ok (.iconst 0, 1) := by decide +kernel
theorem dX12_readCompartment_259 : decode cX12_readCompartment 259 = .ok (.goto 17, 3) := by decide +kernel
theorem dX12_readCompartment_262 : decode cX12_readCompartment 262 = .ok (.iload 4, 2) := by decide +kernel
theorem dX12_readCompartment_264 : decode cX12_readCompartment 264 = .ok (.iconst 3, 1) := by decide +kernel
theorem dX12_readCompartment_265 : decode cX12_readCompartment 265 = .ok (.if_icmp .ne 8, 3) := by decide +kernel
theorem dX12_readCompartment_268 : decode cX12_readCompartment 268 = .ok (.bipush 16, 2) := by decide +kernel
theorem dX12_readCompartment_270 : decode cX12_readCompartment 270 = .ok (.goto 6, 3) := by decide +kernel
theorem dX12_readCompartment_273 : decode cX12_readCompartment 273 = .ok (.sipush 255, 3) := by decide +kernel
theorem dX12_readCompartment_276 : decode cX12_readCompartment 276 = .ok (.invokevirtual 291, 3) := by decide +kernel
theorem dX12_readCompartment_279 : decode cX12_readCompartment 279 = .ok (.iastore, 1) := by decide +kernel
theorem dX12_readCompartment_280 : decode cX12_readCompartment 280 = .ok (.iload 4, 2) := by decide +kernel
theorem dX12_readCompartment_282 : decode cX12_readCompartment 282 = .ok (.iconst 4, 1) := by decide +kernel
theorem dX12_readCompartment_283 : decode cX12_readCompartment 283 = .ok (.if_icmp .ne 31, 3) := by decide +kernel
theorem dX12_readCompartment_286 : decode cX12_readCompartment 286 = .ok (.aload_n 0, 1) := by decide +kernel
theorem dX12_readCompartment_287 : decode cX12_readCompartment 287 = .ok (.getfield 154, 3) := by decide +kernel
theorem dX12_readCompartment_290 : decode cX12_readCompartment 290 = .ok (.iload_n 3, 1) := by decide +kernel
theorem dX12_readCompartment_291 : decode cX12_readCompartment 291 = .ok (.iaload, 1) := by decide +kernel
theorem dX12_readCompartment_292 : decode cX12_readCompartment 292 = .ok (.ifCond .eq 15, 3) := by decide +kernel
theorem dX12_readCompartment_295 : decode cX12_readCompartment 295 = .ok (.aload_n 0, 1) := by decide +kernel
theorem dX12_readCompartment_296 : decode cX12_readCompartment 296 = .ok (.getfield 154, 3) := by decide +kernel
theorem dX12_readCompartment_299 : decode cX12_readCompartment 299 = .ok (.iload_n 3, 1) := by decide +kernel
theorem dX12_readCompartment_300 : decode cX12_readCompartment 300 = .ok (.iaload, 1) := by decide +kernel
theorem dX12_readCompartment_301 : decode cX12_readCompartment 301 = .ok (.bipush (-28), 2) := by decide +kernel
theorem dX12_readCompartment_303 : decode cX12_readCompartment 303 = .ok (.iand, 1) := by decide +kernel
theorem dX12_readCompartment_304 : decode cX12_readCompartment 304 = .ok (.ifCond .eq 10, 3) := by decide +kernel
theorem dX12_readCompartment_307 : decode cX12_readCompartment 307 = .ok (.aload_n 0, 1) := by decide +kernel
theorem dX12_readCompartment_308 : decode cX12_readCompartment 308 = .ok (.iconst 2, 1) := by decide +kernel
theorem dX12_readCompartment_309 : decode cX12_readCompartment 309 = .ok (.iload 5, 2) := by decide +kernel
theorem dX12_readCompartment_311 : decode cX12_readCompartment 311 = .ok (.invokevirtual 287, 3) := by decide +kernel
theorem dX12_readCompartment_314 : decode cX12_readCompartment 314 = .ok (.iinc 2 1, 3) := by decide +kernel
theorem dX12_readCompartment_317 : decode cX12_readCompartment 317 = .ok (.goto (-197), 3) := by decide +kernel
theorem dX12_readCompartment_320 : decode cX12_readCompartment 320 = .ok (.aload_n 0, 1) := by decide +kernel
theorem dX12_readCompartment_321 : decode cX12_readCompartment 321 = .ok (.getfield 160, 3) := by decide +kernel
theorem dX12_readCompartment_324 : decode cX12_readCompartment 324 = .ok (.iload_n 1, 1) := by decide +kernel
theorem dX12_readCompartment_325 : decode cX12_readCompartment 325 = .ok (.aload_n 0, 1) := by decide +kernel
theorem dX12_readCompartment_326 : decode cX12_readCompartment 326 = .ok (.getfield 281, 3) := by decide +kernel
theorem dX12_readCompartment_329 : decode cX12_readCompartment 329 = .ok (.iastore, 1) := by decide +kernel
theorem dX12_readCompartment_330 : decode cX12_readCompartment 330 = .ok (.aload_n 0, 1) := by decide +kernel
theorem dX12_readCompartment_331 : decode cX12_readCompartment 331 = .ok (.getfield 278, 3) := by decide +kernel
theorem dX12_readCompartment_334 : decode cX12_readCompartment 334 = .ok (.ifCond .ne 32, 3) := by decide +kernel
theorem dX12_readCompartment_337 : decode cX12_readCompartment 337 = .ok (.aload_n 0, 1) := by decide +kernel
theorem dX12_readCompartment_338 : decode cX12_readCompartment 338 = .ok (.getfield 281, 3) := by decide +kernel
theorem dX12_readCompartment_341 : decode cX12_readCompartment 341 = .ok (.iconst 4, 1) := by decide +kernel
theorem dX12_readCompartment_342 : decode cX12_readCompartment 342 = .ok (.aload_n 0, 1) := by decide +kernel
theorem dX12_readCompartment_343 : decode cX12_readCompartment 343 = .ok (.getfield 139, 3) := by decide +kernel
theorem dX12_readCompartment_346 : decode cX12_readCompartment 346 = .ok (.iload_n 1, 1) := by decide +kernel
theorem dX12_readCompartment_347 : decode cX12_readCompartment 347 = .ok (.iaload, 1) := by decide +kernel
theorem dX12_readCompartment_348 : decode cX12_readCompartment 348 = .ok (.imul, 1) := by decide +kernel
theorem dX12_readCompartment_349 : decode cX12_readCompartment 349 = .ok (.iadd, 1) := by decide +kernel
theorem dX12_readCompartment_350 : decode cX12_readCompartment 350 = .ok (.aload_n 0, 1) := by decide +kernel
theorem dX12_readCompartment_351 : decode cX12_readCompartment 351 = .ok (.getfield 284, 3) := by decide +kernel
theorem dX12_readCompartment_354 : decode cX12_readCompartment 354 = .ok (.if_icmp .le 12, 3) := by decide +kernel
theorem dX12_readCompartment_357 : decode cX12_readCompartment 357 = .ok (.aload_n 0, 1) := by decide +kernel
theorem dX12_readCompartment_358 : decode cX12_readCompartment 358 = .ok (.iconst 1, 1) := by decide +kernel
theorem dX12_readCompartment_359 : decode cX12_readCompartment 359 = .ok (.aload_n 0, 1) := by decide +kernel
theorem dX12_readCompartment_360 : decode cX12_readCompartment 360 = .ok (.getfield 284, 3) := by decide +kernel
theorem dX12_readCompartment_363 : decode cX12_readCompartment 363 = .ok (.invokevirtual 287, 3) := by decide +kernel
theorem dX12_readCompartment_366 : decode cX12_readCompartment 366 = .ok (.aload_n 0, 1) := by decide +kernel
theorem dX12_readCompartment_367 : decode cX12_readCompartment 367 = .ok (.dup, 1) := by decide +kernel
theorem dX12_readCompartment_368 : decode cX12_readCompartment 368 = .ok (.getfield 281, 3) := by decide +kernel
theorem dX12_readCompartment_371 : decode cX12_readCompartment 371 = .ok (.iconst 4, 1) := by decide +kernel
theorem dX12_readCompartment_372 : decode cX12_readCompartment 372 = .ok (.aload_n 0, 1) := by decide +kernel
theorem dX12_readCompartment_373 : decode cX12_readCompartment 373 = .ok (.getfield 139, 3) := by decide +kernel
theorem dX12_readCompartment_376 : decode cX12_readCompartment 376 = .ok (.iload_n 1, 1) := by decide +kernel
theorem dX12_readCompartment_377 : decode cX12_readCompartment 377 = .ok (.iaload, 1) := by decide +kernel
theorem dX12_readCompartment_378 : decode cX12_readCompartment 378 = .ok (.imul, 1) := by decide +kernel
theorem dX12_readCompartment_379 : decode cX12_readCompartment 379 = .ok (.iadd, 1) := by decide +kernel
theorem dX12_readCompartment_380 : decode cX12_readCompartment 380 = .ok (.putfield 281, 3) := by decide +kernel
theorem dX12_readCompartment_383 : decode cX12_readCompartment 383 = .ok (.return_, 1) := by decide +kernel
theorem dX12_readAll_0 : decode cX12_readAll 0 = .ok (.aload_n 0, 1) := by decide +kernel
theorem dX12_readAll_1 : decode cX12_readAll 1 = .ok (.iconst 0, 1) := by decide +kernel
theorem dX12_readAll_2 : decode cX12_readAll 2 = .ok (.putfield 281, 3) := by decide +kernel
theorem dX12_readAll_5 : decode cX12_readAll 5 = .ok (.aload_n 0, 1) := by decide +kernel
theorem dX12_readAll_6 : decode cX12_readAll 6 = .ok (.aload_n 0, 1) := by decide +kernel
theorem dX12_readAll_7 : decode cX12_readAll 7 = .ok (.iconst 1, 1) := by decide +kernel
theorem dX12_readAll_8 : decode cX12_readAll 8 = .ok (.iconst 1, 1) := by decide +kernel
theorem dX12_readAll_9 : decode cX12_readAll 9 = .ok (.bipush 8, 2) := by decide +kernel
theorem dX12_readAll_11 : decode cX12_readAll 11 = .ok (.invokevirtual 291, 3) := by decide +kernel
theorem dX12_readAll_14 : decode cX12_readAll 14 = .ok (.putfield 195, 3) := by decide +kernel
theorem dX12_readAll_17 : decode cX12_readAll 17 = .ok (.aload_n 0, 1) := by decide +kernel
theorem dX12_readAll_18 : decode cX12_readAll 18 = .ok (.aload_n 0, 1) := by decide +kernel
theorem dX12_readAll_19 : decode cX12_readAll 19 = .ok (.iconst 1, 1) := by decide +kernel
theorem dX12_readAll_20 : decode cX12_readAll 20 = .ok (.iconst 1, 1) := by decide +kernel
theorem dX12_readAll_21 : decode cX12_readAll 21 = .ok (.bipush 6, 2) := by decide +kernel
theorem dX12_readAll_23 : decode cX12_readAll 23 = .ok (.invokevirtual 291, 3) := by decide +kernel
theorem dX12_readAll_26 : decode cX12_readAll 26 = .ok (.putfield 198, 3) := by decide +kernel
theorem dX12_readAll_29 : decode cX12_readAll 29 = .ok (.iconst 0, 1) := by decide +kernel
theorem dX12_readAll_30 : decode cX12_readAll 30 = .ok (.istore_n 1, 1) := by decide +kernel
theorem dX12_readAll_31 : decode cX12_readAll 31 = .ok (.iload_n 1, 1) := by decide +kernel
theorem dX12_readAll_32 : decode cX12_readAll 32 = .ok (.aload_n 0, 1) := by decide +kernel
theorem dX12_readAll_33 : decode cX12_readAll 33 = .ok (.getfield 195, 3) := by decide +kernel
theorem dX12_readAll_36 : decode cX12_readAll 36 = .ok (.if_icmp .ge 21, 3) := by decide +kernel
theorem dX12_readAll_39 : decode cX12_readAll 39 = .ok (.aload_n 0, 1) := by decide +kernel
theorem dX12_readAll_40 : decode cX12_readAll 40 = .ok (.getfield 278, 3) := by decide +kernel
theorem dX12_readAll_43 : decode cX12_readAll 43 = .ok (.ifCond .ne 14, 3) := by decide +kernel
theorem dX12_readAll_46 : decode cX12_readAll 46 = .ok (.aload_n 0, 1) := by decide +kernel
theorem dX12_readAll_47 : decode cX12_readAll 47 = .ok (.iload_n 1, 1) := by decide +kernel
theorem dX12_readAll_48 : decode cX12_readAll 48 = .ok (.invokevirtual 295, 3) := by decide +kernel
theorem dX12_readAll_51 : decode cX12_readAll 51 = .ok (.iinc 1 1, 3) := by decide +kernel
theorem dX12_readAll_54 : decode cX12_readAll 54 = .ok (.goto (-23), 3) := by decide +kernel
theorem dX12_readAll_57 : decode cX12_readAll 57 = .ok (.iconst 0, 1) := by decide +kernel
theorem dX12_readAll_58 : decode cX12_readAll 58 = .ok (.istore_n 1, 1) := by decide +kernel
theorem dX12_readAll_59 : decode cX12_readAll 59 = .ok (.iload_n 1, 1) := by decide +kernel
theorem dX12_readAll_60 : decode cX12_readAll 60 = .ok (.aload_n 0, 1) := by decide +kernel
theorem dX12_readAll_61 : decode cX12_readAll 61 = .ok (.getfield 198, 3) := by decide +kernel
theorem dX12_readAll_64 : decode cX12_readAll 64 = .ok (.if_icmp .ge 98, 3) := by decide +kernel
theorem dX12_readAll_67 : decode cX12_readAll 67 = .ok (.aload_n 0, 1) := by decide +kernel
theorem dX12_readAll_68 : decode cX12_readAll 68 = .ok (.getfield 278, 3) := by decide +kernel
theorem dX12_readAll_71 : decode cX12_readAll 71 = .ok (.ifCond .ne 91, 3) := by decide +kernel
theorem dX12_readAll_74 : decode cX12_readAll 74 = .ok (.aload_n 0, 1) := by decide +kernel
theorem dX12_readAll_75 : decode cX12_readAll 75 = .ok (.getfield 163, 3) := by decide +kernel
theorem dX12_readAll_78 : decode cX12_readAll 78 = .ok (.iload_n 1, 1) := by decide +kernel
theorem dX12_readAll_79 : decode cX12_readAll 79 = .ok (.aload_n 0, 1) := by decide +kernel
theorem dX12_readAll_80 : decode cX12_readAll 80 = .ok (.getfield 281, 3) := by decide +kernel
theorem dX12_readAll_83 : decode cX12_readAll 83 = .ok (.iastore, 1) := by decide +kernel
theorem dX12_readAll_84 : decode cX12_readAll 84 = .ok (.aload_n 0, 1) := by decide +kernel
theorem dX12_readAll_85 : decode cX12_readAll 85 = .ok (.getfield 166, 3) := by decide +kernel
theorem dX12_readAll_88 : decode cX12_readAll 88 = .ok (.iload_n 1, 1) := by decide +kernel
theorem dX12_readAll_89 : decode cX12_readAll 89 = .ok (.aload_n 0, 1) := by decide +kernel
theorem dX12_readAll_90 : decode cX12_readAll 90 = .ok (.iconst 1, 1) := by decide +kernel
theorem dX12_readAll_91 : decode cX12_readAll 91 = .ok (.iconst 0, 1) := by decide +kernel
theorem dX12_readAll_92 : decode cX12_readAll 92 = .ok (.sipush 255, 3) := by decide +kernel
theorem dX12_readAll_95 : decode cX12_readAll 95 = .ok (.invokevirtual 291, 3) := by decide +kernel
theorem dX12_readAll_98 : decode cX12_readAll 98 = .ok (.iastore, 1) := by decide +kernel
theorem dX12_readAll_99 : decode cX12_readAll 99 = .ok (.aload_n 0, 1) := by decide +kernel
theorem dX12_readAll_100 : decode cX12_readAll 100 = .ok (.getfield 169, 3) := by decide +kernel
theorem dX12_readAll_103 : decode cX12_readAll 103 = .ok (.iload_n 1, 1) := by decide +kernel
theorem dX12_readAll_104 : decode cX12_readAll 104 = .ok (.aload_n 0, 1) := by decide +kernel
theorem dX12_readAll_105 : decode cX12_readAll 105 = .ok (.iconst 1, 1) := by decide +kernel
theorem dX12_readAll_106 : decode cX12_readAll 106 = .ok (.iconst 0, 1) := by decide +kernel
theorem dX12_readAll_107 : decode cX12_readAll 107 = .ok (.sipush 255, 3) := by decide +kernel
theorem dX12_readAll_110 : decode cX12_readAll 110 = .ok (.invokevirtual 291, 3) := by decide +kernel
theorem dX12_readAll_113 : decode cX12_readAll 113 = .ok (.iastore, 1) := by decide +kernel
theorem dX12_readAll_114 : decode cX12_readAll 114 = .ok (.aload_n 0, 1) := by decide +kernel
theorem dX12_readAll_115 : decode cX12_readAll 115 = .ok (.getfield 85, 3) := by decide +kernel
theorem dX12_readAll_118 : decode cX12_readAll 118 = .ok (.iload_n 1, 1) := by decide +kernel
theorem dX12_readAll_119 : decode cX12_readAll 119 = .ok (.aload_n 0, 1) := by decide +kernel
theorem dX12_readAll_120 : decode cX12_readAll 120 = .ok (.iconst 1, 1) := by decide +kernel
theorem dX12_readAll_121 : decode cX12_readAll 121 = .ok (.iconst 0, 1) := by decide +kernel
theorem dX12_readAll_122 : decode cX12_readAll 122 = .ok (.bipush 7, 2) := by decide +kernel
theorem dX12_readAll_124 : decode cX12_readAll 124 = .ok (.invokevirtual 291, 3) := by decide +kernel
theorem dX12_readAll_127 : decode cX12_readAll 127 = .ok (.iastore, 1) := by decide +kernel
theorem dX12_readAll_128 : decode cX12_readAll 128 = .ok (.aload_n 0, 1) := by decide +kernel
theorem dX12_readAll_129 : decode cX12_readAll 129 = .ok (.getfield 172, 3) := by decide +kernel
theorem dX12_readAll_132 : decode cX12_readAll 132 = .ok (.iload_n 1, 1) := by decide +kernel
theorem dX12_readAll_133 : decode cX12_readAll 133 = .ok (.aload_n 0, 1) := by decide +kernel
theorem dX12_readAll_134 : decode cX12_readAll 134 = .ok (.iconst 1, 1) := by decide +kernel
theorem dX12_readAll_135 : decode cX12_readAll 135 = .ok (.iconst 1, 1) := by decide +kernel
theorem dX12_readAll_136 : decode cX12_readAll 136 = .ok (.bipush 32, 2) := by decide +kernel
theorem dX12_readAll_138 : decode cX12_readAll 138 = .ok (.invokevirtual 291, 3) := by decide +kernel
theorem dX12_readAll_141 : decode cX12_readAll 141 = .ok (.iastore, 1) := by decide +kernel
theorem dX12_readAll_142 : decode cX12_readAll 142 = .ok (.aload_n 0, 1) := by decide +kernel
theorem dX12_readAll_143 : decode cX12_readAll 143 = .ok (.getfield 73, 3) := by decide +kernel
theorem dX12_readAll_146 : decode cX12_readAll 146 = .ok (.iload_n 1, 1) := by decide +kernel
theorem dX12_readAll_147 : decode cX12_readAll 147 = .ok (.aload_n 0, 1) := by decide +kernel
theorem dX12_readAll_148 : decode cX12_readAll 148 = .ok (.iconst 1, 1) := by decide +kernel
theorem dX12_readAll_149 : decode cX12_readAll 149 = .ok (.iconst 0, 1) := by decide +kernel
theorem dX12_readAll_150 : decode cX12_readAll 150 = .ok (.bipush 16, 2) := by decide +kernel
theorem dX12_readAll_152 : decode cX12_readAll 152 = .ok (.invokevirtual 291, 3) := by decide +kernel
theorem dX12_readAll_155 : decode cX12_readAll 155 = .ok (.iastore, 1) := by decide +kernel
theorem dX12_readAll_156 : decode cX12_readAll 156 = .ok (.iinc 1 1, 3) := by decide +kernel
theorem dX12_readAll_159 : decode cX12_readAll 159 = .ok (.goto (-100), 3) := by decide +kernel
theorem dX12_readAll_162 : decode cX12_readAll 162 = .ok (.aload_n 0, 1) := by decide +kernel
theorem dX12_readAll_163 : decode cX12_readAll 163 = .ok (.getfield 278, 3) := by decide +kernel
theorem dX12_readAll_166 : decode cX12_readAll 166 = .ok (.ifCond .eq 4, 3) := by decide +kernel
theorem dX12_readAll_169 : decode cX12_readAll 169 = .ok (.return_, 1) := by decide +kernel
theorem dX12_readAll_170 : decode cX12_readAll 170 = .ok (.iconst 0, 1) := by decide +kernel
theorem dX12_readAll_171 : decode cX12_readAll 171 = .ok (.istore_n 1, 1) := by decide +kernel
theorem dX12_readAll_172 : decode cX12_readAll 172 = .ok (.iload_n 1, 1) := by decide +kernel
theorem dX12_readAll_173 : decode cX12_readAll 173 = .ok (.aload_n 0, 1) := by decide +kernel
theorem dX12_readAll_174 : decode cX12_readAll 174 = .ok (.getfield 195, 3) := by decide +kernel
theorem dX12_readAll_177 : decode cX12_readAll 177 = .ok (.if_icmp .ge 144, 3) := by decide +kernel
theorem dX12_readAll_180 : decode cX12_readAll 180 = .ok (.bipush 16, 2) := by decide +kernel
theorem dX12_readAll_182 : decode cX12_readAll 182 = .ok (.iload_n 1, 1) := by decide +kernel
theorem dX12_readAll_183 : decode cX12_readAll 183 = .ok (.imul, 1) := by decide +kernel
theorem dX12_readAll_184 : decode cX12_readAll 184 = .ok (.istore_n 2, 1) := by decide +kernel
theorem dX12_readAll_185 : decode cX12_readAll 185 = .ok (.iload_n 2, 1) := by decide +kernel
theorem dX12_readAll_186 : decode cX12_readAll 186 = .ok (.bipush 16, 2) := by decide +kernel
theorem dX12_readAll_188 : decode cX12_readAll 188 = .ok (.iload_n 1, 1) := by decide +kernel
theorem dX12_readAll_189 : decode cX12_readAll 189 = .ok (.imul, 1) := by decide +kernel
theorem dX12_readAll_190 : decode cX12_readAll 190 = .ok (.aload_n 0, 1) := by decide +kernel
theorem dX12_readAll_191 : decode cX12_readAll 191 = .ok (.getfield 145, 3) := by decide +kernel
theorem dX12_readAll_194 : decode cX12_readAll 194 = .ok (.iload_n 1, 1) := by decide +kernel
theorem dX12_readAll_195 : decode cX12_readAll 195 = .ok (.iaload, 1) := by decide +kernel
theorem dX12_readAll_196 : decode cX12_readAll 196 = .ok (.iadd, 1) := by decide +kernel
theorem dX12_readAll_197 : decode cX12_readAll 197 = .ok (.if_icmp .ge 118, 3) := by decide +kernel
theorem dX12_readAll_200 : decode cX12_readAll 200 = .ok (.aload_n 0, 1) := by decide +kernel
theorem dX12_readAll_201 : decode cX12_readAll 201 = .ok (.getfield 148, 3) := by decide +kernel
theorem dX12_readAll_204 : decode cX12_readAll 204 = .ok (.iload_n 2, 1) := by decide +kernel
theorem dX12_readAll_205 : decode cX12_readAll 205 = .ok (.iaload, 1) := by decide +kernel
theorem dX12_readAll_206 : decode cX12_readAll 206 = .ok (.ifCond .ne 7, 3) := by decide +kernel
theorem dX12_readAll_209 : decode cX12_readAll 209 = .ok (.iconst 1, 1) := by decide +kernel
theorem dX12_readAll_210 : decode cX12_readAll 210 = .ok (.goto 4, 3) := by decide +kernel
theorem dX12_readAll_213 : decode cX12_readAll 213 = .ok (.iconst 0, 1) := by decide +kernel
theorem dX12_readAll_214 : decode cX12_readAll 214 = .ok (.istore_n 3, 1) := by decide +kernel
theorem dX12_readAll_215 : decode cX12_readAll 215 = .ok (.iload_n 3, 1) := by decide +kernel
theorem dX12_readAll_216 : decode cX12_readAll 216 = .ok (.ifCond .ne 13, 3) := by decide +kernel
theorem dX12_readAll_219 : decode cX12_readAll 219 = .ok (.aload_n 0, 1) := by decide +kernel
theorem dX12_readAll_220 : decode cX12_readAll 220 = .ok (.getfield 148, 3) := by decide +kernel
theorem dX12_readAll_223 : decode cX12_readAll 223 = .ok (.iload_n 2, 1) := by decide +kernel
theorem dX12_readAll_224 : decode cX12_readAll 224 = .ok (.iaload, 1) := by decide +kernel
theorem dX12_readAll_225 : decode cX12_readAll 225 = .ok (.iconst 4, 1) := by decide +kernel
theorem dX12_readAll_226 : decode cX12_readAll 226 = .ok (.if_icmp .ne 16, 3) := by decide +kernel
theorem dX12_readAll_229 : decode cX12_readAll 229 = .ok (.aload_n 0, 1) := by decide +kernel
theorem dX12_readAll_230 : decode cX12_readAll 230 = .ok (.getfield 151, 3) := by decide +kernel
theorem dX12_readAll_233 : decode cX12_readAll 233 = .ok (.iload_n 2, 1) := by decide +kernel
theorem dX12_readAll_234 : decode cX12_readAll 234 = .ok (.iaload, 1) := by decide +kernel
theorem dX12_readAll_235 : decode cX12_readAll 235 = .ok (.aload_n 0, 1) := by decide +kernel
theorem dX12_readAll_236 : decode cX12_readAll 236 = .ok (.getfield 195, 3) := by decide +kernel
theorem dX12_readAll_239 : decode cX12_readAll 239 = .ok (.if_icmp .ge 7, 3) := by decide +kernel
theorem dX12_readAll_242 : decode cX12_readAll 242 = .ok (.iconst 1, 1) := by decide +kernel
theorem dX12_readAll_243 : decode cX12_readAll 243 = .ok (.goto 4, 3) := by decide +kernel
theorem dX12_readAll_246 : decode cX12_readAll 246 = .ok (.iconst 0, 1) := by decide +kernel
theorem dX12_readAll_247 : decode cX12_readAll 247 = .ok (.istore 4, 2) := by decide +kernel
theorem dX12_readAll_249 : decode cX12_readAll 249 = .ok (.iload 4, 2) := by decide +kernel
theorem dX12_readAll_251 : decode cX12_readAll 251 = .ok (.ifCond .ne 16, 3) := by decide +kernel
theorem dX12_readAll_254 : decode cX12_readAll 254 = .ok (.aload_n 0, 1) := by decide +kernel
theorem dX12_readAll_255 : decode cX12_readAll 255 = .ok (.iconst 3, 1) := by decide +kernel
theorem dX12_readAll_256 : decode cX12_readAll 256 = .ok (.aload_n 0, 1) := by decide +kernel
theorem dX12_readAll_257 : decode cX12_readAll 257 = .ok (.getfield 157, 3) := by decide +kernel
theorem dX12_readAll_260 : decode cX12_readAll 260 = .ok (.iload_n 2, 1) := by decide +kernel
theorem dX12_readAll_261 : decode cX12_readAll 261 = .ok (.iaload, 1) := by decide +kernel
theorem dX12_readAll_262 : decode cX12_readAll 262 = .ok (.iconst 1, 1) := by decide +kernel
theorem dX12_readAll_263 : decode cX12_readAll 263 = .ok (.iadd, 1) := by decide +kernel
theorem dX12_readAll_264 : decode cX12_readAll 264 = .ok (.invokevirtual 287, 3) := by decide +kernel
theorem dX12_readAll_267 : decode cX12_readAll 267 = .ok (.iload 4, 2) := by decide +kernel
theorem dX12_readAll_269 : decode cX12_readAll 269 = .ok (.ifCond .eq 40, 3) := by decide +kernel
theorem dX12_readAll_272 : decode cX12_readAll 272 = .ok (.iload_n 3, 1) := by decide +kernel
theorem dX12_readAll_273 : decode cX12_readAll 273 = .ok (.ifCond .eq 36, 3) := by decide +kernel
theorem dX12_readAll_276 : decode cX12_readAll 276 = .ok (.aload_n 0, 1) := by decide +kernel
theorem dX12_readAll_277 : decode cX12_readAll 277 = .ok (.getfield 154, 3) := by decide +kernel
theorem dX12_readAll_280 : decode cX12_readAll 280 = .ok (.iload_n 2, 1) := by decide +kernel
theorem dX12_readAll_281 : decode cX12_readAll 281 = .ok (.iaload, 1) := by decide +kernel
theorem dX12_readAll_282 : decode cX12_readAll 282 = .ok (.aload_n 0, 1) := by decide +kernel
theorem dX12_readAll_283 : decode cX12_readAll 283 = .ok (.getfield 52, 3) := by decide +kernel
theorem dX12_readAll_286 : decode cX12_readAll 286 = .ok (.aload_n 0, 1) := by decide +kernel
theorem dX12_readAll_287 : decode cX12_readAll 287 = .ok (.getfield 151, 3) := by decide +kernel
theorem dX12_readAll_290 : decode cX12_readAll 290 = .ok (.iload_n 2, 1) := by decide +kernel
theorem dX12_readAll_291 : decode cX12_readAll 291 = .ok (.iaload, 1) := by decide +kernel
theorem dX12_readAll_292 : decode cX12_readAll 292 = .ok (.iaload, 1) := by decide +kernel
theorem dX12_readAll_293 : decode cX12_readAll 293 = .ok (.if_icmp .lt 16, 3) := by decide +kernel
theorem dX12_readAll_296 : decode cX12_readAll 296 = .ok (.aload_n 0, 1) := by decide +kernel
theorem dX12_readAll_297 : decode cX12_readAll 297 = .ok (.iconst 3, 1) := by decide +kernel
theorem dX12_readAll_298 : decode cX12_readAll 298 = .ok (.aload_n 0, 1) := by decide +kernel
theorem dX12_readAll_299 : decode cX12_readAll 299 = .ok (.getfield 157, 3) := by decide +kernel
theorem dX12_readAll_302 : decode cX12_readAll 302 = .ok (.iload_n 2, 1) := by decide +kernel
theorem dX12_readAll_303 : decode cX12_readAll 303 = .ok (.iaload, 1) := by decide +kernel
theorem dX12_readAll_304 : decode cX12_readAll 304 = .ok (.iconst 2, 1) := by decide +kernel
theorem dX12_readAll_305 : decode cX12_readAll 305 = .ok (.iadd, 1) := by decide +kernel
theorem dX12_readAll_306 : decode cX12_readAll 306 = .ok (.invokevirtual 287, 3) := by decide +kernel
theorem dX12_readAll_309 : decode cX12_readAll 309 = .ok (.iinc 2 1, 3) := by decide +kernel
theorem dX12_readAll_312 : decode cX12_readAll 312 = .ok (.goto (-127), 3) := by decide +kernel
theorem dX12_readAll_315 : decode cX12_readAll 315 = .ok (.iinc 1 1, 3) := by decide +kernel
theorem dX12_readAll_318 : decode cX12_readAll 318 = .ok (.goto (-146), 3) := by decide +kernel
theorem dX12_readAll_321 : decode cX12_readAll 321 = .ok (.iconst 0, 1) := by decide +kernel
theorem dX12_readAll_322 : decode cX12_readAll 322 = .ok (.istore_n 1, 1) := by decide +kernel
theorem dX12_readAll_323 : decode cX12_readAll 323 = .ok (.iload_n 1, 1) := by decide +kernel
theorem dX12_readAll_324 : decode cX12_readAll 324 = .ok (.aload_n 0, 1) := by decide +kernel
theorem dX12_readAll_325 : decode cX12_readAll 325 = .ok (.getfield 198, 3) := by decide +kernel
theorem dX12_readAll_328 : decode cX12_readAll 328 = .ok (.if_icmp .ge 80, 3) := by decide +kernel
theorem dX12_readAll_331 : decode cX12_readAll 331 = .ok (.aload_n 0, 1) := by decide +kernel
theorem dX12_readAll_332 : decode cX12_readAll 332 = .ok (.getfield 166, 3) := by decide +kernel
theorem dX12_readAll_335 : decode cX12_readAll 335 = .ok (.iload_n 1, 1) := by decide +kernel
theorem dX12_readAll_336 : decode cX12_readAll 336 = .ok (.iaload, 1) := by decide +kernel
theorem dX12_readAll_337 : decode cX12_readAll 337 = .ok (.aload_n 0, 1) := by decide +kernel
theorem dX12_readAll_338 : decode cX12_readAll 338 = .ok (.getfield 195, 3) := by decide +kernel
theorem dX12_readAll_341 : decode cX12_readAll 341 = .ok (.if_icmp .ge 7, 3) := by decide +kernel
theorem dX12_readAll_344 : decode cX12_readAll 344 = .ok (.iconst 1, 1) := by decide +kernel
theorem dX12_readAll_345 : decode cX12_readAll 345 = .ok (.goto 4, 3) := by decide +kernel
theorem dX12_readAll_348 : decode cX12_readAll 348 = .ok (.iconst 0, 1) := by decide +kernel
theorem dX12_readAll_349 : decode cX12_readAll 349 = .ok (.istore_n 2, 1) := by decide +kernel
theorem dX12_readAll_350 : decode cX12_readAll 350 = .ok (.iload_n 2, 1) := by decide +kernel
theorem dX12_readAll_351 : decode cX12_readAll 351 = .ok (.ifCond .ne 14, 3) := by decide +kernel
theorem dX12_readAll_354 : decode cX12_readAll 354 = .ok (.aload_n 0, 1) := by decide +kernel
theorem dX12_readAll_355 : decode cX12_readAll 355 = .ok (.iconst 3, 1) := by decide +kernel
theorem dX12_readAll_356 : decode cX12_readAll 356 = .ok (.aload_n 0, 1) := by decide +kernel
theorem dX12_readAll_357 : decode cX12_readAll 357 = .ok (.getfield 163, 3) := by decide +kernel
theorem dX12_readAll_360 : decode cX12_readAll 360 = .ok (.iload_n 1, 1) := by decide +kernel
theorem dX12_readAll_361 : decode cX12_readAll 361 = .ok (.iaload, 1) := by decide +kernel
theorem dX12_readAll_362 : decode cX12_readAll 362 = .ok (.invokevirtual 287, 3) := by decide +kernel
theorem dX12_readAll_365 : decode cX12_readAll 365 = .ok (.iload_n 2, 1) := by decide +kernel
theorem dX12_readAll_366 : decode cX12_readAll 366 = .ok (.ifCond .eq 36, 3) := by decide +kernel
theorem dX12_readAll_369 : decode cX12_readAll 369 = .ok (.aload_n 0, 1) := by decide +kernel
theorem dX12_readAll_370 : decode cX12_readAll 370 = .ok (.getfield 169, 3) := by decide +kernel
theorem dX12_readAll_373 : decode cX12_readAll 373 = .ok (.iload_n 1, 1) := by decide +kernel
theorem dX12_readAll_374 : decode cX12_readAll 374 = .ok (.iaload, 1) := by decide +kernel
theorem dX12_readAll_375 : decode cX12_readAll 375 = .ok (.aload_n 0, 1) := by decide +kernel
theorem dX12_readAll_376 : decode cX12_readAll 376 = .ok (.getfield 52, 3) := by decide +kernel
theorem dX12_readAll_379 : decode cX12_readAll 379 = .ok (.aload_n 0, 1) := by decide +kernel
theorem dX12_readAll_380 : decode cX12_readAll 380 = .ok (.getfield 166, 3) := by decide +kernel
theorem dX12_readAll_383 : decode cX12_readAll 383 = .ok (.iload_n 1, 1) := by decide +kernel
theorem dX12_readAll_384 : decode cX12_readAll 384 = .ok (.iaload, 1) := by decide +kernel
theorem dX12_readAll_385 : decode cX12_readAll 385 = .ok (.iaload, 1) := by decide +kernel
theorem dX12_readAll_386 : decode cX12_readAll 386 = .ok (.if_icmp .lt 16, 3) := by decide +kernel
theorem dX12_readAll_389 : decode cX12_readAll 389 = .ok (.aload_n 0, 1) := by decide +kernel
theorem dX12_readAll_390 : decode cX12_readAll 390 = .ok (.iconst 3, 1) := by decide +kernel
theorem dX12_readAll_391 : decode cX12_readAll 391 = .ok (.aload_n 0, 1) := by decide +kernel
theorem dX12_readAll_392 : decode cX12_readAll 392 = .ok (.getfield 163, 3) := by decide +kernel
theorem dX12_readAll_395 : decode cX12_readAll 395 = .ok (.iload_n 1, 1) := by decide +kernel
theorem dX12_readAll_396 : decode cX12_readAll 396 = .ok (.iaload, 1) := by decide +kernel
theorem dX12_readAll_397 : decode cX12_readAll 397 = .ok (.iconst 1, 1) := by decide +kernel
theorem dX12_readAll_398 : decode cX12_readAll 398 = .ok (.iadd, 1) := by decide +kernel
theorem dX12_readAll_399 : decode cX12_readAll 399 = .ok (.invokevirtual 287, 3) := by decide +kernel
theorem dX12_readAll_402 : decode cX12_readAll 402 = .ok (.iinc 1 1, 3) := by decide +kernel
theorem dX12_readAll_405 : decode cX12_readAll 405 = .ok (.goto (-82), 3) := by decide +kernel
theorem dX12_readAll_408 : decode cX12_readAll 408 = .ok (.aload_n 0, 1) := by decide +kernel
theorem dX12_readAll_409 : decode cX12_readAll 409 = .ok (.getfield 281, 3) := by decide +kernel
theorem dX12_readAll_412 : decode cX12_readAll 412 = .ok (.aload_n 0, 1) := by decide +kernel
theorem dX12_readAll_413 : decode cX12_readAll 413 = .ok (.getfield 284, 3) := by decide +kernel
theorem dX12_readAll_416 : decode cX12_readAll 416 = .ok (.if_icmp .ge 12, 3) := by decide +kernel
theorem dX12_readAll_419 : decode cX12_readAll 419 = .ok (.aload_n 0, 1) := by decide +kernel
theorem dX12_readAll_420 : decode cX12_readAll 420 = .ok (.iconst 4, 1) := by decide +kernel
theorem dX12_readAll_421 : decode cX12_readAll 421 = .ok (.aload_n 0, 1) := by decide +kernel
theorem dX12_readAll_422 : decode cX12_readAll 422 = .ok (.getfield 281, 3) := by decide +kernel
theorem dX12_readAll_425 : decode cX12_readAll 425 = .ok (.invokevirtual 287, 3) := by decide +kernel
theorem dX12_readAll_428 : decode cX12_readAll 428 = .ok (.aload_n 0, 1) := by decide +kernel
theorem dX12_readAll_429 : decode cX12_readAll 429 = .ok (.invokevirtual 298, 3) := by decide +kernel
theorem dX12_readAll_432 : decode cX12_readAll 432 = .ok (.aload_n 0, 1) := by decide +kernel
theorem dX12_readAll_433 : decode cX12_readAll 433 = .ok (.getfield 222, 3) := by decide +kernel
theorem dX12_readAll_436 : decode cX12_readAll 436 = .ok (.aload_n 0, 1) := by decide +kernel
theorem dX12_readAll_437 : decode cX12_readAll 437 = .ok (.getfield 175, 3) := by decide +kernel
theorem dX12_readAll_440 : decode cX12_readAll 440 = .ok (.bipush 16, 2) := by decide +kernel
theorem dX12_readAll_442 : decode cX12_readAll 442 = .ok (.isub, 1) := by decide +kernel
theorem dX12_readAll_443 : decode cX12_readAll 443 = .ok (.if_icmp .le 12, 3) := by decide +kernel
theorem dX12_readAll_446 : decode cX12_readAll 446 = .ok (.aload_n 0, 1) := by decide +kernel
theorem dX12_readAll_447 : decode cX12_readAll 447 = .ok (.iconst 5, 1) := by decide +kernel
theorem dX12_readAll_448 : decode cX12_readAll 448 = .ok (.aload_n 0, 1) := by decide +kernel
theorem dX12_readAll_449 : decode cX12_readAll 449 = .ok (.getfield 284, 3) := by decide +kernel
theorem dX12_readAll_452 : decode cX12_readAll 452 = .ok (.invokevirtual 287, 3) := by decide +kernel
theorem dX12_readAll_455 : decode cX12_readAll 455 = .ok (.return_, 1) := by decide +kernel
theorem dX12_layout_0 : decode cX12_layout 0 = .ok (.iconst 0, 1) := by decide +kernel
theorem dX12_layout_1 : decode cX12_layout 1 = .ok (.istore_n 1, 1) := by decide +kernel
theorem dX12_layout_2 : decode cX12_layout 2 = .ok (.iconst 0, 1) := by decide +kernel
theorem dX12_layout_3 : decode cX12_layout 3 = .ok (.istore_n 2, 1) := by decide +kernel
theorem dX12_layout_4 : decode cX12_layout 4 = .ok (.iload_n 2, 1) := by decide +kernel
theorem dX12_layout_5 : decode cX12_layout 5 = .ok (.aload_n 0, 1) := by decide +kernel
theorem dX12_layout_6 : decode cX12_layout 6 = .ok (.getfield 195, 3) := by decide +kernel
theorem dX12_layout_9 : decode cX12_layout 9 = .ok (.if_icmp .ge 81, 3) := by decide +kernel
theorem dX12_layout_12 : decode cX12_layout 12 = .ok (.aload_n 0, 1) := by decide +kernel
theorem dX12_layout_13 : decode cX12_layout 13 = .ok (.getfield 40, 3) := by decide +kernel
theorem dX12_layout_16 : decode cX12_layout 16 = .ok (.iload_n 2, 1) := by decide +kernel
theorem dX12_layout_17 : decode cX12_layout 17 = .ok (.iload_n 1, 1) := by decide +kernel
theorem dX12_layout_18 : decode cX12_layout 18 = .ok (.iastore, 1) := by decide +kernel
theorem dX12_layout_19 : decode cX12_layout 19 = .ok (.iload_n 1, 1) := by decide +kernel
theorem dX12_layout_20 : decode cX12_layout 20 = .ok (.iconst 4, 1) := by decide +kernel
theorem dX12_layout_21 : decode cX12_layout 21 = .ok (.aload_n 0, 1) := by decide +kernel
theorem dX12_layout_22 : decode cX12_layout 22 = .ok (.getfield 139, 3) := by decide +kernel
theorem dX12_layout_25 : decode cX12_layout 25 = .ok (.iload_n 2, 1) := by decide +kernel
theorem dX12_layout_26 : decode cX12_layout 26 = .ok (.iaload, 1) := by decide +kernel
theorem dX12_layout_27 : decode cX12_layout 27 = .ok (.imul, 1) := by decide +kernel
theorem dX12_layout_28 : decode cX12_layout 28 = .ok (.bipush 15, 2) := by decide +kernel
theorem dX12_layout_30 : decode cX12_layout 30 = .ok (.iadd, 1) := by decide +kernel
theorem dX12_layout_31 : decode cX12_layout 31 = .ok (.bipush 16, 2) := by decide +kernel
theorem dX12_layout_33 : decode cX12_layout 33 = .ok (.idiv, 1) := by decide +kernel
theorem dX12_layout_34 : decode cX12_layout 34 = .ok (.bipush 16, 2) := by decide +kernel
theorem dX12_layout_36 : decode cX12_layout 36 = .ok (.imul, 1) := by decide +kernel
theorem dX12_layout_37 : decode cX12_layout 37 = .ok (.iadd, 1) := by decide +kernel
theorem dX12_layout_38 : decode cX12_layout 38 = .ok (.istore_n 1, 1) := by decide +kernel
theorem dX12_layout_39 : decode cX12_layout 39 = .ok (.aload_n 0, 1) := by decide +kernel
theorem dX12_layout_40 : decode cX12_layout 40 = .ok (.getfield 43, 3) := by decide +kernel
theorem dX12_layout_43 : decode cX12_layout 43 = .ok (.iload_n 2, 1) := by decide +kernel
theorem dX12_layout_44 : decode cX12_layout 44 = .ok (.iload_n 1, 1) := by decide +kernel
theorem dX12_layout_45 : decode cX12_layout 45 = .ok (.iastore, 1) := by decide +kernel
theorem dX12_layout_46 : decode cX12_layout 46 = .ok (.iload_n 1, 1) := by decide +kernel
theorem dX12_layout_47 : decode cX12_layout 47 = .ok (.bipush 16, 2) := by decide +kernel
theorem dX12_layout_49 : decode cX12_layout 49 = .ok (.aload_n 0, 1) := by decide +kernel
theorem dX12_layout_50 : decode cX12_layout 50 = .ok (.getfield 145, 3) := by decide +kernel
theorem dX12_layout_53 : decode cX12_layout 53 = .ok (.iload_n 2, 1) := by decide +kernel
theorem dX12_layout_54 : decode cX12_layout 54 = .ok (.iaload, 1) := by decide +kernel
theorem dX12_layout_55 : decode cX12_layout 55 = .ok (.imul, 1) := by decide +kernel
theorem dX12_layout_56 : decode cX12_layout 56 = .ok (.iadd, 1) := by decide +kernel
theorem dX12_layout_57 : decode cX12_layout 57 = .ok (.istore_n 1, 1) := by decide +kernel
theorem dX12_layout_58 : decode cX12_layout 58 = .ok (.aload_n 0, 1) := by decide +kernel
theorem dX12_layout_59 : decode cX12_layout 59 = .ok (.getfield 46, 3) := by decide +kernel
theorem dX12_layout_62 : decode cX12_layout 62 = .ok (.iload_n 2, 1) := by decide +kernel
theorem dX12_layout_63 : decode cX12_layout 63 = .ok (.iload_n 1, 1) := by decide +kernel
theorem dX12_layout_64 : decode cX12_layout 64 = .ok (.iastore, 1) := by decide +kernel
theorem dX12_layout_65 : decode cX12_layout 65 = .ok (.iload_n 1, 1) := by decide +kernel
theorem dX12_layout_66 : decode cX12_layout 66 = .ok (.bipush 16, 2) := by decide +kernel
theorem dX12_layout_68 : decode cX12_layout 68 = .ok (.aload_n 0, 1) := by decide +kernel
theorem dX12_layout_69 : decode cX12_layout 69 = .ok (.getfield 142, 3) := by decide +kernel
theorem dX12_layout_72 : decode cX12_layout 72 = .ok (.iload_n 2, 1) := by decide +kernel
theorem dX12_layout_73 : decode cX12_layout 73 = .ok (.iaload, 1) := by decide +kernel
theorem dX12_layout_74 : decode cX12_layout 74 = .ok (.imul, 1) := by decide +kernel
theorem dX12_layout_75 : decode cX12_layout 75 = .ok (.iadd, 1) := by decide +kernel
theorem dX12_layout_76 : decode cX12_layout 76 = .ok (.istore_n 1, 1) := by decide +kernel
theorem dX12_layout_77 : decode cX12_layout 77 = .ok (.aload_n 0, 1) := by decide +kernel
theorem dX12_layout_78 : decode cX12_layout 78 = .ok (.getfield 49, 3) := by decide +kernel
theorem dX12_layout_81 : decode cX12_layout 81 = .ok (.iload_n 2, 1) := by decide +kernel
theorem dX12_layout_82 : decode cX12_layout 82 = .ok (.iload_n 1, 1) := by decide +kernel
theorem dX12_layout_83 : decode cX12_layout 83 = .ok (.iastore, 1) := by decide +kernel
theorem dX12_layout_84 : decode cX12_layout 84 = .ok (.iinc 2 1, 3) := by decide +kernel
theorem dX12_layout_87 : decode cX12_layout 87 = .ok (.goto (-83), 3) := by decide +kernel
theorem dX12_layout_90 : decode cX12_layout 90 = .ok (.iconst 0, 1) := by decide +kernel
theorem dX12_layout_91 : decode cX12_layout 91 = .ok (.istore_n 2, 1) := by decide +kernel
theorem dX12_layout_92 : decode cX12_layout 92 = .ok (.iload_n 2, 1) := by decide +kernel
theorem dX12_layout_93 : decode cX12_layout 93 = .ok (.aload_n 0, 1) := by decide +kernel
theorem dX12_layout_94 : decode cX12_layout 94 = .ok (.getfield 198, 3) := by decide +kernel
theorem dX12_layout_97 : decode cX12_layout 97 = .ok (.if_icmp .ge 35, 3) := by decide +kernel
theorem dX12_layout_100 : decode cX12_layout 100 = .ok (.aload_n 0, 1) := by decide +kernel
theorem dX12_layout_101 : decode cX12_layout 101 = .ok (.getfield 88, 3) := by decide +kernel
theorem dX12_layout_104 : decode cX12_layout 104 = .ok (.iload_n 2, 1) := by decide +kernel
theorem dX12_layout_105 : decode cX12_layout 105 = .ok (.iload_n 1, 1) := by decide +kernel
theorem dX12_layout_106 : decode cX12_layout 106 = .ok (.iastore, 1) := by decide +kernel
theorem dX12_layout_107 : decode cX12_layout 107 = .ok (.iload_n 1, 1) := by decide +kernel
theorem dX12_layout_108 : decode cX12_layout 108 = .ok (.bipush 16, 2) := by decide +kernel
theorem dX12_layout_110 : decode cX12_layout 110 = .ok (.aload_n 0, 1) := by decide +kernel
theorem dX12_layout_111 : decode cX12_layout 111 = .ok (.getfield 172, 3) := by decide +kernel
theorem dX12_layout_114 : decode cX12_layout 114 = .ok (.iload_n 2, 1) := by decide +kernel
theorem dX12_layout_115 : decode cX12_layout 115 = .ok (.iaload, 1) := by decide +kernel
theorem dX12_layout_116 : decode cX12_layout 116 = .ok (.imul, 1) := by decide +kernel
theorem dX12_layout_117 : decode cX12_layout 117 = .ok (.iadd, 1) := by decide +kernel
theorem dX12_layout_118 : decode cX12_layout 118 = .ok (.istore_n 1, 1) := by decide +kernel
theorem dX12_layout_119 : decode cX12_layout 119 = .ok (.aload_n 0, 1) := by decide +kernel
theorem dX12_layout_120 : decode cX12_layout 120 = .ok (.getfield 91, 3) := by decide +kernel
theorem dX12_layout_123 : decode cX12_layout 123 = .ok (.iload_n 2, 1) := by decide +kernel
theorem dX12_layout_124 : decode cX12_layout 124 = .ok (.iload_n 1, 1) := by decide +kernel
theorem dX12_layout_125 : decode cX12_layout 125 = .ok (.iastore, 1) := by decide +kernel
theorem dX12_layout_126 : decode cX12_layout 126 = .ok (.iinc 2 1, 3) := by decide +kernel
theorem dX12_layout_129 : decode cX12_layout 129 = .ok (.goto (-37), 3) := by decide +kernel
theorem dX12_layout_132 : decode cX12_layout 132 = .ok (.aload_n 0, 1) := by decide +kernel
theorem dX12_layout_133 : decode cX12_layout 133 = .ok (.iload_n 1, 1) := by decide +kernel
theorem dX12_layout_134 : decode cX12_layout 134 = .ok (.putfield 222, 3) := by decide +kernel
theorem dX12_layout_137 : decode cX12_layout 137 = .ok (.return_, 1) := by decide +kernel
theorem dX12_fill_0 : decode cX12_fill 0 = .ok (.iconst 0, 1) := by decide +kernel
theorem dX12_fill_1 : decode cX12_fill 1 = .ok (.istore_n 2, 1) := by decide +kernel
theorem dX12_fill_2 : decode cX12_fill 2 = .ok (.iload_n 2, 1) := by decide +kernel
theorem dX12_fill_3 : decode cX12_fill 3 = .ok (.iconst 4, 1) := by decide +kernel
theorem dX12_fill_4 : decode cX12_fill 4 = .ok (.aload_n 0, 1) := by decide +kernel
theorem dX12_fill_5 : decode cX12_fill 5 = .ok (.getfield 139, 3) := by decide +kernel
theorem dX12_fill_8 : decode cX12_fill 8 = .ok (.iload_n 1, 1) := by decide +kernel
theorem dX12_fill_9 : decode cX12_fill 9 = .ok (.iaload, 1) := by decide +kernel
theorem dX12_fill_10 : decode cX12_fill 10 = .ok (.imul, 1) := by decide +kernel
theorem dX12_fill_11 : decode cX12_fill 11 = .ok (.if_icmp .ge 35, 3) := by decide +kernel
theorem dX12_fill_14 : decode cX12_fill 14 = .ok (.aload_n 0, 1) := by decide +kernel
theorem dX12_fill_15 : decode cX12_fill 15 = .ok (.getfield 179, 3) := by decide +kernel
theorem dX12_fill_18 : decode cX12_fill 18 = .ok (.aload_n 0, 1) := by decide +kernel
theorem dX12_fill_19 : decode cX12_fill 19 = .ok (.getfield 40, 3) := by decide +kernel
theorem dX12_fill_22 : decode cX12_fill 22 = .ok (.iload_n 1, 1) := by decide +kernel
theorem dX12_fill_23 : decode cX12_fill 23 = .ok (.iaload, 1) := by decide +kernel
theorem dX12_fill_24 : decode cX12_fill 24 = .ok (.iload_n 2, 1) := by decide +kernel
theorem dX12_fill_25 : decode cX12_fill 25 = .ok (.iadd, 1) := by decide +kernel
theorem dX12_fill_26 : decode cX12_fill 26 = .ok (.aload_n 0, 1) := by decide +kernel
theorem dX12_fill_27 : decode cX12_fill 27 = .ok (.getfield 33, 3) := by decide +kernel
theorem dX12_fill_30 : decode cX12_fill 30 = .ok (.aload_n 0, 1) := by decide +kernel
theorem dX12_fill_31 : decode cX12_fill 31 = .ok (.getfield 160, 3) := by decide +kernel
theorem dX12_fill_34 : decode cX12_fill 34 = .ok (.iload_n 1, 1) := by decide +kernel
theorem dX12_fill_35 : decode cX12_fill 35 = .ok (.iaload, 1) := by decide +kernel
theorem dX12_fill_36 : decode cX12_fill 36 = .ok (.iload_n 2, 1) := by decide +kernel
theorem dX12_fill_37 : decode cX12_fill 37 = .ok (.iadd, 1) := by decide +kernel
theorem dX12_fill_38 : decode cX12_fill 38 = .ok (.baload, 1) := by decide +kernel
theorem dX12_fill_39 : decode cX12_fill 39 = .ok (.bastore, 1) := by decide +kernel
theorem dX12_fill_40 : decode cX12_fill 40 = .ok (.iinc 2 1, 3) := by decide +kernel
theorem dX12_fill_43 : decode cX12_fill 43 = .ok (.goto (-41), 3) := by decide +kernel
theorem dX12_fill_46 : decode cX12_fill 46 = .ok (.iconst 0, 1) := by decide +kernel
theorem dX12_fill_47 : decode cX12_fill 47 = .ok (.istore_n 2, 1) := by decide +kernel
theorem dX12_fill_48 : decode cX12_fill 48 = .ok (.iload_n 2, 1) := by decide +kernel
theorem dX12_fill_49 : decode cX12_fill 49 = .ok (.aload_n 0, 1) := by decide +kernel
theorem dX12_fill_50 : decode cX12_fill 50 = .ok (.getfield 145, 3) := by decide +kernel
theorem dX12_fill_53 : decode cX12_fill 53 = .ok (.iload_n 1, 1) := by decide +kernel
theorem dX12_fill_54 : decode cX12_fill 54 = .ok (.iaload, 1) := by decide +kernel
theorem dX12_fill_55 : decode cX12_fill 55 = .ok (.if_icmp .ge 221, 3) := by decide +kernel
theorem dX12_fill_58 : decode cX12_fill 58 = .ok (.aload_n 0, 1) := by decide +kernel
theorem dX12_fill_59 : decode cX12_fill 59 = .ok (.getfield 151, 3) := by decide +kernel
theorem dX12_fill_62 : decode cX12_fill 62 = .ok (.bipush 16, 2) := by decide +kernel
theorem dX12_fill_64 : decode cX12_fill 64 = .ok (.iload_n 1, 1) := by decide +kernel
theorem dX12_fill_65 : decode cX12_fill 65 = .ok (.imul, 1) := by decide +kernel
theorem dX12_fill_66 : decode cX12_fill 66 = .ok (.iload_n 2, 1) := by decide +kernel
theorem dX12_fill_67 : decode cX12_fill 67 = .ok (.iadd, 1) := by decide +kernel
theorem dX12_fill_68 : decode cX12_fill 68 = .ok (.iaload, 1) := by decide +kernel
theorem dX12_fill_69 : decode cX12_fill 69 = .ok (.istore_n 3, 1) := by decide +kernel
theorem dX12_fill_70 : decode cX12_fill 70 = .ok (.aload_n 0, 1) := by decide +kernel
theorem dX12_fill_71 : decode cX12_fill 71 = .ok (.getfield 154, 3) := by decide +kernel
theorem dX12_fill_74 : decode cX12_fill 74 = .ok (.bipush 16, 2) := by decide +kernel
theorem dX12_fill_76 : decode cX12_fill 76 = .ok (.iload_n 1, 1) := by decide +kernel
theorem dX12_fill_77 : decode cX12_fill 77 = .ok (.imul, 1) := by decide +kernel
theorem dX12_fill_78 : decode cX12_fill 78 = .ok (.iload_n 2, 1) := by decide +kernel
theorem dX12_fill_79 : decode cX12_fill 79 = .ok (.iadd, 1) := by decide +kernel
theorem dX12_fill_80 : decode cX12_fill 80 = .ok (.iaload, 1) := by decide +kernel
theorem dX12_fill_81 : decode cX12_fill 81 = .ok (.istore 4, 2) := by decide +kernel
theorem dX12_fill_83 : decode cX12_fill 83 = .ok (.aload_n 0, 1) := by decide +kernel
theorem dX12_fill_84 : decode cX12_fill 84 = .ok (.getfield 148, 3) := by decide +kernel
theorem dX12_fill_87 : decode cX12_fill 87 = .ok (.bipush 16, 2) := by decide +kernel
theorem dX12_fill_89 : decode cX12_fill 89 = .ok (.iload_n 1, 1) := by decide +kernel
theorem dX12_fill_90 : decode cX12_fill 90 = .ok (.imul, 1) := by decide +kernel
theorem dX12_fill_91 : decode cX12_fill 91 = .ok (.iload_n 2, 1) := by decide +kernel
theorem dX12_fill_92 : decode cX12_fill 92 = .ok (.iadd, 1) := by decide +kernel
theorem dX12_fill_93 : decode cX12_fill 93 = .ok (.iaload, 1) := by decide +kernel
theorem dX12_fill_94 : decode cX12_fill 94 = .ok (.tableswitch 125 0 3 #[30, 53, 71, 96], 30) := by decide +kernel
theorem dX12_fill_124 : decode cX12_fill 124 = .ok (.aload_n 0, 1) := by decide +kernel
theorem dX12_fill_125 : decode cX12_fill 125 = .ok (.sipush 582, 3) := by decide +kernel
theorem dX12_fill_128 : decode cX12_fill 128 = .ok (.bipush 16, 2) := by decide +kernel
theorem dX12_fill_130 : decode cX12_fill 130 = .ok (.iload_n 3, 1) := by decide +kernel
theorem dX12_fill_131 : decode cX12_fill 131 = .ok (.imul, 1) := by decide +kernel
theorem dX12_fill_132 : decode cX12_fill 132 = .ok (.iload 4, 2) := by decide +kernel
theorem dX12_fill_134 : decode cX12_fill 134 = .ok (.iadd, 1) := by decide +kernel
theorem dX12_fill_135 : decode cX12_fill 135 = .ok (.iconst 0, 1) := by decide +kernel
theorem dX12_fill_136 : decode cX12_fill 136 = .ok (.iconst 0, 1) := by decide +kernel
theorem dX12_fill_137 : decode cX12_fill 137 = .ok (.bipush 64, 2) := by decide +kernel
theorem dX12_fill_139 : decode cX12_fill 139 = .ok (.iconst 4, 1) := by decide +kernel
theorem dX12_fill_140 : decode cX12_fill 140 = .ok (.iconst 1, 1) := by decide +kernel
theorem dX12_fill_141 : decode cX12_fill 141 = .ok (.invokevirtual 250, 3) := by decide +kernel
theorem dX12_fill_144 : decode cX12_fill 144 = .ok (.goto 107, 3) := by decide +kernel
theorem dX12_fill_147 : decode cX12_fill 147 = .ok (.aload_n 0, 1) := by decide +kernel
theorem dX12_fill_148 : decode cX12_fill 148 = .ok (.sipush 582, 3) := by decide +kernel
theorem dX12_fill_151 : decode cX12_fill 151 = .ok (.iload_n 3, 1) := by decide +kernel
theorem dX12_fill_152 : decode cX12_fill 152 = .ok (.iconst 0, 1) := by decide +kernel
theorem dX12_fill_153 : decode cX12_fill 153 = .ok (.iconst 0, 1) := by decide +kernel
theorem dX12_fill_154 : decode cX12_fill 154 = .ok (.bipush 64, 2) := by decide +kernel
theorem dX12_fill_156 : decode cX12_fill 156 = .ok (.bipush 6, 2) := by decide +kernel
theorem dX12_fill_158 : decode cX12_fill 158 = .ok (.iconst 1, 1) := by decide +kernel
theorem dX12_fill_159 : decode cX12_fill 159 = .ok (.invokevirtual 250, 3) := by decide +kernel
theorem dX12_fill_162 : decode cX12_fill 162 = .ok (.goto 89, 3) := by decide +kernel
theorem dX12_fill_165 : decode cX12_fill 165 = .ok (.aload_n 0, 1) := by decide +kernel
theorem dX12_fill_166 : decode cX12_fill 166 = .ok (.sipush 582, 3) := by decide +kernel
theorem dX12_fill_169 : decode cX12_fill 169 = .ok (.ldc_w 301, 3) := by decide +kernel
theorem dX12_fill_172 : decode cX12_fill 172 = .ok (.ldc_w 301, 3) := by decide +kernel
theorem dX12_fill_175 : decode cX12_fill 175 = .ok (.ldc_w 302, 3) := by decide +kernel
theorem dX12_fill_178 : decode cX12_fill 178 = .ok (.iload_n 3, 1) := by decide +kernel
theorem dX12_fill_179 : decode cX12_fill 179 = .ok (.bipush 64, 2) := by decide +kernel
theorem dX12_fill_181 : decode cX12_fill 181 = .ok (.ior, 1) := by decide +kernel
theorem dX12_fill_182 : decode cX12_fill 182 = .ok (.iconst 0, 1) := by decide +kernel
theorem dX12_fill_183 : decode cX12_fill 183 = .ok (.iconst 1, 1) := by decide +kernel
theorem dX12_fill_184 : decode cX12_fill 184 = .ok (.invokevirtual 250, 3) := by decide +kernel
theorem dX12_fill_187 : decode cX12_fill 187 = .ok (.goto 64, 3) := by decide +kernel
theorem dX12_fill_190 : decode cX12_fill 190 = .ok (.aload_n 0, 1) := by decide +kernel
theorem dX12_fill_191 : decode cX12_fill 191 = .ok (.sipush 582, 3) := by decide +kernel
theorem dX12_fill_194 : decode cX12_fill 194 = .ok (.bipush 8, 2) := by decide +kernel
theorem dX12_fill_196 : decode cX12_fill 196 = .ok (.iload_n 3, 1) := by decide +kernel
theorem dX12_fill_197 : decode cX12_fill 197 = .ok (.iadd, 1) := by decide +kernel
theorem dX12_fill_198 : decode cX12_fill 198 = .ok (.bipush 8, 2) := by decide +kernel
theorem dX12_fill_200 : decode cX12_fill 200 = .ok (.iload_n 3, 1) := by decide +kernel
theorem dX12_fill_201 : decode cX12_fill 201 = .ok (.iadd, 1) := by decide +kernel
theorem dX12_fill_202 : decode cX12_fill 202 = .ok (.bipush 8, 2) := by decide +kernel
theorem dX12_fill_204 : decode cX12_fill 204 = .ok (.iload_n 3, 1) := by decide +kernel
theorem dX12_fill_205 : decode cX12_fill 205 = .ok (.iadd, 1) := by decide +kernel
theorem dX12_fill_206 : decode cX12_fill 206 = .ok (.iload 4, 2) := by decide +kernel
theorem dX12_fill_208 : decode cX12_fill 208 = .ok (.iadd, 1) := by decide +kernel
theorem dX12_fill_209 : decode cX12_fill 209 = .ok (.bipush 96, 2) := by decide +kernel
theorem dX12_fill_211 : decode cX12_fill 211 = .ok (.iconst 0, 1) := by decide +kernel
theorem dX12_fill_212 : decode cX12_fill 212 = .ok (.iconst 1, 1) := by decide +kernel
theorem dX12_fill_213 : decode cX12_fill 213 = .ok (.invokevirtual 250, 3) := by decide +kernel
theorem dX12_fill_216 : decode cX12_fill 216 = .ok (.goto 35, 3) := by decide +kernel
theorem dX12_fill_219 : decode cX12_fill 219 = .ok (.aload_n 0, 1) := by decide +kernel
theorem dX12_fill_220 : decode cX12_fill 220 = .ok (.sipush 582, 3) := by decide +kernel
theorem dX12_fill_223 : decode cX12_fill 223 = .ok (.aload_n 0, 1) := by decide +kernel
theorem dX12_fill_224 : decode cX12_fill 224 = .ok (.getfield 46, 3) := by decide +kernel
theorem dX12_fill_227 : decode cX12_fill 227 = .ok (.iload_n 3, 1) := by decide +kernel
theorem dX12_fill_228 : decode cX12_fill 228 = .ok (.iaload, 1) := by decide +kernel
theorem dX12_fill_229 : decode cX12_fill 229 = .ok (.aload_n 0, 1) := by decide +kernel
theorem dX12_fill_230 : decode cX12_fill 230 = .ok (.getfield 46, 3) := by decide +kernel
theorem dX12_fill_233 : decode cX12_fill 233 = .ok (.iload_n 3, 1) := by decide +kernel
theorem dX12_fill_234 : decode cX12_fill 234 = .ok (.iaload, 1) := by decide +kernel
theorem dX12_fill_235 : decode cX12_fill 235 = .ok (.aload_n 0, 1) := by decide +kernel
theorem dX12_fill_236 : decode cX12_fill 236 = .ok (.getfield 49, 3) := by decide +kernel
theorem dX12_fill_239 : decode cX12_fill 239 = .ok (.iload_n 3, 1) := by decide +kernel
theorem dX12_fill_240 : decode cX12_fill 240 = .ok (.iaload, 1) := by decide +kernel
theorem dX12_fill_241 : decode cX12_fill 241 = .ok (.iload 4, 2) := by decide +kernel
theorem dX12_fill_243 : decode cX12_fill 243 = .ok (.bipush 64, 2) := by decide +kernel
theorem dX12_fill_245 : decode cX12_fill 245 = .ok (.ior, 1) := by decide +kernel
theorem dX12_fill_246 : decode cX12_fill 246 = .ok (.iconst 0, 1) := by decide +kernel
theorem dX12_fill_247 : decode cX12_fill 247 = .ok (.iconst 1, 1) := by decide +kernel
theorem dX12_fill_248 : decode cX12_fill 248 = .ok (.invokevirtual 250, 3) := by decide +kernel
theorem dX12_fill_251 : decode cX12_fill 251 = .ok (.aload_n 0, 1) := by decide +kernel
theorem dX12_fill_252 : decode cX12_fill 252 = .ok (.aload_n 0, 1) := by decide +kernel
theorem dX12_fill_253 : decode cX12_fill 253 = .ok (.getfield 43, 3) := by decide +kernel
theorem dX12_fill_256 : decode cX12_fill 256 = .ok (.iload_n 1, 1) := by decide +kernel
theorem dX12_fill_257 : decode cX12_fill 257 = .ok (.iaload, 1) := by decide +kernel
theorem dX12_fill_258 : decode cX12_fill 258 = .ok (.bipush 16, 2) := by decide +kernel
theorem dX12_fill_260 : decode cX12_fill 260 = .ok (.iload_n 2, 1) := by decide +kernel
theorem dX12_fill_261 : decode cX12_fill 261 = .ok (.imul, 1) := by decide +kernel
theorem dX12_fill_262 : decode cX12_fill 262 = .ok (.iadd, 1) := by decide +kernel
theorem dX12_fill_263 : decode cX12_fill 263 = .ok (.sipush 582, 3) := by decide +kernel
theorem dX12_fill_266 : decode cX12_fill 266 = .ok (.iconst 1, 1) := by decide +kernel
theorem dX12_fill_267 : decode cX12_fill 267 = .ok (.invokevirtual 303, 3) := by decide +kernel
theorem dX12_fill_270 : decode cX12_fill 270 = .ok (.iinc 2 1, 3) := by decide +kernel
theorem dX12_fill_273 : decode cX12_fill 273 = .ok (.goto (-225), 3) := by decide +kernel
theorem dX12_fill_276 : decode cX12_fill 276 = .ok (.return_, 1) := by decide +kernel
theorem dX12_starts_0 : decode cX12_starts 0 = .ok (.aload_n 0, 1) := by decide +kernel
theorem dX12_starts_1 : decode cX12_starts 1 = .ok (.getfield 166, 3) := by decide +kernel
theorem dX12_starts_4 : decode cX12_starts 4 = .ok (.iload_n 1, 1) := by decide +kernel
theorem dX12_starts_5 : decode cX12_starts 5 = .ok (.iaload, 1) := by decide +kernel
theorem dX12_starts_6 : decode cX12_starts 6 = .ok (.istore_n 2, 1) := by decide +kernel
theorem dX12_starts_7 : decode cX12_starts 7 = .ok (.bipush 8, 2) := by decide +kernel
theorem dX12_starts_9 : decode cX12_starts 9 = .ok (.iload_n 2, 1) := by decide +kernel
theorem dX12_starts_10 : decode cX12_starts 10 = .ok (.imul, 1) := by decide +kernel
theorem dX12_starts_11 : decode cX12_starts 11 = .ok (.aload_n 0, 1) := by decide +kernel
theorem dX12_starts_12 : decode cX12_starts 12 = .ok (.getfield 169, 3) := by decide +kernel
theorem dX12_starts_15 : decode cX12_starts 15 = .ok (.iload_n 1, 1) := by decide +kernel
theorem dX12_starts_16 : decode cX12_starts 16 = .ok (.iaload, 1) := by decide +kernel
theorem dX12_starts_17 : decode cX12_starts 17 = .ok (.iadd, 1) := by decide +kernel
theorem dX12_starts_18 : decode cX12_starts 18 = .ok (.istore_n 3, 1) := by decide +kernel
theorem dX12_starts_19 : decode cX12_starts 19 = .ok (.aload_n 0, 1) := by decide +kernel
theorem dX12_starts_20 : decode cX12_starts 20 = .ok (.getfield 61, 3) := by decide +kernel
theorem dX12_starts_23 : decode cX12_starts 23 = .ok (.iload_n 1, 1) := by decide +kernel
theorem dX12_starts_24 : decode cX12_starts 24 = .ok (.iconst 0, 1) := by decide +kernel
theorem dX12_starts_25 : decode cX12_starts 25 = .ok (.iastore, 1) := by decide +kernel
theorem dX12_starts_26 : decode cX12_starts 26 = .ok (.aload_n 0, 1) := by decide +kernel
theorem dX12_starts_27 : decode cX12_starts 27 = .ok (.getfield 64, 3) := by decide +kernel
theorem dX12_starts_30 : decode cX12_starts 30 = .ok (.iload_n 1, 1) := by decide +kernel
theorem dX12_starts_31 : decode cX12_starts 31 = .ok (.iconst (-1), 1) := by decide +kernel
theorem dX12_starts_32 : decode cX12_starts 32 = .ok (.iastore, 1) := by decide +kernel
theorem dX12_starts_33 : decode cX12_starts 33 = .ok (.aload_n 0, 1) := by decide +kernel
theorem dX12_starts_34 : decode cX12_starts 34 = .ok (.getfield 67, 3) := by decide +kernel
theorem dX12_starts_37 : decode cX12_starts 37 = .ok (.iload_n 1, 1) := by decide +kernel
theorem dX12_starts_38 : decode cX12_starts 38 = .ok (.iload_n 2, 1) := by decide +kernel
theorem dX12_starts_39 : decode cX12_starts 39 = .ok (.iastore, 1) := by decide +kernel
theorem dX12_starts_40 : decode cX12_starts 40 = .ok (.aload_n 0, 1) := by decide +kernel
theorem dX12_starts_41 : decode cX12_starts 41 = .ok (.getfield 70, 3) := by decide +kernel
theorem dX12_starts_44 : decode cX12_starts 44 = .ok (.iload_n 1, 1) := by decide +kernel
theorem dX12_starts_45 : decode cX12_starts 45 = .ok (.iconst 0, 1) := by decide +kernel
theorem dX12_starts_46 : decode cX12_starts 46 = .ok (.iastore, 1) := by decide +kernel
theorem dX12_starts_47 : decode cX12_starts 47 = .ok (.aload_n 0, 1) := by decide +kernel
theorem dX12_starts_48 : decode cX12_starts 48 = .ok (.getfield 76, 3) := by decide +kernel
theorem dX12_starts_51 : decode cX12_starts 51 = .ok (.iload_n 1, 1) := by decide +kernel
theorem dX12_starts_52 : decode cX12_starts 52 = .ok (.aload_n 0, 1) := by decide +kernel
theorem dX12_starts_53 : decode cX12_starts 53 = .ok (.getfield 58, 3) := by decide +kernel
theorem dX12_starts_56 : decode cX12_starts 56 = .ok (.iload_n 3, 1) := by decide +kernel
theorem dX12_starts_57 : decode cX12_starts 57 = .ok (.iaload, 1) := by decide +kernel
theorem dX12_starts_58 : decode cX12_starts 58 = .ok (.iconst 2, 1) := by decide +kernel
theorem dX12_starts_59 : decode cX12_starts 59 = .ok (.if_icmp .eq 7, 3) := by decide +kernel
theorem dX12_starts_62 : decode cX12_starts 62 = .ok (.iconst 1, 1) := by decide +kernel
theorem dX12_starts_63 : decode cX12_starts 63 = .ok (.goto 4, 3) := by decide +kernel
theorem dX12_starts_66 : decode cX12_starts 66 = .ok (.iconst 0, 1) := by decide +kernel
theorem dX12_starts_67 : decode cX12_starts 67 = .ok (.bastore, 1) := by decide +kernel
theorem dX12_starts_68 : decode cX12_starts 68 = .ok (.aload_n 0, 1) := by decide +kernel
theorem dX12_starts_69 : decode cX12_starts 69 = .ok (.getfield 79, 3) := by decide +kernel
theorem dX12_starts_72 : decode cX12_starts 72 = .ok (.iload_n 1, 1) := by decide +kernel
theorem dX12_starts_73 : decode cX12_starts 73 = .ok (.iconst 0, 1) := by decide +kernel
theorem dX12_starts_74 : decode cX12_starts 74 = .ok (.iastore, 1) := by decide +kernel
theorem dX12_starts_75 : decode cX12_starts 75 = .ok (.aload_n 0, 1) := by decide +kernel
theorem dX12_starts_76 : decode cX12_starts 76 = .ok (.getfield 82, 3) := by decide +kernel
theorem dX12_starts_79 : decode cX12_starts 79 = .ok (.iload_n 1, 1) := by decide +kernel
theorem dX12_starts_80 : decode cX12_starts 80 = .ok (.iconst 0, 1) := by decide +kernel
theorem dX12_starts_81 : decode cX12_starts 81 = .ok (.iastore, 1) := by decide +kernel
theorem dX12_starts_82 : decode cX12_starts 82 = .ok (.aload_n 0, 1) := by decide +kernel
theorem dX12_starts_83 : decode cX12_starts 83 = .ok (.getfield 94, 3) := by decide +kernel
theorem dX12_starts_86 : decode cX12_starts 86 = .ok (.iload_n 1, 1) := by decide +kernel
theorem dX12_starts_87 : decode cX12_starts 87 = .ok (.aload_n 0, 1) := by decide +kernel
theorem dX12_starts_88 : decode cX12_starts 88 = .ok (.getfield 91, 3) := by decide +kernel
theorem dX12_starts_91 : decode cX12_starts 91 = .ok (.iload_n 1, 1) := by decide +kernel
theorem dX12_starts_92 : decode cX12_starts 92 = .ok (.iaload, 1) := by decide +kernel
theorem dX12_starts_93 : decode cX12_starts 93 = .ok (.iastore, 1) := by decide +kernel
theorem dX12_starts_94 : decode cX12_starts 94 = .ok (.aload_n 0, 1) := by decide +kernel
theorem dX12_starts_95 : decode cX12_starts 95 = .ok (.getfield 97, 3) := by decide +kernel
theorem dX12_starts_98 : decode cX12_starts 98 = .ok (.iload_n 1, 1) := by decide +kernel
theorem dX12_starts_99 : decode cX12_starts 99 = .ok (.iconst 0, 1) := by decide +kernel
theorem dX12_starts_100 : decode cX12_starts 100 = .ok (.iastore, 1) := by decide +kernel
theorem dX12_starts_101 : decode cX12_starts 101 = .ok (.aload_n 0, 1) := by decide +kernel
theorem dX12_starts_102 : decode cX12_starts 102 = .ok (.getfield 100, 3) := by decide +kernel
theorem dX12_starts_105 : decode cX12_starts 105 = .ok (.iload_n 1, 1) := by decide +kernel
theorem dX12_starts_106 : decode cX12_starts 106 = .ok (.iconst 0, 1) := by decide +kernel
theorem dX12_starts_107 : decode cX12_starts 107 = .ok (.iastore, 1) := by decide +kernel
theorem dX12_starts_108 : decode cX12_starts 108 = .ok (.aload_n 0, 1) := by decide +kernel
theorem dX12_starts_109 : decode cX12_starts 109 = .ok (.getfield 109, 3) := by decide +kernel
theorem dX12_starts_112 : decode cX12_starts 112 = .ok (.iload_n 1, 1) := by decide +kernel
theorem dX12_starts_113 : decode cX12_starts 113 = .ok (.iconst 0, 1) := by decide +kernel
theorem dX12_starts_114 : decode cX12_starts 114 = .ok (.iastore, 1) := by decide +kernel
theorem dX12_starts_115 : decode cX12_starts 115 = .ok (.aload_n 0, 1) := by decide +kernel
theorem dX12_starts_116 : decode cX12_starts 116 = .ok (.iload_n 2, 1) := by decide +kernel
theorem dX12_starts_117 : decode cX12_starts 117 = .ok (.aload_n 0, 1) := by decide +kernel
theorem dX12_starts_118 : decode cX12_starts 118 = .ok (.getfield 55, 3) := by decide +kernel
theorem dX12_starts_121 : decode cX12_starts 121 = .ok (.iload_n 3, 1) := by decide +kernel
theorem dX12_starts_122 : decode cX12_starts 122 = .ok (.iaload, 1) := by decide +kernel
theorem dX12_starts_123 : decode cX12_starts 123 = .ok (.iload_n 1, 1) := by decide +kernel
theorem dX12_starts_124 : decode cX12_starts 124 = .ok (.bipush 16, 2) := by decide +kernel
theorem dX12_starts_126 : decode cX12_starts 126 = .ok (.invokestatic 307, 3) := by decide +kernel
theorem dX12_starts_129 : decode cX12_starts 129 = .ok (.invokevirtual 310, 3) := by decide +kernel
theorem dX12_starts_132 : decode cX12_starts 132 = .ok (.aload_n 0, 1) := by decide +kernel
theorem dX12_starts_133 : decode cX12_starts 133 = .ok (.iload_n 1, 1) := by decide +kernel
theorem dX12_starts_134 : decode cX12_starts 134 = .ok (.iconst 1, 1) := by decide +kernel
theorem dX12_starts_135 : decode cX12_starts 135 = .ok (.invokestatic 307, 3) := by decide +kernel
theorem dX12_starts_138 : decode cX12_starts 138 = .ok (.iconst 0, 1) := by decide +kernel
theorem dX12_starts_139 : decode cX12_starts 139 = .ok (.iconst 0, 1) := by decide +kernel
theorem dX12_starts_140 : decode cX12_starts 140 = .ok (.iconst 0, 1) := by decide +kernel
theorem dX12_starts_141 : decode cX12_starts 141 = .ok (.iconst 0, 1) := by decide +kernel
theorem dX12_starts_142 : decode cX12_starts 142 = .ok (.iconst 5, 1) := by decide +kernel
theorem dX12_starts_143 : decode cX12_starts 143 = .ok (.iconst 1, 1) := by decide +kernel
theorem dX12_starts_144 : decode cX12_starts 144 = .ok (.invokevirtual 250, 3) := by decide +kernel
theorem dX12_starts_147 : decode cX12_starts 147 = .ok (.aload_n 0, 1) := by decide +kernel
theorem dX12_starts_148 : decode cX12_starts 148 = .ok (.iload_n 1, 1) := by decide +kernel
theorem dX12_starts_149 : decode cX12_starts 149 = .ok (.aload_n 0, 1) := by decide +kernel
theorem dX12_starts_150 : decode cX12_starts 150 = .ok (.getfield 91, 3) := by decide +kernel
theorem dX12_starts_153 : decode cX12_starts 153 = .ok (.iload_n 1, 1) := by decide +kernel
theorem dX12_starts_154 : decode cX12_starts 154 = .ok (.iaload, 1) := by decide +kernel
theorem dX12_starts_155 : decode cX12_starts 155 = .ok (.iload_n 1, 1) := by decide +kernel
theorem dX12_starts_156 : decode cX12_starts 156 = .ok (.iconst 2, 1) := by decide +kernel
theorem dX12_starts_157 : decode cX12_starts 157 = .ok (.invokestatic 307, 3) := by decide +kernel
theorem dX12_starts_160 : decode cX12_starts 160 = .ok (.invokevirtual 313, 3) := by decide +kernel
theorem dX12_starts_163 : decode cX12_starts 163 = .ok (.aload_n 0, 1) := by decide +kernel
theorem dX12_starts_164 : decode cX12_starts 164 = .ok (.iload_n 2, 1) := by decide +kernel
theorem dX12_starts_165 : decode cX12_starts 165 = .ok (.iload_n 1, 1) := by decide +kernel
theorem dX12_starts_166 : decode cX12_starts 166 = .ok (.iconst 3, 1) := by decide +kernel
theorem dX12_starts_167 : decode cX12_starts 167 = .ok (.invokestatic 307, 3) := by decide +kernel
theorem dX12_starts_170 : decode cX12_starts 170 = .ok (.invokevirtual 316, 3) := by decide +kernel
theorem dX12_starts_173 : decode cX12_starts 173 = .ok (.return_, 1) := by decide +kernel
theorem dX12_boot_0 : decode cX12_boot 0 = .ok (.iload_n 1, 1) := by decide +kernel
theorem dX12_boot_1 : decode cX12_boot 1 = .ok (.ifCond .lt 11, 3) := by decide +kernel
theorem dX12_boot_4 : decode cX12_boot 4 = .ok (.iload_n 1, 1) := by decide +kernel
theorem dX12_boot_5 : decode cX12_boot 5 = .ok (.aload_n 0, 1) := by decide +kernel
theorem dX12_boot_6 : decode cX12_boot 6 = .ok (.getfield 272, 3) := by decide +kernel
theorem dX12_boot_9 : decode cX12_boot 9 = .ok (.if_icmp .le 5, 3) := by decide +kernel
theorem dX12_boot_12 : decode cX12_boot 12 = .ok (.iconst (-1), 1) := by decide +kernel
theorem dX12_boot_13 : decode cX12_boot 13 = .ok (.ireturn, 1) := by decide +kernel
theorem dX12_boot_14 : decode cX12_boot 14 = .ok (.iconst 0, 1) := by decide +kernel
theorem dX12_boot_15 : decode cX12_boot 15 = .ok (.istore_n 2, 1) := by decide +kernel
theorem dX12_boot_16 : decode cX12_boot 16 = .ok (.iload_n 2, 1) := by decide +kernel
theorem dX12_boot_17 : decode cX12_boot 17 = .ok (.iload_n 1, 1) := by decide +kernel
theorem dX12_boot_18 : decode cX12_boot 18 = .ok (.if_icmp .ge 21, 3) := by decide +kernel
theorem dX12_boot_21 : decode cX12_boot 21 = .ok (.aload_n 0, 1) := by decide +kernel
theorem dX12_boot_22 : decode cX12_boot 22 = .ok (.getfield 33, 3) := by decide +kernel
theorem dX12_boot_25 : decode cX12_boot 25 = .ok (.iload_n 2, 1) := by decide +kernel
theorem dX12_boot_26 : decode cX12_boot 26 = .ok (.aload_n 0, 1) := by decide +kernel
theorem dX12_boot_27 : decode cX12_boot 27 = .ok (.getfield 29, 3) := by decide +kernel
theorem dX12_boot_30 : decode cX12_boot 30 = .ok (.iload_n 2, 1) := by decide +kernel
theorem dX12_boot_31 : decode cX12_boot 31 = .ok (.baload, 1) := by decide +kernel
theorem dX12_boot_32 : decode cX12_boot 32 = .ok (.bastore, 1) := by decide +kernel
theorem dX12_boot_33 : decode cX12_boot 33 = .ok (.iinc 2 1, 3) := by decide +kernel
theorem dX12_boot_36 : decode cX12_boot 36 = .ok (.goto (-20), 3) := by decide +kernel
theorem dX12_boot_39 : decode cX12_boot 39 = .ok (.aload_n 0, 1) := by decide +kernel
theorem dX12_boot_40 : decode cX12_boot 40 = .ok (.iconst 0, 1) := by decide +kernel
theorem dX12_boot_41 : decode cX12_boot 41 = .ok (.putfield 272, 3) := by decide +kernel
theorem dX12_boot_44 : decode cX12_boot 44 = .ok (.aload_n 0, 1) := by decide +kernel
theorem dX12_boot_45 : decode cX12_boot 45 = .ok (.iload_n 1, 1) := by decide +kernel
theorem dX12_boot_46 : decode cX12_boot 46 = .ok (.putfield 284, 3) := by decide +kernel
theorem dX12_boot_49 : decode cX12_boot 49 = .ok (.aload_n 0, 1) := by decide +kernel
theorem dX12_boot_50 : decode cX12_boot 50 = .ok (.invokevirtual 188, 3) := by decide +kernel
theorem dX12_boot_53 : decode cX12_boot 53 = .ok (.aload_n 0, 1) := by decide +kernel
theorem dX12_boot_54 : decode cX12_boot 54 = .ok (.iconst 0, 1) := by decide +kernel
theorem dX12_boot_55 : decode cX12_boot 55 = .ok (.putfield 278, 3) := by decide +kernel
theorem dX12_boot_58 : decode cX12_boot 58 = .ok (.aload_n 0, 1) := by decide +kernel
theorem dX12_boot_59 : decode cX12_boot 59 = .ok (.iconst (-1), 1) := by decide +kernel
theorem dX12_boot_60 : decode cX12_boot 60 = .ok (.putfield 36, 3) := by decide +kernel
theorem dX12_boot_63 : decode cX12_boot 63 = .ok (.aload_n 0, 1) := by decide +kernel
theorem dX12_boot_64 : decode cX12_boot 64 = .ok (.invokevirtual 319, 3) := by decide +kernel
theorem dX12_boot_67 : decode cX12_boot 67 = .ok (.aload_n 0, 1) := by decide +kernel
theorem dX12_boot_68 : decode cX12_boot 68 = .ok (.getfield 278, 3) := by decide +kernel
theorem dX12_boot_71 : decode cX12_boot 71 = .ok (.ifCond .eq 24, 3) := by decide +kernel
theorem dX12_boot_74 : decode cX12_boot 74 = .ok (.aload_n 0, 1) := by decide +kernel
theorem dX12_boot_75 : decode cX12_boot 75 = .ok (.getfield 278, 3) := by decide +kernel
theorem dX12_boot_78 : decode cX12_boot 78 = .ok (.istore_n 2, 1) := by decide +kernel
theorem dX12_boot_79 : decode cX12_boot 79 = .ok (.aload_n 0, 1) := by decide +kernel
theorem dX12_boot_80 : decode cX12_boot 80 = .ok (.getfield 36, 3) := by decide +kernel
theorem dX12_boot_83 : decode cX12_boot 83 = .ok (.istore_n 3, 1) := by decide +kernel
theorem dX12_boot_84 : decode cX12_boot 84 = .ok (.aload_n 0, 1) := by decide +kernel
theorem dX12_boot_85 : decode cX12_boot 85 = .ok (.invokevirtual 188, 3) := by decide +kernel
theorem dX12_boot_88 : decode cX12_boot 88 = .ok (.aload_n 0, 1) := by decide +kernel
theorem dX12_boot_89 : decode cX12_boot 89 = .ok (.iload_n 3, 1) := by decide +kernel
theorem dX12_boot_90 : decode cX12_boot 90 = .ok (.putfield 36, 3) := by decide +kernel
theorem dX12_boot_93 : decode cX12_boot 93 = .ok (.iload_n 2, 1) := by decide +kernel
theorem dX12_boot_94 : decode cX12_boot 94 = .ok (.ireturn, 1) := by decide +kernel
theorem dX12_boot_95 : decode cX12_boot 95 = .ok (.iconst 0, 1) := by decide +kernel
theorem dX12_boot_96 : decode cX12_boot 96 = .ok (.istore_n 2, 1) := by decide +kernel
theorem dX12_boot_97 : decode cX12_boot 97 = .ok (.iload_n 2, 1) := by decide +kernel
theorem dX12_boot_98 : decode cX12_boot 98 = .ok (.aload_n 0, 1) := by decide +kernel
theorem dX12_boot_99 : decode cX12_boot 99 = .ok (.getfield 195, 3) := by decide +kernel
theorem dX12_boot_102 : decode cX12_boot 102 = .ok (.if_icmp .ge 14, 3) := by decide +kernel
theorem dX12_boot_105 : decode cX12_boot 105 = .ok (.aload_n 0, 1) := by decide +kernel
theorem dX12_boot_106 : decode cX12_boot 106 = .ok (.iload_n 2, 1) := by decide +kernel
theorem dX12_boot_107 : decode cX12_boot 107 = .ok (.invokevirtual 322, 3) := by decide +kernel
theorem dX12_boot_110 : decode cX12_boot 110 = .ok (.iinc 2 1, 3) := by decide +kernel
theorem dX12_boot_113 : decode cX12_boot 113 = .ok (.goto (-16), 3) := by decide +kernel
theorem dX12_boot_116 : decode cX12_boot 116 = .ok (.iconst 0, 1) := by decide +kernel
theorem dX12_boot_117 : decode cX12_boot 117 = .ok (.istore_n 2, 1) := by decide +kernel
theorem dX12_boot_118 : decode cX12_boot 118 = .ok (.iload_n 2, 1) := by decide +kernel
theorem dX12_boot_119 : decode cX12_boot 119 = .ok (.aload_n 0, 1) := by decide +kernel
theorem dX12_boot_120 : decode cX12_boot 120 = .ok (.getfield 198, 3) := by decide +kernel
theorem dX12_boot_123 : decode cX12_boot 123 = .ok (.if_icmp .ge 14, 3) := by decide +kernel
theorem dX12_boot_126 : decode cX12_boot 126 = .ok (.aload_n 0, 1) := by decide +kernel
theorem dX12_boot_127 : decode cX12_boot 127 = .ok (.iload_n 2, 1) := by decide +kernel
theorem dX12_boot_128 : decode cX12_boot 128 = .ok (.invokevirtual 325, 3) := by decide +kernel
theorem dX12_boot_131 : decode cX12_boot 131 = .ok (.iinc 2 1, 3) := by decide +kernel
theorem dX12_boot_134 : decode cX12_boot 134 = .ok (.goto (-16), 3) := by decide +kernel
theorem dX12_boot_137 : decode cX12_boot 137 = .ok (.aload_n 0, 1) := by decide +kernel
theorem dX12_boot_138 : decode cX12_boot 138 = .ok (.iconst 1, 1) := by decide +kernel
theorem dX12_boot_139 : decode cX12_boot 139 = .ok (.putfield 191, 3) := by decide +kernel
theorem dX12_boot_142 : decode cX12_boot 142 = .ok (.iconst 0, 1) := by decide +kernel
theorem dX12_boot_143 : decode cX12_boot 143 = .ok (.ireturn, 1) := by decide +kernel
theorem dX12_place_0 : decode cX12_place 0 = .ok (.aload_n 0, 1) := by decide +kernel
theorem dX12_place_1 : decode cX12_place 1 = .ok (.getfield 36, 3) := by decide +kernel
theorem dX12_place_4 : decode cX12_place 4 = .ok (.ireturn, 1) := by decide +kernel
theorem dX12_d_0 : decode cX12_d 0 = .ok (.aload_n 0, 1) := by decide +kernel
theorem dX12_d_1 : decode cX12_d 1 = .ok (.getfield 328, 3) := by decide +kernel
theorem dX12_d_4 : decode cX12_d 4 = .ok (.bipush 7, 2) := by decide +kernel
theorem dX12_d_6 : decode cX12_d 6 = .ok (.ishr, 1) := by decide +kernel
theorem dX12_d_7 : decode cX12_d 7 = .ok (.bipush 31, 2) := by decide +kernel
theorem dX12_d_9 : decode cX12_d 9 = .ok (.iand, 1) := by decide +kernel
theorem dX12_d_10 : decode cX12_d 10 = .ok (.ireturn, 1) := by decide +kernel
theorem dX12_f_0 : decode cX12_f 0 = .ok (.aload_n 0, 1) := by decide +kernel
theorem dX12_f_1 : decode cX12_f 1 = .ok (.getfield 328, 3) := by decide +kernel
theorem dX12_f_4 : decode cX12_f 4 = .ok (.bipush 12, 2) := by decide +kernel
theorem dX12_f_6 : decode cX12_f 6 = .ok (.ishr, 1) := by decide +kernel
theorem dX12_f_7 : decode cX12_f 7 = .ok (.bipush 7, 2) := by decide +kernel
theorem dX12_f_9 : decode cX12_f 9 = .ok (.iand, 1) := by decide +kernel
theorem dX12_f_10 : decode cX12_f 10 = .ok (.ireturn, 1) := by decide +kernel
theorem dX12_a_0 : decode cX12_a 0 = .ok (.aload_n 0, 1) := by decide +kernel
theorem dX12_a_1 : decode cX12_a 1 = .ok (.getfield 328, 3) := by decide +kernel
theorem dX12_a_4 : decode cX12_a 4 = .ok (.bipush 15, 2) := by decide +kernel
theorem dX12_a_6 : decode cX12_a 6 = .ok (.ishr, 1) := by decide +kernel
theorem dX12_a_7 : decode cX12_a 7 = .ok (.bipush 31, 2) := by decide +kernel
theorem dX12_a_9 : decode cX12_a 9 = .ok (.iand, 1) := by decide +kernel
theorem dX12_a_10 : decode cX12_a 10 = .ok (.ireturn, 1) := by decide +kernel
theorem dX12_b_0 : decode cX12_b 0 = .ok (.aload_n 0, 1) := by decide +kernel
theorem dX12_b_1 : decode cX12_b 1 = .ok (.getfield 328, 3) := by decide +kernel
theorem dX12_b_4 : decode cX12_b 4 = .ok (.bipush 20, 2) := by decide +kernel
theorem dX12_b_6 : decode cX12_b 6 = .ok (.ishr, 1) := by decide +kernel
theorem dX12_b_7 : decode cX12_b 7 = .ok (.bipush 31, 2) := by decide +kernel
theorem dX12_b_9 : decode cX12_b 9 = .ok (.iand, 1) := by decide +kernel
theorem dX12_b_10 : decode cX12_b 10 = .ok (.ireturn, 1) := by decide +kernel
theorem dX12_g_0 : decode cX12_g 0 = .ok (.aload_n 0, 1) := by decide +kernel
theorem dX12_g_1 : decode cX12_g 1 = .ok (.getfield 328, 3) := by decide +kernel
theorem dX12_g_4 : decode cX12_g 4 = .ok (.bipush 25, 2) := by decide +kernel
theorem dX12_g_6 : decode cX12_g 6 = .ok (.ishr, 1) := by decide +kernel
theorem dX12_g_7 : decode cX12_g 7 = .ok (.bipush 127, 2) := by decide +kernel
theorem dX12_g_9 : decode cX12_g 9 = .ok (.iand, 1) := by decide +kernel
theorem dX12_g_10 : decode cX12_g 10 = .ok (.ireturn, 1) := by decide +kernel
theorem dX12_value_0 : decode cX12_value 0 = .ok (.aload_n 0, 1) := by decide +kernel
theorem dX12_value_1 : decode cX12_value 1 = .ok (.getfield 7, 3) := by decide +kernel
theorem dX12_value_4 : decode cX12_value 4 = .ok (.aload_n 0, 1) := by decide +kernel
theorem dX12_value_5 : decode cX12_value 5 = .ok (.getfield 330, 3) := by decide +kernel
theorem dX12_value_8 : decode cX12_value 8 = .ok (.iload_n 1, 1) := by decide +kernel
theorem dX12_value_9 : decode cX12_value 9 = .ok (.invokestatic 307, 3) := by decide +kernel
theorem dX12_value_12 : decode cX12_value 12 = .ok (.iaload, 1) := by decide +kernel
theorem dX12_value_13 : decode cX12_value 13 = .ok (.ireturn, 1) := by decide +kernel
theorem dX12_writes_0 : decode cX12_writes 0 = .ok (.iload_n 1, 1) := by decide +kernel
theorem dX12_writes_1 : decode cX12_writes 1 = .ok (.ifCond .eq 16, 3) := by decide +kernel
theorem dX12_writes_4 : decode cX12_writes 4 = .ok (.aload_n 0, 1) := by decide +kernel
theorem dX12_writes_5 : decode cX12_writes 5 = .ok (.aload_n 0, 1) := by decide +kernel
theorem dX12_writes_6 : decode cX12_writes 6 = .ok (.getfield 330, 3) := by decide +kernel
theorem dX12_writes_9 : decode cX12_writes 9 = .ok (.iload_n 1, 1) := by decide +kernel
theorem dX12_writes_10 : decode cX12_writes 10 = .ok (.invokestatic 307, 3) := by decide +kernel
theorem dX12_writes_13 : decode cX12_writes 13 = .ok (.iload_n 2, 1) := by decide +kernel
theorem dX12_writes_14 : decode cX12_writes 14 = .ok (.invokevirtual 333, 3) := by decide +kernel
theorem dX12_writes_17 : decode cX12_writes 17 = .ok (.return_, 1) := by decide +kernel
theorem dX12_comes_0 : decode cX12_comes 0 = .ok (.iload_n 2, 1) := by decide +kernel
theorem dX12_comes_1 : decode cX12_comes 1 = .ok (.ifCond .eq 16, 3) := by decide +kernel
theorem dX12_comes_4 : decode cX12_comes 4 = .ok (.aload_n 0, 1) := by decide +kernel
theorem dX12_comes_5 : decode cX12_comes 5 = .ok (.iload_n 1, 1) := by decide +kernel
theorem dX12_comes_6 : decode cX12_comes 6 = .ok (.aload_n 0, 1) := by decide +kernel
theorem dX12_comes_7 : decode cX12_comes 7 = .ok (.getfield 330, 3) := by decide +kernel
theorem dX12_comes_10 : decode cX12_comes 10 = .ok (.iload_n 2, 1) := by decide +kernel
theorem dX12_comes_11 : decode cX12_comes 11 = .ok (.invokestatic 307, 3) := by decide +kernel
theorem dX12_comes_14 : decode cX12_comes 14 = .ok (.invokevirtual 336, 3) := by decide +kernel
theorem dX12_comes_17 : decode cX12_comes 17 = .ok (.return_, 1) := by decide +kernel
theorem dX12_pcc_0 : decode cX12_pcc 0 = .ok (.aload_n 0, 1) := by decide +kernel
theorem dX12_pcc_1 : decode cX12_pcc 1 = .ok (.getfield 330, 3) := by decide +kernel
theorem dX12_pcc_4 : decode cX12_pcc 4 = .ok (.bipush 16, 2) := by decide +kernel
theorem dX12_pcc_6 : decode cX12_pcc 6 = .ok (.invokestatic 307, 3) := by decide +kernel
theorem dX12_pcc_9 : decode cX12_pcc 9 = .ok (.ireturn, 1) := by decide +kernel
theorem dX12_goesOn_0 : decode cX12_goesOn 0 = .ok (.aload_n 0, 1) := by decide +kernel
theorem dX12_goesOn_1 : decode cX12_goesOn 1 = .ok (.getfield 7, 3) := by decide +kernel
theorem dX12_goesOn_4 : decode cX12_goesOn 4 = .ok (.aload_n 0, 1) := by decide +kernel
theorem dX12_goesOn_5 : decode cX12_goesOn 5 = .ok (.invokevirtual 339, 3) := by decide +kernel
theorem dX12_goesOn_8 : decode cX12_goesOn 8 = .ok (.dup2, 1) := by decide +kernel
theorem dX12_goesOn_9 : decode cX12_goesOn 9 = .ok (.iaload, 1) := by decide +kernel
theorem dX12_goesOn_10 : decode cX12_goesOn 10 = .ok (.iconst 4, 1) := by decide +kernel
theorem dX12_goesOn_11 : decode cX12_goesOn 11 = .ok (.iadd, 1) := by decide +kernel
theorem dX12_goesOn_12 : decode cX12_goesOn 12 = .ok (.iastore, 1) := by decide +kernel
theorem dX12_goesOn_13 : decode cX12_goesOn 13 = .ok (.return_, 1) := by decide +kernel
theorem dX12_isRight_0 : decode cX12_isRight 0 = .ok (.aload_n 0, 1) := by decide +kernel
theorem dX12_isRight_1 : decode cX12_isRight 1 = .ok (.invokevirtual 343, 3) := by decide +kernel
theorem dX12_isRight_4 : decode cX12_isRight 4 = .ok (.istore_n 1, 1) := by decide +kernel
theorem dX12_isRight_5 : decode cX12_isRight 5 = .ok (.aload_n 0, 1) := by decide +kernel
theorem dX12_isRight_6 : decode cX12_isRight 6 = .ok (.invokevirtual 346, 3) := by decide +kernel
theorem dX12_isRight_9 : decode cX12_isRight 9 = .ok (.istore_n 2, 1) := by decide +kernel
theorem dX12_isRight_10 : decode cX12_isRight 10 = .ok (.aload_n 0, 1) := by decide +kernel
theorem dX12_isRight_11 : decode cX12_isRight 11 = .ok (.invokevirtual 349, 3) := by decide +kernel
theorem dX12_isRight_14 : decode cX12_isRight 14 = .ok (.istore_n 3, 1) := by decide +kernel
theorem dX12_isRight_15 : decode cX12_isRight 15 = .ok (.aload_n 0, 1) := by decide +kernel
theorem dX12_isRight_16 : decode cX12_isRight 16 = .ok (.invokevirtual 352, 3) := by decide +kernel
theorem dX12_isRight_19 : decode cX12_isRight 19 = .ok (.istore 4, 2) := by decide +kernel
theorem dX12_isRight_21 : decode cX12_isRight 21 = .ok (.aload_n 0, 1) := by decide +kernel
theorem dX12_isRight_22 : decode cX12_isRight 22 = .ok (.invokevirtual 355, 3) := by decide +kernel
theorem dX12_isRight_25 : decode cX12_isRight 25 = .ok (.istore 5, 2) := by decide +kernel
theorem dX12_isRight_27 : decode cX12_isRight 27 = .ok (.iload_n 1, 1) := by decide +kernel
theorem dX12_isRight_28 : decode cX12_isRight 28 = .ok (.bipush 16, 2) := by decide +kernel
theorem dX12_isRight_30 : decode cX12_isRight 30 = .ok (.if_icmp .ge 13, 3) := by decide +kernel
theorem dX12_isRight_33 : decode cX12_isRight 33 = .ok (.iload_n 2, 1) := by decide +kernel
theorem dX12_isRight_34 : decode cX12_isRight 34 = .ok (.bipush 16, 2) := by decide +kernel
theorem dX12_isRight_36 : decode cX12_isRight 36 = .ok (.if_icmp .ge 7, 3) := by decide +kernel
theorem dX12_isRight_39 : decode cX12_isRight 39 = .ok (.iconst 1, 1) := by decide +kernel
theorem dX12_isRight_40 : decode cX12_isRight 40 = .ok (.goto 4, 3) := by decide +kernel
theorem dX12_isRight_43 : decode cX12_isRight 43 = .ok (.iconst 0, 1) := by decide +kernel
theorem dX12_isRight_44 : decode cX12_isRight 44 = .ok (.istore 6, 2) := by decide +kernel
theorem dX12_isRight_46 : decode cX12_isRight 46 = .ok (.aload_n 0, 1) := by decide +kernel
theorem dX12_isRight_47 : decode cX12_isRight 47 = .ok (.getfield 328, 3) := by decide +kernel
theorem dX12_isRight_50 : decode cX12_isRight 50 = .ok (.bipush 127, 2) := by decide +kernel
theorem dX12_isRight_52 : decode cX12_isRight 52 = .ok (.iand, 1) := by decide +kernel
theorem dX12_isRight_53 : decode cX12_isRight 53 = .ok (.lookupswitch 334 #[(3, 214), (19, 133), (23, 91), (35, 232), (51, 173), (55, 91), (91, 256), (99, 103), (103, 318), (111, 91)], 91) := by decide +kernel
theorem dX12_isRight_144 : decode cX12_isRight 144 = .ok (.iload_n 1, 1) := by decide +kernel
theorem dX12_isRight_145 : decode cX12_isRight 145 = .ok (.bipush 16, 2) := by decide +kernel
theorem dX12_isRight_147 : decode cX12_isRight 147 = .ok (.if_icmp .ge 7, 3) := by decide +kernel
theorem dX12_isRight_150 : decode cX12_isRight 150 = .ok (.iconst 1, 1) := by decide +kernel
theorem dX12_isRight_151 : decode cX12_isRight 151 = .ok (.goto 4, 3) := by decide +kernel
theorem dX12_isRight_154 : decode cX12_isRight 154 = .ok (.iconst 0, 1) := by decide +kernel
theorem dX12_isRight_155 : decode cX12_isRight 155 = .ok (.ireturn, 1) := by decide +kernel
theorem dX12_isRight_156 : decode cX12_isRight 156 = .ok (.iload_n 2, 1) := by decide +kernel
theorem dX12_isRight_157 : decode cX12_isRight 157 = .ok (.bipush 16, 2) := by decide +kernel
theorem dX12_isRight_159 : decode cX12_isRight 159 = .ok (.if_icmp .ge 25, 3) := by decide +kernel
theorem dX12_isRight_162 : decode cX12_isRight 162 = .ok (.iload_n 3, 1) := by decide +kernel
theorem dX12_isRight_163 : decode cX12_isRight 163 = .ok (.bipush 16, 2) := by decide +kernel
theorem dX12_isRight_165 : decode cX12_isRight 165 = .ok (.if_icmp .ge 19, 3) := by decide +kernel
theorem dX12_isRight_168 : decode cX12_isRight 168 = .ok (.iload 4, 2) := by decide +kernel
theorem dX12_isRight_170 : decode cX12_isRight 170 = .ok (.iconst 2, 1) := by decide +kernel
theorem dX12_isRight_171 : decode cX12_isRight 171 = .ok (.if_icmp .eq 13, 3) := by decide +kernel
theorem dX12_isRight_174 : decode cX12_isRight 174 = .ok (.iload 4, 2) := by decide +kernel
theorem dX12_isRight_176 : decode cX12_isRight 176 = .ok (.iconst 3, 1) := by decide +kernel
theorem dX12_isRight_177 : decode cX12_isRight 177 = .ok (.if_icmp .eq 7, 3) := by decide +kernel
theorem dX12_isRight_180 : decode cX12_isRight 180 = .ok (.iconst 1, 1) := by decide +kernel
theorem dX12_isRight_181 : decode cX12_isRight 181 = .ok (.goto 4, 3) := by decide +kernel
theorem dX12_isRight_184 : decode cX12_isRight 184 = .ok (.iconst 0, 1) := by decide +kernel
theorem dX12_isRight_185 : decode cX12_isRight 185 = .ok (.ireturn, 1) := by decide +kernel
theorem dX12_isRight_186 : decode cX12_isRight 186 = .ok (.iload 6, 2) := by decide +kernel
theorem dX12_isRight_188 : decode cX12_isRight 188 = .ok (.ifCond .eq 36, 3) := by decide +kernel
theorem dX12_isRight_191 : decode cX12_isRight 191 = .ok (.iload 4, 2) := by decide +kernel
theorem dX12_isRight_193 : decode cX12_isRight 193 = .ok (.iconst 1, 1) := by decide +kernel
theorem dX12_isRight_194 : decode cX12_isRight 194 = .ok (.if_icmp .ne 8, 3) := by decide +kernel
theorem dX12_isRight_197 : decode cX12_isRight 197 = .ok (.iload 5, 2) := by decide +kernel
theorem dX12_isRight_199 : decode cX12_isRight 199 = .ok (.ifCond .ne 25, 3) := by decide +kernel
theorem dX12_isRight_202 : decode cX12_isRight 202 = .ok (.iload 4, 2) := by decide +kernel
theorem dX12_isRight_204 : decode cX12_isRight 204 = .ok (.iconst 5, 1) := by decide +kernel
theorem dX12_isRight_205 : decode cX12_isRight 205 = .ok (.if_icmp .ne 15, 3) := by decide +kernel
theorem dX12_isRight_208 : decode cX12_isRight 208 = .ok (.iload 5, 2) := by decide +kernel
theorem dX12_isRight_210 : decode cX12_isRight 210 = .ok (.ifCond .eq 10, 3) := by decide +kernel
theorem dX12_isRight_213 : decode cX12_isRight 213 = .ok (.iload 5, 2) := by decide +kernel
theorem dX12_isRight_215 : decode cX12_isRight 215 = .ok (.bipush 32, 2) := by decide +kernel
theorem dX12_isRight_217 : decode cX12_isRight 217 = .ok (.if_icmp .ne 7, 3) := by decide +kernel
theorem dX12_isRight_220 : decode cX12_isRight 220 = .ok (.iconst 1, 1) := by decide +kernel
theorem dX12_isRight_221 : decode cX12_isRight 221 = .ok (.goto 4, 3) := by decide +kernel
theorem dX12_isRight_224 : decode cX12_isRight 224 = .ok (.iconst 0, 1) := by decide +kernel
theorem dX12_isRight_225 : decode cX12_isRight 225 = .ok (.ireturn, 1) := by decide +kernel
theorem dX12_isRight_226 : decode cX12_isRight 226 = .ok (.iload 6, 2) := by decide +kernel
theorem dX12_isRight_228 : decode cX12_isRight 228 = .ok (.ifCond .eq 37, 3) := by decide +kernel
theorem dX12_isRight_231 : decode cX12_isRight 231 = .ok (.iload_n 3, 1) := by decide +kernel
theorem dX12_isRight_232 : decode cX12_isRight 232 = .ok (.bipush 16, 2) := by decide +kernel
theorem dX12_isRight_234 : decode cX12_isRight 234 = .ok (.if_icmp .ge 31, 3) := by decide +kernel
theorem dX12_isRight_237 : decode cX12_isRight 237 = .ok (.iload 5, 2) := by decide +kernel
theorem dX12_isRight_239 : decode cX12_isRight 239 = .ok (.iconst 2, 1) := by decide +kernel
theorem dX12_isRight_240 : decode cX12_isRight 240 = .ok (.if_icmp .lt 21, 3) := by decide +kernel
theorem dX12_isRight_243 : decode cX12_isRight 243 = .ok (.iload 5, 2) := by decide +kernel
theorem dX12_isRight_245 : decode cX12_isRight 245 = .ok (.bipush 32, 2) := by decide +kernel
theorem dX12_isRight_247 : decode cX12_isRight 247 = .ok (.if_icmp .ne 18, 3) := by decide +kernel
theorem dX12_isRight_250 : decode cX12_isRight 250 = .ok (.iload 4, 2) := by decide +kernel
theorem dX12_isRight_252 : decode cX12_isRight 252 = .ok (.ifCond .eq 9, 3) := by decide +kernel
theorem dX12_isRight_255 : decode cX12_isRight 255 = .ok (.iload 4, 2) := by decide +kernel
theorem dX12_isRight_257 : decode cX12_isRight 257 = .ok (.iconst 5, 1) := by decide +kernel
theorem dX12_isRight_258 : decode cX12_isRight 258 = .ok (.if_icmp .ne 7, 3) := by decide +kernel
theorem dX12_isRight_261 : decode cX12_isRight 261 = .ok (.iconst 1, 1) := by decide +kernel
theorem dX12_isRight_262 : decode cX12_isRight 262 = .ok (.goto 4, 3) := by decide +kernel
theorem dX12_isRight_265 : decode cX12_isRight 265 = .ok (.iconst 0, 1) := by decide +kernel
theorem dX12_isRight_266 : decode cX12_isRight 266 = .ok (.ireturn, 1) := by decide +kernel
theorem dX12_isRight_267 : decode cX12_isRight 267 = .ok (.iload 6, 2) := by decide +kernel
theorem dX12_isRight_269 : decode cX12_isRight 269 = .ok (.ifCond .eq 14, 3) := by decide +kernel
theorem dX12_isRight_272 : decode cX12_isRight 272 = .ok (.iload 4, 2) := by decide +kernel
theorem dX12_isRight_274 : decode cX12_isRight 274 = .ok (.bipush 6, 2) := by decide +kernel
theorem dX12_isRight_276 : decode cX12_isRight 276 = .ok (.if_icmp .ge 7, 3) := by decide +kernel
theorem dX12_isRight_279 : decode cX12_isRight 279 = .ok (.iconst 1, 1) := by decide +kernel
theorem dX12_isRight_280 : decode cX12_isRight 280 = .ok (.goto 4, 3) := by decide +kernel
theorem dX12_isRight_283 : decode cX12_isRight 283 = .ok (.iconst 0, 1) := by decide +kernel
theorem dX12_isRight_284 : decode cX12_isRight 284 = .ok (.ireturn, 1) := by decide +kernel
theorem dX12_isRight_285 : decode cX12_isRight 285 = .ok (.iload_n 2, 1) := by decide +kernel
theorem dX12_isRight_286 : decode cX12_isRight 286 = .ok (.bipush 16, 2) := by decide +kernel
theorem dX12_isRight_288 : decode cX12_isRight 288 = .ok (.if_icmp .ge 19, 3) := by decide +kernel
theorem dX12_isRight_291 : decode cX12_isRight 291 = .ok (.iload_n 3, 1) := by decide +kernel
theorem dX12_isRight_292 : decode cX12_isRight 292 = .ok (.bipush 16, 2) := by decide +kernel
theorem dX12_isRight_294 : decode cX12_isRight 294 = .ok (.if_icmp .ge 13, 3) := by decide +kernel
theorem dX12_isRight_297 : decode cX12_isRight 297 = .ok (.iload 4, 2) := by decide +kernel
theorem dX12_isRight_299 : decode cX12_isRight 299 = .ok (.iconst 4, 1) := by decide +kernel
theorem dX12_isRight_300 : decode cX12_isRight 300 = .ok (.if_icmp .ge 7, 3) := by decide +kernel
theorem dX12_isRight_303 : decode cX12_isRight 303 = .ok (.iconst 1, 1) := by decide +kernel
theorem dX12_isRight_304 : decode cX12_isRight 304 = .ok (.goto 4, 3) := by decide +kernel
theorem dX12_isRight_307 : decode cX12_isRight 307 = .ok (.iconst 0, 1) := by decide +kernel
theorem dX12_isRight_308 : decode cX12_isRight 308 = .ok (.ireturn, 1) := by decide +kernel
theorem dX12_isRight_309 : decode cX12_isRight 309 = .ok (.iload 6, 2) := by decide +kernel
theorem dX12_isRight_311 : decode cX12_isRight 311 = .ok (.ifCond .eq 9, 3) := by decide +kernel
theorem dX12_isRight_314 : decode cX12_isRight 314 = .ok (.iload 4, 2) := by decide +kernel
theorem dX12_isRight_316 : decode cX12_isRight 316 = .ok (.iconst 3, 1) := by decide +kernel
theorem dX12_isRight_317 : decode cX12_isRight 317 = .ok (.if_icmp .le 5, 3) := by decide +kernel
theorem dX12_isRight_320 : decode cX12_isRight 320 = .ok (.iconst 0, 1) := by decide +kernel
theorem dX12_isRight_321 : decode cX12_isRight 321 = .ok (.ireturn, 1) := by decide +kernel
theorem dX12_isRight_322 : decode cX12_isRight 322 = .ok (.iload 4, 2) := by decide +kernel
theorem dX12_isRight_324 : decode cX12_isRight 324 = .ok (.ifCond .ne 24, 3) := by decide +kernel
theorem dX12_isRight_327 : decode cX12_isRight 327 = .ok (.iload_n 3, 1) := by decide +kernel
theorem dX12_isRight_328 : decode cX12_isRight 328 = .ok (.bipush 16, 2) := by decide +kernel
theorem dX12_isRight_330 : decode cX12_isRight 330 = .ok (.if_icmp .ge 14, 3) := by decide +kernel
theorem dX12_isRight_333 : decode cX12_isRight 333 = .ok (.iload 5, 2) := by decide +kernel
theorem dX12_isRight_335 : decode cX12_isRight 335 = .ok (.bipush 8, 2) := by decide +kernel
theorem dX12_isRight_337 : decode cX12_isRight 337 = .ok (.if_icmp .ge 7, 3) := by decide +kernel
theorem dX12_isRight_340 : decode cX12_isRight 340 = .ok (.iconst 1, 1) := by decide +kernel
theorem dX12_isRight_341 : decode cX12_isRight 341 = .ok (.goto 29, 3) := by decide +kernel
theorem dX12_isRight_344 : decode cX12_isRight 344 = .ok (.iconst 0, 1) := by decide +kernel
theorem dX12_isRight_345 : decode cX12_isRight 345 = .ok (.goto 25, 3) := by decide +kernel
theorem dX12_isRight_348 : decode cX12_isRight 348 = .ok (.iload 4, 2) := by decide +kernel
theorem dX12_isRight_350 : decode cX12_isRight 350 = .ok (.iconst 1, 1) := by decide +kernel
theorem dX12_isRight_351 : decode cX12_isRight 351 = .ok (.if_icmp .gt 14, 3) := by decide +kernel
theorem dX12_isRight_354 : decode cX12_isRight 354 = .ok (.iload 5, 2) := by decide +kernel
theorem dX12_isRight_356 : decode cX12_isRight 356 = .ok (.ifCond .ne 13, 3) := by decide +kernel
theorem dX12_isRight_359 : decode cX12_isRight 359 = .ok (.iload_n 3, 1) := by decide +kernel
theorem dX12_isRight_360 : decode cX12_isRight 360 = .ok (.bipush 13, 2) := by decide +kernel
theorem dX12_isRight_362 : decode cX12_isRight 362 = .ok (.if_icmp .ge 7, 3) := by decide +kernel
theorem dX12_isRight_365 : decode cX12_isRight 365 = .ok (.iconst 1, 1) := by decide +kernel
theorem dX12_isRight_366 : decode cX12_isRight 366 = .ok (.goto 4, 3) := by decide +kernel
theorem dX12_isRight_369 : decode cX12_isRight 369 = .ok (.iconst 0, 1) := by decide +kernel
theorem dX12_isRight_370 : decode cX12_isRight 370 = .ok (.ireturn, 1) := by decide +kernel
theorem dX12_isRight_371 : decode cX12_isRight 371 = .ok (.iload 6, 2) := by decide +kernel
theorem dX12_isRight_373 : decode cX12_isRight 373 = .ok (.ifCond .eq 12, 3) := by decide +kernel
theorem dX12_isRight_376 : decode cX12_isRight 376 = .ok (.iload 4, 2) := by decide +kernel
theorem dX12_isRight_378 : decode cX12_isRight 378 = .ok (.ifCond .ne 7, 3) := by decide +kernel
theorem dX12_isRight_381 : decode cX12_isRight 381 = .ok (.iconst 1, 1) := by decide +kernel
theorem dX12_isRight_382 : decode cX12_isRight 382 = .ok (.goto 4, 3) := by decide +kernel
theorem dX12_isRight_385 : decode cX12_isRight 385 = .ok (.iconst 0, 1) := by decide +kernel
theorem dX12_isRight_386 : decode cX12_isRight 386 = .ok (.ireturn, 1) := by decide +kernel
theorem dX12_isRight_387 : decode cX12_isRight 387 = .ok (.iconst 0, 1) := by decide +kernel
theorem dX12_isRight_388 : decode cX12_isRight 388 = .ok (.ireturn, 1) := by decide +kernel
theorem dX12_does_0 : decode cX12_does 0 = .ok (.aload_n 0, 1) := by decide +kernel
theorem dX12_does_1 : decode cX12_does 1 = .ok (.invokevirtual 339, 3) := by decide +kernel
theorem dX12_does_4 : decode cX12_does 4 = .ok (.istore_n 1, 1) := by decide +kernel
theorem dX12_does_5 : decode cX12_does 5 = .ok (.aload_n 0, 1) := by decide +kernel
theorem dX12_does_6 : decode cX12_does 6 = .ok (.iload_n 1, 1) := by decide +kernel
theorem dX12_does_7 : decode cX12_does 7 = .ok (.iconst 4, 1) := by decide +kernel
theorem dX12_does_8 : decode cX12_does 8 = .ok (.aload_n 0, 1) := by decide +kernel
theorem dX12_does_9 : decode cX12_does 9 = .ok (.getfield 7, 3) := by decide +kernel
theorem dX12_does_12 : decode cX12_does 12 = .ok (.iload_n 1, 1) := by decide +kernel
theorem dX12_does_13 : decode cX12_does 13 = .ok (.iaload, 1) := by decide +kernel
theorem dX12_does_14 : decode cX12_does 14 = .ok (.iconst 4, 1) := by decide +kernel
theorem dX12_does_15 : decode cX12_does 15 = .ok (.invokevirtual 358, 3) := by decide +kernel
theorem dX12_does_18 : decode cX12_does 18 = .ok (.istore_n 2, 1) := by decide +kernel
theorem dX12_does_19 : decode cX12_does 19 = .ok (.iload_n 2, 1) := by decide +kernel
theorem dX12_does_20 : decode cX12_does 20 = .ok (.ifCond .eq 5, 3) := by decide +kernel
theorem dX12_does_23 : decode cX12_does 23 = .ok (.iload_n 2, 1) := by decide +kernel
theorem dX12_does_24 : decode cX12_does 24 = .ok (.ireturn, 1) := by decide +kernel
theorem dX12_does_25 : decode cX12_does 25 = .ok (.aload_n 0, 1) := by decide +kernel
theorem dX12_does_26 : decode cX12_does 26 = .ok (.aload_n 0, 1) := by decide +kernel
theorem dX12_does_27 : decode cX12_does 27 = .ok (.aload_n 0, 1) := by decide +kernel
theorem dX12_does_28 : decode cX12_does 28 = .ok (.getfield 7, 3) := by decide +kernel
theorem dX12_does_31 : decode cX12_does 31 = .ok (.iload_n 1, 1) := by decide +kernel
theorem dX12_does_32 : decode cX12_does 32 = .ok (.iaload, 1) := by decide +kernel
theorem dX12_does_33 : decode cX12_does 33 = .ok (.iconst 4, 1) := by decide +kernel
theorem dX12_does_34 : decode cX12_does 34 = .ok (.invokevirtual 264, 3) := by decide +kernel
theorem dX12_does_37 : decode cX12_does 37 = .ok (.putfield 328, 3) := by decide +kernel
theorem dX12_does_40 : decode cX12_does 40 = .ok (.aload_n 0, 1) := by decide +kernel
theorem dX12_does_41 : decode cX12_does 41 = .ok (.invokevirtual 362, 3) := by decide +kernel
theorem dX12_does_44 : decode cX12_does 44 = .ok (.ifCond .ne 6, 3) := by decide +kernel
theorem dX12_does_47 : decode cX12_does 47 = .ok (.bipush 6, 2) := by decide +kernel
theorem dX12_does_49 : decode cX12_does 49 = .ok (.ireturn, 1) := by decide +kernel
theorem dX12_does_50 : decode cX12_does 50 = .ok (.aload_n 0, 1) := by decide +kernel
theorem dX12_does_51 : decode cX12_does 51 = .ok (.getfield 328, 3) := by decide +kernel
theorem dX12_does_54 : decode cX12_does 54 = .ok (.bipush 20, 2) := by decide +kernel
theorem dX12_does_56 : decode cX12_does 56 = .ok (.ishr, 1) := by decide +kernel
theorem dX12_does_57 : decode cX12_does 57 = .ok (.istore_n 3, 1) := by decide +kernel
theorem dX12_does_58 : decode cX12_does 58 = .ok (.aload_n 0, 1) := by decide +kernel
theorem dX12_does_59 : decode cX12_does 59 = .ok (.getfield 328, 3) := by decide +kernel
theorem dX12_does_62 : decode cX12_does 62 = .ok (.bipush 127, 2) := by decide +kernel
theorem dX12_does_64 : decode cX12_does 64 = .ok (.iand, 1) := by decide +kernel
theorem dX12_does_65 : decode cX12_does 65 = .ok (.lookupswitch 569 #[(3, 515), (19, 319), (23, 105), (35, 530), (51, 394), (55, 83), (91, 558), (99, 225), (111, 149)], 83) := by decide +kernel
theorem dX12_does_148 : decode cX12_does 148 = .ok (.aload_n 0, 1) := by decide +kernel
theorem dX12_does_149 : decode cX12_does 149 = .ok (.aload_n 0, 1) := by decide +kernel
theorem dX12_does_150 : decode cX12_does 150 = .ok (.invokevirtual 343, 3) := by decide +kernel
theorem dX12_does_153 : decode cX12_does 153 = .ok (.aload_n 0, 1) := by decide +kernel
theorem dX12_does_154 : decode cX12_does 154 = .ok (.getfield 328, 3) := by decide +kernel
theorem dX12_does_157 : decode cX12_does 157 = .ok (.sipush (-4096), 3) := by decide +kernel
theorem dX12_does_160 : decode cX12_does 160 = .ok (.iand, 1) := by decide +kernel
theorem dX12_does_161 : decode cX12_does 161 = .ok (.invokevirtual 366, 3) := by decide +kernel
theorem dX12_does_164 : decode cX12_does 164 = .ok (.aload_n 0, 1) := by decide +kernel
theorem dX12_does_165 : decode cX12_does 165 = .ok (.invokevirtual 369, 3) := by decide +kernel
theorem dX12_does_168 : decode cX12_does 168 = .ok (.iconst 0, 1) := by decide +kernel
theorem dX12_does_169 : decode cX12_does 169 = .ok (.ireturn, 1) := by decide +kernel
theorem dX12_does_170 : decode cX12_does 170 = .ok (.aload_n 0, 1) := by decide +kernel
theorem dX12_does_171 : decode cX12_does 171 = .ok (.iload_n 1, 1) := by decide +kernel
theorem dX12_does_172 : decode cX12_does 172 = .ok (.sipush 582, 3) := by decide +kernel
theorem dX12_does_175 : decode cX12_does 175 = .ok (.invokevirtual 336, 3) := by decide +kernel
theorem dX12_does_178 : decode cX12_does 178 = .ok (.aload_n 0, 1) := by decide +kernel
theorem dX12_does_179 : decode cX12_does 179 = .ok (.getfield 7, 3) := by decide +kernel
theorem dX12_does_182 : decode cX12_does 182 = .ok (.sipush 582, 3) := by decide +kernel
theorem dX12_does_185 : decode cX12_does 185 = .ok (.dup2, 1) := by decide +kernel
theorem dX12_does_186 : decode cX12_does 186 = .ok (.iaload, 1) := by decide +kernel
theorem dX12_does_187 : decode cX12_does 187 = .ok (.aload_n 0, 1) := by decide +kernel
theorem dX12_does_188 : decode cX12_does 188 = .ok (.getfield 328, 3) := by decide +kernel
theorem dX12_does_191 : decode cX12_does 191 = .ok (.sipush (-4096), 3) := by decide +kernel
theorem dX12_does_194 : decode cX12_does 194 = .ok (.iand, 1) := by decide +kernel
theorem dX12_does_195 : decode cX12_does 195 = .ok (.iadd, 1) := by decide +kernel
theorem dX12_does_196 : decode cX12_does 196 = .ok (.iastore, 1) := by decide +kernel
theorem dX12_does_197 : decode cX12_does 197 = .ok (.aload_n 0, 1) := by decide +kernel
theorem dX12_does_198 : decode cX12_does 198 = .ok (.invokevirtual 369, 3) := by decide +kernel
theorem dX12_does_201 : decode cX12_does 201 = .ok (.aload_n 0, 1) := by decide +kernel
theorem dX12_does_202 : decode cX12_does 202 = .ok (.sipush 582, 3) := by decide +kernel
theorem dX12_does_205 : decode cX12_does 205 = .ok (.aload_n 0, 1) := by decide +kernel
theorem dX12_does_206 : decode cX12_does 206 = .ok (.invokevirtual 343, 3) := by decide +kernel
theorem dX12_does_209 : decode cX12_does 209 = .ok (.invokevirtual 372, 3) := by decide +kernel
theorem dX12_does_212 : decode cX12_does 212 = .ok (.iconst 0, 1) := by decide +kernel
theorem dX12_does_213 : decode cX12_does 213 = .ok (.ireturn, 1) := by decide +kernel
theorem dX12_does_214 : decode cX12_does 214 = .ok (.aload_n 0, 1) := by decide +kernel
theorem dX12_does_215 : decode cX12_does 215 = .ok (.getfield 328, 3) := by decide +kernel
theorem dX12_does_218 : decode cX12_does 218 = .ok (.bipush 31, 2) := by decide +kernel
theorem dX12_does_220 : decode cX12_does 220 = .ok (.ishr, 1) := by decide +kernel
theorem dX12_does_221 : decode cX12_does 221 = .ok (.bipush 20, 2) := by decide +kernel
theorem dX12_does_223 : decode cX12_does 223 = .ok (.ishl, 1) := by decide +kernel
theorem dX12_does_224 : decode cX12_does 224 = .ok (.aload_n 0, 1) := by decide +kernel
theorem dX12_does_225 : decode cX12_does 225 = .ok (.getfield 328, 3) := by decide +kernel
theorem dX12_does_228 : decode cX12_does 228 = .ok (.ldc_w 375, 3) := by decide +kernel
theorem dX12_does_231 : decode cX12_does 231 = .ok (.iand, 1) := by decide +kernel
theorem dX12_does_232 : decode cX12_does 232 = .ok (.ior, 1) := by decide +kernel
theorem dX12_does_233 : decode cX12_does 233 = .ok (.aload_n 0, 1) := by decide +kernel
theorem dX12_does_234 : decode cX12_does 234 = .ok (.getfield 328, 3) := by decide +kernel
theorem dX12_does_237 : decode cX12_does 237 = .ok (.bipush 20, 2) := by decide +kernel
theorem dX12_does_239 : decode cX12_does 239 = .ok (.ishr, 1) := by decide +kernel
theorem dX12_does_240 : decode cX12_does 240 = .ok (.iconst 1, 1) := by decide +kernel
theorem dX12_does_241 : decode cX12_does 241 = .ok (.iand, 1) := by decide +kernel
theorem dX12_does_242 : decode cX12_does 242 = .ok (.bipush 11, 2) := by decide +kernel
theorem dX12_does_244 : decode cX12_does 244 = .ok (.ishl, 1) := by decide +kernel
theorem dX12_does_245 : decode cX12_does 245 = .ok (.ior, 1) := by decide +kernel
theorem dX12_does_246 : decode cX12_does 246 = .ok (.aload_n 0, 1) := by decide +kernel
theorem dX12_does_247 : decode cX12_does 247 = .ok (.getfield 328, 3) := by decide +kernel
theorem dX12_does_250 : decode cX12_does 250 = .ok (.bipush 21, 2) := by decide +kernel
theorem dX12_does_252 : decode cX12_does 252 = .ok (.ishr, 1) := by decide +kernel
theorem dX12_does_253 : decode cX12_does 253 = .ok (.sipush 1023, 3) := by decide +kernel
theorem dX12_does_256 : decode cX12_does 256 = .ok (.iand, 1) := by decide +kernel
theorem dX12_does_257 : decode cX12_does 257 = .ok (.iconst 1, 1) := by decide +kernel
theorem dX12_does_258 : decode cX12_does 258 = .ok (.ishl, 1) := by decide +kernel
theorem dX12_does_259 : decode cX12_does 259 = .ok (.ior, 1) := by decide +kernel
theorem dX12_does_260 : decode cX12_does 260 = .ok (.istore 4, 2) := by decide +kernel
theorem dX12_does_262 : decode cX12_does 262 = .ok (.aload_n 0, 1) := by decide +kernel
theorem dX12_does_263 : decode cX12_does 263 = .ok (.invokevirtual 376, 3) := by decide +kernel
theorem dX12_does_266 : decode cX12_does 266 = .ok (.aload_n 0, 1) := by decide +kernel
theorem dX12_does_267 : decode cX12_does 267 = .ok (.sipush 582, 3) := by decide +kernel
theorem dX12_does_270 : decode cX12_does 270 = .ok (.aload_n 0, 1) := by decide +kernel
theorem dX12_does_271 : decode cX12_does 271 = .ok (.invokevirtual 343, 3) := by decide +kernel
theorem dX12_does_274 : decode cX12_does 274 = .ok (.invokevirtual 372, 3) := by decide +kernel
theorem dX12_does_277 : decode cX12_does 277 = .ok (.aload_n 0, 1) := by decide +kernel
theorem dX12_does_278 : decode cX12_does 278 = .ok (.getfield 7, 3) := by decide +kernel
theorem dX12_does_281 : decode cX12_does 281 = .ok (.iload_n 1, 1) := by decide +kernel
theorem dX12_does_282 : decode cX12_does 282 = .ok (.dup2, 1) := by decide +kernel
theorem dX12_does_283 : decode cX12_does 283 = .ok (.iaload, 1) := by decide +kernel
theorem dX12_does_284 : decode cX12_does 284 = .ok (.iload 4, 2) := by decide +kernel
theorem dX12_does_286 : decode cX12_does 286 = .ok (.iadd, 1) := by decide +kernel
theorem dX12_does_287 : decode cX12_does 287 = .ok (.iastore, 1) := by decide +kernel
theorem dX12_does_288 : decode cX12_does 288 = .ok (.iconst 0, 1) := by decide +kernel
theorem dX12_does_289 : decode cX12_does 289 = .ok (.ireturn, 1) := by decide +kernel
theorem dX12_does_290 : decode cX12_does 290 = .ok (.aload_n 0, 1) := by decide +kernel
theorem dX12_does_291 : decode cX12_does 291 = .ok (.getfield 328, 3) := by decide +kernel
theorem dX12_does_294 : decode cX12_does 294 = .ok (.bipush 31, 2) := by decide +kernel
theorem dX12_does_296 : decode cX12_does 296 = .ok (.ishr, 1) := by decide +kernel
theorem dX12_does_297 : decode cX12_does 297 = .ok (.bipush 12, 2) := by decide +kernel
theorem dX12_does_299 : decode cX12_does 299 = .ok (.ishl, 1) := by decide +kernel
theorem dX12_does_300 : decode cX12_does 300 = .ok (.aload_n 0, 1) := by decide +kernel
theorem dX12_does_301 : decode cX12_does 301 = .ok (.getfield 328, 3) := by decide +kernel
theorem dX12_does_304 : decode cX12_does 304 = .ok (.bipush 7, 2) := by decide +kernel
theorem dX12_does_306 : decode cX12_does 306 = .ok (.ishr, 1) := by decide +kernel
theorem dX12_does_307 : decode cX12_does 307 = .ok (.iconst 1, 1) := by decide +kernel
theorem dX12_does_308 : decode cX12_does 308 = .ok (.iand, 1) := by decide +kernel
theorem dX12_does_309 : decode cX12_does 309 = .ok (.bipush 11, 2) := by decide +kernel
theorem dX12_does_311 : decode cX12_does 311 = .ok (.ishl, 1) := by decide +kernel
theorem dX12_does_312 : decode cX12_does 312 = .ok (.ior, 1) := by decide +kernel
theorem dX12_does_313 : decode cX12_does 313 = .ok (.aload_n 0, 1) := by decide +kernel
theorem dX12_does_314 : decode cX12_does 314 = .ok (.getfield 328, 3) := by decide +kernel
theorem dX12_does_317 : decode cX12_does 317 = .ok (.bipush 25, 2) := by decide +kernel
theorem dX12_does_319 : decode cX12_does 319 = .ok (.ishr, 1) := by decide +kernel
theorem dX12_does_320 : decode cX12_does 320 = .ok (.bipush 63, 2) := by decide +kernel
theorem dX12_does_322 : decode cX12_does 322 = .ok (.iand, 1) := by decide +kernel
theorem dX12_does_323 : decode cX12_does 323 = .ok (.iconst 5, 1) := by decide +kernel
theorem dX12_does_324 : decode cX12_does 324 = .ok (.ishl, 1) := by decide +kernel
theorem dX12_does_325 : decode cX12_does 325 = .ok (.ior, 1) := by decide +kernel
theorem dX12_does_326 : decode cX12_does 326 = .ok (.aload_n 0, 1) := by decide +kernel
theorem dX12_does_327 : decode cX12_does 327 = .ok (.getfield 328, 3) := by decide +kernel
theorem dX12_does_330 : decode cX12_does 330 = .ok (.bipush 8, 2) := by decide +kernel
theorem dX12_does_332 : decode cX12_does 332 = .ok (.ishr, 1) := by decide +kernel
theorem dX12_does_333 : decode cX12_does 333 = .ok (.bipush 15, 2) := by decide +kernel
theorem dX12_does_335 : decode cX12_does 335 = .ok (.iand, 1) := by decide +kernel
theorem dX12_does_336 : decode cX12_does 336 = .ok (.iconst 1, 1) := by decide +kernel
theorem dX12_does_337 : decode cX12_does 337 = .ok (.ishl, 1) := by decide +kernel
theorem dX12_does_338 : decode cX12_does 338 = .ok (.ior, 1) := by decide +kernel
theorem dX12_does_339 : decode cX12_does 339 = .ok (.istore 4, 2) := by decide +kernel
theorem dX12_does_341 : decode cX12_does 341 = .ok (.aload_n 0, 1) := by decide +kernel
theorem dX12_does_342 : decode cX12_does 342 = .ok (.getfield 7, 3) := by decide +kernel
theorem dX12_does_345 : decode cX12_does 345 = .ok (.iload_n 1, 1) := by decide +kernel
theorem dX12_does_346 : decode cX12_does 346 = .ok (.dup2, 1) := by decide +kernel
theorem dX12_does_347 : decode cX12_does 347 = .ok (.iaload, 1) := by decide +kernel
theorem dX12_does_348 : decode cX12_does 348 = .ok (.aload_n 0, 1) := by decide +kernel
theorem dX12_does_349 : decode cX12_does 349 = .ok (.invokevirtual 352, 3) := by decide +kernel
theorem dX12_does_352 : decode cX12_does 352 = .ok (.aload_n 0, 1) := by decide +kernel
theorem dX12_does_353 : decode cX12_does 353 = .ok (.aload_n 0, 1) := by decide +kernel
theorem dX12_does_354 : decode cX12_does 354 = .ok (.invokevirtual 346, 3) := by decide +kernel
theorem dX12_does_357 : decode cX12_does 357 = .ok (.invokevirtual 379, 3) := by decide +kernel
theorem dX12_does_360 : decode cX12_does 360 = .ok (.aload_n 0, 1) := by decide +kernel
theorem dX12_does_361 : decode cX12_does 361 = .ok (.aload_n 0, 1) := by decide +kernel
theorem dX12_does_362 : decode cX12_does 362 = .ok (.invokevirtual 349, 3) := by decide +kernel
theorem dX12_does_365 : decode cX12_does 365 = .ok (.invokevirtual 379, 3) := by decide +kernel
theorem dX12_does_368 : decode cX12_does 368 = .ok (.invokestatic 383, 3) := by decide +kernel
theorem dX12_does_371 : decode cX12_does 371 = .ok (.ifCond .eq 8, 3) := by decide +kernel
theorem dX12_does_374 : decode cX12_does 374 = .ok (.iload 4, 2) := by decide +kernel
theorem dX12_does_376 : decode cX12_does 376 = .ok (.goto 4, 3) := by decide +kernel
theorem dX12_does_379 : decode cX12_does 379 = .ok (.iconst 4, 1) := by decide +kernel
theorem dX12_does_380 : decode cX12_does 380 = .ok (.iadd, 1) := by decide +kernel
theorem dX12_does_381 : decode cX12_does 381 = .ok (.iastore, 1) := by decide +kernel
theorem dX12_does_382 : decode cX12_does 382 = .ok (.iconst 0, 1) := by decide +kernel
theorem dX12_does_383 : decode cX12_does 383 = .ok (.ireturn, 1) := by decide +kernel
theorem dX12_does_384 : decode cX12_does 384 = .ok (.aload_n 0, 1) := by decide +kernel
theorem dX12_does_385 : decode cX12_does 385 = .ok (.aload_n 0, 1) := by decide +kernel
theorem dX12_does_386 : decode cX12_does 386 = .ok (.invokevirtual 343, 3) := by decide +kernel
theorem dX12_does_389 : decode cX12_does 389 = .ok (.aload_n 0, 1) := by decide +kernel
theorem dX12_does_390 : decode cX12_does 390 = .ok (.invokevirtual 352, 3) := by decide +kernel
theorem dX12_does_393 : decode cX12_does 393 = .ok (.aload_n 0, 1) := by decide +kernel
theorem dX12_does_394 : decode cX12_does 394 = .ok (.aload_n 0, 1) := by decide +kernel
theorem dX12_does_395 : decode cX12_does 395 = .ok (.invokevirtual 346, 3) := by decide +kernel
theorem dX12_does_398 : decode cX12_does 398 = .ok (.invokevirtual 379, 3) := by decide +kernel
theorem dX12_does_401 : decode cX12_does 401 = .ok (.aload_n 0, 1) := by decide +kernel
theorem dX12_does_402 : decode cX12_does 402 = .ok (.invokevirtual 352, 3) := by decide +kernel
theorem dX12_does_405 : decode cX12_does 405 = .ok (.iconst 1, 1) := by decide +kernel
theorem dX12_does_406 : decode cX12_does 406 = .ok (.if_icmp .eq 11, 3) := by decide +kernel
theorem dX12_does_409 : decode cX12_does 409 = .ok (.aload_n 0, 1) := by decide +kernel
theorem dX12_does_410 : decode cX12_does 410 = .ok (.invokevirtual 352, 3) := by decide +kernel
theorem dX12_does_413 : decode cX12_does 413 = .ok (.iconst 5, 1) := by decide +kernel
theorem dX12_does_414 : decode cX12_does 414 = .ok (.if_icmp .ne 10, 3) := by decide +kernel
theorem dX12_does_417 : decode cX12_does 417 = .ok (.aload_n 0, 1) := by decide +kernel
theorem dX12_does_418 : decode cX12_does 418 = .ok (.invokevirtual 349, 3) := by decide +kernel
theorem dX12_does_421 : decode cX12_does 421 = .ok (.goto 4, 3) := by decide +kernel
theorem dX12_does_424 : decode cX12_does 424 = .ok (.iload_n 3, 1) := by decide +kernel
theorem dX12_does_425 : decode cX12_does 425 = .ok (.aload_n 0, 1) := by decide +kernel
theorem dX12_does_426 : decode cX12_does 426 = .ok (.invokevirtual 352, 3) := by decide +kernel
theorem dX12_does_429 : decode cX12_does 429 = .ok (.iconst 5, 1) := by decide +kernel
theorem dX12_does_430 : decode cX12_does 430 = .ok (.if_icmp .ne 16, 3) := by decide +kernel
theorem dX12_does_433 : decode cX12_does 433 = .ok (.aload_n 0, 1) := by decide +kernel
theorem dX12_does_434 : decode cX12_does 434 = .ok (.invokevirtual 355, 3) := by decide +kernel
theorem dX12_does_437 : decode cX12_does 437 = .ok (.bipush 32, 2) := by decide +kernel
theorem dX12_does_439 : decode cX12_does 439 = .ok (.if_icmp .ne 7, 3) := by decide +kernel
theorem dX12_does_442 : decode cX12_does 442 = .ok (.iconst 1, 1) := by decide +kernel
theorem dX12_does_443 : decode cX12_does 443 = .ok (.goto 4, 3) := by decide +kernel
theorem dX12_does_446 : decode cX12_does 446 = .ok (.iconst 0, 1) := by decide +kernel
theorem dX12_does_447 : decode cX12_does 447 = .ok (.invokestatic 387, 3) := by decide +kernel
theorem dX12_does_450 : decode cX12_does 450 = .ok (.invokevirtual 366, 3) := by decide +kernel
theorem dX12_does_453 : decode cX12_does 453 = .ok (.aload_n 0, 1) := by decide +kernel
theorem dX12_does_454 : decode cX12_does 454 = .ok (.invokevirtual 369, 3) := by decide +kernel
theorem dX12_does_457 : decode cX12_does 457 = .ok (.iconst 0, 1) := by decide +kernel
theorem dX12_does_458 : decode cX12_does 458 = .ok (.ireturn, 1) := by decide +kernel
theorem dX12_does_459 : decode cX12_does 459 = .ok (.aload_n 0, 1) := by decide +kernel
theorem dX12_does_460 : decode cX12_does 460 = .ok (.aload_n 0, 1) := by decide +kernel
theorem dX12_does_461 : decode cX12_does 461 = .ok (.invokevirtual 343, 3) := by decide +kernel
theorem dX12_does_464 : decode cX12_does 464 = .ok (.aload_n 0, 1) := by decide +kernel
theorem dX12_does_465 : decode cX12_does 465 = .ok (.invokevirtual 355, 3) := by decide +kernel
theorem dX12_does_468 : decode cX12_does 468 = .ok (.iconst 1, 1) := by decide +kernel
theorem dX12_does_469 : decode cX12_does 469 = .ok (.if_icmp .ne 29, 3) := by decide +kernel
theorem dX12_does_472 : decode cX12_does 472 = .ok (.aload_n 0, 1) := by decide +kernel
theorem dX12_does_473 : decode cX12_does 473 = .ok (.invokevirtual 352, 3) := by decide +kernel
theorem dX12_does_476 : decode cX12_does 476 = .ok (.aload_n 0, 1) := by decide +kernel
theorem dX12_does_477 : decode cX12_does 477 = .ok (.aload_n 0, 1) := by decide +kernel
theorem dX12_does_478 : decode cX12_does 478 = .ok (.invokevirtual 346, 3) := by decide +kernel
theorem dX12_does_481 : decode cX12_does 481 = .ok (.invokevirtual 379, 3) := by decide +kernel
theorem dX12_does_484 : decode cX12_does 484 = .ok (.aload_n 0, 1) := by decide +kernel
theorem dX12_does_485 : decode cX12_does 485 = .ok (.aload_n 0, 1) := by decide +kernel
theorem dX12_does_486 : decode cX12_does 486 = .ok (.invokevirtual 349, 3) := by decide +kernel
theorem dX12_does_489 : decode cX12_does 489 = .ok (.invokevirtual 379, 3) := by decide +kernel
theorem dX12_does_492 : decode cX12_does 492 = .ok (.invokestatic 391, 3) := by decide +kernel
theorem dX12_does_495 : decode cX12_does 495 = .ok (.goto 76, 3) := by decide +kernel
theorem dX12_does_498 : decode cX12_does 498 = .ok (.aload_n 0, 1) := by decide +kernel
theorem dX12_does_499 : decode cX12_does 499 = .ok (.invokevirtual 352, 3) := by decide +kernel
theorem dX12_does_502 : decode cX12_does 502 = .ok (.ifCond .ne 32, 3) := by decide +kernel
theorem dX12_does_505 : decode cX12_does 505 = .ok (.aload_n 0, 1) := by decide +kernel
theorem dX12_does_506 : decode cX12_does 506 = .ok (.invokevirtual 355, 3) := by decide +kernel
theorem dX12_does_509 : decode cX12_does 509 = .ok (.bipush 32, 2) := by decide +kernel
theorem dX12_does_511 : decode cX12_does 511 = .ok (.if_icmp .ne 23, 3) := by decide +kernel
theorem dX12_does_514 : decode cX12_does 514 = .ok (.aload_n 0, 1) := by decide +kernel
theorem dX12_does_515 : decode cX12_does 515 = .ok (.aload_n 0, 1) := by decide +kernel
theorem dX12_does_516 : decode cX12_does 516 = .ok (.invokevirtual 346, 3) := by decide +kernel
theorem dX12_does_519 : decode cX12_does 519 = .ok (.invokevirtual 379, 3) := by decide +kernel
theorem dX12_does_522 : decode cX12_does 522 = .ok (.aload_n 0, 1) := by decide +kernel
theorem dX12_does_523 : decode cX12_does 523 = .ok (.aload_n 0, 1) := by decide +kernel
theorem dX12_does_524 : decode cX12_does 524 = .ok (.invokevirtual 349, 3) := by decide +kernel
theorem dX12_does_527 : decode cX12_does 527 = .ok (.invokevirtual 379, 3) := by decide +kernel
theorem dX12_does_530 : decode cX12_does 530 = .ok (.isub, 1) := by decide +kernel
theorem dX12_does_531 : decode cX12_does 531 = .ok (.goto 40, 3) := by decide +kernel
theorem dX12_does_534 : decode cX12_does 534 = .ok (.aload_n 0, 1) := by decide +kernel
theorem dX12_does_535 : decode cX12_does 535 = .ok (.invokevirtual 352, 3) := by decide +kernel
theorem dX12_does_538 : decode cX12_does 538 = .ok (.aload_n 0, 1) := by decide +kernel
theorem dX12_does_539 : decode cX12_does 539 = .ok (.aload_n 0, 1) := by decide +kernel
theorem dX12_does_540 : decode cX12_does 540 = .ok (.invokevirtual 346, 3) := by decide +kernel
theorem dX12_does_543 : decode cX12_does 543 = .ok (.invokevirtual 379, 3) := by decide +kernel
theorem dX12_does_546 : decode cX12_does 546 = .ok (.aload_n 0, 1) := by decide +kernel
theorem dX12_does_547 : decode cX12_does 547 = .ok (.aload_n 0, 1) := by decide +kernel
theorem dX12_does_548 : decode cX12_does 548 = .ok (.invokevirtual 349, 3) := by decide +kernel
theorem dX12_does_551 : decode cX12_does 551 = .ok (.invokevirtual 379, 3) := by decide +kernel
theorem dX12_does_554 : decode cX12_does 554 = .ok (.aload_n 0, 1) := by decide +kernel
theorem dX12_does_555 : decode cX12_does 555 = .ok (.invokevirtual 355, 3) := by decide +kernel
theorem dX12_does_558 : decode cX12_does 558 = .ok (.bipush 32, 2) := by decide +kernel
theorem dX12_does_560 : decode cX12_does 560 = .ok (.if_icmp .ne 7, 3) := by decide +kernel
theorem dX12_does_563 : decode cX12_does 563 = .ok (.iconst 1, 1) := by decide +kernel
theorem dX12_does_564 : decode cX12_does 564 = .ok (.goto 4, 3) := by decide +kernel
theorem dX12_does_567 : decode cX12_does 567 = .ok (.iconst 0, 1) := by decide +kernel
theorem dX12_does_568 : decode cX12_does 568 = .ok (.invokestatic 387, 3) := by decide +kernel
theorem dX12_does_571 : decode cX12_does 571 = .ok (.invokevirtual 366, 3) := by decide +kernel
theorem dX12_does_574 : decode cX12_does 574 = .ok (.aload_n 0, 1) := by decide +kernel
theorem dX12_does_575 : decode cX12_does 575 = .ok (.invokevirtual 369, 3) := by decide +kernel
theorem dX12_does_578 : decode cX12_does 578 = .ok (.iconst 0, 1) := by decide +kernel
theorem dX12_does_579 : decode cX12_does 579 = .ok (.ireturn, 1) := by decide +kernel
theorem dX12_does_580 : decode cX12_does 580 = .ok (.aload_n 0, 1) := by decide +kernel
theorem dX12_does_581 : decode cX12_does 581 = .ok (.aload_n 0, 1) := by decide +kernel
theorem dX12_does_582 : decode cX12_does 582 = .ok (.aload_n 0, 1) := by decide +kernel
theorem dX12_does_583 : decode cX12_does 583 = .ok (.invokevirtual 346, 3) := by decide +kernel
theorem dX12_does_586 : decode cX12_does 586 = .ok (.invokevirtual 379, 3) := by decide +kernel
theorem dX12_does_589 : decode cX12_does 589 = .ok (.iload_n 3, 1) := by decide +kernel
theorem dX12_does_590 : decode cX12_does 590 = .ok (.iadd, 1) := by decide +kernel
theorem dX12_does_591 : decode cX12_does 591 = .ok (.invokevirtual 394, 3) := by decide +kernel
theorem dX12_does_594 : decode cX12_does 594 = .ok (.ireturn, 1) := by decide +kernel
theorem dX12_does_595 : decode cX12_does 595 = .ok (.aload_n 0, 1) := by decide +kernel
theorem dX12_does_596 : decode cX12_does 596 = .ok (.aload_n 0, 1) := by decide +kernel
theorem dX12_does_597 : decode cX12_does 597 = .ok (.aload_n 0, 1) := by decide +kernel
theorem dX12_does_598 : decode cX12_does 598 = .ok (.invokevirtual 346, 3) := by decide +kernel
theorem dX12_does_601 : decode cX12_does 601 = .ok (.invokevirtual 379, 3) := by decide +kernel
theorem dX12_does_604 : decode cX12_does 604 = .ok (.aload_n 0, 1) := by decide +kernel
theorem dX12_does_605 : decode cX12_does 605 = .ok (.getfield 328, 3) := by decide +kernel
theorem dX12_does_608 : decode cX12_does 608 = .ok (.bipush 25, 2) := by decide +kernel
theorem dX12_does_610 : decode cX12_does 610 = .ok (.ishr, 1) := by decide +kernel
theorem dX12_does_611 : decode cX12_does 611 = .ok (.iconst 5, 1) := by decide +kernel
theorem dX12_does_612 : decode cX12_does 612 = .ok (.ishl, 1) := by decide +kernel
theorem dX12_does_613 : decode cX12_does 613 = .ok (.aload_n 0, 1) := by decide +kernel
theorem dX12_does_614 : decode cX12_does 614 = .ok (.invokevirtual 343, 3) := by decide +kernel
theorem dX12_does_617 : decode cX12_does 617 = .ok (.ior, 1) := by decide +kernel
theorem dX12_does_618 : decode cX12_does 618 = .ok (.iadd, 1) := by decide +kernel
theorem dX12_does_619 : decode cX12_does 619 = .ok (.invokevirtual 397, 3) := by decide +kernel
theorem dX12_does_622 : decode cX12_does 622 = .ok (.ireturn, 1) := by decide +kernel
theorem dX12_does_623 : decode cX12_does 623 = .ok (.aload_n 0, 1) := by decide +kernel
theorem dX12_does_624 : decode cX12_does 624 = .ok (.iload_n 3, 1) := by decide +kernel
theorem dX12_does_625 : decode cX12_does 625 = .ok (.invokevirtual 400, 3) := by decide +kernel
theorem dX12_does_628 : decode cX12_does 628 = .ok (.aload_n 0, 1) := by decide +kernel
theorem dX12_does_629 : decode cX12_does 629 = .ok (.invokevirtual 369, 3) := by decide +kernel
theorem dX12_does_632 : decode cX12_does 632 = .ok (.iconst 0, 1) := by decide +kernel
theorem dX12_does_633 : decode cX12_does 633 = .ok (.ireturn, 1) := by decide +kernel
theorem dX12_does_634 : decode cX12_does 634 = .ok (.aload_n 0, 1) := by decide +kernel
theorem dX12_does_635 : decode cX12_does 635 = .ok (.iload_n 3, 1) := by decide +kernel
theorem dX12_does_636 : decode cX12_does 636 = .ok (.invokevirtual 403, 3) := by decide +kernel
theorem dX12_does_639 : decode cX12_does 639 = .ok (.ireturn, 1) := by decide +kernel
theorem dX12_branches_0 : decode cX12_branches 0 = .ok (.iload_n 0, 1) := by decide +kernel
theorem dX12_branches_1 : decode cX12_branches 1 = .ok (.tableswitch 105 0 6 #[43, 54, 105, 105, 65, 76, 87], 43) := by decide +kernel
theorem dX12_branches_44 : decode cX12_branches 44 = .ok (.iload_n 1, 1) := by decide +kernel
theorem dX12_branches_45 : decode cX12_branches 45 = .ok (.iload_n 2, 1) := by decide +kernel
theorem dX12_branches_46 : decode cX12_branches 46 = .ok (.if_icmp .ne 7, 3) := by decide +kernel
theorem dX12_branches_49 : decode cX12_branches 49 = .ok (.iconst 1, 1) := by decide +kernel
theorem dX12_branches_50 : decode cX12_branches 50 = .ok (.goto 4, 3) := by decide +kernel
theorem dX12_branches_53 : decode cX12_branches 53 = .ok (.iconst 0, 1) := by decide +kernel
theorem dX12_branches_54 : decode cX12_branches 54 = .ok (.ireturn, 1) := by decide +kernel
theorem dX12_branches_55 : decode cX12_branches 55 = .ok (.iload_n 1, 1) := by decide +kernel
theorem dX12_branches_56 : decode cX12_branches 56 = .ok (.iload_n 2, 1) := by decide +kernel
theorem dX12_branches_57 : decode cX12_branches 57 = .ok (.if_icmp .eq 7, 3) := by decide +kernel
theorem dX12_branches_60 : decode cX12_branches 60 = .ok (.iconst 1, 1) := by decide +kernel
theorem dX12_branches_61 : decode cX12_branches 61 = .ok (.goto 4, 3) := by decide +kernel
theorem dX12_branches_64 : decode cX12_branches 64 = .ok (.iconst 0, 1) := by decide +kernel
theorem dX12_branches_65 : decode cX12_branches 65 = .ok (.ireturn, 1) := by decide +kernel
theorem dX12_branches_66 : decode cX12_branches 66 = .ok (.iload_n 1, 1) := by decide +kernel
theorem dX12_branches_67 : decode cX12_branches 67 = .ok (.iload_n 2, 1) := by decide +kernel
theorem dX12_branches_68 : decode cX12_branches 68 = .ok (.if_icmp .ge 7, 3) := by decide +kernel
theorem dX12_branches_71 : decode cX12_branches 71 = .ok (.iconst 1, 1) := by decide +kernel
theorem dX12_branches_72 : decode cX12_branches 72 = .ok (.goto 4, 3) := by decide +kernel
theorem dX12_branches_75 : decode cX12_branches 75 = .ok (.iconst 0, 1) := by decide +kernel
theorem dX12_branches_76 : decode cX12_branches 76 = .ok (.ireturn, 1) := by decide +kernel
theorem dX12_branches_77 : decode cX12_branches 77 = .ok (.iload_n 1, 1) := by decide +kernel
theorem dX12_branches_78 : decode cX12_branches 78 = .ok (.iload_n 2, 1) := by decide +kernel
theorem dX12_branches_79 : decode cX12_branches 79 = .ok (.if_icmp .lt 7, 3) := by decide +kernel
theorem dX12_branches_82 : decode cX12_branches 82 = .ok (.iconst 1, 1) := by decide +kernel
theorem dX12_branches_83 : decode cX12_branches 83 = .ok (.goto 4, 3) := by decide +kernel
theorem dX12_branches_86 : decode cX12_branches 86 = .ok (.iconst 0, 1) := by decide +kernel
theorem dX12_branches_87 : decode cX12_branches 87 = .ok (.ireturn, 1) := by decide +kernel
theorem dX12_branches_88 : decode cX12_branches 88 = .ok (.iload_n 1, 1) := by decide +kernel
theorem dX12_branches_89 : decode cX12_branches 89 = .ok (.invokestatic 260, 3) := by decide +kernel
theorem dX12_branches_92 : decode cX12_branches 92 = .ok (.iload_n 2, 1) := by decide +kernel
theorem dX12_branches_93 : decode cX12_branches 93 = .ok (.invokestatic 260, 3) := by decide +kernel
theorem dX12_branches_96 : decode cX12_branches 96 = .ok (.lcmp, 1) := by decide +kernel
theorem dX12_branches_97 : decode cX12_branches 97 = .ok (.ifCond .ge 7, 3) := by decide +kernel
theorem dX12_branches_100 : decode cX12_branches 100 = .ok (.iconst 1, 1) := by decide +kernel
theorem dX12_branches_101 : decode cX12_branches 101 = .ok (.goto 4, 3) := by decide +kernel
theorem dX12_branches_104 : decode cX12_branches 104 = .ok (.iconst 0, 1) := by decide +kernel
theorem dX12_branches_105 : decode cX12_branches 105 = .ok (.ireturn, 1) := by decide +kernel
theorem dX12_branches_106 : decode cX12_branches 106 = .ok (.iload_n 1, 1) := by decide +kernel
theorem dX12_branches_107 : decode cX12_branches 107 = .ok (.invokestatic 260, 3) := by decide +kernel
theorem dX12_branches_110 : decode cX12_branches 110 = .ok (.iload_n 2, 1) := by decide +kernel
theorem dX12_branches_111 : decode cX12_branches 111 = .ok (.invokestatic 260, 3) := by decide +kernel
theorem dX12_branches_114 : decode cX12_branches 114 = .ok (.lcmp, 1) := by decide +kernel
theorem dX12_branches_115 : decode cX12_branches 115 = .ok (.ifCond .lt 7, 3) := by decide +kernel
theorem dX12_branches_118 : decode cX12_branches 118 = .ok (.iconst 1, 1) := by decide +kernel
theorem dX12_branches_119 : decode cX12_branches 119 = .ok (.goto 4, 3) := by decide +kernel
theorem dX12_branches_122 : decode cX12_branches 122 = .ok (.iconst 0, 1) := by decide +kernel
theorem dX12_branches_123 : decode cX12_branches 123 = .ok (.ireturn, 1) := by decide +kernel
theorem dX12_sums_0 : decode cX12_sums 0 = .ok (.iload_n 0, 1) := by decide +kernel
theorem dX12_sums_1 : decode cX12_sums 1 = .ok (.tableswitch 111 0 6 #[43, 47, 54, 65, 83, 87, 107], 43) := by decide +kernel
theorem dX12_sums_44 : decode cX12_sums 44 = .ok (.iload_n 1, 1) := by decide +kernel
theorem dX12_sums_45 : decode cX12_sums 45 = .ok (.iload_n 2, 1) := by decide +kernel
theorem dX12_sums_46 : decode cX12_sums 46 = .ok (.iadd, 1) := by decide +kernel
theorem dX12_sums_47 : decode cX12_sums 47 = .ok (.ireturn, 1) := by decide +kernel
theorem dX12_sums_48 : decode cX12_sums 48 = .ok (.iload_n 1, 1) := by decide +kernel
theorem dX12_sums_49 : decode cX12_sums 49 = .ok (.iload_n 2, 1) := by decide +kernel
theorem dX12_sums_50 : decode cX12_sums 50 = .ok (.bipush 31, 2) := by decide +kernel
theorem dX12_sums_52 : decode cX12_sums 52 = .ok (.iand, 1) := by decide +kernel
theorem dX12_sums_53 : decode cX12_sums 53 = .ok (.ishl, 1) := by decide +kernel
theorem dX12_sums_54 : decode cX12_sums 54 = .ok (.ireturn, 1) := by decide +kernel
theorem dX12_sums_55 : decode cX12_sums 55 = .ok (.iload_n 1, 1) := by decide +kernel
theorem dX12_sums_56 : decode cX12_sums 56 = .ok (.iload_n 2, 1) := by decide +kernel
theorem dX12_sums_57 : decode cX12_sums 57 = .ok (.if_icmp .ge 7, 3) := by decide +kernel
theorem dX12_sums_60 : decode cX12_sums 60 = .ok (.iconst 1, 1) := by decide +kernel
theorem dX12_sums_61 : decode cX12_sums 61 = .ok (.goto 4, 3) := by decide +kernel
theorem dX12_sums_64 : decode cX12_sums 64 = .ok (.iconst 0, 1) := by decide +kernel
theorem dX12_sums_65 : decode cX12_sums 65 = .ok (.ireturn, 1) := by decide +kernel
theorem dX12_sums_66 : decode cX12_sums 66 = .ok (.iload_n 1, 1) := by decide +kernel
theorem dX12_sums_67 : decode cX12_sums 67 = .ok (.invokestatic 260, 3) := by decide +kernel
theorem dX12_sums_70 : decode cX12_sums 70 = .ok (.iload_n 2, 1) := by decide +kernel
theorem dX12_sums_71 : decode cX12_sums 71 = .ok (.invokestatic 260, 3) := by decide +kernel
theorem dX12_sums_74 : decode cX12_sums 74 = .ok (.lcmp, 1) := by decide +kernel
theorem dX12_sums_75 : decode cX12_sums 75 = .ok (.ifCond .ge 7, 3) := by decide +kernel
theorem dX12_sums_78 : decode cX12_sums 78 = .ok (.iconst 1, 1) := by decide +kernel
theorem dX12_sums_79 : decode cX12_sums 79 = .ok (.goto 4, 3) := by decide +kernel
theorem dX12_sums_82 : decode cX12_sums 82 = .ok (.iconst 0, 1) := by decide +kernel
theorem dX12_sums_83 : decode cX12_sums 83 = .ok (.ireturn, 1) := by decide +kernel
theorem dX12_sums_84 : decode cX12_sums 84 = .ok (.iload_n 1, 1) := by decide +kernel
theorem dX12_sums_85 : decode cX12_sums 85 = .ok (.iload_n 2, 1) := by decide +kernel
theorem dX12_sums_86 : decode cX12_sums 86 = .ok (.ixor, 1) := by decide +kernel
theorem dX12_sums_87 : decode cX12_sums 87 = .ok (.ireturn, 1) := by decide +kernel
theorem dX12_sums_88 : decode cX12_sums 88 = .ok (.iload_n 3, 1) := by decide +kernel
theorem dX12_sums_89 : decode cX12_sums 89 = .ok (.ifCond .eq 12, 3) := by decide +kernel
theorem dX12_sums_92 : decode cX12_sums 92 = .ok (.iload_n 1, 1) := by decide +kernel
theorem dX12_sums_93 : decode cX12_sums 93 = .ok (.iload_n 2, 1) := by decide +kernel
theorem dX12_sums_94 : decode cX12_sums 94 = .ok (.bipush 31, 2) := by decide +kernel
theorem dX12_sums_96 : decode cX12_sums 96 = .ok (.iand, 1) := by decide +kernel
theorem dX12_sums_97 : decode cX12_sums 97 = .ok (.ishr, 1) := by decide +kernel
theorem dX12_sums_98 : decode cX12_sums 98 = .ok (.goto 9, 3) := by decide +kernel
theorem dX12_sums_101 : decode cX12_sums 101 = .ok (.iload_n 1, 1) := by decide +kernel
theorem dX12_sums_102 : decode cX12_sums 102 = .ok (.iload_n 2, 1) := by decide +kernel
theorem dX12_sums_103 : decode cX12_sums 103 = .ok (.bipush 31, 2) := by decide +kernel
theorem dX12_sums_105 : decode cX12_sums 105 = .ok (.iand, 1) := by decide +kernel
theorem dX12_sums_106 : decode cX12_sums 106 = .ok (.iushr, 1) := by decide +kernel
theorem dX12_sums_107 : decode cX12_sums 107 = .ok (.ireturn, 1) := by decide +kernel
theorem dX12_sums_108 : decode cX12_sums 108 = .ok (.iload_n 1, 1) := by decide +kernel
theorem dX12_sums_109 : decode cX12_sums 109 = .ok (.iload_n 2, 1) := by decide +kernel
theorem dX12_sums_110 : decode cX12_sums 110 = .ok (.ior, 1) := by decide +kernel
theorem dX12_sums_111 : decode cX12_sums 111 = .ok (.ireturn, 1) := by decide +kernel
theorem dX12_sums_112 : decode cX12_sums 112 = .ok (.iload_n 1, 1) := by decide +kernel
theorem dX12_sums_113 : decode cX12_sums 113 = .ok (.iload_n 2, 1) := by decide +kernel
theorem dX12_sums_114 : decode cX12_sums 114 = .ok (.iand, 1) := by decide +kernel
theorem dX12_sums_115 : decode cX12_sums 115 = .ok (.ireturn, 1) := by decide +kernel
theorem dX12_products_0 : decode cX12_products 0 = .ok (.iload_n 0, 1) := by decide +kernel
theorem dX12_products_1 : decode cX12_products 1 = .ok (.tableswitch 145 0 6 #[43, 47, 57, 69, 83, 105, 124], 43) := by decide +kernel
theorem dX12_products_44 : decode cX12_products 44 = .ok (.iload_n 1, 1) := by decide +kernel
theorem dX12_products_45 : decode cX12_products 45 = .ok (.iload_n 2, 1) := by decide +kernel
theorem dX12_products_46 : decode cX12_products 46 = .ok (.imul, 1) := by decide +kernel
theorem dX12_products_47 : decode cX12_products 47 = .ok (.ireturn, 1) := by decide +kernel
theorem dX12_products_48 : decode cX12_products 48 = .ok (.iload_n 1, 1) := by decide +kernel
theorem dX12_products_49 : decode cX12_products 49 = .ok (.i2l, 1) := by decide +kernel
theorem dX12_products_50 : decode cX12_products 50 = .ok (.iload_n 2, 1) := by decide +kernel
theorem dX12_products_51 : decode cX12_products 51 = .ok (.i2l, 1) := by decide +kernel
theorem dX12_products_52 : decode cX12_products 52 = .ok (.lmul, 1) := by decide +kernel
theorem dX12_products_53 : decode cX12_products 53 = .ok (.bipush 32, 2) := by decide +kernel
theorem dX12_products_55 : decode cX12_products 55 = .ok (.lshr, 1) := by decide +kernel
theorem dX12_products_56 : decode cX12_products 56 = .ok (.l2i, 1) := by decide +kernel
theorem dX12_products_57 : decode cX12_products 57 = .ok (.ireturn, 1) := by decide +kernel
theorem dX12_products_58 : decode cX12_products 58 = .ok (.iload_n 1, 1) := by decide +kernel
theorem dX12_products_59 : decode cX12_products 59 = .ok (.i2l, 1) := by decide +kernel
theorem dX12_products_60 : decode cX12_products 60 = .ok (.iload_n 2, 1) := by decide +kernel
theorem dX12_products_61 : decode cX12_products 61 = .ok (.invokestatic 260, 3) := by decide +kernel
theorem dX12_products_64 : decode cX12_products 64 = .ok (.lmul, 1) := by decide +kernel
theorem dX12_products_65 : decode cX12_products 65 = .ok (.bipush 32, 2) := by decide +kernel
theorem dX12_products_67 : decode cX12_products 67 = .ok (.lshr, 1) := by decide +kernel
theorem dX12_products_68 : decode cX12_products 68 = .ok (.l2i, 1) := by decide +kernel
theorem dX12_products_69 : decode cX12_products 69 = .ok (.ireturn, 1) := by decide +kernel
theorem dX12_products_70 : decode cX12_products 70 = .ok (.iload_n 1, 1) := by decide +kernel
theorem dX12_products_71 : decode cX12_products 71 = .ok (.invokestatic 260, 3) := by decide +kernel
theorem dX12_products_74 : decode cX12_products 74 = .ok (.iload_n 2, 1) := by decide +kernel
theorem dX12_products_75 : decode cX12_products 75 = .ok (.invokestatic 260, 3) := by decide +kernel
theorem dX12_products_78 : decode cX12_products 78 = .ok (.lmul, 1) := by decide +kernel
theorem dX12_products_79 : decode cX12_products 79 = .ok (.bipush 32, 2) := by decide +kernel
theorem dX12_products_81 : decode cX12_products 81 = .ok (.lushr, 1) := by decide +kernel
theorem dX12_products_82 : decode cX12_products 82 = .ok (.l2i, 1) := by decide +kernel
theorem dX12_products_83 : decode cX12_products 83 = .ok (.ireturn, 1) := by decide +kernel
theorem dX12_products_84 : decode cX12_products 84 = .ok (.iload_n 2, 1) := by decide +kernel
theorem dX12_products_85 : decode cX12_products 85 = .ok (.ifCond .ne 7, 3) := by decide +kernel
theorem dX12_products_88 : decode cX12_products 88 = .ok (.iconst (-1), 1) := by decide +kernel
theorem dX12_products_89 : decode cX12_products 89 = .ok (.goto 16, 3) := by decide +kernel
theorem dX12_products_92 : decode cX12_products 92 = .ok (.iload_n 2, 1) := by decide +kernel
theorem dX12_products_93 : decode cX12_products 93 = .ok (.iconst (-1), 1) := by decide +kernel
theorem dX12_products_94 : decode cX12_products 94 = .ok (.if_icmp .ne 8, 3) := by decide +kernel
theorem dX12_products_97 : decode cX12_products 97 = .ok (.iload_n 1, 1) := by decide +kernel
theorem dX12_products_98 : decode cX12_products 98 = .ok (.ineg, 1) := by decide +kernel
theorem dX12_products_99 : decode cX12_products 99 = .ok (.goto 6, 3) := by decide +kernel
theorem dX12_products_102 : decode cX12_products 102 = .ok (.iload_n 1, 1) := by decide +kernel
theorem dX12_products_103 : decode cX12_products 103 = .ok (.iload_n 2, 1) := by decide +kernel
theorem dX12_products_104 : decode cX12_products 104 = .ok (.idiv, 1) := by decide +kernel
theorem dX12_products_105 : decode cX12_products 105 = .ok (.ireturn, 1) := by decide +kernel
theorem dX12_products_106 : decode cX12_products 106 = .ok (.iload_n 2, 1) := by decide +kernel
theorem dX12_products_107 : decode cX12_products 107 = .ok (.ifCond .ne 7, 3) := by decide +kernel
theorem dX12_products_110 : decode cX12_products 110 = .ok (.iconst (-1), 1) := by decide +kernel
theorem dX12_products_111 : decode cX12_products 111 = .ok (.goto 13, 3) := by decide +kernel
theorem dX12_products_114 : decode cX12_products 114 = .ok (.iload_n 1, 1) := by decide +kernel
theorem dX12_products_115 : decode cX12_products 115 = .ok (.invokestatic 260, 3) := by decide +kernel
theorem dX12_products_118 : decode cX12_products 118 = .ok (.iload_n 2, 1) := by decide +kernel
theorem dX12_products_119 : decode cX12_products 119 = .ok (.invokestatic 260, 3) := by decide +kernel
theorem dX12_products_122 : decode cX12_products 122 = .ok (.ldiv, 1) := by decide +kernel
theorem dX12_products_123 : decode cX12_products 123 = .ok (.l2i, 1) := by decide +kernel
theorem dX12_products_124 : decode cX12_products 124 = .ok (.ireturn, 1) := by decide +kernel
theorem dX12_products_125 : decode cX12_products 125 = .ok (.iload_n 2, 1) := by decide +kernel
theorem dX12_products_126 : decode cX12_products 126 = .ok (.ifCond .ne 7, 3) := by decide +kernel
theorem dX12_products_129 : decode cX12_products 129 = .ok (.iload_n 1, 1) := by decide +kernel
theorem dX12_products_130 : decode cX12_products 130 = .ok (.goto 15, 3) := by decide +kernel
theorem dX12_products_133 : decode cX12_products 133 = .ok (.iload_n 2, 1) := by decide +kernel
theorem dX12_products_134 : decode cX12_products 134 = .ok (.iconst (-1), 1) := by decide +kernel
theorem dX12_products_135 : decode cX12_products 135 = .ok (.if_icmp .ne 7, 3) := by decide +kernel
theorem dX12_products_138 : decode cX12_products 138 = .ok (.iconst 0, 1) := by decide +kernel
theorem dX12_products_139 : decode cX12_products 139 = .ok (.goto 6, 3) := by decide +kernel
theorem dX12_products_142 : decode cX12_products 142 = .ok (.iload_n 1, 1) := by decide +kernel
theorem dX12_products_143 : decode cX12_products 143 = .ok (.iload_n 2, 1) := by decide +kernel
theorem dX12_products_144 : decode cX12_products 144 = .ok (.irem, 1) := by decide +kernel
theorem dX12_products_145 : decode cX12_products 145 = .ok (.ireturn, 1) := by decide +kernel
theorem dX12_products_146 : decode cX12_products 146 = .ok (.iload_n 2, 1) := by decide +kernel
theorem dX12_products_147 : decode cX12_products 147 = .ok (.ifCond .ne 7, 3) := by decide +kernel
theorem dX12_products_150 : decode cX12_products 150 = .ok (.iload_n 1, 1) := by decide +kernel
theorem dX12_products_151 : decode cX12_products 151 = .ok (.goto 13, 3) := by decide +kernel
theorem dX12_products_154 : decode cX12_products 154 = .ok (.iload_n 1, 1) := by decide +kernel
theorem dX12_products_155 : decode cX12_products 155 = .ok (.invokestatic 260, 3) := by decide +kernel
theorem dX12_products_158 : decode cX12_products 158 = .ok (.iload_n 2, 1) := by decide +kernel
theorem dX12_products_159 : decode cX12_products 159 = .ok (.invokestatic 260, 3) := by decide +kernel
theorem dX12_products_162 : decode cX12_products 162 = .ok (.lrem, 1) := by decide +kernel
theorem dX12_products_163 : decode cX12_products 163 = .ok (.l2i, 1) := by decide +kernel
theorem dX12_products_164 : decode cX12_products 164 = .ok (.ireturn, 1) := by decide +kernel
theorem dX12_isDevice_0 : decode cX12_isDevice 0 = .ok (.iload_n 1, 1) := by decide +kernel
theorem dX12_isDevice_1 : decode cX12_isDevice 1 = .ok (.invokestatic 260, 3) := by decide +kernel
theorem dX12_isDevice_4 : decode cX12_isDevice 4 = .ok (.ldc2_w 406, 3) := by decide +kernel
theorem dX12_isDevice_7 : decode cX12_isDevice 7 = .ok (.lcmp, 1) := by decide +kernel
theorem dX12_isDevice_8 : decode cX12_isDevice 8 = .ok (.ifCond .lt 7, 3) := by decide +kernel
theorem dX12_isDevice_11 : decode cX12_isDevice 11 = .ok (.iconst 1, 1) := by decide +kernel
theorem dX12_isDevice_12 : decode cX12_isDevice 12 = .ok (.goto 4, 3) := by decide +kernel
theorem dX12_isDevice_15 : decode cX12_isDevice 15 = .ok (.iconst 0, 1) := by decide +kernel
theorem dX12_isDevice_16 : decode cX12_isDevice 16 = .ok (.ireturn, 1) := by decide +kernel
theorem dX12_loads_0 : decode cX12_loads 0 = .ok (.aload_n 0, 1) := by decide +kernel
theorem dX12_loads_1 : decode cX12_loads 1 = .ok (.invokevirtual 352, 3) := by decide +kernel
theorem dX12_loads_4 : decode cX12_loads 4 = .ok (.istore_n 2, 1) := by decide +kernel
theorem dX12_loads_5 : decode cX12_loads 5 = .ok (.aload_n 0, 1) := by decide +kernel
theorem dX12_loads_6 : decode cX12_loads 6 = .ok (.getfield 330, 3) := by decide +kernel
theorem dX12_loads_9 : decode cX12_loads 9 = .ok (.aload_n 0, 1) := by decide +kernel
theorem dX12_loads_10 : decode cX12_loads 10 = .ok (.invokevirtual 346, 3) := by decide +kernel
theorem dX12_loads_13 : decode cX12_loads 13 = .ok (.invokestatic 307, 3) := by decide +kernel
theorem dX12_loads_16 : decode cX12_loads 16 = .ok (.istore_n 3, 1) := by decide +kernel
theorem dX12_loads_17 : decode cX12_loads 17 = .ok (.iload_n 2, 1) := by decide +kernel
theorem dX12_loads_18 : decode cX12_loads 18 = .ok (.ifCond .eq 8, 3) := by decide +kernel
theorem dX12_loads_21 : decode cX12_loads 21 = .ok (.iload_n 2, 1) := by decide +kernel
theorem dX12_loads_22 : decode cX12_loads 22 = .ok (.iconst 4, 1) := by decide +kernel
theorem dX12_loads_23 : decode cX12_loads 23 = .ok (.if_icmp .ne 7, 3) := by decide +kernel
theorem dX12_loads_26 : decode cX12_loads 26 = .ok (.iconst 1, 1) := by decide +kernel
theorem dX12_loads_27 : decode cX12_loads 27 = .ok (.goto 28, 3) := by decide +kernel
theorem dX12_loads_30 : decode cX12_loads 30 = .ok (.iload_n 2, 1) := by decide +kernel
theorem dX12_loads_31 : decode cX12_loads 31 = .ok (.iconst 1, 1) := by decide +kernel
theorem dX12_loads_32 : decode cX12_loads 32 = .ok (.if_icmp .eq 8, 3) := by decide +kernel
theorem dX12_loads_35 : decode cX12_loads 35 = .ok (.iload_n 2, 1) := by decide +kernel
theorem dX12_loads_36 : decode cX12_loads 36 = .ok (.iconst 5, 1) := by decide +kernel
theorem dX12_loads_37 : decode cX12_loads 37 = .ok (.if_icmp .ne 7, 3) := by decide +kernel
theorem dX12_loads_40 : decode cX12_loads 40 = .ok (.iconst 2, 1) := by decide +kernel
theorem dX12_loads_41 : decode cX12_loads 41 = .ok (.goto 14, 3) := by decide +kernel
theorem dX12_loads_44 : decode cX12_loads 44 = .ok (.iload_n 2, 1) := by decide +kernel
theorem dX12_loads_45 : decode cX12_loads 45 = .ok (.iconst 2, 1) := by decide +kernel
theorem dX12_loads_46 : decode cX12_loads 46 = .ok (.if_icmp .ne 7, 3) := by decide +kernel
theorem dX12_loads_49 : decode cX12_loads 49 = .ok (.iconst 4, 1) := by decide +kernel
theorem dX12_loads_50 : decode cX12_loads 50 = .ok (.goto 5, 3) := by decide +kernel
theorem dX12_loads_53 : decode cX12_loads 53 = .ok (.bipush 16, 2) := by decide +kernel
theorem dX12_loads_55 : decode cX12_loads 55 = .ok (.istore 4, 2) := by decide +kernel
theorem dX12_loads_57 : decode cX12_loads 57 = .ok (.aload_n 0, 1) := by decide +kernel
theorem dX12_loads_58 : decode cX12_loads 58 = .ok (.iload_n 3, 1) := by decide +kernel
theorem dX12_loads_59 : decode cX12_loads 59 = .ok (.iconst 1, 1) := by decide +kernel
theorem dX12_loads_60 : decode cX12_loads 60 = .ok (.iload_n 1, 1) := by decide +kernel
theorem dX12_loads_61 : decode cX12_loads 61 = .ok (.iload 4, 2) := by decide +kernel
theorem dX12_loads_63 : decode cX12_loads 63 = .ok (.invokevirtual 358, 3) := by decide +kernel
theorem dX12_loads_66 : decode cX12_loads 66 = .ok (.istore 5, 2) := by decide +kernel
theorem dX12_loads_68 : decode cX12_loads 68 = .ok (.iload 5, 2) := by decide +kernel
theorem dX12_loads_70 : decode cX12_loads 70 = .ok (.ifCond .eq 6, 3) := by decide +kernel
theorem dX12_loads_73 : decode cX12_loads 73 = .ok (.iload 5, 2) := by decide +kernel
theorem dX12_loads_75 : decode cX12_loads 75 = .ok (.ireturn, 1) := by decide +kernel
theorem dX12_loads_76 : decode cX12_loads 76 = .ok (.aload_n 0, 1) := by decide +kernel
theorem dX12_loads_77 : decode cX12_loads 77 = .ok (.iload_n 1, 1) := by decide +kernel
theorem dX12_loads_78 : decode cX12_loads 78 = .ok (.invokevirtual 408, 3) := by decide +kernel
theorem dX12_loads_81 : decode cX12_loads 81 = .ok (.ifCond .eq 11, 3) := by decide +kernel
theorem dX12_loads_84 : decode cX12_loads 84 = .ok (.iload 4, 2) := by decide +kernel
theorem dX12_loads_86 : decode cX12_loads 86 = .ok (.iconst 4, 1) := by decide +kernel
theorem dX12_loads_87 : decode cX12_loads 87 = .ok (.if_icmp .eq 5, 3) := by decide +kernel
theorem dX12_loads_90 : decode cX12_loads 90 = .ok (.iconst 5, 1) := by decide +kernel
theorem dX12_loads_91 : decode cX12_loads 91 = .ok (.ireturn, 1) := by decide +kernel
theorem dX12_loads_92 : decode cX12_loads 92 = .ok (.aload_n 0, 1) := by decide +kernel
theorem dX12_loads_93 : decode cX12_loads 93 = .ok (.iload_n 1, 1) := by decide +kernel
theorem dX12_loads_94 : decode cX12_loads 94 = .ok (.invokevirtual 408, 3) := by decide +kernel
theorem dX12_loads_97 : decode cX12_loads 97 = .ok (.ifCond .eq 23, 3) := by decide +kernel
theorem dX12_loads_100 : decode cX12_loads 100 = .ok (.aload_n 0, 1) := by decide +kernel
theorem dX12_loads_101 : decode cX12_loads 101 = .ok (.aload_n 0, 1) := by decide +kernel
theorem dX12_loads_102 : decode cX12_loads 102 = .ok (.invokevirtual 343, 3) := by decide +kernel
theorem dX12_loads_105 : decode cX12_loads 105 = .ok (.aload_n 0, 1) := by decide +kernel
theorem dX12_loads_106 : decode cX12_loads 106 = .ok (.iload_n 1, 1) := by decide +kernel
theorem dX12_loads_107 : decode cX12_loads 107 = .ok (.ldc_w 301, 3) := by decide +kernel
theorem dX12_loads_110 : decode cX12_loads 110 = .ok (.isub, 1) := by decide +kernel
theorem dX12_loads_111 : decode cX12_loads 111 = .ok (.invokevirtual 411, 3) := by decide +kernel
theorem dX12_loads_114 : decode cX12_loads 114 = .ok (.invokevirtual 366, 3) := by decide +kernel
theorem dX12_loads_117 : decode cX12_loads 117 = .ok (.goto 115, 3) := by decide +kernel
theorem dX12_loads_120 : decode cX12_loads 120 = .ok (.iload 4, 2) := by decide +kernel
theorem dX12_loads_122 : decode cX12_loads 122 = .ok (.bipush 16, 2) := by decide +kernel
theorem dX12_loads_124 : decode cX12_loads 124 = .ok (.if_icmp .ne 68, 3) := by decide +kernel
theorem dX12_loads_127 : decode cX12_loads 127 = .ok (.aload_n 0, 1) := by decide +kernel
theorem dX12_loads_128 : decode cX12_loads 128 = .ok (.iload_n 1, 1) := by decide +kernel
theorem dX12_loads_129 : decode cX12_loads 129 = .ok (.sipush 582, 3) := by decide +kernel
theorem dX12_loads_132 : decode cX12_loads 132 = .ok (.invokevirtual 414, 3) := by decide +kernel
theorem dX12_loads_135 : decode cX12_loads 135 = .ok (.aload_n 0, 1) := by decide +kernel
theorem dX12_loads_136 : decode cX12_loads 136 = .ok (.getfield 25, 3) := by decide +kernel
theorem dX12_loads_139 : decode cX12_loads 139 = .ok (.sipush 582, 3) := by decide +kernel
theorem dX12_loads_142 : decode cX12_loads 142 = .ok (.aload_n 0, 1) := by decide +kernel
theorem dX12_loads_143 : decode cX12_loads 143 = .ok (.getfield 25, 3) := by decide +kernel
theorem dX12_loads_146 : decode cX12_loads 146 = .ok (.sipush 582, 3) := by decide +kernel
theorem dX12_loads_149 : decode cX12_loads 149 = .ok (.baload, 1) := by decide +kernel
theorem dX12_loads_150 : decode cX12_loads 150 = .ok (.ifCond .eq 19, 3) := by decide +kernel
theorem dX12_loads_153 : decode cX12_loads 153 = .ok (.aload_n 0, 1) := by decide +kernel
theorem dX12_loads_154 : decode cX12_loads 154 = .ok (.getfield 19, 3) := by decide +kernel
theorem dX12_loads_157 : decode cX12_loads 157 = .ok (.iload_n 3, 1) := by decide +kernel
theorem dX12_loads_158 : decode cX12_loads 158 = .ok (.iaload, 1) := by decide +kernel
theorem dX12_loads_159 : decode cX12_loads 159 = .ok (.bipush 8, 2) := by decide +kernel
theorem dX12_loads_161 : decode cX12_loads 161 = .ok (.iand, 1) := by decide +kernel
theorem dX12_loads_162 : decode cX12_loads 162 = .ok (.ifCond .eq 7, 3) := by decide +kernel
theorem dX12_loads_165 : decode cX12_loads 165 = .ok (.iconst 1, 1) := by decide +kernel
theorem dX12_loads_166 : decode cX12_loads 166 = .ok (.goto 4, 3) := by decide +kernel
theorem dX12_loads_169 : decode cX12_loads 169 = .ok (.iconst 0, 1) := by decide +kernel
theorem dX12_loads_170 : decode cX12_loads 170 = .ok (.bastore, 1) := by decide +kernel
theorem dX12_loads_171 : decode cX12_loads 171 = .ok (.aload_n 0, 1) := by decide +kernel
theorem dX12_loads_172 : decode cX12_loads 172 = .ok (.sipush 582, 3) := by decide +kernel
theorem dX12_loads_175 : decode cX12_loads 175 = .ok (.invokevirtual 417, 3) := by decide +kernel
theorem dX12_loads_178 : decode cX12_loads 178 = .ok (.aload_n 0, 1) := by decide +kernel
theorem dX12_loads_179 : decode cX12_loads 179 = .ok (.sipush 582, 3) := by decide +kernel
theorem dX12_loads_182 : decode cX12_loads 182 = .ok (.aload_n 0, 1) := by decide +kernel
theorem dX12_loads_183 : decode cX12_loads 183 = .ok (.invokevirtual 343, 3) := by decide +kernel
theorem dX12_loads_186 : decode cX12_loads 186 = .ok (.invokevirtual 372, 3) := by decide +kernel
theorem dX12_loads_189 : decode cX12_loads 189 = .ok (.goto 43, 3) := by decide +kernel
theorem dX12_loads_192 : decode cX12_loads 192 = .ok (.aload_n 0, 1) := by decide +kernel
theorem dX12_loads_193 : decode cX12_loads 193 = .ok (.iload_n 1, 1) := by decide +kernel
theorem dX12_loads_194 : decode cX12_loads 194 = .ok (.iload 4, 2) := by decide +kernel
theorem dX12_loads_196 : decode cX12_loads 196 = .ok (.invokevirtual 264, 3) := by decide +kernel
theorem dX12_loads_199 : decode cX12_loads 199 = .ok (.istore 6, 2) := by decide +kernel
theorem dX12_loads_201 : decode cX12_loads 201 = .ok (.aload_n 0, 1) := by decide +kernel
theorem dX12_loads_202 : decode cX12_loads 202 = .ok (.aload_n 0, 1) := by decide +kernel
theorem dX12_loads_203 : decode cX12_loads 203 = .ok (.invokevirtual 343, 3) := by decide +kernel
theorem dX12_loads_206 : decode cX12_loads 206 = .ok (.iload_n 2, 1) := by decide +kernel
theorem dX12_loads_207 : decode cX12_loads 207 = .ok (.ifCond .ne 9, 3) := by decide +kernel
theorem dX12_loads_210 : decode cX12_loads 210 = .ok (.iload 6, 2) := by decide +kernel
theorem dX12_loads_212 : decode cX12_loads 212 = .ok (.i2b, 1) := by decide +kernel
theorem dX12_loads_213 : decode cX12_loads 213 = .ok (.goto 16, 3) := by decide +kernel
theorem dX12_loads_216 : decode cX12_loads 216 = .ok (.iload_n 2, 1) := by decide +kernel
theorem dX12_loads_217 : decode cX12_loads 217 = .ok (.iconst 1, 1) := by decide +kernel
theorem dX12_loads_218 : decode cX12_loads 218 = .ok (.if_icmp .ne 9, 3) := by decide +kernel
theorem dX12_loads_221 : decode cX12_loads 221 = .ok (.iload 6, 2) := by decide +kernel
theorem dX12_loads_223 : decode cX12_loads 223 = .ok (.i2s, 1) := by decide +kernel
theorem dX12_loads_224 : decode cX12_loads 224 = .ok (.goto 5, 3) := by decide +kernel
theorem dX12_loads_227 : decode cX12_loads 227 = .ok (.iload 6, 2) := by decide +kernel
theorem dX12_loads_229 : decode cX12_loads 229 = .ok (.invokevirtual 366, 3) := by decide +kernel
theorem dX12_loads_232 : decode cX12_loads 232 = .ok (.aload_n 0, 1) := by decide +kernel
theorem dX12_loads_233 : decode cX12_loads 233 = .ok (.invokevirtual 369, 3) := by decide +kernel
theorem dX12_loads_236 : decode cX12_loads 236 = .ok (.iconst 0, 1) := by decide +kernel
theorem dX12_loads_237 : decode cX12_loads 237 = .ok (.ireturn, 1) := by decide +kernel
theorem dX12_device_0 : decode cX12_device 0 = .ok (.iload_n 1, 1) := by decide +kernel
theorem dX12_device_1 : decode cX12_device 1 = .ok (.iconst 4, 1) := by decide +kernel
theorem dX12_device_2 : decode cX12_device 2 = .ok (.if_icmp .ne 8, 3) := by decide +kernel
theorem dX12_device_5 : decode cX12_device 5 = .ok (.aload_n 0, 1) := by decide +kernel
theorem dX12_device_6 : decode cX12_device 6 = .ok (.getfield 201, 3) := by decide +kernel
theorem dX12_device_9 : decode cX12_device 9 = .ok (.ireturn, 1) := by decide +kernel
theorem dX12_device_10 : decode cX12_device 10 = .ok (.iload_n 1, 1) := by decide +kernel
theorem dX12_device_11 : decode cX12_device 11 = .ok (.bipush 8, 2) := by decide +kernel
theorem dX12_device_13 : decode cX12_device 13 = .ok (.if_icmp .ne 8, 3) := by decide +kernel
theorem dX12_device_16 : decode cX12_device 16 = .ok (.aload_n 0, 1) := by decide +kernel
theorem dX12_device_17 : decode cX12_device 17 = .ok (.getfield 330, 3) := by decide +kernel
theorem dX12_device_20 : decode cX12_device 20 = .ok (.ireturn, 1) := by decide +kernel
theorem dX12_device_21 : decode cX12_device 21 = .ok (.iload_n 1, 1) := by decide +kernel
theorem dX12_device_22 : decode cX12_device 22 = .ok (.ifCond .eq 5, 3) := by decide +kernel
theorem dX12_device_25 : decode cX12_device 25 = .ok (.iconst 0, 1) := by decide +kernel
theorem dX12_device_26 : decode cX12_device 26 = .ok (.ireturn, 1) := by decide +kernel
theorem dX12_device_27 : decode cX12_device 27 = .ok (.aload_n 0, 1) := by decide +kernel
theorem dX12_device_28 : decode cX12_device 28 = .ok (.getfield 237, 3) := by decide +kernel
theorem dX12_device_31 : decode cX12_device 31 = .ok (.ifCond .ne 5, 3) := by decide +kernel
theorem dX12_device_34 : decode cX12_device 34 = .ok (.iconst (-1), 1) := by decide +kernel
theorem dX12_device_35 : decode cX12_device 35 = .ok (.ireturn, 1) := by decide +kernel
theorem dX12_device_36 : decode cX12_device 36 = .ok (.aload_n 0, 1) := by decide +kernel
theorem dX12_device_37 : decode cX12_device 37 = .ok (.getfield 133, 3) := by decide +kernel
theorem dX12_device_40 : decode cX12_device 40 = .ok (.iconst 0, 1) := by decide +kernel
theorem dX12_device_41 : decode cX12_device 41 = .ok (.iaload, 1) := by decide +kernel
theorem dX12_device_42 : decode cX12_device 42 = .ok (.istore_n 2, 1) := by decide +kernel
theorem dX12_device_43 : decode cX12_device 43 = .ok (.aload_n 0, 1) := by decide +kernel
theorem dX12_device_44 : decode cX12_device 44 = .ok (.dup, 1) := by decide +kernel
theorem dX12_device_45 : decode cX12_device 45 = .ok (.getfield 237, 3) := by decide +kernel
theorem dX12_device_48 : decode cX12_device 48 = .ok (.iconst 1, 1) := by decide +kernel
theorem dX12_device_49 : decode cX12_device 49 = .ok (.isub, 1) := by decide +kernel
theorem dX12_device_50 : decode cX12_device 50 = .ok (.putfield 237, 3) := by decide +kernel
theorem dX12_device_53 : decode cX12_device 53 = .ok (.iconst 0, 1) := by decide +kernel
theorem dX12_device_54 : decode cX12_device 54 = .ok (.istore_n 3, 1) := by decide +kernel
theorem dX12_device_55 : decode cX12_device 55 = .ok (.iload_n 3, 1) := by decide +kernel
theorem dX12_device_56 : decode cX12_device 56 = .ok (.aload_n 0, 1) := by decide +kernel
theorem dX12_device_57 : decode cX12_device 57 = .ok (.getfield 237, 3) := by decide +kernel
theorem dX12_device_60 : decode cX12_device 60 = .ok (.if_icmp .ge 23, 3) := by decide +kernel
theorem dX12_device_63 : decode cX12_device 63 = .ok (.aload_n 0, 1) := by decide +kernel
theorem dX12_device_64 : decode cX12_device 64 = .ok (.getfield 133, 3) := by decide +kernel
theorem dX12_device_67 : decode cX12_device 67 = .ok (.iload_n 3, 1) := by decide +kernel
theorem dX12_device_68 : decode cX12_device 68 = .ok (.aload_n 0, 1) := by decide +kernel
theorem dX12_device_69 : decode cX12_device 69 = .ok (.getfield 133, 3) := by decide +kernel
theorem dX12_device_72 : decode cX12_device 72 = .ok (.iload_n 3, 1) := by decide +kernel
theorem dX12_device_73 : decode cX12_device 73 = .ok (.iconst 1, 1) := by decide +kernel
theorem dX12_device_74 : decode cX12_device 74 = .ok (.iadd, 1) := by decide +kernel
theorem dX12_device_75 : decode cX12_device 75 = .ok (.iaload, 1) := by decide +kernel
theorem dX12_device_76 : decode cX12_device 76 = .ok (.iastore, 1) := by decide +kernel
theorem dX12_device_77 : decode cX12_device 77 = .ok (.iinc 3 1, 3) := by decide +kernel
theorem dX12_device_80 : decode cX12_device 80 = .ok (.goto (-25), 3) := by decide +kernel
theorem dX12_device_83 : decode cX12_device 83 = .ok (.iload_n 2, 1) := by decide +kernel
theorem dX12_device_84 : decode cX12_device 84 = .ok (.ireturn, 1) := by decide +kernel
theorem dX12_stores_0 : decode cX12_stores 0 = .ok (.aload_n 0, 1) := by decide +kernel
theorem dX12_stores_1 : decode cX12_stores 1 = .ok (.invokevirtual 352, 3) := by decide +kernel
theorem dX12_stores_4 : decode cX12_stores 4 = .ok (.istore_n 2, 1) := by decide +kernel
theorem dX12_stores_5 : decode cX12_stores 5 = .ok (.iload_n 2, 1) := by decide +kernel
theorem dX12_stores_6 : decode cX12_stores 6 = .ok (.ifCond .ne 7, 3) := by decide +kernel
theorem dX12_stores_9 : decode cX12_stores 9 = .ok (.iconst 1, 1) := by decide +kernel
theorem dX12_stores_10 : decode cX12_stores 10 = .ok (.goto 23, 3) := by decide +kernel
theorem dX12_stores_13 : decode cX12_stores 13 = .ok (.iload_n 2, 1) := by decide +kernel
theorem dX12_stores_14 : decode cX12_stores 14 = .ok (.iconst 1, 1) := by decide +kernel
theorem dX12_stores_15 : decode cX12_stores 15 = .ok (.if_icmp .ne 7, 3) := by decide +kernel
theorem dX12_stores_18 : decode cX12_stores 18 = .ok (.iconst 2, 1) := by decide +kernel
theorem dX12_stores_19 : decode cX12_stores 19 = .ok (.goto 14, 3) := by decide +kernel
theorem dX12_stores_22 : decode cX12_stores 22 = .ok (.iload_n 2, 1) := by decide +kernel
theorem dX12_stores_23 : decode cX12_stores 23 = .ok (.iconst 2, 1) := by decide +kernel
theorem dX12_stores_24 : decode cX12_stores 24 = .ok (.if_icmp .ne 7, 3) := by decide +kernel
theorem dX12_stores_27 : decode cX12_stores 27 = .ok (.iconst 4, 1) := by decide +kernel
theorem dX12_stores_28 : decode cX12_stores 28 = .ok (.goto 5, 3) := by decide +kernel
theorem dX12_stores_31 : decode cX12_stores 31 = .ok (.bipush 16, 2) := by decide +kernel
theorem dX12_stores_33 : decode cX12_stores 33 = .ok (.istore_n 3, 1) := by decide +kernel
theorem dX12_stores_34 : decode cX12_stores 34 = .ok (.aload_n 0, 1) := by decide +kernel
theorem dX12_stores_35 : decode cX12_stores 35 = .ok (.getfield 330, 3) := by decide +kernel
theorem dX12_stores_38 : decode cX12_stores 38 = .ok (.aload_n 0, 1) := by decide +kernel
theorem dX12_stores_39 : decode cX12_stores 39 = .ok (.invokevirtual 346, 3) := by decide +kernel
theorem dX12_stores_42 : decode cX12_stores 42 = .ok (.invokestatic 307, 3) := by decide +kernel
theorem dX12_stores_45 : decode cX12_stores 45 = .ok (.istore 4, 2) := by decide +kernel
theorem dX12_stores_47 : decode cX12_stores 47 = .ok (.aload_n 0, 1) := by decide +kernel
theorem dX12_stores_48 : decode cX12_stores 48 = .ok (.getfield 330, 3) := by decide +kernel
theorem dX12_stores_51 : decode cX12_stores 51 = .ok (.aload_n 0, 1) := by decide +kernel
theorem dX12_stores_52 : decode cX12_stores 52 = .ok (.invokevirtual 349, 3) := by decide +kernel
theorem dX12_stores_55 : decode cX12_stores 55 = .ok (.invokestatic 307, 3) := by decide +kernel
theorem dX12_stores_58 : decode cX12_stores 58 = .ok (.istore 5, 2) := by decide +kernel
theorem dX12_stores_60 : decode cX12_stores 60 = .ok (.aload_n 0, 1) := by decide +kernel
theorem dX12_stores_61 : decode cX12_stores 61 = .ok (.iload 4, 2) := by decide +kernel
theorem dX12_stores_63 : decode cX12_stores 63 = .ok (.iconst 2, 1) := by decide +kernel
theorem dX12_stores_64 : decode cX12_stores 64 = .ok (.iload_n 1, 1) := by decide +kernel
theorem dX12_stores_65 : decode cX12_stores 65 = .ok (.iload_n 3, 1) := by decide +kernel
theorem dX12_stores_66 : decode cX12_stores 66 = .ok (.invokevirtual 358, 3) := by decide +kernel
theorem dX12_stores_69 : decode cX12_stores 69 = .ok (.istore 6, 2) := by decide +kernel
theorem dX12_stores_71 : decode cX12_stores 71 = .ok (.iload 6, 2) := by decide +kernel
theorem dX12_stores_73 : decode cX12_stores 73 = .ok (.ifCond .eq 6, 3) := by decide +kernel
theorem dX12_stores_76 : decode cX12_stores 76 = .ok (.iload 6, 2) := by decide +kernel
theorem dX12_stores_78 : decode cX12_stores 78 = .ok (.ireturn, 1) := by decide +kernel
theorem dX12_stores_79 : decode cX12_stores 79 = .ok (.aload_n 0, 1) := by decide +kernel
theorem dX12_stores_80 : decode cX12_stores 80 = .ok (.iload_n 1, 1) := by decide +kernel
theorem dX12_stores_81 : decode cX12_stores 81 = .ok (.invokevirtual 408, 3) := by decide +kernel
theorem dX12_stores_84 : decode cX12_stores 84 = .ok (.ifCond .eq 10, 3) := by decide +kernel
theorem dX12_stores_87 : decode cX12_stores 87 = .ok (.iload_n 3, 1) := by decide +kernel
theorem dX12_stores_88 : decode cX12_stores 88 = .ok (.iconst 4, 1) := by decide +kernel
theorem dX12_stores_89 : decode cX12_stores 89 = .ok (.if_icmp .eq 5, 3) := by decide +kernel
theorem dX12_stores_92 : decode cX12_stores 92 = .ok (.iconst 5, 1) := by decide +kernel
theorem dX12_stores_93 : decode cX12_stores 93 = .ok (.ireturn, 1) := by decide +kernel
theorem dX12_stores_94 : decode cX12_stores 94 = .ok (.aload_n 0, 1) := by decide +kernel
theorem dX12_stores_95 : decode cX12_stores 95 = .ok (.iload_n 1, 1) := by decide +kernel
theorem dX12_stores_96 : decode cX12_stores 96 = .ok (.invokevirtual 408, 3) := by decide +kernel
theorem dX12_stores_99 : decode cX12_stores 99 = .ok (.ifCond .eq 28, 3) := by decide +kernel
theorem dX12_stores_102 : decode cX12_stores 102 = .ok (.iload_n 1, 1) := by decide +kernel
theorem dX12_stores_103 : decode cX12_stores 103 = .ok (.ldc_w 301, 3) := by decide +kernel
theorem dX12_stores_106 : decode cX12_stores 106 = .ok (.if_icmp .ne 127, 3) := by decide +kernel
theorem dX12_stores_109 : decode cX12_stores 109 = .ok (.aload_n 0, 1) := by decide +kernel
theorem dX12_stores_110 : decode cX12_stores 110 = .ok (.aload_n 0, 1) := by decide +kernel
theorem dX12_stores_111 : decode cX12_stores 111 = .ok (.getfield 7, 3) := by decide +kernel
theorem dX12_stores_114 : decode cX12_stores 114 = .ok (.iload 5, 2) := by decide +kernel
theorem dX12_stores_116 : decode cX12_stores 116 = .ok (.iaload, 1) := by decide +kernel
theorem dX12_stores_117 : decode cX12_stores 117 = .ok (.sipush 255, 3) := by decide +kernel
theorem dX12_stores_120 : decode cX12_stores 120 = .ok (.iand, 1) := by decide +kernel
theorem dX12_stores_121 : decode cX12_stores 121 = .ok (.invokevirtual 420, 3) := by decide +kernel
theorem dX12_stores_124 : decode cX12_stores 124 = .ok (.goto 109, 3) := by decide +kernel
theorem dX12_stores_127 : decode cX12_stores 127 = .ok (.iload_n 3, 1) := by decide +kernel
theorem dX12_stores_128 : decode cX12_stores 128 = .ok (.bipush 16, 2) := by decide +kernel
theorem dX12_stores_130 : decode cX12_stores 130 = .ok (.if_icmp .ne 80, 3) := by decide +kernel
theorem dX12_stores_133 : decode cX12_stores 133 = .ok (.aload_n 0, 1) := by decide +kernel
theorem dX12_stores_134 : decode cX12_stores 134 = .ok (.getfield 19, 3) := by decide +kernel
theorem dX12_stores_137 : decode cX12_stores 137 = .ok (.iload 4, 2) := by decide +kernel
theorem dX12_stores_139 : decode cX12_stores 139 = .ok (.iaload, 1) := by decide +kernel
theorem dX12_stores_140 : decode cX12_stores 140 = .ok (.bipush 16, 2) := by decide +kernel
theorem dX12_stores_142 : decode cX12_stores 142 = .ok (.iand, 1) := by decide +kernel
theorem dX12_stores_143 : decode cX12_stores 143 = .ok (.ifCond .eq 34, 3) := by decide +kernel
theorem dX12_stores_146 : decode cX12_stores 146 = .ok (.aload_n 0, 1) := by decide +kernel
theorem dX12_stores_147 : decode cX12_stores 147 = .ok (.getfield 19, 3) := by decide +kernel
theorem dX12_stores_150 : decode cX12_stores 150 = .ok (.iload 5, 2) := by decide +kernel
theorem dX12_stores_152 : decode cX12_stores 152 = .ok (.iaload, 1) := by decide +kernel
theorem dX12_stores_153 : decode cX12_stores 153 = .ok (.bipush 64, 2) := by decide +kernel
theorem dX12_stores_155 : decode cX12_stores 155 = .ok (.iand, 1) := by decide +kernel
theorem dX12_stores_156 : decode cX12_stores 156 = .ok (.ifCond .ne 17, 3) := by decide +kernel
theorem dX12_stores_159 : decode cX12_stores 159 = .ok (.aload_n 0, 1) := by decide +kernel
theorem dX12_stores_160 : decode cX12_stores 160 = .ok (.getfield 19, 3) := by decide +kernel
theorem dX12_stores_163 : decode cX12_stores 163 = .ok (.iload 4, 2) := by decide +kernel
theorem dX12_stores_165 : decode cX12_stores 165 = .ok (.iaload, 1) := by decide +kernel
theorem dX12_stores_166 : decode cX12_stores 166 = .ok (.sipush 128, 3) := by decide +kernel
theorem dX12_stores_169 : decode cX12_stores 169 = .ok (.iand, 1) := by decide +kernel
theorem dX12_stores_170 : decode cX12_stores 170 = .ok (.ifCond .eq 7, 3) := by decide +kernel
theorem dX12_stores_173 : decode cX12_stores 173 = .ok (.iconst 1, 1) := by decide +kernel
theorem dX12_stores_174 : decode cX12_stores 174 = .ok (.goto 4, 3) := by decide +kernel
theorem dX12_stores_177 : decode cX12_stores 177 = .ok (.iconst 0, 1) := by decide +kernel
theorem dX12_stores_178 : decode cX12_stores 178 = .ok (.istore 7, 2) := by decide +kernel
theorem dX12_stores_180 : decode cX12_stores 180 = .ok (.aload_n 0, 1) := by decide +kernel
theorem dX12_stores_181 : decode cX12_stores 181 = .ok (.iload_n 1, 1) := by decide +kernel
theorem dX12_stores_182 : decode cX12_stores 182 = .ok (.iload 5, 2) := by decide +kernel
theorem dX12_stores_184 : decode cX12_stores 184 = .ok (.aload_n 0, 1) := by decide +kernel
theorem dX12_stores_185 : decode cX12_stores 185 = .ok (.getfield 25, 3) := by decide +kernel
theorem dX12_stores_188 : decode cX12_stores 188 = .ok (.iload 5, 2) := by decide +kernel
theorem dX12_stores_190 : decode cX12_stores 190 = .ok (.baload, 1) := by decide +kernel
theorem dX12_stores_191 : decode cX12_stores 191 = .ok (.ifCond .eq 12, 3) := by decide +kernel
theorem dX12_stores_194 : decode cX12_stores 194 = .ok (.iload 7, 2) := by decide +kernel
theorem dX12_stores_196 : decode cX12_stores 196 = .ok (.ifCond .eq 7, 3) := by decide +kernel
theorem dX12_stores_199 : decode cX12_stores 199 = .ok (.iconst 1, 1) := by decide +kernel
theorem dX12_stores_200 : decode cX12_stores 200 = .ok (.goto 4, 3) := by decide +kernel
theorem dX12_stores_203 : decode cX12_stores 203 = .ok (.iconst 0, 1) := by decide +kernel
theorem dX12_stores_204 : decode cX12_stores 204 = .ok (.invokevirtual 303, 3) := by decide +kernel
theorem dX12_stores_207 : decode cX12_stores 207 = .ok (.goto 26, 3) := by decide +kernel
theorem dX12_stores_210 : decode cX12_stores 210 = .ok (.aload_n 0, 1) := by decide +kernel
theorem dX12_stores_211 : decode cX12_stores 211 = .ok (.iload_n 1, 1) := by decide +kernel
theorem dX12_stores_212 : decode cX12_stores 212 = .ok (.iload_n 3, 1) := by decide +kernel
theorem dX12_stores_213 : decode cX12_stores 213 = .ok (.aload_n 0, 1) := by decide +kernel
theorem dX12_stores_214 : decode cX12_stores 214 = .ok (.getfield 7, 3) := by decide +kernel
theorem dX12_stores_217 : decode cX12_stores 217 = .ok (.iload 5, 2) := by decide +kernel
theorem dX12_stores_219 : decode cX12_stores 219 = .ok (.iaload, 1) := by decide +kernel
theorem dX12_stores_220 : decode cX12_stores 220 = .ok (.invokevirtual 268, 3) := by decide +kernel
theorem dX12_stores_223 : decode cX12_stores 223 = .ok (.aload_n 0, 1) := by decide +kernel
theorem dX12_stores_224 : decode cX12_stores 224 = .ok (.getfield 182, 3) := by decide +kernel
theorem dX12_stores_227 : decode cX12_stores 227 = .ok (.iload_n 1, 1) := by decide +kernel
theorem dX12_stores_228 : decode cX12_stores 228 = .ok (.bipush 16, 2) := by decide +kernel
theorem dX12_stores_230 : decode cX12_stores 230 = .ok (.idiv, 1) := by decide +kernel
theorem dX12_stores_231 : decode cX12_stores 231 = .ok (.iconst 0, 1) := by decide +kernel
theorem dX12_stores_232 : decode cX12_stores 232 = .ok (.bastore, 1) := by decide +kernel
theorem dX12_stores_233 : decode cX12_stores 233 = .ok (.aload_n 0, 1) := by decide +kernel
theorem dX12_stores_234 : decode cX12_stores 234 = .ok (.invokevirtual 369, 3) := by decide +kernel
theorem dX12_stores_237 : decode cX12_stores 237 = .ok (.iconst 0, 1) := by decide +kernel
theorem dX12_stores_238 : decode cX12_stores 238 = .ok (.ireturn, 1) := by decide +kernel
theorem dX12_writesOut_0 : decode cX12_writesOut 0 = .ok (.aload_n 0, 1) := by decide +kernel
theorem dX12_writesOut_1 : decode cX12_writesOut 1 = .ok (.getfield 243, 3) := by decide +kernel
theorem dX12_writesOut_4 : decode cX12_writesOut 4 = .ok (.sipush 500, 3) := by decide +kernel
theorem dX12_writesOut_7 : decode cX12_writesOut 7 = .ok (.if_icmp .ne 27, 3) := by decide +kernel
theorem dX12_writesOut_10 : decode cX12_writesOut 10 = .ok (.aload_n 0, 1) := by decide +kernel
theorem dX12_writesOut_11 : decode cX12_writesOut 11 = .ok (.aload_n 0, 1) := by decide +kernel
theorem dX12_writesOut_12 : decode cX12_writesOut 12 = .ok (.getfield 240, 3) := by decide +kernel
theorem dX12_writesOut_15 : decode cX12_writesOut 15 = .ok (.iconst 1, 1) := by decide +kernel
theorem dX12_writesOut_16 : decode cX12_writesOut 16 = .ok (.iadd, 1) := by decide +kernel
theorem dX12_writesOut_17 : decode cX12_writesOut 17 = .ok (.sipush 500, 3) := by decide +kernel
theorem dX12_writesOut_20 : decode cX12_writesOut 20 = .ok (.irem, 1) := by decide +kernel
theorem dX12_writesOut_21 : decode cX12_writesOut 21 = .ok (.putfield 240, 3) := by decide +kernel
theorem dX12_writesOut_24 : decode cX12_writesOut 24 = .ok (.aload_n 0, 1) := by decide +kernel
theorem dX12_writesOut_25 : decode cX12_writesOut 25 = .ok (.dup, 1) := by decide +kernel
theorem dX12_writesOut_26 : decode cX12_writesOut 26 = .ok (.getfield 243, 3) := by decide +kernel
theorem dX12_writesOut_29 : decode cX12_writesOut 29 = .ok (.iconst 1, 1) := by decide +kernel
theorem dX12_writesOut_30 : decode cX12_writesOut 30 = .ok (.isub, 1) := by decide +kernel
theorem dX12_writesOut_31 : decode cX12_writesOut 31 = .ok (.putfield 243, 3) := by decide +kernel
theorem dX12_writesOut_34 : decode cX12_writesOut 34 = .ok (.aload_n 0, 1) := by decide +kernel
theorem dX12_writesOut_35 : decode cX12_writesOut 35 = .ok (.getfield 136, 3) := by decide +kernel
theorem dX12_writesOut_38 : decode cX12_writesOut 38 = .ok (.aload_n 0, 1) := by decide +kernel
theorem dX12_writesOut_39 : decode cX12_writesOut 39 = .ok (.getfield 240, 3) := by decide +kernel
theorem dX12_writesOut_42 : decode cX12_writesOut 42 = .ok (.aload_n 0, 1) := by decide +kernel
theorem dX12_writesOut_43 : decode cX12_writesOut 43 = .ok (.getfield 243, 3) := by decide +kernel
theorem dX12_writesOut_46 : decode cX12_writesOut 46 = .ok (.iadd, 1) := by decide +kernel
theorem dX12_writesOut_47 : decode cX12_writesOut 47 = .ok (.sipush 500, 3) := by decide +kernel
theorem dX12_writesOut_50 : decode cX12_writesOut 50 = .ok (.irem, 1) := by decide +kernel
theorem dX12_writesOut_51 : decode cX12_writesOut 51 = .ok (.iload_n 1, 1) := by decide +kernel
theorem dX12_writesOut_52 : decode cX12_writesOut 52 = .ok (.iastore, 1) := by decide +kernel
theorem dX12_writesOut_53 : decode cX12_writesOut 53 = .ok (.aload_n 0, 1) := by decide +kernel
theorem dX12_writesOut_54 : decode cX12_writesOut 54 = .ok (.dup, 1) := by decide +kernel
theorem dX12_writesOut_55 : decode cX12_writesOut 55 = .ok (.getfield 243, 3) := by decide +kernel
theorem dX12_writesOut_58 : decode cX12_writesOut 58 = .ok (.iconst 1, 1) := by decide +kernel
theorem dX12_writesOut_59 : decode cX12_writesOut 59 = .ok (.iadd, 1) := by decide +kernel
theorem dX12_writesOut_60 : decode cX12_writesOut 60 = .ok (.putfield 243, 3) := by decide +kernel
theorem dX12_writesOut_63 : decode cX12_writesOut 63 = .ok (.return_, 1) := by decide +kernel
theorem dX12_shapes_0 : decode cX12_shapes 0 = .ok (.aload_n 0, 1) := by decide +kernel
theorem dX12_shapes_1 : decode cX12_shapes 1 = .ok (.getfield 330, 3) := by decide +kernel
theorem dX12_shapes_4 : decode cX12_shapes 4 = .ok (.aload_n 0, 1) := by decide +kernel
theorem dX12_shapes_5 : decode cX12_shapes 5 = .ok (.invokevirtual 346, 3) := by decide +kernel
theorem dX12_shapes_8 : decode cX12_shapes 8 = .ok (.invokestatic 307, 3) := by decide +kernel
theorem dX12_shapes_11 : decode cX12_shapes 11 = .ok (.istore_n 2, 1) := by decide +kernel
theorem dX12_shapes_12 : decode cX12_shapes 12 = .ok (.aload_n 0, 1) := by decide +kernel
theorem dX12_shapes_13 : decode cX12_shapes 13 = .ok (.getfield 330, 3) := by decide +kernel
theorem dX12_shapes_16 : decode cX12_shapes 16 = .ok (.aload_n 0, 1) := by decide +kernel
theorem dX12_shapes_17 : decode cX12_shapes 17 = .ok (.invokevirtual 349, 3) := by decide +kernel
theorem dX12_shapes_20 : decode cX12_shapes 20 = .ok (.bipush 15, 2) := by decide +kernel
theorem dX12_shapes_22 : decode cX12_shapes 22 = .ok (.iand, 1) := by decide +kernel
theorem dX12_shapes_23 : decode cX12_shapes 23 = .ok (.invokestatic 307, 3) := by decide +kernel
theorem dX12_shapes_26 : decode cX12_shapes 26 = .ok (.istore_n 3, 1) := by decide +kernel
theorem dX12_shapes_27 : decode cX12_shapes 27 = .ok (.aload_n 0, 1) := by decide +kernel
theorem dX12_shapes_28 : decode cX12_shapes 28 = .ok (.iload_n 2, 1) := by decide +kernel
theorem dX12_shapes_29 : decode cX12_shapes 29 = .ok (.sipush 582, 3) := by decide +kernel
theorem dX12_shapes_32 : decode cX12_shapes 32 = .ok (.invokevirtual 336, 3) := by decide +kernel
theorem dX12_shapes_35 : decode cX12_shapes 35 = .ok (.aload_n 0, 1) := by decide +kernel
theorem dX12_shapes_36 : decode cX12_shapes 36 = .ok (.getfield 25, 3) := by decide +kernel
theorem dX12_shapes_39 : decode cX12_shapes 39 = .ok (.iload_n 2, 1) := by decide +kernel
theorem dX12_shapes_40 : decode cX12_shapes 40 = .ok (.baload, 1) := by decide +kernel
theorem dX12_shapes_41 : decode cX12_shapes 41 = .ok (.ifCond .eq 16, 3) := by decide +kernel
theorem dX12_shapes_44 : decode cX12_shapes 44 = .ok (.aload_n 0, 1) := by decide +kernel
theorem dX12_shapes_45 : decode cX12_shapes 45 = .ok (.getfield 22, 3) := by decide +kernel
theorem dX12_shapes_48 : decode cX12_shapes 48 = .ok (.iload_n 2, 1) := by decide +kernel
theorem dX12_shapes_49 : decode cX12_shapes 49 = .ok (.iaload, 1) := by decide +kernel
theorem dX12_shapes_50 : decode cX12_shapes 50 = .ok (.ifCond .ne 7, 3) := by decide +kernel
theorem dX12_shapes_53 : decode cX12_shapes 53 = .ok (.iconst 1, 1) := by decide +kernel
theorem dX12_shapes_54 : decode cX12_shapes 54 = .ok (.goto 4, 3) := by decide +kernel
theorem dX12_shapes_57 : decode cX12_shapes 57 = .ok (.iconst 0, 1) := by decide +kernel
theorem dX12_shapes_58 : decode cX12_shapes 58 = .ok (.istore 4, 2) := by decide +kernel
theorem dX12_shapes_60 : decode cX12_shapes 60 = .ok (.aload_n 0, 1) := by decide +kernel
theorem dX12_shapes_61 : decode cX12_shapes 61 = .ok (.invokevirtual 352, 3) := by decide +kernel
theorem dX12_shapes_64 : decode cX12_shapes 64 = .ok (.iconst 1, 1) := by decide +kernel
theorem dX12_shapes_65 : decode cX12_shapes 65 = .ok (.if_icmp .ne 9, 3) := by decide +kernel
theorem dX12_shapes_68 : decode cX12_shapes 68 = .ok (.aload_n 0, 1) := by decide +kernel
theorem dX12_shapes_69 : decode cX12_shapes 69 = .ok (.iload_n 2, 1) := by decide +kernel
theorem dX12_shapes_70 : decode cX12_shapes 70 = .ok (.invokevirtual 423, 3) := by decide +kernel
theorem dX12_shapes_73 : decode cX12_shapes 73 = .ok (.return_, 1) := by decide +kernel
theorem dX12_shapes_74 : decode cX12_shapes 74 = .ok (.aload_n 0, 1) := by decide +kernel
theorem dX12_shapes_75 : decode cX12_shapes 75 = .ok (.invokevirtual 352, 3) := by decide +kernel
theorem dX12_shapes_78 : decode cX12_shapes 78 = .ok (.iconst 2, 1) := by decide +kernel
theorem dX12_shapes_79 : decode cX12_shapes 79 = .ok (.if_icmp .ne 28, 3) := by decide +kernel
theorem dX12_shapes_82 : decode cX12_shapes 82 = .ok (.aload_n 0, 1) := by decide +kernel
theorem dX12_shapes_83 : decode cX12_shapes 83 = .ok (.getfield 7, 3) := by decide +kernel
theorem dX12_shapes_86 : decode cX12_shapes 86 = .ok (.sipush 582, 3) := by decide +kernel
theorem dX12_shapes_89 : decode cX12_shapes 89 = .ok (.dup2, 1) := by decide +kernel
theorem dX12_shapes_90 : decode cX12_shapes 90 = .ok (.iaload, 1) := by decide +kernel
theorem dX12_shapes_91 : decode cX12_shapes 91 = .ok (.iload_n 1, 1) := by decide +kernel
theorem dX12_shapes_92 : decode cX12_shapes 92 = .ok (.iadd, 1) := by decide +kernel
theorem dX12_shapes_93 : decode cX12_shapes 93 = .ok (.iastore, 1) := by decide +kernel
theorem dX12_shapes_94 : decode cX12_shapes 94 = .ok (.aload_n 0, 1) := by decide +kernel
theorem dX12_shapes_95 : decode cX12_shapes 95 = .ok (.getfield 25, 3) := by decide +kernel
theorem dX12_shapes_98 : decode cX12_shapes 98 = .ok (.sipush 582, 3) := by decide +kernel
theorem dX12_shapes_101 : decode cX12_shapes 101 = .ok (.iload 4, 2) := by decide +kernel
theorem dX12_shapes_103 : decode cX12_shapes 103 = .ok (.bastore, 1) := by decide +kernel
theorem dX12_shapes_104 : decode cX12_shapes 104 = .ok (.goto 239, 3) := by decide +kernel
theorem dX12_shapes_107 : decode cX12_shapes 107 = .ok (.aload_n 0, 1) := by decide +kernel
theorem dX12_shapes_108 : decode cX12_shapes 108 = .ok (.invokevirtual 352, 3) := by decide +kernel
theorem dX12_shapes_111 : decode cX12_shapes 111 = .ok (.iconst 3, 1) := by decide +kernel
theorem dX12_shapes_112 : decode cX12_shapes 112 = .ok (.if_icmp .ne 23, 3) := by decide +kernel
theorem dX12_shapes_115 : decode cX12_shapes 115 = .ok (.aload_n 0, 1) := by decide +kernel
theorem dX12_shapes_116 : decode cX12_shapes 116 = .ok (.iload_n 2, 1) := by decide +kernel
theorem dX12_shapes_117 : decode cX12_shapes 117 = .ok (.aload_n 0, 1) := by decide +kernel
theorem dX12_shapes_118 : decode cX12_shapes 118 = .ok (.getfield 328, 3) := by decide +kernel
theorem dX12_shapes_121 : decode cX12_shapes 121 = .ok (.bipush 20, 2) := by decide +kernel
theorem dX12_shapes_123 : decode cX12_shapes 123 = .ok (.iushr, 1) := by decide +kernel
theorem dX12_shapes_124 : decode cX12_shapes 124 = .ok (.invokestatic 260, 3) := by decide +kernel
theorem dX12_shapes_127 : decode cX12_shapes 127 = .ok (.iload 4, 2) := by decide +kernel
theorem dX12_shapes_129 : decode cX12_shapes 129 = .ok (.invokevirtual 426, 3) := by decide +kernel
theorem dX12_shapes_132 : decode cX12_shapes 132 = .ok (.goto 211, 3) := by decide +kernel
theorem dX12_shapes_135 : decode cX12_shapes 135 = .ok (.aload_n 0, 1) := by decide +kernel
theorem dX12_shapes_136 : decode cX12_shapes 136 = .ok (.invokevirtual 355, 3) := by decide +kernel
theorem dX12_shapes_139 : decode cX12_shapes 139 = .ok (.ifCond .ne 33, 3) := by decide +kernel
theorem dX12_shapes_142 : decode cX12_shapes 142 = .ok (.aload_n 0, 1) := by decide +kernel
theorem dX12_shapes_143 : decode cX12_shapes 143 = .ok (.getfield 7, 3) := by decide +kernel
theorem dX12_shapes_146 : decode cX12_shapes 146 = .ok (.sipush 582, 3) := by decide +kernel
theorem dX12_shapes_149 : decode cX12_shapes 149 = .ok (.dup2, 1) := by decide +kernel
theorem dX12_shapes_150 : decode cX12_shapes 150 = .ok (.iaload, 1) := by decide +kernel
theorem dX12_shapes_151 : decode cX12_shapes 151 = .ok (.aload_n 0, 1) := by decide +kernel
theorem dX12_shapes_152 : decode cX12_shapes 152 = .ok (.getfield 7, 3) := by decide +kernel
theorem dX12_shapes_155 : decode cX12_shapes 155 = .ok (.iload_n 3, 1) := by decide +kernel
theorem dX12_shapes_156 : decode cX12_shapes 156 = .ok (.iaload, 1) := by decide +kernel
theorem dX12_shapes_157 : decode cX12_shapes 157 = .ok (.iadd, 1) := by decide +kernel
theorem dX12_shapes_158 : decode cX12_shapes 158 = .ok (.iastore, 1) := by decide +kernel
theorem dX12_shapes_159 : decode cX12_shapes 159 = .ok (.aload_n 0, 1) := by decide +kernel
theorem dX12_shapes_160 : decode cX12_shapes 160 = .ok (.getfield 25, 3) := by decide +kernel
theorem dX12_shapes_163 : decode cX12_shapes 163 = .ok (.sipush 582, 3) := by decide +kernel
theorem dX12_shapes_166 : decode cX12_shapes 166 = .ok (.iload 4, 2) := by decide +kernel
theorem dX12_shapes_168 : decode cX12_shapes 168 = .ok (.bastore, 1) := by decide +kernel
theorem dX12_shapes_169 : decode cX12_shapes 169 = .ok (.goto 174, 3) := by decide +kernel
theorem dX12_shapes_172 : decode cX12_shapes 172 = .ok (.aload_n 0, 1) := by decide +kernel
theorem dX12_shapes_173 : decode cX12_shapes 173 = .ok (.invokevirtual 355, 3) := by decide +kernel
theorem dX12_shapes_176 : decode cX12_shapes 176 = .ok (.iconst 1, 1) := by decide +kernel
theorem dX12_shapes_177 : decode cX12_shapes 177 = .ok (.if_icmp .ne 30, 3) := by decide +kernel
theorem dX12_shapes_180 : decode cX12_shapes 180 = .ok (.aload_n 0, 1) := by decide +kernel
theorem dX12_shapes_181 : decode cX12_shapes 181 = .ok (.getfield 7, 3) := by decide +kernel
theorem dX12_shapes_184 : decode cX12_shapes 184 = .ok (.sipush 582, 3) := by decide +kernel
theorem dX12_shapes_187 : decode cX12_shapes 187 = .ok (.aload_n 0, 1) := by decide +kernel
theorem dX12_shapes_188 : decode cX12_shapes 188 = .ok (.getfield 7, 3) := by decide +kernel
theorem dX12_shapes_191 : decode cX12_shapes 191 = .ok (.iload_n 3, 1) := by decide +kernel
theorem dX12_shapes_192 : decode cX12_shapes 192 = .ok (.iaload, 1) := by decide +kernel
theorem dX12_shapes_193 : decode cX12_shapes 193 = .ok (.iastore, 1) := by decide +kernel
theorem dX12_shapes_194 : decode cX12_shapes 194 = .ok (.aload_n 0, 1) := by decide +kernel
theorem dX12_shapes_195 : decode cX12_shapes 195 = .ok (.getfield 25, 3) := by decide +kernel
theorem dX12_shapes_198 : decode cX12_shapes 198 = .ok (.sipush 582, 3) := by decide +kernel
theorem dX12_shapes_201 : decode cX12_shapes 201 = .ok (.iload 4, 2) := by decide +kernel
theorem dX12_shapes_203 : decode cX12_shapes 203 = .ok (.bastore, 1) := by decide +kernel
theorem dX12_shapes_204 : decode cX12_shapes 204 = .ok (.goto 139, 3) := by decide +kernel
theorem dX12_shapes_207 : decode cX12_shapes 207 = .ok (.aload_n 0, 1) := by decide +kernel
theorem dX12_shapes_208 : decode cX12_shapes 208 = .ok (.invokevirtual 355, 3) := by decide +kernel
theorem dX12_shapes_211 : decode cX12_shapes 211 = .ok (.iconst 2, 1) := by decide +kernel
theorem dX12_shapes_212 : decode cX12_shapes 212 = .ok (.if_icmp .ne 22, 3) := by decide +kernel
theorem dX12_shapes_215 : decode cX12_shapes 215 = .ok (.aload_n 0, 1) := by decide +kernel
theorem dX12_shapes_216 : decode cX12_shapes 216 = .ok (.iload_n 2, 1) := by decide +kernel
theorem dX12_shapes_217 : decode cX12_shapes 217 = .ok (.aload_n 0, 1) := by decide +kernel
theorem dX12_shapes_218 : decode cX12_shapes 218 = .ok (.getfield 7, 3) := by decide +kernel
theorem dX12_shapes_221 : decode cX12_shapes 221 = .ok (.iload_n 3, 1) := by decide +kernel
theorem dX12_shapes_222 : decode cX12_shapes 222 = .ok (.iaload, 1) := by decide +kernel
theorem dX12_shapes_223 : decode cX12_shapes 223 = .ok (.invokestatic 260, 3) := by decide +kernel
theorem dX12_shapes_226 : decode cX12_shapes 226 = .ok (.iload 4, 2) := by decide +kernel
theorem dX12_shapes_228 : decode cX12_shapes 228 = .ok (.invokevirtual 426, 3) := by decide +kernel
theorem dX12_shapes_231 : decode cX12_shapes 231 = .ok (.goto 112, 3) := by decide +kernel
theorem dX12_shapes_234 : decode cX12_shapes 234 = .ok (.aload_n 0, 1) := by decide +kernel
theorem dX12_shapes_235 : decode cX12_shapes 235 = .ok (.invokevirtual 355, 3) := by decide +kernel
theorem dX12_shapes_238 : decode cX12_shapes 238 = .ok (.iconst 3, 1) := by decide +kernel
theorem dX12_shapes_239 : decode cX12_shapes 239 = .ok (.if_icmp .ne 41, 3) := by decide +kernel
theorem dX12_shapes_242 : decode cX12_shapes 242 = .ok (.aload_n 0, 1) := by decide +kernel
theorem dX12_shapes_243 : decode cX12_shapes 243 = .ok (.getfield 19, 3) := by decide +kernel
theorem dX12_shapes_246 : decode cX12_shapes 246 = .ok (.sipush 582, 3) := by decide +kernel
theorem dX12_shapes_249 : decode cX12_shapes 249 = .ok (.aload_n 0, 1) := by decide +kernel
theorem dX12_shapes_250 : decode cX12_shapes 250 = .ok (.getfield 19, 3) := by decide +kernel
theorem dX12_shapes_253 : decode cX12_shapes 253 = .ok (.iload_n 2, 1) := by decide +kernel
theorem dX12_shapes_254 : decode cX12_shapes 254 = .ok (.iaload, 1) := by decide +kernel
theorem dX12_shapes_255 : decode cX12_shapes 255 = .ok (.aload_n 0, 1) := by decide +kernel
theorem dX12_shapes_256 : decode cX12_shapes 256 = .ok (.getfield 7, 3) := by decide +kernel
theorem dX12_shapes_259 : decode cX12_shapes 259 = .ok (.iload_n 3, 1) := by decide +kernel
theorem dX12_shapes_260 : decode cX12_shapes 260 = .ok (.iaload, 1) := by decide +kernel
theorem dX12_shapes_261 : decode cX12_shapes 261 = .ok (.iand, 1) := by decide +kernel
theorem dX12_shapes_262 : decode cX12_shapes 262 = .ok (.sipush 255, 3) := by decide +kernel
theorem dX12_shapes_265 : decode cX12_shapes 265 = .ok (.iand, 1) := by decide +kernel
theorem dX12_shapes_266 : decode cX12_shapes 266 = .ok (.iastore, 1) := by decide +kernel
theorem dX12_shapes_267 : decode cX12_shapes 267 = .ok (.aload_n 0, 1) := by decide +kernel
theorem dX12_shapes_268 : decode cX12_shapes 268 = .ok (.getfield 25, 3) := by decide +kernel
theorem dX12_shapes_271 : decode cX12_shapes 271 = .ok (.sipush 582, 3) := by decide +kernel
theorem dX12_shapes_274 : decode cX12_shapes 274 = .ok (.iload 4, 2) := by decide +kernel
theorem dX12_shapes_276 : decode cX12_shapes 276 = .ok (.bastore, 1) := by decide +kernel
theorem dX12_shapes_277 : decode cX12_shapes 277 = .ok (.goto 66, 3) := by decide +kernel
theorem dX12_shapes_280 : decode cX12_shapes 280 = .ok (.aload_n 0, 1) := by decide +kernel
theorem dX12_shapes_281 : decode cX12_shapes 281 = .ok (.invokevirtual 355, 3) := by decide +kernel
theorem dX12_shapes_284 : decode cX12_shapes 284 = .ok (.bipush 6, 2) := by decide +kernel
theorem dX12_shapes_286 : decode cX12_shapes 286 = .ok (.if_icmp .ge 14, 3) := by decide +kernel
theorem dX12_shapes_289 : decode cX12_shapes 289 = .ok (.aload_n 0, 1) := by decide +kernel
theorem dX12_shapes_290 : decode cX12_shapes 290 = .ok (.iload_n 2, 1) := by decide +kernel
theorem dX12_shapes_291 : decode cX12_shapes 291 = .ok (.iload_n 3, 1) := by decide +kernel
theorem dX12_shapes_292 : decode cX12_shapes 292 = .ok (.iload 4, 2) := by decide +kernel
theorem dX12_shapes_294 : decode cX12_shapes 294 = .ok (.invokevirtual 430, 3) := by decide +kernel
theorem dX12_shapes_297 : decode cX12_shapes 297 = .ok (.goto 46, 3) := by decide +kernel
theorem dX12_shapes_300 : decode cX12_shapes 300 = .ok (.aload_n 0, 1) := by decide +kernel
theorem dX12_shapes_301 : decode cX12_shapes 301 = .ok (.invokevirtual 355, 3) := by decide +kernel
theorem dX12_shapes_304 : decode cX12_shapes 304 = .ok (.bipush 6, 2) := by decide +kernel
theorem dX12_shapes_306 : decode cX12_shapes 306 = .ok (.if_icmp .ne 12, 3) := by decide +kernel
theorem dX12_shapes_309 : decode cX12_shapes 309 = .ok (.aload_n 0, 1) := by decide +kernel
theorem dX12_shapes_310 : decode cX12_shapes 310 = .ok (.iload_n 3, 1) := by decide +kernel
theorem dX12_shapes_311 : decode cX12_shapes 311 = .ok (.iload_n 2, 1) := by decide +kernel
theorem dX12_shapes_312 : decode cX12_shapes 312 = .ok (.invokevirtual 433, 3) := by decide +kernel
theorem dX12_shapes_315 : decode cX12_shapes 315 = .ok (.goto 9, 3) := by decide +kernel
theorem dX12_shapes_318 : decode cX12_shapes 318 = .ok (.aload_n 0, 1) := by decide +kernel
theorem dX12_shapes_319 : decode cX12_shapes 319 = .ok (.iload_n 2, 1) := by decide +kernel
theorem dX12_shapes_320 : decode cX12_shapes 320 = .ok (.iload_n 3, 1) := by decide +kernel
theorem dX12_shapes_321 : decode cX12_shapes 321 = .ok (.invokevirtual 437, 3) := by decide +kernel
theorem dX12_shapes_324 : decode cX12_shapes 324 = .ok (.istore 5, 2) := by decide +kernel
theorem dX12_shapes_326 : decode cX12_shapes 326 = .ok (.aload_n 0, 1) := by decide +kernel
theorem dX12_shapes_327 : decode cX12_shapes 327 = .ok (.sipush 582, 3) := by decide +kernel
theorem dX12_shapes_330 : decode cX12_shapes 330 = .ok (.iload 5, 2) := by decide +kernel
theorem dX12_shapes_332 : decode cX12_shapes 332 = .ok (.ifCond .eq 7, 3) := by decide +kernel
theorem dX12_shapes_335 : decode cX12_shapes 335 = .ok (.iconst 1, 1) := by decide +kernel
theorem dX12_shapes_336 : decode cX12_shapes 336 = .ok (.goto 4, 3) := by decide +kernel
theorem dX12_shapes_339 : decode cX12_shapes 339 = .ok (.iconst 0, 1) := by decide +kernel
theorem dX12_shapes_340 : decode cX12_shapes 340 = .ok (.invokevirtual 333, 3) := by decide +kernel
theorem dX12_shapes_343 : decode cX12_shapes 343 = .ok (.aload_n 0, 1) := by decide +kernel
theorem dX12_shapes_344 : decode cX12_shapes 344 = .ok (.sipush 582, 3) := by decide +kernel
theorem dX12_shapes_347 : decode cX12_shapes 347 = .ok (.aload_n 0, 1) := by decide +kernel
theorem dX12_shapes_348 : decode cX12_shapes 348 = .ok (.invokevirtual 343, 3) := by decide +kernel
theorem dX12_shapes_351 : decode cX12_shapes 351 = .ok (.invokevirtual 372, 3) := by decide +kernel
theorem dX12_shapes_354 : decode cX12_shapes 354 = .ok (.return_, 1) := by decide +kernel
theorem dX12_bounds_0 : decode cX12_bounds 0 = .ok (.aload_n 0, 1) := by decide +kernel
theorem dX12_bounds_1 : decode cX12_bounds 1 = .ok (.getfield 7, 3) := by decide +kernel
theorem dX12_bounds_4 : decode cX12_bounds 4 = .ok (.iload_n 1, 1) := by decide +kernel
theorem dX12_bounds_5 : decode cX12_bounds 5 = .ok (.iaload, 1) := by decide +kernel
theorem dX12_bounds_6 : decode cX12_bounds 6 = .ok (.invokestatic 260, 3) := by decide +kernel
theorem dX12_bounds_9 : decode cX12_bounds 9 = .ok (.lstore 5, 2) := by decide +kernel
theorem dX12_bounds_11 : decode cX12_bounds 11 = .ok (.aload_n 0, 1) := by decide +kernel
theorem dX12_bounds_12 : decode cX12_bounds 12 = .ok (.getfield 13, 3) := by decide +kernel
theorem dX12_bounds_15 : decode cX12_bounds 15 = .ok (.sipush 582, 3) := by decide +kernel
theorem dX12_bounds_18 : decode cX12_bounds 18 = .ok (.aload_n 0, 1) := by decide +kernel
theorem dX12_bounds_19 : decode cX12_bounds 19 = .ok (.getfield 7, 3) := by decide +kernel
theorem dX12_bounds_22 : decode cX12_bounds 22 = .ok (.iload_n 1, 1) := by decide +kernel
theorem dX12_bounds_23 : decode cX12_bounds 23 = .ok (.iaload, 1) := by decide +kernel
theorem dX12_bounds_24 : decode cX12_bounds 24 = .ok (.iastore, 1) := by decide +kernel
theorem dX12_bounds_25 : decode cX12_bounds 25 = .ok (.aload_n 0, 1) := by decide +kernel
theorem dX12_bounds_26 : decode cX12_bounds 26 = .ok (.getfield 16, 3) := by decide +kernel
theorem dX12_bounds_29 : decode cX12_bounds 29 = .ok (.sipush 582, 3) := by decide +kernel
theorem dX12_bounds_32 : decode cX12_bounds 32 = .ok (.lload 5, 2) := by decide +kernel
theorem dX12_bounds_34 : decode cX12_bounds 34 = .ok (.lload_n 2, 1) := by decide +kernel
theorem dX12_bounds_35 : decode cX12_bounds 35 = .ok (.ladd, 1) := by decide +kernel
theorem dX12_bounds_36 : decode cX12_bounds 36 = .ok (.l2i, 1) := by decide +kernel
theorem dX12_bounds_37 : decode cX12_bounds 37 = .ok (.iastore, 1) := by decide +kernel
theorem dX12_bounds_38 : decode cX12_bounds 38 = .ok (.aload_n 0, 1) := by decide +kernel
theorem dX12_bounds_39 : decode cX12_bounds 39 = .ok (.getfield 25, 3) := by decide +kernel
theorem dX12_bounds_42 : decode cX12_bounds 42 = .ok (.sipush 582, 3) := by decide +kernel
theorem dX12_bounds_45 : decode cX12_bounds 45 = .ok (.iload 4, 2) := by decide +kernel
theorem dX12_bounds_47 : decode cX12_bounds 47 = .ok (.ifCond .eq 39, 3) := by decide +kernel
theorem dX12_bounds_50 : decode cX12_bounds 50 = .ok (.lload 5, 2) := by decide +kernel
theorem dX12_bounds_52 : decode cX12_bounds 52 = .ok (.aload_n 0, 1) := by decide +kernel
theorem dX12_bounds_53 : decode cX12_bounds 53 = .ok (.getfield 13, 3) := by decide +kernel
theorem dX12_bounds_56 : decode cX12_bounds 56 = .ok (.iload_n 1, 1) := by decide +kernel
theorem dX12_bounds_57 : decode cX12_bounds 57 = .ok (.iaload, 1) := by decide +kernel
theorem dX12_bounds_58 : decode cX12_bounds 58 = .ok (.invokestatic 260, 3) := by decide +kernel
theorem dX12_bounds_61 : decode cX12_bounds 61 = .ok (.lcmp, 1) := by decide +kernel
theorem dX12_bounds_62 : decode cX12_bounds 62 = .ok (.ifCond .lt 24, 3) := by decide +kernel
theorem dX12_bounds_65 : decode cX12_bounds 65 = .ok (.lload 5, 2) := by decide +kernel
theorem dX12_bounds_67 : decode cX12_bounds 67 = .ok (.lload_n 2, 1) := by decide +kernel
theorem dX12_bounds_68 : decode cX12_bounds 68 = .ok (.ladd, 1) := by decide +kernel
theorem dX12_bounds_69 : decode cX12_bounds 69 = .ok (.aload_n 0, 1) := by decide +kernel
theorem dX12_bounds_70 : decode cX12_bounds 70 = .ok (.getfield 16, 3) := by decide +kernel
theorem dX12_bounds_73 : decode cX12_bounds 73 = .ok (.iload_n 1, 1) := by decide +kernel
theorem dX12_bounds_74 : decode cX12_bounds 74 = .ok (.iaload, 1) := by decide +kernel
theorem dX12_bounds_75 : decode cX12_bounds 75 = .ok (.invokestatic 260, 3) := by decide +kernel
theorem dX12_bounds_78 : decode cX12_bounds 78 = .ok (.lcmp, 1) := by decide +kernel
theorem dX12_bounds_79 : decode cX12_bounds 79 = .ok (.ifCond .gt 7, 3) := by decide +kernel
theorem dX12_bounds_82 : decode cX12_bounds 82 = .ok (.iconst 1, 1) := by decide +kernel
theorem dX12_bounds_83 : decode cX12_bounds 83 = .ok (.goto 4, 3) := by decide +kernel
theorem dX12_bounds_86 : decode cX12_bounds 86 = .ok (.iconst 0, 1) := by decide +kernel
theorem dX12_bounds_87 : decode cX12_bounds 87 = .ok (.bastore, 1) := by decide +kernel
theorem dX12_bounds_88 : decode cX12_bounds 88 = .ok (.return_, 1) := by decide +kernel
theorem dX12_seals_0 : decode cX12_seals 0 = .ok (.aload_n 0, 1) := by decide +kernel
theorem dX12_seals_1 : decode cX12_seals 1 = .ok (.getfield 7, 3) := by decide +kernel
theorem dX12_seals_4 : decode cX12_seals 4 = .ok (.iload_n 2, 1) := by decide +kernel
theorem dX12_seals_5 : decode cX12_seals 5 = .ok (.iaload, 1) := by decide +kernel
theorem dX12_seals_6 : decode cX12_seals 6 = .ok (.invokestatic 260, 3) := by decide +kernel
theorem dX12_seals_9 : decode cX12_seals 9 = .ok (.lstore 4, 2) := by decide +kernel
theorem dX12_seals_11 : decode cX12_seals 11 = .ok (.aload_n 0, 1) := by decide +kernel
theorem dX12_seals_12 : decode cX12_seals 12 = .ok (.getfield 25, 3) := by decide +kernel
theorem dX12_seals_15 : decode cX12_seals 15 = .ok (.iload_n 2, 1) := by decide +kernel
theorem dX12_seals_16 : decode cX12_seals 16 = .ok (.baload, 1) := by decide +kernel
theorem dX12_seals_17 : decode cX12_seals 17 = .ok (.ifCond .eq 76, 3) := by decide +kernel
theorem dX12_seals_20 : decode cX12_seals 20 = .ok (.aload_n 0, 1) := by decide +kernel
theorem dX12_seals_21 : decode cX12_seals 21 = .ok (.getfield 22, 3) := by decide +kernel
theorem dX12_seals_24 : decode cX12_seals 24 = .ok (.iload_n 2, 1) := by decide +kernel
theorem dX12_seals_25 : decode cX12_seals 25 = .ok (.iaload, 1) := by decide +kernel
theorem dX12_seals_26 : decode cX12_seals 26 = .ok (.ifCond .ne 67, 3) := by decide +kernel
theorem dX12_seals_29 : decode cX12_seals 29 = .ok (.aload_n 0, 1) := by decide +kernel
theorem dX12_seals_30 : decode cX12_seals 30 = .ok (.getfield 19, 3) := by decide +kernel
theorem dX12_seals_33 : decode cX12_seals 33 = .ok (.iload_n 2, 1) := by decide +kernel
theorem dX12_seals_34 : decode cX12_seals 34 = .ok (.iaload, 1) := by decide +kernel
theorem dX12_seals_35 : decode cX12_seals 35 = .ok (.bipush 32, 2) := by decide +kernel
theorem dX12_seals_37 : decode cX12_seals 37 = .ok (.iand, 1) := by decide +kernel
theorem dX12_seals_38 : decode cX12_seals 38 = .ok (.ifCond .eq 55, 3) := by decide +kernel
theorem dX12_seals_41 : decode cX12_seals 41 = .ok (.lload 4, 2) := by decide +kernel
theorem dX12_seals_43 : decode cX12_seals 43 = .ok (.aload_n 0, 1) := by decide +kernel
theorem dX12_seals_44 : decode cX12_seals 44 = .ok (.getfield 13, 3) := by decide +kernel
theorem dX12_seals_47 : decode cX12_seals 47 = .ok (.iload_n 2, 1) := by decide +kernel
theorem dX12_seals_48 : decode cX12_seals 48 = .ok (.iaload, 1) := by decide +kernel
theorem dX12_seals_49 : decode cX12_seals 49 = .ok (.invokestatic 260, 3) := by decide +kernel
theorem dX12_seals_52 : decode cX12_seals 52 = .ok (.lcmp, 1) := by decide +kernel
theorem dX12_seals_53 : decode cX12_seals 53 = .ok (.ifCond .lt 40, 3) := by decide +kernel
theorem dX12_seals_56 : decode cX12_seals 56 = .ok (.lload 4, 2) := by decide +kernel
theorem dX12_seals_58 : decode cX12_seals 58 = .ok (.aload_n 0, 1) := by decide +kernel
theorem dX12_seals_59 : decode cX12_seals 59 = .ok (.getfield 16, 3) := by decide +kernel
theorem dX12_seals_62 : decode cX12_seals 62 = .ok (.iload_n 2, 1) := by decide +kernel
theorem dX12_seals_63 : decode cX12_seals 63 = .ok (.iaload, 1) := by decide +kernel
theorem dX12_seals_64 : decode cX12_seals 64 = .ok (.invokestatic 260, 3) := by decide +kernel
theorem dX12_seals_67 : decode cX12_seals 67 = .ok (.lcmp, 1) := by decide +kernel
theorem dX12_seals_68 : decode cX12_seals 68 = .ok (.ifCond .ge 25, 3) := by decide +kernel
theorem dX12_seals_71 : decode cX12_seals 71 = .ok (.lload 4, 2) := by decide +kernel
theorem dX12_seals_73 : decode cX12_seals 73 = .ok (.ldc2_w 440, 3) := by decide +kernel
theorem dX12_seals_76 : decode cX12_seals 76 = .ok (.lcmp, 1) := by decide +kernel
theorem dX12_seals_77 : decode cX12_seals 77 = .ok (.ifCond .lt 16, 3) := by decide +kernel
theorem dX12_seals_80 : decode cX12_seals 80 = .ok (.lload 4, 2) := by decide +kernel
theorem dX12_seals_82 : decode cX12_seals 82 = .ok (.ldc2_w 442, 3) := by decide +kernel
theorem dX12_seals_85 : decode cX12_seals 85 = .ok (.lcmp, 1) := by decide +kernel
theorem dX12_seals_86 : decode cX12_seals 86 = .ok (.ifCond .gt 7, 3) := by decide +kernel
theorem dX12_seals_89 : decode cX12_seals 89 = .ok (.iconst 1, 1) := by decide +kernel
theorem dX12_seals_90 : decode cX12_seals 90 = .ok (.goto 4, 3) := by decide +kernel
theorem dX12_seals_93 : decode cX12_seals 93 = .ok (.iconst 0, 1) := by decide +kernel
theorem dX12_seals_94 : decode cX12_seals 94 = .ok (.istore 6, 2) := by decide +kernel
theorem dX12_seals_96 : decode cX12_seals 96 = .ok (.aload_n 0, 1) := by decide +kernel
theorem dX12_seals_97 : decode cX12_seals 97 = .ok (.invokevirtual 355, 3) := by decide +kernel
theorem dX12_seals_100 : decode cX12_seals 100 = .ok (.iconst 4, 1) := by decide +kernel
theorem dX12_seals_101 : decode cX12_seals 101 = .ok (.if_icmp .ne 51, 3) := by decide +kernel
theorem dX12_seals_104 : decode cX12_seals 104 = .ok (.aload_n 0, 1) := by decide +kernel
theorem dX12_seals_105 : decode cX12_seals 105 = .ok (.getfield 25, 3) := by decide +kernel
theorem dX12_seals_108 : decode cX12_seals 108 = .ok (.sipush 582, 3) := by decide +kernel
theorem dX12_seals_111 : decode cX12_seals 111 = .ok (.iload_n 3, 1) := by decide +kernel
theorem dX12_seals_112 : decode cX12_seals 112 = .ok (.ifCond .eq 12, 3) := by decide +kernel
theorem dX12_seals_115 : decode cX12_seals 115 = .ok (.iload 6, 2) := by decide +kernel
theorem dX12_seals_117 : decode cX12_seals 117 = .ok (.ifCond .eq 7, 3) := by decide +kernel
theorem dX12_seals_120 : decode cX12_seals 120 = .ok (.iconst 1, 1) := by decide +kernel
theorem dX12_seals_121 : decode cX12_seals 121 = .ok (.goto 4, 3) := by decide +kernel
theorem dX12_seals_124 : decode cX12_seals 124 = .ok (.iconst 0, 1) := by decide +kernel
theorem dX12_seals_125 : decode cX12_seals 125 = .ok (.bastore, 1) := by decide +kernel
theorem dX12_seals_126 : decode cX12_seals 126 = .ok (.aload_n 0, 1) := by decide +kernel
theorem dX12_seals_127 : decode cX12_seals 127 = .ok (.getfield 25, 3) := by decide +kernel
theorem dX12_seals_130 : decode cX12_seals 130 = .ok (.sipush 582, 3) := by decide +kernel
theorem dX12_seals_133 : decode cX12_seals 133 = .ok (.baload, 1) := by decide +kernel
theorem dX12_seals_134 : decode cX12_seals 134 = .ok (.ifCond .eq 17, 3) := by decide +kernel
theorem dX12_seals_137 : decode cX12_seals 137 = .ok (.aload_n 0, 1) := by decide +kernel
theorem dX12_seals_138 : decode cX12_seals 138 = .ok (.getfield 22, 3) := by decide +kernel
theorem dX12_seals_141 : decode cX12_seals 141 = .ok (.sipush 582, 3) := by decide +kernel
theorem dX12_seals_144 : decode cX12_seals 144 = .ok (.aload_n 0, 1) := by decide +kernel
theorem dX12_seals_145 : decode cX12_seals 145 = .ok (.getfield 7, 3) := by decide +kernel
theorem dX12_seals_148 : decode cX12_seals 148 = .ok (.iload_n 2, 1) := by decide +kernel
theorem dX12_seals_149 : decode cX12_seals 149 = .ok (.iaload, 1) := by decide +kernel
theorem dX12_seals_150 : decode cX12_seals 150 = .ok (.iastore, 1) := by decide +kernel
theorem dX12_seals_151 : decode cX12_seals 151 = .ok (.return_, 1) := by decide +kernel
theorem dX12_seals_152 : decode cX12_seals 152 = .ok (.aload_n 0, 1) := by decide +kernel
theorem dX12_seals_153 : decode cX12_seals 153 = .ok (.getfield 25, 3) := by decide +kernel
theorem dX12_seals_156 : decode cX12_seals 156 = .ok (.sipush 582, 3) := by decide +kernel
theorem dX12_seals_159 : decode cX12_seals 159 = .ok (.aload_n 0, 1) := by decide +kernel
theorem dX12_seals_160 : decode cX12_seals 160 = .ok (.getfield 25, 3) := by decide +kernel
theorem dX12_seals_163 : decode cX12_seals 163 = .ok (.iload_n 1, 1) := by decide +kernel
theorem dX12_seals_164 : decode cX12_seals 164 = .ok (.baload, 1) := by decide +kernel
theorem dX12_seals_165 : decode cX12_seals 165 = .ok (.ifCond .eq 27, 3) := by decide +kernel
theorem dX12_seals_168 : decode cX12_seals 168 = .ok (.iload 6, 2) := by decide +kernel
theorem dX12_seals_170 : decode cX12_seals 170 = .ok (.ifCond .eq 22, 3) := by decide +kernel
theorem dX12_seals_173 : decode cX12_seals 173 = .ok (.aload_n 0, 1) := by decide +kernel
theorem dX12_seals_174 : decode cX12_seals 174 = .ok (.getfield 22, 3) := by decide +kernel
theorem dX12_seals_177 : decode cX12_seals 177 = .ok (.iload_n 1, 1) := by decide +kernel
theorem dX12_seals_178 : decode cX12_seals 178 = .ok (.iaload, 1) := by decide +kernel
theorem dX12_seals_179 : decode cX12_seals 179 = .ok (.aload_n 0, 1) := by decide +kernel
theorem dX12_seals_180 : decode cX12_seals 180 = .ok (.getfield 7, 3) := by decide +kernel
theorem dX12_seals_183 : decode cX12_seals 183 = .ok (.iload_n 2, 1) := by decide +kernel
theorem dX12_seals_184 : decode cX12_seals 184 = .ok (.iaload, 1) := by decide +kernel
theorem dX12_seals_185 : decode cX12_seals 185 = .ok (.if_icmp .ne 7, 3) := by decide +kernel
theorem dX12_seals_188 : decode cX12_seals 188 = .ok (.iconst 1, 1) := by decide +kernel
theorem dX12_seals_189 : decode cX12_seals 189 = .ok (.goto 4, 3) := by decide +kernel
theorem dX12_seals_192 : decode cX12_seals 192 = .ok (.iconst 0, 1) := by decide +kernel
theorem dX12_seals_193 : decode cX12_seals 193 = .ok (.bastore, 1) := by decide +kernel
theorem dX12_seals_194 : decode cX12_seals 194 = .ok (.aload_n 0, 1) := by decide +kernel
theorem dX12_seals_195 : decode cX12_seals 195 = .ok (.getfield 25, 3) := by decide +kernel
theorem dX12_seals_198 : decode cX12_seals 198 = .ok (.sipush 582, 3) := by decide +kernel
theorem dX12_seals_201 : decode cX12_seals 201 = .ok (.baload, 1) := by decide +kernel
theorem dX12_seals_202 : decode cX12_seals 202 = .ok (.ifCond .ne 4, 3) := by decide +kernel
theorem dX12_seals_205 : decode cX12_seals 205 = .ok (.return_, 1) := by decide +kernel
theorem dX12_seals_206 : decode cX12_seals 206 = .ok (.aload_n 0, 1) := by decide +kernel
theorem dX12_seals_207 : decode cX12_seals 207 = .ok (.getfield 22, 3) := by decide +kernel
theorem dX12_seals_210 : decode cX12_seals 210 = .ok (.sipush 582, 3) := by decide +kernel
theorem dX12_seals_213 : decode cX12_seals 213 = .ok (.iconst 0, 1) := by decide +kernel
theorem dX12_seals_214 : decode cX12_seals 214 = .ok (.iastore, 1) := by decide +kernel
theorem dX12_seals_215 : decode cX12_seals 215 = .ok (.aload_n 0, 1) := by decide +kernel
theorem dX12_seals_216 : decode cX12_seals 216 = .ok (.getfield 19, 3) := by decide +kernel
theorem dX12_seals_219 : decode cX12_seals 219 = .ok (.iload_n 2, 1) := by decide +kernel
theorem dX12_seals_220 : decode cX12_seals 220 = .ok (.iaload, 1) := by decide +kernel
theorem dX12_seals_221 : decode cX12_seals 221 = .ok (.bipush 64, 2) := by decide +kernel
theorem dX12_seals_223 : decode cX12_seals 223 = .ok (.iand, 1) := by decide +kernel
theorem dX12_seals_224 : decode cX12_seals 224 = .ok (.ifCond .ne 16, 3) := by decide +kernel
theorem dX12_seals_227 : decode cX12_seals 227 = .ok (.aload_n 0, 1) := by decide +kernel
theorem dX12_seals_228 : decode cX12_seals 228 = .ok (.getfield 19, 3) := by decide +kernel
theorem dX12_seals_231 : decode cX12_seals 231 = .ok (.sipush 582, 3) := by decide +kernel
theorem dX12_seals_234 : decode cX12_seals 234 = .ok (.dup2, 1) := by decide +kernel
theorem dX12_seals_235 : decode cX12_seals 235 = .ok (.iaload, 1) := by decide +kernel
theorem dX12_seals_236 : decode cX12_seals 236 = .ok (.bipush (-65), 2) := by decide +kernel
theorem dX12_seals_238 : decode cX12_seals 238 = .ok (.iand, 1) := by decide +kernel
theorem dX12_seals_239 : decode cX12_seals 239 = .ok (.iastore, 1) := by decide +kernel
theorem dX12_seals_240 : decode cX12_seals 240 = .ok (.return_, 1) := by decide +kernel
theorem dX12_isWithin_0 : decode cX12_isWithin 0 = .ok (.aload_n 0, 1) := by decide +kernel
theorem dX12_isWithin_1 : decode cX12_isWithin 1 = .ok (.getfield 13, 3) := by decide +kernel
theorem dX12_isWithin_4 : decode cX12_isWithin 4 = .ok (.iload_n 1, 1) := by decide +kernel
theorem dX12_isWithin_5 : decode cX12_isWithin 5 = .ok (.iaload, 1) := by decide +kernel
theorem dX12_isWithin_6 : decode cX12_isWithin 6 = .ok (.invokestatic 260, 3) := by decide +kernel
theorem dX12_isWithin_9 : decode cX12_isWithin 9 = .ok (.aload_n 0, 1) := by decide +kernel
theorem dX12_isWithin_10 : decode cX12_isWithin 10 = .ok (.getfield 13, 3) := by decide +kernel
theorem dX12_isWithin_13 : decode cX12_isWithin 13 = .ok (.iload_n 2, 1) := by decide +kernel
theorem dX12_isWithin_14 : decode cX12_isWithin 14 = .ok (.iaload, 1) := by decide +kernel
theorem dX12_isWithin_15 : decode cX12_isWithin 15 = .ok (.invokestatic 260, 3) := by decide +kernel
theorem dX12_isWithin_18 : decode cX12_isWithin 18 = .ok (.lcmp, 1) := by decide +kernel
theorem dX12_isWithin_19 : decode cX12_isWithin 19 = .ok (.ifCond .lt 62, 3) := by decide +kernel
theorem dX12_isWithin_22 : decode cX12_isWithin 22 = .ok (.aload_n 0, 1) := by decide +kernel
theorem dX12_isWithin_23 : decode cX12_isWithin 23 = .ok (.getfield 16, 3) := by decide +kernel
theorem dX12_isWithin_26 : decode cX12_isWithin 26 = .ok (.iload_n 1, 1) := by decide +kernel
theorem dX12_isWithin_27 : decode cX12_isWithin 27 = .ok (.iaload, 1) := by decide +kernel
theorem dX12_isWithin_28 : decode cX12_isWithin 28 = .ok (.invokestatic 260, 3) := by decide +kernel
theorem dX12_isWithin_31 : decode cX12_isWithin 31 = .ok (.aload_n 0, 1) := by decide +kernel
theorem dX12_isWithin_32 : decode cX12_isWithin 32 = .ok (.getfield 16, 3) := by decide +kernel
theorem dX12_isWithin_35 : decode cX12_isWithin 35 = .ok (.iload_n 2, 1) := by decide +kernel
theorem dX12_isWithin_36 : decode cX12_isWithin 36 = .ok (.iaload, 1) := by decide +kernel
theorem dX12_isWithin_37 : decode cX12_isWithin 37 = .ok (.invokestatic 260, 3) := by decide +kernel
theorem dX12_isWithin_40 : decode cX12_isWithin 40 = .ok (.lcmp, 1) := by decide +kernel
theorem dX12_isWithin_41 : decode cX12_isWithin 41 = .ok (.ifCond .gt 40, 3) := by decide +kernel
theorem dX12_isWithin_44 : decode cX12_isWithin 44 = .ok (.aload_n 0, 1) := by decide +kernel
theorem dX12_isWithin_45 : decode cX12_isWithin 45 = .ok (.getfield 19, 3) := by decide +kernel
theorem dX12_isWithin_48 : decode cX12_isWithin 48 = .ok (.iload_n 1, 1) := by decide +kernel
theorem dX12_isWithin_49 : decode cX12_isWithin 49 = .ok (.iaload, 1) := by decide +kernel
theorem dX12_isWithin_50 : decode cX12_isWithin 50 = .ok (.aload_n 0, 1) := by decide +kernel
theorem dX12_isWithin_51 : decode cX12_isWithin 51 = .ok (.getfield 19, 3) := by decide +kernel
theorem dX12_isWithin_54 : decode cX12_isWithin 54 = .ok (.iload_n 2, 1) := by decide +kernel
theorem dX12_isWithin_55 : decode cX12_isWithin 55 = .ok (.iaload, 1) := by decide +kernel
theorem dX12_isWithin_56 : decode cX12_isWithin 56 = .ok (.iconst (-1), 1) := by decide +kernel
theorem dX12_isWithin_57 : decode cX12_isWithin 57 = .ok (.ixor, 1) := by decide +kernel
theorem dX12_isWithin_58 : decode cX12_isWithin 58 = .ok (.iand, 1) := by decide +kernel
theorem dX12_isWithin_59 : decode cX12_isWithin 59 = .ok (.ifCond .ne 22, 3) := by decide +kernel
theorem dX12_isWithin_62 : decode cX12_isWithin 62 = .ok (.aload_n 0, 1) := by decide +kernel
theorem dX12_isWithin_63 : decode cX12_isWithin 63 = .ok (.getfield 25, 3) := by decide +kernel
theorem dX12_isWithin_66 : decode cX12_isWithin 66 = .ok (.iload_n 2, 1) := by decide +kernel
theorem dX12_isWithin_67 : decode cX12_isWithin 67 = .ok (.baload, 1) := by decide +kernel
theorem dX12_isWithin_68 : decode cX12_isWithin 68 = .ok (.aload_n 0, 1) := by decide +kernel
theorem dX12_isWithin_69 : decode cX12_isWithin 69 = .ok (.getfield 25, 3) := by decide +kernel
theorem dX12_isWithin_72 : decode cX12_isWithin 72 = .ok (.iload_n 1, 1) := by decide +kernel
theorem dX12_isWithin_73 : decode cX12_isWithin 73 = .ok (.baload, 1) := by decide +kernel
theorem dX12_isWithin_74 : decode cX12_isWithin 74 = .ok (.if_icmp .ne 7, 3) := by decide +kernel
theorem dX12_isWithin_77 : decode cX12_isWithin 77 = .ok (.iconst 1, 1) := by decide +kernel
theorem dX12_isWithin_78 : decode cX12_isWithin 78 = .ok (.goto 4, 3) := by decide +kernel
theorem dX12_isWithin_81 : decode cX12_isWithin 81 = .ok (.iconst 0, 1) := by decide +kernel
theorem dX12_isWithin_82 : decode cX12_isWithin 82 = .ok (.ireturn, 1) := by decide +kernel
theorem dX12_isLike_0 : decode cX12_isLike 0 = .ok (.aload_n 0, 1) := by decide +kernel
theorem dX12_isLike_1 : decode cX12_isLike 1 = .ok (.getfield 7, 3) := by decide +kernel
theorem dX12_isLike_4 : decode cX12_isLike 4 = .ok (.iload_n 1, 1) := by decide +kernel
theorem dX12_isLike_5 : decode cX12_isLike 5 = .ok (.iaload, 1) := by decide +kernel
theorem dX12_isLike_6 : decode cX12_isLike 6 = .ok (.aload_n 0, 1) := by decide +kernel
theorem dX12_isLike_7 : decode cX12_isLike 7 = .ok (.getfield 7, 3) := by decide +kernel
theorem dX12_isLike_10 : decode cX12_isLike 10 = .ok (.iload_n 2, 1) := by decide +kernel
theorem dX12_isLike_11 : decode cX12_isLike 11 = .ok (.iaload, 1) := by decide +kernel
theorem dX12_isLike_12 : decode cX12_isLike 12 = .ok (.if_icmp .ne 82, 3) := by decide +kernel
theorem dX12_isLike_15 : decode cX12_isLike 15 = .ok (.aload_n 0, 1) := by decide +kernel
theorem dX12_isLike_16 : decode cX12_isLike 16 = .ok (.getfield 13, 3) := by decide +kernel
theorem dX12_isLike_19 : decode cX12_isLike 19 = .ok (.iload_n 1, 1) := by decide +kernel
theorem dX12_isLike_20 : decode cX12_isLike 20 = .ok (.iaload, 1) := by decide +kernel
theorem dX12_isLike_21 : decode cX12_isLike 21 = .ok (.aload_n 0, 1) := by decide +kernel
theorem dX12_isLike_22 : decode cX12_isLike 22 = .ok (.getfield 13, 3) := by decide +kernel
theorem dX12_isLike_25 : decode cX12_isLike 25 = .ok (.iload_n 2, 1) := by decide +kernel
theorem dX12_isLike_26 : decode cX12_isLike 26 = .ok (.iaload, 1) := by decide +kernel
theorem dX12_isLike_27 : decode cX12_isLike 27 = .ok (.if_icmp .ne 67, 3) := by decide +kernel
theorem dX12_isLike_30 : decode cX12_isLike 30 = .ok (.aload_n 0, 1) := by decide +kernel
theorem dX12_isLike_31 : decode cX12_isLike 31 = .ok (.getfield 16, 3) := by decide +kernel
theorem dX12_isLike_34 : decode cX12_isLike 34 = .ok (.iload_n 1, 1) := by decide +kernel
theorem dX12_isLike_35 : decode cX12_isLike 35 = .ok (.iaload, 1) := by decide +kernel
theorem dX12_isLike_36 : decode cX12_isLike 36 = .ok (.aload_n 0, 1) := by decide +kernel
theorem dX12_isLike_37 : decode cX12_isLike 37 = .ok (.getfield 16, 3) := by decide +kernel
theorem dX12_isLike_40 : decode cX12_isLike 40 = .ok (.iload_n 2, 1) := by decide +kernel
theorem dX12_isLike_41 : decode cX12_isLike 41 = .ok (.iaload, 1) := by decide +kernel
theorem dX12_isLike_42 : decode cX12_isLike 42 = .ok (.if_icmp .ne 52, 3) := by decide +kernel
theorem dX12_isLike_45 : decode cX12_isLike 45 = .ok (.aload_n 0, 1) := by decide +kernel
theorem dX12_isLike_46 : decode cX12_isLike 46 = .ok (.getfield 19, 3) := by decide +kernel
theorem dX12_isLike_49 : decode cX12_isLike 49 = .ok (.iload_n 1, 1) := by decide +kernel
theorem dX12_isLike_50 : decode cX12_isLike 50 = .ok (.iaload, 1) := by decide +kernel
theorem dX12_isLike_51 : decode cX12_isLike 51 = .ok (.aload_n 0, 1) := by decide +kernel
theorem dX12_isLike_52 : decode cX12_isLike 52 = .ok (.getfield 19, 3) := by decide +kernel
theorem dX12_isLike_55 : decode cX12_isLike 55 = .ok (.iload_n 2, 1) := by decide +kernel
theorem dX12_isLike_56 : decode cX12_isLike 56 = .ok (.iaload, 1) := by decide +kernel
theorem dX12_isLike_57 : decode cX12_isLike 57 = .ok (.if_icmp .ne 37, 3) := by decide +kernel
theorem dX12_isLike_60 : decode cX12_isLike 60 = .ok (.aload_n 0, 1) := by decide +kernel
theorem dX12_isLike_61 : decode cX12_isLike 61 = .ok (.getfield 22, 3) := by decide +kernel
theorem dX12_isLike_64 : decode cX12_isLike 64 = .ok (.iload_n 1, 1) := by decide +kernel
theorem dX12_isLike_65 : decode cX12_isLike 65 = .ok (.iaload, 1) := by decide +kernel
theorem dX12_isLike_66 : decode cX12_isLike 66 = .ok (.aload_n 0, 1) := by decide +kernel
theorem dX12_isLike_67 : decode cX12_isLike 67 = .ok (.getfield 22, 3) := by decide +kernel
theorem dX12_isLike_70 : decode cX12_isLike 70 = .ok (.iload_n 2, 1) := by decide +kernel
theorem dX12_isLike_71 : decode cX12_isLike 71 = .ok (.iaload, 1) := by decide +kernel
theorem dX12_isLike_72 : decode cX12_isLike 72 = .ok (.if_icmp .ne 22, 3) := by decide +kernel
theorem dX12_isLike_75 : decode cX12_isLike 75 = .ok (.aload_n 0, 1) := by decide +kernel
theorem dX12_isLike_76 : decode cX12_isLike 76 = .ok (.getfield 25, 3) := by decide +kernel
theorem dX12_isLike_79 : decode cX12_isLike 79 = .ok (.iload_n 1, 1) := by decide +kernel
theorem dX12_isLike_80 : decode cX12_isLike 80 = .ok (.baload, 1) := by decide +kernel
theorem dX12_isLike_81 : decode cX12_isLike 81 = .ok (.aload_n 0, 1) := by decide +kernel
theorem dX12_isLike_82 : decode cX12_isLike 82 = .ok (.getfield 25, 3) := by decide +kernel
theorem dX12_isLike_85 : decode cX12_isLike 85 = .ok (.iload_n 2, 1) := by decide +kernel
theorem dX12_isLike_86 : decode cX12_isLike 86 = .ok (.baload, 1) := by decide +kernel
theorem dX12_isLike_87 : decode cX12_isLike 87 = .ok (.if_icmp .ne 7, 3) := by decide +kernel
theorem dX12_isLike_90 : decode cX12_isLike 90 = .ok (.iconst 1, 1) := by decide +kernel
theorem dX12_isLike_91 : decode cX12_isLike 91 = .ok (.goto 4, 3) := by decide +kernel
theorem dX12_isLike_94 : decode cX12_isLike 94 = .ok (.iconst 0, 1) := by decide +kernel
theorem dX12_isLike_95 : decode cX12_isLike 95 = .ok (.ireturn, 1) := by decide +kernel
theorem dX12_asks_0 : decode cX12_asks 0 = .ok (.aload_n 0, 1) := by decide +kernel
theorem dX12_asks_1 : decode cX12_asks 1 = .ok (.invokevirtual 349, 3) := by decide +kernel
theorem dX12_asks_4 : decode cX12_asks 4 = .ok (.tableswitch 217 0 9 #[56, 71, 86, 101, 123, 146, 161, 176, 202, 205], 56) := by decide +kernel
theorem dX12_asks_60 : decode cX12_asks 60 = .ok (.aload_n 0, 1) := by decide +kernel
theorem dX12_asks_61 : decode cX12_asks 61 = .ok (.aload_n 0, 1) := by decide +kernel
theorem dX12_asks_62 : decode cX12_asks 62 = .ok (.invokevirtual 343, 3) := by decide +kernel
theorem dX12_asks_65 : decode cX12_asks 65 = .ok (.aload_n 0, 1) := by decide +kernel
theorem dX12_asks_66 : decode cX12_asks 66 = .ok (.getfield 19, 3) := by decide +kernel
theorem dX12_asks_69 : decode cX12_asks 69 = .ok (.iload_n 1, 1) := by decide +kernel
theorem dX12_asks_70 : decode cX12_asks 70 = .ok (.iaload, 1) := by decide +kernel
theorem dX12_asks_71 : decode cX12_asks 71 = .ok (.invokevirtual 366, 3) := by decide +kernel
theorem dX12_asks_74 : decode cX12_asks 74 = .ok (.return_, 1) := by decide +kernel
theorem dX12_asks_75 : decode cX12_asks 75 = .ok (.aload_n 0, 1) := by decide +kernel
theorem dX12_asks_76 : decode cX12_asks 76 = .ok (.aload_n 0, 1) := by decide +kernel
theorem dX12_asks_77 : decode cX12_asks 77 = .ok (.invokevirtual 343, 3) := by decide +kernel
theorem dX12_asks_80 : decode cX12_asks 80 = .ok (.aload_n 0, 1) := by decide +kernel
theorem dX12_asks_81 : decode cX12_asks 81 = .ok (.getfield 22, 3) := by decide +kernel
theorem dX12_asks_84 : decode cX12_asks 84 = .ok (.iload_n 1, 1) := by decide +kernel
theorem dX12_asks_85 : decode cX12_asks 85 = .ok (.iaload, 1) := by decide +kernel
theorem dX12_asks_86 : decode cX12_asks 86 = .ok (.invokevirtual 366, 3) := by decide +kernel
theorem dX12_asks_89 : decode cX12_asks 89 = .ok (.return_, 1) := by decide +kernel
theorem dX12_asks_90 : decode cX12_asks 90 = .ok (.aload_n 0, 1) := by decide +kernel
theorem dX12_asks_91 : decode cX12_asks 91 = .ok (.aload_n 0, 1) := by decide +kernel
theorem dX12_asks_92 : decode cX12_asks 92 = .ok (.invokevirtual 343, 3) := by decide +kernel
theorem dX12_asks_95 : decode cX12_asks 95 = .ok (.aload_n 0, 1) := by decide +kernel
theorem dX12_asks_96 : decode cX12_asks 96 = .ok (.getfield 13, 3) := by decide +kernel
theorem dX12_asks_99 : decode cX12_asks 99 = .ok (.iload_n 1, 1) := by decide +kernel
theorem dX12_asks_100 : decode cX12_asks 100 = .ok (.iaload, 1) := by decide +kernel
theorem dX12_asks_101 : decode cX12_asks 101 = .ok (.invokevirtual 366, 3) := by decide +kernel
theorem dX12_asks_104 : decode cX12_asks 104 = .ok (.return_, 1) := by decide +kernel
theorem dX12_asks_105 : decode cX12_asks 105 = .ok (.aload_n 0, 1) := by decide +kernel
theorem dX12_asks_106 : decode cX12_asks 106 = .ok (.aload_n 0, 1) := by decide +kernel
theorem dX12_asks_107 : decode cX12_asks 107 = .ok (.invokevirtual 343, 3) := by decide +kernel
theorem dX12_asks_110 : decode cX12_asks 110 = .ok (.aload_n 0, 1) := by decide +kernel
theorem dX12_asks_111 : decode cX12_asks 111 = .ok (.getfield 16, 3) := by decide +kernel
theorem dX12_asks_114 : decode cX12_asks 114 = .ok (.iload_n 1, 1) := by decide +kernel
theorem dX12_asks_115 : decode cX12_asks 115 = .ok (.iaload, 1) := by decide +kernel
theorem dX12_asks_116 : decode cX12_asks 116 = .ok (.aload_n 0, 1) := by decide +kernel
theorem dX12_asks_117 : decode cX12_asks 117 = .ok (.getfield 13, 3) := by decide +kernel
theorem dX12_asks_120 : decode cX12_asks 120 = .ok (.iload_n 1, 1) := by decide +kernel
theorem dX12_asks_121 : decode cX12_asks 121 = .ok (.iaload, 1) := by decide +kernel
theorem dX12_asks_122 : decode cX12_asks 122 = .ok (.isub, 1) := by decide +kernel
theorem dX12_asks_123 : decode cX12_asks 123 = .ok (.invokevirtual 366, 3) := by decide +kernel
theorem dX12_asks_126 : decode cX12_asks 126 = .ok (.return_, 1) := by decide +kernel
theorem dX12_asks_127 : decode cX12_asks 127 = .ok (.aload_n 0, 1) := by decide +kernel
theorem dX12_asks_128 : decode cX12_asks 128 = .ok (.aload_n 0, 1) := by decide +kernel
theorem dX12_asks_129 : decode cX12_asks 129 = .ok (.invokevirtual 343, 3) := by decide +kernel
theorem dX12_asks_132 : decode cX12_asks 132 = .ok (.aload_n 0, 1) := by decide +kernel
theorem dX12_asks_133 : decode cX12_asks 133 = .ok (.getfield 25, 3) := by decide +kernel
theorem dX12_asks_136 : decode cX12_asks 136 = .ok (.iload_n 1, 1) := by decide +kernel
theorem dX12_asks_137 : decode cX12_asks 137 = .ok (.baload, 1) := by decide +kernel
theorem dX12_asks_138 : decode cX12_asks 138 = .ok (.ifCond .eq 7, 3) := by decide +kernel
theorem dX12_asks_141 : decode cX12_asks 141 = .ok (.iconst 1, 1) := by decide +kernel
theorem dX12_asks_142 : decode cX12_asks 142 = .ok (.goto 4, 3) := by decide +kernel
theorem dX12_asks_145 : decode cX12_asks 145 = .ok (.iconst 0, 1) := by decide +kernel
theorem dX12_asks_146 : decode cX12_asks 146 = .ok (.invokevirtual 366, 3) := by decide +kernel
theorem dX12_asks_149 : decode cX12_asks 149 = .ok (.return_, 1) := by decide +kernel
theorem dX12_asks_150 : decode cX12_asks 150 = .ok (.aload_n 0, 1) := by decide +kernel
theorem dX12_asks_151 : decode cX12_asks 151 = .ok (.aload_n 0, 1) := by decide +kernel
theorem dX12_asks_152 : decode cX12_asks 152 = .ok (.invokevirtual 343, 3) := by decide +kernel
theorem dX12_asks_155 : decode cX12_asks 155 = .ok (.aload_n 0, 1) := by decide +kernel
theorem dX12_asks_156 : decode cX12_asks 156 = .ok (.getfield 16, 3) := by decide +kernel
theorem dX12_asks_159 : decode cX12_asks 159 = .ok (.iload_n 1, 1) := by decide +kernel
theorem dX12_asks_160 : decode cX12_asks 160 = .ok (.iaload, 1) := by decide +kernel
theorem dX12_asks_161 : decode cX12_asks 161 = .ok (.invokevirtual 366, 3) := by decide +kernel
theorem dX12_asks_164 : decode cX12_asks 164 = .ok (.return_, 1) := by decide +kernel
theorem dX12_asks_165 : decode cX12_asks 165 = .ok (.aload_n 0, 1) := by decide +kernel
theorem dX12_asks_166 : decode cX12_asks 166 = .ok (.aload_n 0, 1) := by decide +kernel
theorem dX12_asks_167 : decode cX12_asks 167 = .ok (.invokevirtual 343, 3) := by decide +kernel
theorem dX12_asks_170 : decode cX12_asks 170 = .ok (.aload_n 0, 1) := by decide +kernel
theorem dX12_asks_171 : decode cX12_asks 171 = .ok (.getfield 7, 3) := by decide +kernel
theorem dX12_asks_174 : decode cX12_asks 174 = .ok (.iload_n 1, 1) := by decide +kernel
theorem dX12_asks_175 : decode cX12_asks 175 = .ok (.iaload, 1) := by decide +kernel
theorem dX12_asks_176 : decode cX12_asks 176 = .ok (.invokevirtual 366, 3) := by decide +kernel
theorem dX12_asks_179 : decode cX12_asks 179 = .ok (.return_, 1) := by decide +kernel
theorem dX12_asks_180 : decode cX12_asks 180 = .ok (.aload_n 0, 1) := by decide +kernel
theorem dX12_asks_181 : decode cX12_asks 181 = .ok (.aload_n 0, 1) := by decide +kernel
theorem dX12_asks_182 : decode cX12_asks 182 = .ok (.invokevirtual 343, 3) := by decide +kernel
theorem dX12_asks_185 : decode cX12_asks 185 = .ok (.aload_n 0, 1) := by decide +kernel
theorem dX12_asks_186 : decode cX12_asks 186 = .ok (.getfield 76, 3) := by decide +kernel
theorem dX12_asks_189 : decode cX12_asks 189 = .ok (.aload_n 0, 1) := by decide +kernel
theorem dX12_asks_190 : decode cX12_asks 190 = .ok (.getfield 330, 3) := by decide +kernel
theorem dX12_asks_193 : decode cX12_asks 193 = .ok (.baload, 1) := by decide +kernel
theorem dX12_asks_194 : decode cX12_asks 194 = .ok (.ifCond .eq 7, 3) := by decide +kernel
theorem dX12_asks_197 : decode cX12_asks 197 = .ok (.iconst 1, 1) := by decide +kernel
theorem dX12_asks_198 : decode cX12_asks 198 = .ok (.goto 4, 3) := by decide +kernel
theorem dX12_asks_201 : decode cX12_asks 201 = .ok (.iconst 0, 1) := by decide +kernel
theorem dX12_asks_202 : decode cX12_asks 202 = .ok (.invokevirtual 366, 3) := by decide +kernel
theorem dX12_asks_205 : decode cX12_asks 205 = .ok (.return_, 1) := by decide +kernel
theorem dX12_asks_206 : decode cX12_asks 206 = .ok (.goto 81, 3) := by decide +kernel
theorem dX12_asks_209 : decode cX12_asks 209 = .ok (.aload_n 0, 1) := by decide +kernel
theorem dX12_asks_210 : decode cX12_asks 210 = .ok (.getfield 25, 3) := by decide +kernel
theorem dX12_asks_213 : decode cX12_asks 213 = .ok (.sipush 582, 3) := by decide +kernel
theorem dX12_asks_216 : decode cX12_asks 216 = .ok (.iconst 0, 1) := by decide +kernel
theorem dX12_asks_217 : decode cX12_asks 217 = .ok (.bastore, 1) := by decide +kernel
theorem dX12_asks_218 : decode cX12_asks 218 = .ok (.goto 69, 3) := by decide +kernel
theorem dX12_asks_221 : decode cX12_asks 221 = .ok (.aload_n 0, 1) := by decide +kernel
theorem dX12_asks_222 : decode cX12_asks 222 = .ok (.getfield 25, 3) := by decide +kernel
theorem dX12_asks_225 : decode cX12_asks 225 = .ok (.iload_n 1, 1) := by decide +kernel
theorem dX12_asks_226 : decode cX12_asks 226 = .ok (.baload, 1) := by decide +kernel
theorem dX12_asks_227 : decode cX12_asks 227 = .ok (.ifCond .eq 27, 3) := by decide +kernel
theorem dX12_asks_230 : decode cX12_asks 230 = .ok (.aload_n 0, 1) := by decide +kernel
theorem dX12_asks_231 : decode cX12_asks 231 = .ok (.getfield 22, 3) := by decide +kernel
theorem dX12_asks_234 : decode cX12_asks 234 = .ok (.iload_n 1, 1) := by decide +kernel
theorem dX12_asks_235 : decode cX12_asks 235 = .ok (.iaload, 1) := by decide +kernel
theorem dX12_asks_236 : decode cX12_asks 236 = .ok (.ifCond .ne 18, 3) := by decide +kernel
theorem dX12_asks_239 : decode cX12_asks 239 = .ok (.aload_n 0, 1) := by decide +kernel
theorem dX12_asks_240 : decode cX12_asks 240 = .ok (.getfield 19, 3) := by decide +kernel
theorem dX12_asks_243 : decode cX12_asks 243 = .ok (.iload_n 1, 1) := by decide +kernel
theorem dX12_asks_244 : decode cX12_asks 244 = .ok (.iaload, 1) := by decide +kernel
theorem dX12_asks_245 : decode cX12_asks 245 = .ok (.iconst 4, 1) := by decide +kernel
theorem dX12_asks_246 : decode cX12_asks 246 = .ok (.iand, 1) := by decide +kernel
theorem dX12_asks_247 : decode cX12_asks 247 = .ok (.ifCond .eq 7, 3) := by decide +kernel
theorem dX12_asks_250 : decode cX12_asks 250 = .ok (.iconst 1, 1) := by decide +kernel
theorem dX12_asks_251 : decode cX12_asks 251 = .ok (.goto 4, 3) := by decide +kernel
theorem dX12_asks_254 : decode cX12_asks 254 = .ok (.iconst 0, 1) := by decide +kernel
theorem dX12_asks_255 : decode cX12_asks 255 = .ok (.istore_n 2, 1) := by decide +kernel
theorem dX12_asks_256 : decode cX12_asks 256 = .ok (.aload_n 0, 1) := by decide +kernel
theorem dX12_asks_257 : decode cX12_asks 257 = .ok (.getfield 25, 3) := by decide +kernel
theorem dX12_asks_260 : decode cX12_asks 260 = .ok (.sipush 582, 3) := by decide +kernel
theorem dX12_asks_263 : decode cX12_asks 263 = .ok (.iload_n 2, 1) := by decide +kernel
theorem dX12_asks_264 : decode cX12_asks 264 = .ok (.bastore, 1) := by decide +kernel
theorem dX12_asks_265 : decode cX12_asks 265 = .ok (.iload_n 2, 1) := by decide +kernel
theorem dX12_asks_266 : decode cX12_asks 266 = .ok (.ifCond .eq 21, 3) := by decide +kernel
theorem dX12_asks_269 : decode cX12_asks 269 = .ok (.aload_n 0, 1) := by decide +kernel
theorem dX12_asks_270 : decode cX12_asks 270 = .ok (.getfield 22, 3) := by decide +kernel
theorem dX12_asks_273 : decode cX12_asks 273 = .ok (.sipush 582, 3) := by decide +kernel
theorem dX12_asks_276 : decode cX12_asks 276 = .ok (.aload_n 0, 1) := by decide +kernel
theorem dX12_asks_277 : decode cX12_asks 277 = .ok (.invokevirtual 349, 3) := by decide +kernel
theorem dX12_asks_280 : decode cX12_asks 280 = .ok (.bipush 9, 2) := by decide +kernel
theorem dX12_asks_282 : decode cX12_asks 282 = .ok (.isub, 1) := by decide +kernel
theorem dX12_asks_283 : decode cX12_asks 283 = .ok (.iastore, 1) := by decide +kernel
theorem dX12_asks_284 : decode cX12_asks 284 = .ok (.goto 3, 3) := by decide +kernel
theorem dX12_asks_287 : decode cX12_asks 287 = .ok (.aload_n 0, 1) := by decide +kernel
theorem dX12_asks_288 : decode cX12_asks 288 = .ok (.sipush 582, 3) := by decide +kernel
theorem dX12_asks_291 : decode cX12_asks 291 = .ok (.aload_n 0, 1) := by decide +kernel
theorem dX12_asks_292 : decode cX12_asks 292 = .ok (.invokevirtual 343, 3) := by decide +kernel
theorem dX12_asks_295 : decode cX12_asks 295 = .ok (.invokevirtual 372, 3) := by decide +kernel
theorem dX12_asks_298 : decode cX12_asks 298 = .ok (.return_, 1) := by decide +kernel
theorem dX12_link_0 : decode cX12_link 0 = .ok (.aload_n 0, 1) := by decide +kernel
theorem dX12_link_1 : decode cX12_link 1 = .ok (.aload_n 0, 1) := by decide +kernel
theorem dX12_link_2 : decode cX12_link 2 = .ok (.invokevirtual 339, 3) := by decide +kernel
theorem dX12_link_5 : decode cX12_link 5 = .ok (.sipush 582, 3) := by decide +kernel
theorem dX12_link_8 : decode cX12_link 8 = .ok (.invokevirtual 336, 3) := by decide +kernel
theorem dX12_link_11 : decode cX12_link 11 = .ok (.aload_n 0, 1) := by decide +kernel
theorem dX12_link_12 : decode cX12_link 12 = .ok (.getfield 7, 3) := by decide +kernel
theorem dX12_link_15 : decode cX12_link 15 = .ok (.sipush 582, 3) := by decide +kernel
theorem dX12_link_18 : decode cX12_link 18 = .ok (.dup2, 1) := by decide +kernel
theorem dX12_link_19 : decode cX12_link 19 = .ok (.iaload, 1) := by decide +kernel
theorem dX12_link_20 : decode cX12_link 20 = .ok (.iconst 4, 1) := by decide +kernel
theorem dX12_link_21 : decode cX12_link 21 = .ok (.iadd, 1) := by decide +kernel
theorem dX12_link_22 : decode cX12_link 22 = .ok (.iastore, 1) := by decide +kernel
theorem dX12_link_23 : decode cX12_link 23 = .ok (.aload_n 0, 1) := by decide +kernel
theorem dX12_link_24 : decode cX12_link 24 = .ok (.getfield 22, 3) := by decide +kernel
theorem dX12_link_27 : decode cX12_link 27 = .ok (.sipush 582, 3) := by decide +kernel
theorem dX12_link_30 : decode cX12_link 30 = .ok (.aload_n 0, 1) := by decide +kernel
theorem dX12_link_31 : decode cX12_link 31 = .ok (.getfield 76, 3) := by decide +kernel
theorem dX12_link_34 : decode cX12_link 34 = .ok (.aload_n 0, 1) := by decide +kernel
theorem dX12_link_35 : decode cX12_link 35 = .ok (.getfield 330, 3) := by decide +kernel
theorem dX12_link_38 : decode cX12_link 38 = .ok (.baload, 1) := by decide +kernel
theorem dX12_link_39 : decode cX12_link 39 = .ok (.ifCond .eq 7, 3) := by decide +kernel
theorem dX12_link_42 : decode cX12_link 42 = .ok (.iconst 3, 1) := by decide +kernel
theorem dX12_link_43 : decode cX12_link 43 = .ok (.goto 4, 3) := by decide +kernel
theorem dX12_link_46 : decode cX12_link 46 = .ok (.iconst 2, 1) := by decide +kernel
theorem dX12_link_47 : decode cX12_link 47 = .ok (.iastore, 1) := by decide +kernel
theorem dX12_link_48 : decode cX12_link 48 = .ok (.return_, 1) := by decide +kernel
theorem dX12_jumps_0 : decode cX12_jumps 0 = .ok (.aload_n 0, 1) := by decide +kernel
theorem dX12_jumps_1 : decode cX12_jumps 1 = .ok (.getfield 330, 3) := by decide +kernel
theorem dX12_jumps_4 : decode cX12_jumps 4 = .ok (.aload_n 0, 1) := by decide +kernel
theorem dX12_jumps_5 : decode cX12_jumps 5 = .ok (.invokevirtual 346, 3) := by decide +kernel
theorem dX12_jumps_8 : decode cX12_jumps 8 = .ok (.invokestatic 307, 3) := by decide +kernel
theorem dX12_jumps_11 : decode cX12_jumps 11 = .ok (.istore_n 2, 1) := by decide +kernel
theorem dX12_jumps_12 : decode cX12_jumps 12 = .ok (.aload_n 0, 1) := by decide +kernel
theorem dX12_jumps_13 : decode cX12_jumps 13 = .ok (.iload_n 2, 1) := by decide +kernel
theorem dX12_jumps_14 : decode cX12_jumps 14 = .ok (.sipush 583, 3) := by decide +kernel
theorem dX12_jumps_17 : decode cX12_jumps 17 = .ok (.invokevirtual 336, 3) := by decide +kernel
theorem dX12_jumps_20 : decode cX12_jumps 20 = .ok (.aload_n 0, 1) := by decide +kernel
theorem dX12_jumps_21 : decode cX12_jumps 21 = .ok (.getfield 22, 3) := by decide +kernel
theorem dX12_jumps_24 : decode cX12_jumps 24 = .ok (.iload_n 2, 1) := by decide +kernel
theorem dX12_jumps_25 : decode cX12_jumps 25 = .ok (.iaload, 1) := by decide +kernel
theorem dX12_jumps_26 : decode cX12_jumps 26 = .ok (.istore_n 3, 1) := by decide +kernel
theorem dX12_jumps_27 : decode cX12_jumps 27 = .ok (.aload_n 0, 1) := by decide +kernel
theorem dX12_jumps_28 : decode cX12_jumps 28 = .ok (.getfield 25, 3) := by decide +kernel
theorem dX12_jumps_31 : decode cX12_jumps 31 = .ok (.iload_n 2, 1) := by decide +kernel
theorem dX12_jumps_32 : decode cX12_jumps 32 = .ok (.baload, 1) := by decide +kernel
theorem dX12_jumps_33 : decode cX12_jumps 33 = .ok (.ifCond .ne 5, 3) := by decide +kernel
theorem dX12_jumps_36 : decode cX12_jumps 36 = .ok (.iconst 1, 1) := by decide +kernel
theorem dX12_jumps_37 : decode cX12_jumps 37 = .ok (.ireturn, 1) := by decide +kernel
theorem dX12_jumps_38 : decode cX12_jumps 38 = .ok (.iload_n 3, 1) := by decide +kernel
theorem dX12_jumps_39 : decode cX12_jumps 39 = .ok (.ifCond .ne 16, 3) := by decide +kernel
theorem dX12_jumps_42 : decode cX12_jumps 42 = .ok (.aload_n 0, 1) := by decide +kernel
theorem dX12_jumps_43 : decode cX12_jumps 43 = .ok (.getfield 19, 3) := by decide +kernel
theorem dX12_jumps_46 : decode cX12_jumps 46 = .ok (.iload_n 2, 1) := by decide +kernel
theorem dX12_jumps_47 : decode cX12_jumps 47 = .ok (.iaload, 1) := by decide +kernel
theorem dX12_jumps_48 : decode cX12_jumps 48 = .ok (.iconst 4, 1) := by decide +kernel
theorem dX12_jumps_49 : decode cX12_jumps 49 = .ok (.iand, 1) := by decide +kernel
theorem dX12_jumps_50 : decode cX12_jumps 50 = .ok (.ifCond .ne 5, 3) := by decide +kernel
theorem dX12_jumps_53 : decode cX12_jumps 53 = .ok (.iconst 3, 1) := by decide +kernel
theorem dX12_jumps_54 : decode cX12_jumps 54 = .ok (.ireturn, 1) := by decide +kernel
theorem dX12_jumps_55 : decode cX12_jumps 55 = .ok (.iload_n 3, 1) := by decide +kernel
theorem dX12_jumps_56 : decode cX12_jumps 56 = .ok (.ifCond .eq 7, 3) := by decide +kernel
theorem dX12_jumps_59 : decode cX12_jumps 59 = .ok (.iload_n 1, 1) := by decide +kernel
theorem dX12_jumps_60 : decode cX12_jumps 60 = .ok (.ifCond .ne 9, 3) := by decide +kernel
theorem dX12_jumps_63 : decode cX12_jumps 63 = .ok (.iload_n 3, 1) := by decide +kernel
theorem dX12_jumps_64 : decode cX12_jumps 64 = .ok (.bipush 6, 2) := by decide +kernel
theorem dX12_jumps_66 : decode cX12_jumps 66 = .ok (.if_icmp .le 5, 3) := by decide +kernel
theorem dX12_jumps_69 : decode cX12_jumps 69 = .ok (.iconst 2, 1) := by decide +kernel
theorem dX12_jumps_70 : decode cX12_jumps 70 = .ok (.ireturn, 1) := by decide +kernel
theorem dX12_jumps_71 : decode cX12_jumps 71 = .ok (.aload_n 0, 1) := by decide +kernel
theorem dX12_jumps_72 : decode cX12_jumps 72 = .ok (.invokevirtual 376, 3) := by decide +kernel
theorem dX12_jumps_75 : decode cX12_jumps 75 = .ok (.iload_n 3, 1) := by decide +kernel
theorem dX12_jumps_76 : decode cX12_jumps 76 = .ok (.iconst 4, 1) := by decide +kernel
theorem dX12_jumps_77 : decode cX12_jumps 77 = .ok (.if_icmp .ne 21, 3) := by decide +kernel
theorem dX12_jumps_80 : decode cX12_jumps 80 = .ok (.aload_n 0, 1) := by decide +kernel
theorem dX12_jumps_81 : decode cX12_jumps 81 = .ok (.invokevirtual 343, 3) := by decide +kernel
theorem dX12_jumps_84 : decode cX12_jumps 84 = .ok (.iconst 2, 1) := by decide +kernel
theorem dX12_jumps_85 : decode cX12_jumps 85 = .ok (.if_icmp .eq 10, 3) := by decide +kernel
theorem dX12_jumps_88 : decode cX12_jumps 88 = .ok (.aload_n 0, 1) := by decide +kernel
theorem dX12_jumps_89 : decode cX12_jumps 89 = .ok (.invokevirtual 444, 3) := by decide +kernel
theorem dX12_jumps_92 : decode cX12_jumps 92 = .ok (.ifCond .ne 6, 3) := by decide +kernel
theorem dX12_jumps_95 : decode cX12_jumps 95 = .ok (.bipush 7, 2) := by decide +kernel
theorem dX12_jumps_97 : decode cX12_jumps 97 = .ok (.ireturn, 1) := by decide +kernel
theorem dX12_jumps_98 : decode cX12_jumps 98 = .ok (.aload_n 0, 1) := by decide +kernel
theorem dX12_jumps_99 : decode cX12_jumps 99 = .ok (.sipush 582, 3) := by decide +kernel
theorem dX12_jumps_102 : decode cX12_jumps 102 = .ok (.aload_n 0, 1) := by decide +kernel
theorem dX12_jumps_103 : decode cX12_jumps 103 = .ok (.invokevirtual 343, 3) := by decide +kernel
theorem dX12_jumps_106 : decode cX12_jumps 106 = .ok (.invokevirtual 372, 3) := by decide +kernel
theorem dX12_jumps_109 : decode cX12_jumps 109 = .ok (.iload_n 3, 1) := by decide +kernel
theorem dX12_jumps_110 : decode cX12_jumps 110 = .ok (.iconst 4, 1) := by decide +kernel
theorem dX12_jumps_111 : decode cX12_jumps 111 = .ok (.if_icmp .ge 88, 3) := by decide +kernel
theorem dX12_jumps_114 : decode cX12_jumps 114 = .ok (.aload_n 0, 1) := by decide +kernel
theorem dX12_jumps_115 : decode cX12_jumps 115 = .ok (.sipush 583, 3) := by decide +kernel
theorem dX12_jumps_118 : decode cX12_jumps 118 = .ok (.aload_n 0, 1) := by decide +kernel
theorem dX12_jumps_119 : decode cX12_jumps 119 = .ok (.invokevirtual 339, 3) := by decide +kernel
theorem dX12_jumps_122 : decode cX12_jumps 122 = .ok (.invokevirtual 336, 3) := by decide +kernel
theorem dX12_jumps_125 : decode cX12_jumps 125 = .ok (.aload_n 0, 1) := by decide +kernel
theorem dX12_jumps_126 : decode cX12_jumps 126 = .ok (.getfield 7, 3) := by decide +kernel
theorem dX12_jumps_129 : decode cX12_jumps 129 = .ok (.aload_n 0, 1) := by decide +kernel
theorem dX12_jumps_130 : decode cX12_jumps 130 = .ok (.invokevirtual 339, 3) := by decide +kernel
theorem dX12_jumps_133 : decode cX12_jumps 133 = .ok (.dup2, 1) := by decide +kernel
theorem dX12_jumps_134 : decode cX12_jumps 134 = .ok (.iaload, 1) := by decide +kernel
theorem dX12_jumps_135 : decode cX12_jumps 135 = .ok (.iload_n 3, 1) := by decide +kernel
theorem dX12_jumps_136 : decode cX12_jumps 136 = .ok (.ifCond .ne 7, 3) := by decide +kernel
theorem dX12_jumps_139 : decode cX12_jumps 139 = .ok (.iload_n 1, 1) := by decide +kernel
theorem dX12_jumps_140 : decode cX12_jumps 140 = .ok (.goto 4, 3) := by decide +kernel
theorem dX12_jumps_143 : decode cX12_jumps 143 = .ok (.iconst 0, 1) := by decide +kernel
theorem dX12_jumps_144 : decode cX12_jumps 144 = .ok (.iadd, 1) := by decide +kernel
theorem dX12_jumps_145 : decode cX12_jumps 145 = .ok (.iastore, 1) := by decide +kernel
theorem dX12_jumps_146 : decode cX12_jumps 146 = .ok (.aload_n 0, 1) := by decide +kernel
theorem dX12_jumps_147 : decode cX12_jumps 147 = .ok (.getfield 22, 3) := by decide +kernel
theorem dX12_jumps_150 : decode cX12_jumps 150 = .ok (.aload_n 0, 1) := by decide +kernel
theorem dX12_jumps_151 : decode cX12_jumps 151 = .ok (.invokevirtual 339, 3) := by decide +kernel
theorem dX12_jumps_154 : decode cX12_jumps 154 = .ok (.iconst 0, 1) := by decide +kernel
theorem dX12_jumps_155 : decode cX12_jumps 155 = .ok (.iastore, 1) := by decide +kernel
theorem dX12_jumps_156 : decode cX12_jumps 156 = .ok (.aload_n 0, 1) := by decide +kernel
theorem dX12_jumps_157 : decode cX12_jumps 157 = .ok (.getfield 76, 3) := by decide +kernel
theorem dX12_jumps_160 : decode cX12_jumps 160 = .ok (.aload_n 0, 1) := by decide +kernel
theorem dX12_jumps_161 : decode cX12_jumps 161 = .ok (.getfield 330, 3) := by decide +kernel
theorem dX12_jumps_164 : decode cX12_jumps 164 = .ok (.iload_n 3, 1) := by decide +kernel
theorem dX12_jumps_165 : decode cX12_jumps 165 = .ok (.iconst 2, 1) := by decide +kernel
theorem dX12_jumps_166 : decode cX12_jumps 166 = .ok (.if_icmp .ne 7, 3) := by decide +kernel
theorem dX12_jumps_169 : decode cX12_jumps 169 = .ok (.iconst 0, 1) := by decide +kernel
theorem dX12_jumps_170 : decode cX12_jumps 170 = .ok (.goto 25, 3) := by decide +kernel
theorem dX12_jumps_173 : decode cX12_jumps 173 = .ok (.iload_n 3, 1) := by decide +kernel
theorem dX12_jumps_174 : decode cX12_jumps 174 = .ok (.iconst 3, 1) := by decide +kernel
theorem dX12_jumps_175 : decode cX12_jumps 175 = .ok (.if_icmp .eq 15, 3) := by decide +kernel
theorem dX12_jumps_178 : decode cX12_jumps 178 = .ok (.aload_n 0, 1) := by decide +kernel
theorem dX12_jumps_179 : decode cX12_jumps 179 = .ok (.getfield 76, 3) := by decide +kernel
theorem dX12_jumps_182 : decode cX12_jumps 182 = .ok (.aload_n 0, 1) := by decide +kernel
theorem dX12_jumps_183 : decode cX12_jumps 183 = .ok (.getfield 330, 3) := by decide +kernel
theorem dX12_jumps_186 : decode cX12_jumps 186 = .ok (.baload, 1) := by decide +kernel
theorem dX12_jumps_187 : decode cX12_jumps 187 = .ok (.ifCond .eq 7, 3) := by decide +kernel
theorem dX12_jumps_190 : decode cX12_jumps 190 = .ok (.iconst 1, 1) := by decide +kernel
theorem dX12_jumps_191 : decode cX12_jumps 191 = .ok (.goto 4, 3) := by decide +kernel
theorem dX12_jumps_194 : decode cX12_jumps 194 = .ok (.iconst 0, 1) := by decide +kernel
theorem dX12_jumps_195 : decode cX12_jumps 195 = .ok (.bastore, 1) := by decide +kernel
theorem dX12_jumps_196 : decode cX12_jumps 196 = .ok (.goto 51, 3) := by decide +kernel
theorem dX12_jumps_199 : decode cX12_jumps 199 = .ok (.iload_n 3, 1) := by decide +kernel
theorem dX12_jumps_200 : decode cX12_jumps 200 = .ok (.iconst 4, 1) := by decide +kernel
theorem dX12_jumps_201 : decode cX12_jumps 201 = .ok (.if_icmp .ne 18, 3) := by decide +kernel
theorem dX12_jumps_204 : decode cX12_jumps 204 = .ok (.aload_n 0, 1) := by decide +kernel
theorem dX12_jumps_205 : decode cX12_jumps 205 = .ok (.aload_n 0, 1) := by decide +kernel
theorem dX12_jumps_206 : decode cX12_jumps 206 = .ok (.getfield 7, 3) := by decide +kernel
theorem dX12_jumps_209 : decode cX12_jumps 209 = .ok (.sipush 583, 3) := by decide +kernel
theorem dX12_jumps_212 : decode cX12_jumps 212 = .ok (.iaload, 1) := by decide +kernel
theorem dX12_jumps_213 : decode cX12_jumps 213 = .ok (.invokevirtual 447, 3) := by decide +kernel
theorem dX12_jumps_216 : decode cX12_jumps 216 = .ok (.goto 31, 3) := by decide +kernel
theorem dX12_jumps_219 : decode cX12_jumps 219 = .ok (.iload_n 3, 1) := by decide +kernel
theorem dX12_jumps_220 : decode cX12_jumps 220 = .ok (.iconst 5, 1) := by decide +kernel
theorem dX12_jumps_221 : decode cX12_jumps 221 = .ok (.if_icmp .ne 10, 3) := by decide +kernel
theorem dX12_jumps_224 : decode cX12_jumps 224 = .ok (.aload_n 0, 1) := by decide +kernel
theorem dX12_jumps_225 : decode cX12_jumps 225 = .ok (.invokevirtual 450, 3) := by decide +kernel
theorem dX12_jumps_228 : decode cX12_jumps 228 = .ok (.goto 19, 3) := by decide +kernel
theorem dX12_jumps_231 : decode cX12_jumps 231 = .ok (.aload_n 0, 1) := by decide +kernel
theorem dX12_jumps_232 : decode cX12_jumps 232 = .ok (.invokevirtual 369, 3) := by decide +kernel
theorem dX12_jumps_235 : decode cX12_jumps 235 = .ok (.aload_n 0, 1) := by decide +kernel
theorem dX12_jumps_236 : decode cX12_jumps 236 = .ok (.aload_n 0, 1) := by decide +kernel
theorem dX12_jumps_237 : decode cX12_jumps 237 = .ok (.getfield 7, 3) := by decide +kernel
theorem dX12_jumps_240 : decode cX12_jumps 240 = .ok (.sipush 583, 3) := by decide +kernel
theorem dX12_jumps_243 : decode cX12_jumps 243 = .ok (.iaload, 1) := by decide +kernel
theorem dX12_jumps_244 : decode cX12_jumps 244 = .ok (.invokevirtual 453, 3) := by decide +kernel
theorem dX12_jumps_247 : decode cX12_jumps 247 = .ok (.iconst 0, 1) := by decide +kernel
theorem dX12_jumps_248 : decode cX12_jumps 248 = .ok (.ireturn, 1) := by decide +kernel
theorem dX12_isStack_0 : decode cX12_isStack 0 = .ok (.aload_n 0, 1) := by decide +kernel
theorem dX12_isStack_1 : decode cX12_isStack 1 = .ok (.getfield 330, 3) := by decide +kernel
theorem dX12_isStack_4 : decode cX12_isStack 4 = .ok (.iconst 2, 1) := by decide +kernel
theorem dX12_isStack_5 : decode cX12_isStack 5 = .ok (.invokestatic 307, 3) := by decide +kernel
theorem dX12_isStack_8 : decode cX12_isStack 8 = .ok (.istore_n 1, 1) := by decide +kernel
theorem dX12_isStack_9 : decode cX12_isStack 9 = .ok (.aload_n 0, 1) := by decide +kernel
theorem dX12_isStack_10 : decode cX12_isStack 10 = .ok (.getfield 25, 3) := by decide +kernel
theorem dX12_isStack_13 : decode cX12_isStack 13 = .ok (.iload_n 1, 1) := by decide +kernel
theorem dX12_isStack_14 : decode cX12_isStack 14 = .ok (.baload, 1) := by decide +kernel
theorem dX12_isStack_15 : decode cX12_isStack 15 = .ok (.ifCond .eq 111, 3) := by decide +kernel
theorem dX12_isStack_18 : decode cX12_isStack 18 = .ok (.aload_n 0, 1) := by decide +kernel
theorem dX12_isStack_19 : decode cX12_isStack 19 = .ok (.getfield 22, 3) := by decide +kernel
theorem dX12_isStack_22 : decode cX12_isStack 22 = .ok (.iload_n 1, 1) := by decide +kernel
theorem dX12_isStack_23 : decode cX12_isStack 23 = .ok (.iaload, 1) := by decide +kernel
theorem dX12_isStack_24 : decode cX12_isStack 24 = .ok (.ifCond .ne 102, 3) := by decide +kernel
theorem dX12_isStack_27 : decode cX12_isStack 27 = .ok (.aload_n 0, 1) := by decide +kernel
theorem dX12_isStack_28 : decode cX12_isStack 28 = .ok (.getfield 19, 3) := by decide +kernel
theorem dX12_isStack_31 : decode cX12_isStack 31 = .ok (.iload_n 1, 1) := by decide +kernel
theorem dX12_isStack_32 : decode cX12_isStack 32 = .ok (.iaload, 1) := by decide +kernel
theorem dX12_isStack_33 : decode cX12_isStack 33 = .ok (.iconst 2, 1) := by decide +kernel
theorem dX12_isStack_34 : decode cX12_isStack 34 = .ok (.iand, 1) := by decide +kernel
theorem dX12_isStack_35 : decode cX12_isStack 35 = .ok (.ifCond .eq 91, 3) := by decide +kernel
theorem dX12_isStack_38 : decode cX12_isStack 38 = .ok (.aload_n 0, 1) := by decide +kernel
theorem dX12_isStack_39 : decode cX12_isStack 39 = .ok (.getfield 13, 3) := by decide +kernel
theorem dX12_isStack_42 : decode cX12_isStack 42 = .ok (.iload_n 1, 1) := by decide +kernel
theorem dX12_isStack_43 : decode cX12_isStack 43 = .ok (.iaload, 1) := by decide +kernel
theorem dX12_isStack_44 : decode cX12_isStack 44 = .ok (.aload_n 0, 1) := by decide +kernel
theorem dX12_isStack_45 : decode cX12_isStack 45 = .ok (.getfield 88, 3) := by decide +kernel
theorem dX12_isStack_48 : decode cX12_isStack 48 = .ok (.aload_n 0, 1) := by decide +kernel
theorem dX12_isStack_49 : decode cX12_isStack 49 = .ok (.getfield 330, 3) := by decide +kernel
theorem dX12_isStack_52 : decode cX12_isStack 52 = .ok (.iaload, 1) := by decide +kernel
theorem dX12_isStack_53 : decode cX12_isStack 53 = .ok (.if_icmp .ne 73, 3) := by decide +kernel
theorem dX12_isStack_56 : decode cX12_isStack 56 = .ok (.aload_n 0, 1) := by decide +kernel
theorem dX12_isStack_57 : decode cX12_isStack 57 = .ok (.getfield 16, 3) := by decide +kernel
theorem dX12_isStack_60 : decode cX12_isStack 60 = .ok (.iload_n 1, 1) := by decide +kernel
theorem dX12_isStack_61 : decode cX12_isStack 61 = .ok (.iaload, 1) := by decide +kernel
theorem dX12_isStack_62 : decode cX12_isStack 62 = .ok (.aload_n 0, 1) := by decide +kernel
theorem dX12_isStack_63 : decode cX12_isStack 63 = .ok (.getfield 94, 3) := by decide +kernel
theorem dX12_isStack_66 : decode cX12_isStack 66 = .ok (.aload_n 0, 1) := by decide +kernel
theorem dX12_isStack_67 : decode cX12_isStack 67 = .ok (.getfield 330, 3) := by decide +kernel
theorem dX12_isStack_70 : decode cX12_isStack 70 = .ok (.iaload, 1) := by decide +kernel
theorem dX12_isStack_71 : decode cX12_isStack 71 = .ok (.if_icmp .ne 55, 3) := by decide +kernel
theorem dX12_isStack_74 : decode cX12_isStack 74 = .ok (.aload_n 0, 1) := by decide +kernel
theorem dX12_isStack_75 : decode cX12_isStack 75 = .ok (.getfield 7, 3) := by decide +kernel
theorem dX12_isStack_78 : decode cX12_isStack 78 = .ok (.iload_n 1, 1) := by decide +kernel
theorem dX12_isStack_79 : decode cX12_isStack 79 = .ok (.iaload, 1) := by decide +kernel
theorem dX12_isStack_80 : decode cX12_isStack 80 = .ok (.aload_n 0, 1) := by decide +kernel
theorem dX12_isStack_81 : decode cX12_isStack 81 = .ok (.getfield 88, 3) := by decide +kernel
theorem dX12_isStack_84 : decode cX12_isStack 84 = .ok (.aload_n 0, 1) := by decide +kernel
theorem dX12_isStack_85 : decode cX12_isStack 85 = .ok (.getfield 330, 3) := by decide +kernel
theorem dX12_isStack_88 : decode cX12_isStack 88 = .ok (.iaload, 1) := by decide +kernel
theorem dX12_isStack_89 : decode cX12_isStack 89 = .ok (.if_icmp .lt 37, 3) := by decide +kernel
theorem dX12_isStack_92 : decode cX12_isStack 92 = .ok (.aload_n 0, 1) := by decide +kernel
theorem dX12_isStack_93 : decode cX12_isStack 93 = .ok (.getfield 7, 3) := by decide +kernel
theorem dX12_isStack_96 : decode cX12_isStack 96 = .ok (.iload_n 1, 1) := by decide +kernel
theorem dX12_isStack_97 : decode cX12_isStack 97 = .ok (.iaload, 1) := by decide +kernel
theorem dX12_isStack_98 : decode cX12_isStack 98 = .ok (.aload_n 0, 1) := by decide +kernel
theorem dX12_isStack_99 : decode cX12_isStack 99 = .ok (.getfield 94, 3) := by decide +kernel
theorem dX12_isStack_102 : decode cX12_isStack 102 = .ok (.aload_n 0, 1) := by decide +kernel
theorem dX12_isStack_103 : decode cX12_isStack 103 = .ok (.getfield 330, 3) := by decide +kernel
theorem dX12_isStack_106 : decode cX12_isStack 106 = .ok (.iaload, 1) := by decide +kernel
theorem dX12_isStack_107 : decode cX12_isStack 107 = .ok (.if_icmp .gt 19, 3) := by decide +kernel
theorem dX12_isStack_110 : decode cX12_isStack 110 = .ok (.aload_n 0, 1) := by decide +kernel
theorem dX12_isStack_111 : decode cX12_isStack 111 = .ok (.getfield 7, 3) := by decide +kernel
theorem dX12_isStack_114 : decode cX12_isStack 114 = .ok (.iload_n 1, 1) := by decide +kernel
theorem dX12_isStack_115 : decode cX12_isStack 115 = .ok (.iaload, 1) := by decide +kernel
theorem dX12_isStack_116 : decode cX12_isStack 116 = .ok (.bipush 16, 2) := by decide +kernel
theorem dX12_isStack_118 : decode cX12_isStack 118 = .ok (.irem, 1) := by decide +kernel
theorem dX12_isStack_119 : decode cX12_isStack 119 = .ok (.ifCond .ne 7, 3) := by decide +kernel
theorem dX12_isStack_122 : decode cX12_isStack 122 = .ok (.iconst 1, 1) := by decide +kernel
theorem dX12_isStack_123 : decode cX12_isStack 123 = .ok (.goto 4, 3) := by decide +kernel
theorem dX12_isStack_126 : decode cX12_isStack 126 = .ok (.iconst 0, 1) := by decide +kernel
theorem dX12_isStack_127 : decode cX12_isStack 127 = .ok (.ireturn, 1) := by decide +kernel
theorem dX12_call_0 : decode cX12_call 0 = .ok (.aload_n 0, 1) := by decide +kernel
theorem dX12_call_1 : decode cX12_call 1 = .ok (.invokevirtual 369, 3) := by decide +kernel
theorem dX12_call_4 : decode cX12_call 4 = .ok (.aload_n 0, 1) := by decide +kernel
theorem dX12_call_5 : decode cX12_call 5 = .ok (.getfield 70, 3) := by decide +kernel
theorem dX12_call_8 : decode cX12_call 8 = .ok (.aload_n 0, 1) := by decide +kernel
theorem dX12_call_9 : decode cX12_call 9 = .ok (.getfield 330, 3) := by decide +kernel
theorem dX12_call_12 : decode cX12_call 12 = .ok (.iaload, 1) := by decide +kernel
theorem dX12_call_13 : decode cX12_call 13 = .ok (.aload_n 0, 1) := by decide +kernel
theorem dX12_call_14 : decode cX12_call 14 = .ok (.getfield 73, 3) := by decide +kernel
theorem dX12_call_17 : decode cX12_call 17 = .ok (.aload_n 0, 1) := by decide +kernel
theorem dX12_call_18 : decode cX12_call 18 = .ok (.getfield 330, 3) := by decide +kernel
theorem dX12_call_21 : decode cX12_call 21 = .ok (.iaload, 1) := by decide +kernel
theorem dX12_call_22 : decode cX12_call 22 = .ok (.if_icmp .ne 33, 3) := by decide +kernel
theorem dX12_call_25 : decode cX12_call 25 = .ok (.aload_n 0, 1) := by decide +kernel
theorem dX12_call_26 : decode cX12_call 26 = .ok (.aload_n 0, 1) := by decide +kernel
theorem dX12_call_27 : decode cX12_call 27 = .ok (.getfield 330, 3) := by decide +kernel
theorem dX12_call_30 : decode cX12_call 30 = .ok (.bipush 10, 2) := by decide +kernel
theorem dX12_call_32 : decode cX12_call 32 = .ok (.invokestatic 307, 3) := by decide +kernel
theorem dX12_call_35 : decode cX12_call 35 = .ok (.iconst (-1), 1) := by decide +kernel
theorem dX12_call_36 : decode cX12_call 36 = .ok (.invokevirtual 333, 3) := by decide +kernel
theorem dX12_call_39 : decode cX12_call 39 = .ok (.aload_n 0, 1) := by decide +kernel
theorem dX12_call_40 : decode cX12_call 40 = .ok (.aload_n 0, 1) := by decide +kernel
theorem dX12_call_41 : decode cX12_call 41 = .ok (.getfield 330, 3) := by decide +kernel
theorem dX12_call_44 : decode cX12_call 44 = .ok (.bipush 11, 2) := by decide +kernel
theorem dX12_call_46 : decode cX12_call 46 = .ok (.invokestatic 307, 3) := by decide +kernel
theorem dX12_call_49 : decode cX12_call 49 = .ok (.bipush 8, 2) := by decide +kernel
theorem dX12_call_51 : decode cX12_call 51 = .ok (.invokevirtual 333, 3) := by decide +kernel
theorem dX12_call_54 : decode cX12_call 54 = .ok (.return_, 1) := by decide +kernel
theorem dX12_call_55 : decode cX12_call 55 = .ok (.aload_n 0, 1) := by decide +kernel
theorem dX12_call_56 : decode cX12_call 56 = .ok (.dup, 1) := by decide +kernel
theorem dX12_call_57 : decode cX12_call 57 = .ok (.getfield 210, 3) := by decide +kernel
theorem dX12_call_60 : decode cX12_call 60 = .ok (.iconst 1, 1) := by decide +kernel
theorem dX12_call_61 : decode cX12_call 61 = .ok (.iadd, 1) := by decide +kernel
theorem dX12_call_62 : decode cX12_call 62 = .ok (.putfield 210, 3) := by decide +kernel
theorem dX12_call_65 : decode cX12_call 65 = .ok (.aload_n 0, 1) := by decide +kernel
theorem dX12_call_66 : decode cX12_call 66 = .ok (.getfield 70, 3) := by decide +kernel
theorem dX12_call_69 : decode cX12_call 69 = .ok (.aload_n 0, 1) := by decide +kernel
theorem dX12_call_70 : decode cX12_call 70 = .ok (.getfield 330, 3) := by decide +kernel
theorem dX12_call_73 : decode cX12_call 73 = .ok (.iaload, 1) := by decide +kernel
theorem dX12_call_74 : decode cX12_call 74 = .ok (.istore_n 2, 1) := by decide +kernel
theorem dX12_call_75 : decode cX12_call 75 = .ok (.aload_n 0, 1) := by decide +kernel
theorem dX12_call_76 : decode cX12_call 76 = .ok (.aload_n 0, 1) := by decide +kernel
theorem dX12_call_77 : decode cX12_call 77 = .ok (.invokevirtual 339, 3) := by decide +kernel
theorem dX12_call_80 : decode cX12_call 80 = .ok (.aload_n 0, 1) := by decide +kernel
theorem dX12_call_81 : decode cX12_call 81 = .ok (.getfield 330, 3) := by decide +kernel
theorem dX12_call_84 : decode cX12_call 84 = .ok (.iload_n 2, 1) := by decide +kernel
theorem dX12_call_85 : decode cX12_call 85 = .ok (.iconst 0, 1) := by decide +kernel
theorem dX12_call_86 : decode cX12_call 86 = .ok (.invokestatic 456, 3) := by decide +kernel
theorem dX12_call_89 : decode cX12_call 89 = .ok (.invokevirtual 336, 3) := by decide +kernel
theorem dX12_call_92 : decode cX12_call 92 = .ok (.aload_n 0, 1) := by decide +kernel
theorem dX12_call_93 : decode cX12_call 93 = .ok (.aload_n 0, 1) := by decide +kernel
theorem dX12_call_94 : decode cX12_call 94 = .ok (.getfield 330, 3) := by decide +kernel
theorem dX12_call_97 : decode cX12_call 97 = .ok (.iconst 2, 1) := by decide +kernel
theorem dX12_call_98 : decode cX12_call 98 = .ok (.invokestatic 307, 3) := by decide +kernel
theorem dX12_call_101 : decode cX12_call 101 = .ok (.aload_n 0, 1) := by decide +kernel
theorem dX12_call_102 : decode cX12_call 102 = .ok (.getfield 330, 3) := by decide +kernel
theorem dX12_call_105 : decode cX12_call 105 = .ok (.iload_n 2, 1) := by decide +kernel
theorem dX12_call_106 : decode cX12_call 106 = .ok (.iconst 1, 1) := by decide +kernel
theorem dX12_call_107 : decode cX12_call 107 = .ok (.invokestatic 456, 3) := by decide +kernel
theorem dX12_call_110 : decode cX12_call 110 = .ok (.invokevirtual 336, 3) := by decide +kernel
theorem dX12_call_113 : decode cX12_call 113 = .ok (.aload_n 0, 1) := by decide +kernel
theorem dX12_call_114 : decode cX12_call 114 = .ok (.aload_n 0, 1) := by decide +kernel
theorem dX12_call_115 : decode cX12_call 115 = .ok (.getfield 330, 3) := by decide +kernel
theorem dX12_call_118 : decode cX12_call 118 = .ok (.iconst 3, 1) := by decide +kernel
theorem dX12_call_119 : decode cX12_call 119 = .ok (.invokestatic 307, 3) := by decide +kernel
theorem dX12_call_122 : decode cX12_call 122 = .ok (.aload_n 0, 1) := by decide +kernel
theorem dX12_call_123 : decode cX12_call 123 = .ok (.getfield 330, 3) := by decide +kernel
theorem dX12_call_126 : decode cX12_call 126 = .ok (.iload_n 2, 1) := by decide +kernel
theorem dX12_call_127 : decode cX12_call 127 = .ok (.iconst 2, 1) := by decide +kernel
theorem dX12_call_128 : decode cX12_call 128 = .ok (.invokestatic 456, 3) := by decide +kernel
theorem dX12_call_131 : decode cX12_call 131 = .ok (.invokevirtual 336, 3) := by decide +kernel
theorem dX12_call_134 : decode cX12_call 134 = .ok (.aload_n 0, 1) := by decide +kernel
theorem dX12_call_135 : decode cX12_call 135 = .ok (.aload_n 0, 1) := by decide +kernel
theorem dX12_call_136 : decode cX12_call 136 = .ok (.getfield 330, 3) := by decide +kernel
theorem dX12_call_139 : decode cX12_call 139 = .ok (.bipush 8, 2) := by decide +kernel
theorem dX12_call_141 : decode cX12_call 141 = .ok (.invokestatic 307, 3) := by decide +kernel
theorem dX12_call_144 : decode cX12_call 144 = .ok (.aload_n 0, 1) := by decide +kernel
theorem dX12_call_145 : decode cX12_call 145 = .ok (.getfield 330, 3) := by decide +kernel
theorem dX12_call_148 : decode cX12_call 148 = .ok (.iload_n 2, 1) := by decide +kernel
theorem dX12_call_149 : decode cX12_call 149 = .ok (.iconst 3, 1) := by decide +kernel
theorem dX12_call_150 : decode cX12_call 150 = .ok (.invokestatic 456, 3) := by decide +kernel
theorem dX12_call_153 : decode cX12_call 153 = .ok (.invokevirtual 336, 3) := by decide +kernel
theorem dX12_call_156 : decode cX12_call 156 = .ok (.aload_n 0, 1) := by decide +kernel
theorem dX12_call_157 : decode cX12_call 157 = .ok (.aload_n 0, 1) := by decide +kernel
theorem dX12_call_158 : decode cX12_call 158 = .ok (.getfield 330, 3) := by decide +kernel
theorem dX12_call_161 : decode cX12_call 161 = .ok (.bipush 9, 2) := by decide +kernel
theorem dX12_call_163 : decode cX12_call 163 = .ok (.invokestatic 307, 3) := by decide +kernel
theorem dX12_call_166 : decode cX12_call 166 = .ok (.aload_n 0, 1) := by decide +kernel
theorem dX12_call_167 : decode cX12_call 167 = .ok (.getfield 330, 3) := by decide +kernel
theorem dX12_call_170 : decode cX12_call 170 = .ok (.iload_n 2, 1) := by decide +kernel
theorem dX12_call_171 : decode cX12_call 171 = .ok (.iconst 4, 1) := by decide +kernel
theorem dX12_call_172 : decode cX12_call 172 = .ok (.invokestatic 456, 3) := by decide +kernel
theorem dX12_call_175 : decode cX12_call 175 = .ok (.invokevirtual 336, 3) := by decide +kernel
theorem dX12_call_178 : decode cX12_call 178 = .ok (.aload_n 0, 1) := by decide +kernel
theorem dX12_call_179 : decode cX12_call 179 = .ok (.getfield 112, 3) := by decide +kernel
theorem dX12_call_182 : decode cX12_call 182 = .ok (.bipush 16, 2) := by decide +kernel
theorem dX12_call_184 : decode cX12_call 184 = .ok (.aload_n 0, 1) := by decide +kernel
theorem dX12_call_185 : decode cX12_call 185 = .ok (.getfield 330, 3) := by decide +kernel
theorem dX12_call_188 : decode cX12_call 188 = .ok (.imul, 1) := by decide +kernel
theorem dX12_call_189 : decode cX12_call 189 = .ok (.iload_n 2, 1) := by decide +kernel
theorem dX12_call_190 : decode cX12_call 190 = .ok (.iadd, 1) := by decide +kernel
theorem dX12_call_191 : decode cX12_call 191 = .ok (.aload_n 0, 1) := by decide +kernel
theorem dX12_call_192 : decode cX12_call 192 = .ok (.getfield 67, 3) := by decide +kernel
theorem dX12_call_195 : decode cX12_call 195 = .ok (.aload_n 0, 1) := by decide +kernel
theorem dX12_call_196 : decode cX12_call 196 = .ok (.getfield 330, 3) := by decide +kernel
theorem dX12_call_199 : decode cX12_call 199 = .ok (.iaload, 1) := by decide +kernel
theorem dX12_call_200 : decode cX12_call 200 = .ok (.iastore, 1) := by decide +kernel
theorem dX12_call_201 : decode cX12_call 201 = .ok (.aload_n 0, 1) := by decide +kernel
theorem dX12_call_202 : decode cX12_call 202 = .ok (.getfield 115, 3) := by decide +kernel
theorem dX12_call_205 : decode cX12_call 205 = .ok (.bipush 16, 2) := by decide +kernel
theorem dX12_call_207 : decode cX12_call 207 = .ok (.aload_n 0, 1) := by decide +kernel
theorem dX12_call_208 : decode cX12_call 208 = .ok (.getfield 330, 3) := by decide +kernel
theorem dX12_call_211 : decode cX12_call 211 = .ok (.imul, 1) := by decide +kernel
theorem dX12_call_212 : decode cX12_call 212 = .ok (.iload_n 2, 1) := by decide +kernel
theorem dX12_call_213 : decode cX12_call 213 = .ok (.iadd, 1) := by decide +kernel
theorem dX12_call_214 : decode cX12_call 214 = .ok (.aload_n 0, 1) := by decide +kernel
theorem dX12_call_215 : decode cX12_call 215 = .ok (.getfield 76, 3) := by decide +kernel
theorem dX12_call_218 : decode cX12_call 218 = .ok (.aload_n 0, 1) := by decide +kernel
theorem dX12_call_219 : decode cX12_call 219 = .ok (.getfield 330, 3) := by decide +kernel
theorem dX12_call_222 : decode cX12_call 222 = .ok (.baload, 1) := by decide +kernel
theorem dX12_call_223 : decode cX12_call 223 = .ok (.bastore, 1) := by decide +kernel
theorem dX12_call_224 : decode cX12_call 224 = .ok (.aload_n 0, 1) := by decide +kernel
theorem dX12_call_225 : decode cX12_call 225 = .ok (.getfield 118, 3) := by decide +kernel
theorem dX12_call_228 : decode cX12_call 228 = .ok (.bipush 16, 2) := by decide +kernel
theorem dX12_call_230 : decode cX12_call 230 = .ok (.aload_n 0, 1) := by decide +kernel
theorem dX12_call_231 : decode cX12_call 231 = .ok (.getfield 330, 3) := by decide +kernel
theorem dX12_call_234 : decode cX12_call 234 = .ok (.imul, 1) := by decide +kernel
theorem dX12_call_235 : decode cX12_call 235 = .ok (.iload_n 2, 1) := by decide +kernel
theorem dX12_call_236 : decode cX12_call 236 = .ok (.iadd, 1) := by decide +kernel
theorem dX12_call_237 : decode cX12_call 237 = .ok (.aload_n 0, 1) := by decide +kernel
theorem dX12_call_238 : decode cX12_call 238 = .ok (.getfield 94, 3) := by decide +kernel
theorem dX12_call_241 : decode cX12_call 241 = .ok (.aload_n 0, 1) := by decide +kernel
theorem dX12_call_242 : decode cX12_call 242 = .ok (.getfield 330, 3) := by decide +kernel
theorem dX12_call_245 : decode cX12_call 245 = .ok (.iaload, 1) := by decide +kernel
theorem dX12_call_246 : decode cX12_call 246 = .ok (.iastore, 1) := by decide +kernel
theorem dX12_call_247 : decode cX12_call 247 = .ok (.aload_n 0, 1) := by decide +kernel
theorem dX12_call_248 : decode cX12_call 248 = .ok (.getfield 70, 3) := by decide +kernel
theorem dX12_call_251 : decode cX12_call 251 = .ok (.aload_n 0, 1) := by decide +kernel
theorem dX12_call_252 : decode cX12_call 252 = .ok (.getfield 330, 3) := by decide +kernel
theorem dX12_call_255 : decode cX12_call 255 = .ok (.dup2, 1) := by decide +kernel
theorem dX12_call_256 : decode cX12_call 256 = .ok (.iaload, 1) := by decide +kernel
theorem dX12_call_257 : decode cX12_call 257 = .ok (.iconst 1, 1) := by decide +kernel
theorem dX12_call_258 : decode cX12_call 258 = .ok (.iadd, 1) := by decide +kernel
theorem dX12_call_259 : decode cX12_call 259 = .ok (.iastore, 1) := by decide +kernel
theorem dX12_call_260 : decode cX12_call 260 = .ok (.aload_n 0, 1) := by decide +kernel
theorem dX12_call_261 : decode cX12_call 261 = .ok (.getfield 7, 3) := by decide +kernel
theorem dX12_call_264 : decode cX12_call 264 = .ok (.aload_n 0, 1) := by decide +kernel
theorem dX12_call_265 : decode cX12_call 265 = .ok (.getfield 330, 3) := by decide +kernel
theorem dX12_call_268 : decode cX12_call 268 = .ok (.iconst 2, 1) := by decide +kernel
theorem dX12_call_269 : decode cX12_call 269 = .ok (.invokestatic 307, 3) := by decide +kernel
theorem dX12_call_272 : decode cX12_call 272 = .ok (.iaload, 1) := by decide +kernel
theorem dX12_call_273 : decode cX12_call 273 = .ok (.istore_n 3, 1) := by decide +kernel
theorem dX12_call_274 : decode cX12_call 274 = .ok (.aload_n 0, 1) := by decide +kernel
theorem dX12_call_275 : decode cX12_call 275 = .ok (.aload_n 0, 1) := by decide +kernel
theorem dX12_call_276 : decode cX12_call 276 = .ok (.getfield 88, 3) := by decide +kernel
theorem dX12_call_279 : decode cX12_call 279 = .ok (.aload_n 0, 1) := by decide +kernel
theorem dX12_call_280 : decode cX12_call 280 = .ok (.getfield 330, 3) := by decide +kernel
theorem dX12_call_283 : decode cX12_call 283 = .ok (.iaload, 1) := by decide +kernel
theorem dX12_call_284 : decode cX12_call 284 = .ok (.iload_n 3, 1) := by decide +kernel
theorem dX12_call_285 : decode cX12_call 285 = .ok (.invokevirtual 459, 3) := by decide +kernel
theorem dX12_call_288 : decode cX12_call 288 = .ok (.iload_n 1, 1) := by decide +kernel
theorem dX12_call_289 : decode cX12_call 289 = .ok (.bipush 16, 2) := by decide +kernel
theorem dX12_call_291 : decode cX12_call 291 = .ok (.idiv, 1) := by decide +kernel
theorem dX12_call_292 : decode cX12_call 292 = .ok (.istore 4, 2) := by decide +kernel
theorem dX12_call_294 : decode cX12_call 294 = .ok (.bipush 8, 2) := by decide +kernel
theorem dX12_call_296 : decode cX12_call 296 = .ok (.iload 4, 2) := by decide +kernel
theorem dX12_call_298 : decode cX12_call 298 = .ok (.imul, 1) := by decide +kernel
theorem dX12_call_299 : decode cX12_call 299 = .ok (.iload_n 1, 1) := by decide +kernel
theorem dX12_call_300 : decode cX12_call 300 = .ok (.bipush 16, 2) := by decide +kernel
theorem dX12_call_302 : decode cX12_call 302 = .ok (.irem, 1) := by decide +kernel
theorem dX12_call_303 : decode cX12_call 303 = .ok (.iadd, 1) := by decide +kernel
theorem dX12_call_304 : decode cX12_call 304 = .ok (.istore 5, 2) := by decide +kernel
theorem dX12_call_306 : decode cX12_call 306 = .ok (.iconst 0, 1) := by decide +kernel
theorem dX12_call_307 : decode cX12_call 307 = .ok (.istore 6, 2) := by decide +kernel
theorem dX12_call_309 : decode cX12_call 309 = .ok (.iload 6, 2) := by decide +kernel
theorem dX12_call_311 : decode cX12_call 311 = .ok (.bipush 10, 2) := by decide +kernel
theorem dX12_call_313 : decode cX12_call 313 = .ok (.if_icmp .ge 22, 3) := by decide +kernel
theorem dX12_call_316 : decode cX12_call 316 = .ok (.aload_n 0, 1) := by decide +kernel
theorem dX12_call_317 : decode cX12_call 317 = .ok (.aload_n 0, 1) := by decide +kernel
theorem dX12_call_318 : decode cX12_call 318 = .ok (.getfield 330, 3) := by decide +kernel
theorem dX12_call_321 : decode cX12_call 321 = .ok (.iload 6, 2) := by decide +kernel
theorem dX12_call_323 : decode cX12_call 323 = .ok (.invokestatic 307, 3) := by decide +kernel
theorem dX12_call_326 : decode cX12_call 326 = .ok (.invokevirtual 246, 3) := by decide +kernel
theorem dX12_call_329 : decode cX12_call 329 = .ok (.iinc 6 1, 3) := by decide +kernel
theorem dX12_call_332 : decode cX12_call 332 = .ok (.goto (-23), 3) := by decide +kernel
theorem dX12_call_335 : decode cX12_call 335 = .ok (.aload_n 0, 1) := by decide +kernel
theorem dX12_call_336 : decode cX12_call 336 = .ok (.iload 4, 2) := by decide +kernel
theorem dX12_call_338 : decode cX12_call 338 = .ok (.aload_n 0, 1) := by decide +kernel
theorem dX12_call_339 : decode cX12_call 339 = .ok (.getfield 55, 3) := by decide +kernel
theorem dX12_call_342 : decode cX12_call 342 = .ok (.iload 5, 2) := by decide +kernel
theorem dX12_call_344 : decode cX12_call 344 = .ok (.iaload, 1) := by decide +kernel
theorem dX12_call_345 : decode cX12_call 345 = .ok (.aload_n 0, 1) := by decide +kernel
theorem dX12_call_346 : decode cX12_call 346 = .ok (.invokevirtual 339, 3) := by decide +kernel
theorem dX12_call_349 : decode cX12_call 349 = .ok (.invokevirtual 310, 3) := by decide +kernel
theorem dX12_call_352 : decode cX12_call 352 = .ok (.aload_n 0, 1) := by decide +kernel
theorem dX12_call_353 : decode cX12_call 353 = .ok (.getfield 76, 3) := by decide +kernel
theorem dX12_call_356 : decode cX12_call 356 = .ok (.aload_n 0, 1) := by decide +kernel
theorem dX12_call_357 : decode cX12_call 357 = .ok (.getfield 330, 3) := by decide +kernel
theorem dX12_call_360 : decode cX12_call 360 = .ok (.aload_n 0, 1) := by decide +kernel
theorem dX12_call_361 : decode cX12_call 361 = .ok (.getfield 58, 3) := by decide +kernel
theorem dX12_call_364 : decode cX12_call 364 = .ok (.iload 5, 2) := by decide +kernel
theorem dX12_call_366 : decode cX12_call 366 = .ok (.iaload, 1) := by decide +kernel
theorem dX12_call_367 : decode cX12_call 367 = .ok (.iconst 1, 1) := by decide +kernel
theorem dX12_call_368 : decode cX12_call 368 = .ok (.if_icmp .ne 15, 3) := by decide +kernel
theorem dX12_call_371 : decode cX12_call 371 = .ok (.aload_n 0, 1) := by decide +kernel
theorem dX12_call_372 : decode cX12_call 372 = .ok (.getfield 76, 3) := by decide +kernel
theorem dX12_call_375 : decode cX12_call 375 = .ok (.aload_n 0, 1) := by decide +kernel
theorem dX12_call_376 : decode cX12_call 376 = .ok (.getfield 330, 3) := by decide +kernel
theorem dX12_call_379 : decode cX12_call 379 = .ok (.baload, 1) := by decide +kernel
