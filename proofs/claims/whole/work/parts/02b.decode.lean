theorem dX5_makeImport_140 : decode cX5_makeImport 140 = .ok (.iconst 0, 1) := by decide +kernel
theorem dX5_makeImport_141 : decode cX5_makeImport 141 = .ok (.iconst 1, 1) := by decide +kernel
theorem dX5_makeImport_142 : decode cX5_makeImport 142 = .ok (.invokevirtual 198, 3) := by decide +kernel
theorem dX5_makeImport_145 : decode cX5_makeImport 145 = .ok (.goto 27, 3) := by decide +kernel
theorem dX5_makeImport_148 : decode cX5_makeImport 148 = .ok (.aload_n 1, 1) := by decide +kernel
theorem dX5_makeImport_149 : decode cX5_makeImport 149 = .ok (.iload_n 3, 1) := by decide +kernel
theorem dX5_makeImport_150 : decode cX5_makeImport 150 = .ok (.invokevirtual 204, 3) := by decide +kernel
theorem dX5_makeImport_153 : decode cX5_makeImport 153 = .ok (.astore 7, 2) := by decide +kernel
theorem dX5_makeImport_155 : decode cX5_makeImport 155 = .ok (.aload 7, 2) := by decide +kernel
theorem dX5_makeImport_157 : decode cX5_makeImport 157 = .ok (.ifnull 15, 3) := by decide +kernel
theorem dX5_makeImport_160 : decode cX5_makeImport 160 = .ok (.aload 7, 2) := by decide +kernel
theorem dX5_makeImport_162 : decode cX5_makeImport 162 = .ok (.aload 5, 2) := by decide +kernel
theorem dX5_makeImport_164 : decode cX5_makeImport 164 = .ok (.iload 4, 2) := by decide +kernel
theorem dX5_makeImport_166 : decode cX5_makeImport 166 = .ok (.bipush 64, 2) := by decide +kernel
theorem dX5_makeImport_168 : decode cX5_makeImport 168 = .ok (.ior, 1) := by decide +kernel
theorem dX5_makeImport_169 : decode cX5_makeImport 169 = .ok (.invokevirtual 208, 3) := by decide +kernel
theorem dX5_makeImport_172 : decode cX5_makeImport 172 = .ok (.return_, 1) := by decide +kernel
theorem dX5_makeTask_0 : decode cX5_makeTask 0 = .ok (.aload_n 0, 1) := by decide +kernel
theorem dX5_makeTask_1 : decode cX5_makeTask 1 = .ok (.iload_n 3, 1) := by decide +kernel
theorem dX5_makeTask_2 : decode cX5_makeTask 2 = .ok (.invokevirtual 53, 3) := by decide +kernel
theorem dX5_makeTask_5 : decode cX5_makeTask 5 = .ok (.istore 4, 2) := by decide +kernel
theorem dX5_makeTask_7 : decode cX5_makeTask 7 = .ok (.aload_n 1, 1) := by decide +kernel
theorem dX5_makeTask_8 : decode cX5_makeTask 8 = .ok (.iload 4, 2) := by decide +kernel
theorem dX5_makeTask_10 : decode cX5_makeTask 10 = .ok (.invokevirtual 204, 3) := by decide +kernel
theorem dX5_makeTask_13 : decode cX5_makeTask 13 = .ok (.astore 5, 2) := by decide +kernel
theorem dX5_makeTask_15 : decode cX5_makeTask 15 = .ok (.aload 5, 2) := by decide +kernel
theorem dX5_makeTask_17 : decode cX5_makeTask 17 = .ok (.ifnull 40, 3) := by decide +kernel
theorem dX5_makeTask_20 : decode cX5_makeTask 20 = .ok (.aload_n 2, 1) := by decide +kernel
theorem dX5_makeTask_21 : decode cX5_makeTask 21 = .ok (.aload_n 0, 1) := by decide +kernel
theorem dX5_makeTask_22 : decode cX5_makeTask 22 = .ok (.iload_n 3, 1) := by decide +kernel
theorem dX5_makeTask_23 : decode cX5_makeTask 23 = .ok (.iconst 2, 1) := by decide +kernel
theorem dX5_makeTask_24 : decode cX5_makeTask 24 = .ok (.iadd, 1) := by decide +kernel
theorem dX5_makeTask_25 : decode cX5_makeTask 25 = .ok (.invokevirtual 53, 3) := by decide +kernel
theorem dX5_makeTask_28 : decode cX5_makeTask 28 = .ok (.aload_n 0, 1) := by decide +kernel
theorem dX5_makeTask_29 : decode cX5_makeTask 29 = .ok (.iload_n 3, 1) := by decide +kernel
theorem dX5_makeTask_30 : decode cX5_makeTask 30 = .ok (.iconst 4, 1) := by decide +kernel
theorem dX5_makeTask_31 : decode cX5_makeTask 31 = .ok (.iadd, 1) := by decide +kernel
theorem dX5_makeTask_32 : decode cX5_makeTask 32 = .ok (.invokevirtual 53, 3) := by decide +kernel
theorem dX5_makeTask_35 : decode cX5_makeTask 35 = .ok (.invokevirtual 212, 3) := by decide +kernel
theorem dX5_makeTask_38 : decode cX5_makeTask 38 = .ok (.aload_n 2, 1) := by decide +kernel
theorem dX5_makeTask_39 : decode cX5_makeTask 39 = .ok (.aload 5, 2) := by decide +kernel
theorem dX5_makeTask_41 : decode cX5_makeTask 41 = .ok (.iload 4, 2) := by decide +kernel
theorem dX5_makeTask_43 : decode cX5_makeTask 43 = .ok (.aload_n 0, 1) := by decide +kernel
theorem dX5_makeTask_44 : decode cX5_makeTask 44 = .ok (.iload_n 3, 1) := by decide +kernel
theorem dX5_makeTask_45 : decode cX5_makeTask 45 = .ok (.iconst 1, 1) := by decide +kernel
theorem dX5_makeTask_46 : decode cX5_makeTask 46 = .ok (.iadd, 1) := by decide +kernel
theorem dX5_makeTask_47 : decode cX5_makeTask 47 = .ok (.invokevirtual 53, 3) := by decide +kernel
theorem dX5_makeTask_50 : decode cX5_makeTask 50 = .ok (.aload_n 2, 1) := by decide +kernel
theorem dX5_makeTask_51 : decode cX5_makeTask 51 = .ok (.getfield 137, 3) := by decide +kernel
theorem dX5_makeTask_54 : decode cX5_makeTask 54 = .ok (.invokevirtual 215, 3) := by decide +kernel
theorem dX5_makeTask_57 : decode cX5_makeTask 57 = .ok (.return_, 1) := by decide +kernel
theorem dX6_init_0 : decode cX6_init 0 = .ok (.aload_n 0, 1) := by decide +kernel
theorem dX6_init_1 : decode cX6_init 1 = .ok (.invokespecial 3, 3) := by decide +kernel
theorem dX6_init_4 : decode cX6_init 4 = .ok (.aload_n 0, 1) := by decide +kernel
theorem dX6_init_5 : decode cX6_init 5 = .ok (.iload_n 1, 1) := by decide +kernel
theorem dX6_init_6 : decode cX6_init 6 = .ok (.newarray .byte, 2) := by decide +kernel
theorem dX6_init_8 : decode cX6_init 8 = .ok (.putfield 9, 3) := by decide +kernel
theorem dX6_init_11 : decode cX6_init 11 = .ok (.return_, 1) := by decide +kernel
theorem dX6_reset_0 : decode cX6_reset 0 = .ok (.aload_n 0, 1) := by decide +kernel
theorem dX6_reset_1 : decode cX6_reset 1 = .ok (.iconst 0, 1) := by decide +kernel
theorem dX6_reset_2 : decode cX6_reset 2 = .ok (.putfield 15, 3) := by decide +kernel
theorem dX6_reset_5 : decode cX6_reset 5 = .ok (.aload_n 0, 1) := by decide +kernel
theorem dX6_reset_6 : decode cX6_reset 6 = .ok (.iconst 0, 1) := by decide +kernel
theorem dX6_reset_7 : decode cX6_reset 7 = .ok (.putfield 19, 3) := by decide +kernel
theorem dX6_reset_10 : decode cX6_reset 10 = .ok (.return_, 1) := by decide +kernel
theorem dX6_at_0 : decode cX6_at 0 = .ok (.iload_n 1, 1) := by decide +kernel
theorem dX6_at_1 : decode cX6_at 1 = .ok (.aload_n 0, 1) := by decide +kernel
theorem dX6_at_2 : decode cX6_at 2 = .ok (.getfield 9, 3) := by decide +kernel
theorem dX6_at_5 : decode cX6_at 5 = .ok (.arraylength, 1) := by decide +kernel
theorem dX6_at_6 : decode cX6_at 6 = .ok (.if_icmp .lt 13, 3) := by decide +kernel
theorem dX6_at_9 : decode cX6_at 9 = .ok (.iload_n 1, 1) := by decide +kernel
theorem dX6_at_10 : decode cX6_at 10 = .ok (.aload_n 0, 1) := by decide +kernel
theorem dX6_at_11 : decode cX6_at 11 = .ok (.getfield 9, 3) := by decide +kernel
theorem dX6_at_14 : decode cX6_at 14 = .ok (.arraylength, 1) := by decide +kernel
theorem dX6_at_15 : decode cX6_at 15 = .ok (.isub, 1) := by decide +kernel
theorem dX6_at_16 : decode cX6_at 16 = .ok (.goto 4, 3) := by decide +kernel
theorem dX6_at_19 : decode cX6_at 19 = .ok (.iload_n 1, 1) := by decide +kernel
theorem dX6_at_20 : decode cX6_at 20 = .ok (.ireturn, 1) := by decide +kernel
theorem dX6_push_0 : decode cX6_push 0 = .ok (.aload_n 0, 1) := by decide +kernel
theorem dX6_push_1 : decode cX6_push 1 = .ok (.getfield 19, 3) := by decide +kernel
theorem dX6_push_4 : decode cX6_push 4 = .ok (.aload_n 0, 1) := by decide +kernel
theorem dX6_push_5 : decode cX6_push 5 = .ok (.getfield 9, 3) := by decide +kernel
theorem dX6_push_8 : decode cX6_push 8 = .ok (.arraylength, 1) := by decide +kernel
theorem dX6_push_9 : decode cX6_push 9 = .ok (.if_icmp .lt 8, 3) := by decide +kernel
theorem dX6_push_12 : decode cX6_push 12 = .ok (.aload_n 0, 1) := by decide +kernel
theorem dX6_push_13 : decode cX6_push 13 = .ok (.invokevirtual 22, 3) := by decide +kernel
theorem dX6_push_16 : decode cX6_push 16 = .ok (.pop, 1) := by decide +kernel
theorem dX6_push_17 : decode cX6_push 17 = .ok (.aload_n 0, 1) := by decide +kernel
theorem dX6_push_18 : decode cX6_push 18 = .ok (.aload_n 0, 1) := by decide +kernel
theorem dX6_push_19 : decode cX6_push 19 = .ok (.getfield 15, 3) := by decide +kernel
theorem dX6_push_22 : decode cX6_push 22 = .ok (.aload_n 0, 1) := by decide +kernel
theorem dX6_push_23 : decode cX6_push 23 = .ok (.getfield 19, 3) := by decide +kernel
theorem dX6_push_26 : decode cX6_push 26 = .ok (.iadd, 1) := by decide +kernel
theorem dX6_push_27 : decode cX6_push 27 = .ok (.invokevirtual 26, 3) := by decide +kernel
theorem dX6_push_30 : decode cX6_push 30 = .ok (.istore_n 2, 1) := by decide +kernel
theorem dX6_push_31 : decode cX6_push 31 = .ok (.iload_n 2, 1) := by decide +kernel
theorem dX6_push_32 : decode cX6_push 32 = .ok (.ifCond .lt 30, 3) := by decide +kernel
theorem dX6_push_35 : decode cX6_push 35 = .ok (.iload_n 2, 1) := by decide +kernel
theorem dX6_push_36 : decode cX6_push 36 = .ok (.aload_n 0, 1) := by decide +kernel
theorem dX6_push_37 : decode cX6_push 37 = .ok (.getfield 9, 3) := by decide +kernel
theorem dX6_push_40 : decode cX6_push 40 = .ok (.arraylength, 1) := by decide +kernel
theorem dX6_push_41 : decode cX6_push 41 = .ok (.if_icmp .ge 21, 3) := by decide +kernel
theorem dX6_push_44 : decode cX6_push 44 = .ok (.aload_n 0, 1) := by decide +kernel
theorem dX6_push_45 : decode cX6_push 45 = .ok (.getfield 9, 3) := by decide +kernel
theorem dX6_push_48 : decode cX6_push 48 = .ok (.iload_n 2, 1) := by decide +kernel
theorem dX6_push_49 : decode cX6_push 49 = .ok (.iload_n 1, 1) := by decide +kernel
theorem dX6_push_50 : decode cX6_push 50 = .ok (.i2b, 1) := by decide +kernel
theorem dX6_push_51 : decode cX6_push 51 = .ok (.bastore, 1) := by decide +kernel
theorem dX6_push_52 : decode cX6_push 52 = .ok (.aload_n 0, 1) := by decide +kernel
theorem dX6_push_53 : decode cX6_push 53 = .ok (.dup, 1) := by decide +kernel
theorem dX6_push_54 : decode cX6_push 54 = .ok (.getfield 19, 3) := by decide +kernel
theorem dX6_push_57 : decode cX6_push 57 = .ok (.iconst 1, 1) := by decide +kernel
theorem dX6_push_58 : decode cX6_push 58 = .ok (.iadd, 1) := by decide +kernel
theorem dX6_push_59 : decode cX6_push 59 = .ok (.putfield 19, 3) := by decide +kernel
theorem dX6_push_62 : decode cX6_push 62 = .ok (.return_, 1) := by decide +kernel
theorem dX6_pull_0 : decode cX6_pull 0 = .ok (.aload_n 0, 1) := by decide +kernel
theorem dX6_pull_1 : decode cX6_pull 1 = .ok (.getfield 19, 3) := by decide +kernel
theorem dX6_pull_4 : decode cX6_pull 4 = .ok (.ifCond .le 22, 3) := by decide +kernel
theorem dX6_pull_7 : decode cX6_pull 7 = .ok (.aload_n 0, 1) := by decide +kernel
theorem dX6_pull_8 : decode cX6_pull 8 = .ok (.getfield 15, 3) := by decide +kernel
theorem dX6_pull_11 : decode cX6_pull 11 = .ok (.ifCond .lt 15, 3) := by decide +kernel
theorem dX6_pull_14 : decode cX6_pull 14 = .ok (.aload_n 0, 1) := by decide +kernel
theorem dX6_pull_15 : decode cX6_pull 15 = .ok (.getfield 15, 3) := by decide +kernel
theorem dX6_pull_18 : decode cX6_pull 18 = .ok (.aload_n 0, 1) := by decide +kernel
theorem dX6_pull_19 : decode cX6_pull 19 = .ok (.getfield 9, 3) := by decide +kernel
theorem dX6_pull_22 : decode cX6_pull 22 = .ok (.arraylength, 1) := by decide +kernel
theorem dX6_pull_23 : decode cX6_pull 23 = .ok (.if_icmp .lt 5, 3) := by decide +kernel
theorem dX6_pull_26 : decode cX6_pull 26 = .ok (.iconst (-1), 1) := by decide +kernel
theorem dX6_pull_27 : decode cX6_pull 27 = .ok (.ireturn, 1) := by decide +kernel
theorem dX6_pull_28 : decode cX6_pull 28 = .ok (.aload_n 0, 1) := by decide +kernel
theorem dX6_pull_29 : decode cX6_pull 29 = .ok (.getfield 9, 3) := by decide +kernel
theorem dX6_pull_32 : decode cX6_pull 32 = .ok (.aload_n 0, 1) := by decide +kernel
theorem dX6_pull_33 : decode cX6_pull 33 = .ok (.getfield 15, 3) := by decide +kernel
theorem dX6_pull_36 : decode cX6_pull 36 = .ok (.baload, 1) := by decide +kernel
theorem dX6_pull_37 : decode cX6_pull 37 = .ok (.sipush 255, 3) := by decide +kernel
theorem dX6_pull_40 : decode cX6_pull 40 = .ok (.iand, 1) := by decide +kernel
theorem dX6_pull_41 : decode cX6_pull 41 = .ok (.istore_n 1, 1) := by decide +kernel
theorem dX6_pull_42 : decode cX6_pull 42 = .ok (.aload_n 0, 1) := by decide +kernel
theorem dX6_pull_43 : decode cX6_pull 43 = .ok (.aload_n 0, 1) := by decide +kernel
theorem dX6_pull_44 : decode cX6_pull 44 = .ok (.aload_n 0, 1) := by decide +kernel
theorem dX6_pull_45 : decode cX6_pull 45 = .ok (.getfield 15, 3) := by decide +kernel
theorem dX6_pull_48 : decode cX6_pull 48 = .ok (.iconst 1, 1) := by decide +kernel
theorem dX6_pull_49 : decode cX6_pull 49 = .ok (.iadd, 1) := by decide +kernel
theorem dX6_pull_50 : decode cX6_pull 50 = .ok (.invokevirtual 26, 3) := by decide +kernel
theorem dX6_pull_53 : decode cX6_pull 53 = .ok (.putfield 15, 3) := by decide +kernel
theorem dX6_pull_56 : decode cX6_pull 56 = .ok (.aload_n 0, 1) := by decide +kernel
theorem dX6_pull_57 : decode cX6_pull 57 = .ok (.dup, 1) := by decide +kernel
theorem dX6_pull_58 : decode cX6_pull 58 = .ok (.getfield 19, 3) := by decide +kernel
theorem dX6_pull_61 : decode cX6_pull 61 = .ok (.iconst 1, 1) := by decide +kernel
theorem dX6_pull_62 : decode cX6_pull 62 = .ok (.isub, 1) := by decide +kernel
theorem dX6_pull_63 : decode cX6_pull 63 = .ok (.putfield 19, 3) := by decide +kernel
theorem dX6_pull_66 : decode cX6_pull 66 = .ok (.iload_n 1, 1) := by decide +kernel
theorem dX6_pull_67 : decode cX6_pull 67 = .ok (.ireturn, 1) := by decide +kernel
theorem dX7_serve_0 : decode cX7_serve 0 = .ok (.aload_n 1, 1) := by decide +kernel
theorem dX7_serve_1 : decode cX7_serve 1 = .ok (.bipush 10, 2) := by decide +kernel
theorem dX7_serve_3 : decode cX7_serve 3 = .ok (.invokevirtual 9, 3) := by decide +kernel
theorem dX7_serve_6 : decode cX7_serve 6 = .ok (.astore_n 3, 1) := by decide +kernel
theorem dX7_serve_7 : decode cX7_serve 7 = .ok (.aload_n 0, 1) := by decide +kernel
theorem dX7_serve_8 : decode cX7_serve 8 = .ok (.dup, 1) := by decide +kernel
theorem dX7_serve_9 : decode cX7_serve 9 = .ok (.getfield 15, 3) := by decide +kernel
theorem dX7_serve_12 : decode cX7_serve 12 = .ok (.iconst 1, 1) := by decide +kernel
theorem dX7_serve_13 : decode cX7_serve 13 = .ok (.iadd, 1) := by decide +kernel
theorem dX7_serve_14 : decode cX7_serve 14 = .ok (.putfield 15, 3) := by decide +kernel
theorem dX7_serve_17 : decode cX7_serve 17 = .ok (.iload_n 2, 1) := by decide +kernel
theorem dX7_serve_18 : decode cX7_serve 18 = .ok (.tableswitch 142 0 7 #[46, 54, 66, 79, 91, 103, 115, 131], 46) := by decide +kernel
theorem dX7_serve_64 : decode cX7_serve 64 = .ok (.aload_n 0, 1) := by decide +kernel
theorem dX7_serve_65 : decode cX7_serve 65 = .ok (.aload_n 1, 1) := by decide +kernel
theorem dX7_serve_66 : decode cX7_serve 66 = .ok (.invokestatic 21, 3) := by decide +kernel
theorem dX7_serve_69 : decode cX7_serve 69 = .ok (.goto 102, 3) := by decide +kernel
theorem dX7_serve_72 : decode cX7_serve 72 = .ok (.aload_n 3, 1) := by decide +kernel
theorem dX7_serve_73 : decode cX7_serve 73 = .ok (.aload_n 0, 1) := by decide +kernel
theorem dX7_serve_74 : decode cX7_serve 74 = .ok (.aload_n 3, 1) := by decide +kernel
theorem dX7_serve_75 : decode cX7_serve 75 = .ok (.invokestatic 27, 3) := by decide +kernel
theorem dX7_serve_78 : decode cX7_serve 78 = .ok (.invokevirtual 31, 3) := by decide +kernel
theorem dX7_serve_81 : decode cX7_serve 81 = .ok (.goto 90, 3) := by decide +kernel
theorem dX7_serve_84 : decode cX7_serve 84 = .ok (.aload_n 0, 1) := by decide +kernel
theorem dX7_serve_85 : decode cX7_serve 85 = .ok (.iconst (-1), 1) := by decide +kernel
theorem dX7_serve_86 : decode cX7_serve 86 = .ok (.putfield 37, 3) := by decide +kernel
theorem dX7_serve_89 : decode cX7_serve 89 = .ok (.aload_n 3, 1) := by decide +kernel
theorem dX7_serve_90 : decode cX7_serve 90 = .ok (.iconst 0, 1) := by decide +kernel
theorem dX7_serve_91 : decode cX7_serve 91 = .ok (.invokevirtual 31, 3) := by decide +kernel
theorem dX7_serve_94 : decode cX7_serve 94 = .ok (.goto 77, 3) := by decide +kernel
theorem dX7_serve_97 : decode cX7_serve 97 = .ok (.aload_n 3, 1) := by decide +kernel
theorem dX7_serve_98 : decode cX7_serve 98 = .ok (.aload_n 0, 1) := by decide +kernel
theorem dX7_serve_99 : decode cX7_serve 99 = .ok (.aload_n 1, 1) := by decide +kernel
theorem dX7_serve_100 : decode cX7_serve 100 = .ok (.invokestatic 40, 3) := by decide +kernel
theorem dX7_serve_103 : decode cX7_serve 103 = .ok (.invokevirtual 31, 3) := by decide +kernel
theorem dX7_serve_106 : decode cX7_serve 106 = .ok (.goto 65, 3) := by decide +kernel
theorem dX7_serve_109 : decode cX7_serve 109 = .ok (.aload_n 3, 1) := by decide +kernel
theorem dX7_serve_110 : decode cX7_serve 110 = .ok (.aload_n 0, 1) := by decide +kernel
theorem dX7_serve_111 : decode cX7_serve 111 = .ok (.aload_n 1, 1) := by decide +kernel
theorem dX7_serve_112 : decode cX7_serve 112 = .ok (.invokestatic 44, 3) := by decide +kernel
theorem dX7_serve_115 : decode cX7_serve 115 = .ok (.invokevirtual 31, 3) := by decide +kernel
theorem dX7_serve_118 : decode cX7_serve 118 = .ok (.goto 53, 3) := by decide +kernel
theorem dX7_serve_121 : decode cX7_serve 121 = .ok (.aload_n 3, 1) := by decide +kernel
theorem dX7_serve_122 : decode cX7_serve 122 = .ok (.aload_n 0, 1) := by decide +kernel
theorem dX7_serve_123 : decode cX7_serve 123 = .ok (.aload_n 1, 1) := by decide +kernel
theorem dX7_serve_124 : decode cX7_serve 124 = .ok (.invokestatic 47, 3) := by decide +kernel
theorem dX7_serve_127 : decode cX7_serve 127 = .ok (.invokevirtual 31, 3) := by decide +kernel
theorem dX7_serve_130 : decode cX7_serve 130 = .ok (.goto 41, 3) := by decide +kernel
theorem dX7_serve_133 : decode cX7_serve 133 = .ok (.aload_n 0, 1) := by decide +kernel
theorem dX7_serve_134 : decode cX7_serve 134 = .ok (.getfield 50, 3) := by decide +kernel
theorem dX7_serve_137 : decode cX7_serve 137 = .ok (.iconst 1, 1) := by decide +kernel
theorem dX7_serve_138 : decode cX7_serve 138 = .ok (.putfield 54, 3) := by decide +kernel
theorem dX7_serve_141 : decode cX7_serve 141 = .ok (.aload_n 3, 1) := by decide +kernel
theorem dX7_serve_142 : decode cX7_serve 142 = .ok (.iconst 0, 1) := by decide +kernel
theorem dX7_serve_143 : decode cX7_serve 143 = .ok (.invokevirtual 31, 3) := by decide +kernel
theorem dX7_serve_146 : decode cX7_serve 146 = .ok (.goto 25, 3) := by decide +kernel
theorem dX7_serve_149 : decode cX7_serve 149 = .ok (.aload_n 3, 1) := by decide +kernel
theorem dX7_serve_150 : decode cX7_serve 150 = .ok (.aload_n 1, 1) := by decide +kernel
theorem dX7_serve_151 : decode cX7_serve 151 = .ok (.getfield 60, 3) := by decide +kernel
theorem dX7_serve_154 : decode cX7_serve 154 = .ok (.invokevirtual 31, 3) := by decide +kernel
theorem dX7_serve_157 : decode cX7_serve 157 = .ok (.goto 14, 3) := by decide +kernel
theorem dX7_serve_160 : decode cX7_serve 160 = .ok (.aload_n 3, 1) := by decide +kernel
theorem dX7_serve_161 : decode cX7_serve 161 = .ok (.aload_n 0, 1) := by decide +kernel
theorem dX7_serve_162 : decode cX7_serve 162 = .ok (.getfield 50, 3) := by decide +kernel
theorem dX7_serve_165 : decode cX7_serve 165 = .ok (.invokevirtual 62, 3) := by decide +kernel
theorem dX7_serve_168 : decode cX7_serve 168 = .ok (.invokevirtual 31, 3) := by decide +kernel
theorem dX7_serve_171 : decode cX7_serve 171 = .ok (.aload_n 1, 1) := by decide +kernel
theorem dX7_serve_172 : decode cX7_serve 172 = .ok (.bipush 11, 2) := by decide +kernel
theorem dX7_serve_174 : decode cX7_serve 174 = .ok (.invokevirtual 9, 3) := by decide +kernel
theorem dX7_serve_177 : decode cX7_serve 177 = .ok (.invokevirtual 66, 3) := by decide +kernel
theorem dX7_serve_180 : decode cX7_serve 180 = .ok (.aload_n 1, 1) := by decide +kernel
theorem dX7_serve_181 : decode cX7_serve 181 = .ok (.invokevirtual 69, 3) := by decide +kernel
theorem dX7_serve_184 : decode cX7_serve 184 = .ok (.aload_n 1, 1) := by decide +kernel
theorem dX7_serve_185 : decode cX7_serve 185 = .ok (.aload_n 0, 1) := by decide +kernel
theorem dX7_serve_186 : decode cX7_serve 186 = .ok (.getfield 72, 3) := by decide +kernel
theorem dX7_serve_189 : decode cX7_serve 189 = .ok (.invokevirtual 76, 3) := by decide +kernel
theorem dX7_serve_192 : decode cX7_serve 192 = .ok (.return_, 1) := by decide +kernel
theorem dX7_allocate_0 : decode cX7_allocate 0 = .ok (.aload_n 0, 1) := by decide +kernel
theorem dX7_allocate_1 : decode cX7_allocate 1 = .ok (.getfield 50, 3) := by decide +kernel
theorem dX7_allocate_4 : decode cX7_allocate 4 = .ok (.astore_n 2, 1) := by decide +kernel
theorem dX7_allocate_5 : decode cX7_allocate 5 = .ok (.aload_n 1, 1) := by decide +kernel
theorem dX7_allocate_6 : decode cX7_allocate 6 = .ok (.bipush 10, 2) := by decide +kernel
theorem dX7_allocate_8 : decode cX7_allocate 8 = .ok (.invokevirtual 9, 3) := by decide +kernel
theorem dX7_allocate_11 : decode cX7_allocate 11 = .ok (.astore_n 3, 1) := by decide +kernel
theorem dX7_allocate_12 : decode cX7_allocate 12 = .ok (.aload_n 3, 1) := by decide +kernel
theorem dX7_allocate_13 : decode cX7_allocate 13 = .ok (.getfield 80, 3) := by decide +kernel
theorem dX7_allocate_16 : decode cX7_allocate 16 = .ok (.invokestatic 83, 3) := by decide +kernel
theorem dX7_allocate_19 : decode cX7_allocate 19 = .ok (.lstore 4, 2) := by decide +kernel
theorem dX7_allocate_21 : decode cX7_allocate 21 = .ok (.lload 4, 2) := by decide +kernel
theorem dX7_allocate_23 : decode cX7_allocate 23 = .ok (.lconst 1, 1) := by decide +kernel
theorem dX7_allocate_24 : decode cX7_allocate 24 = .ok (.lcmp, 1) := by decide +kernel
theorem dX7_allocate_25 : decode cX7_allocate 25 = .ok (.ifCond .lt 14, 3) := by decide +kernel
theorem dX7_allocate_28 : decode cX7_allocate 28 = .ok (.lload 4, 2) := by decide +kernel
theorem dX7_allocate_30 : decode cX7_allocate 30 = .ok (.aload_n 2, 1) := by decide +kernel
theorem dX7_allocate_31 : decode cX7_allocate 31 = .ok (.invokevirtual 87, 3) := by decide +kernel
theorem dX7_allocate_34 : decode cX7_allocate 34 = .ok (.i2l, 1) := by decide +kernel
theorem dX7_allocate_35 : decode cX7_allocate 35 = .ok (.lcmp, 1) := by decide +kernel
theorem dX7_allocate_36 : decode cX7_allocate 36 = .ok (.ifCond .le 8, 3) := by decide +kernel
theorem dX7_allocate_39 : decode cX7_allocate 39 = .ok (.aload_n 3, 1) := by decide +kernel
theorem dX7_allocate_40 : decode cX7_allocate 40 = .ok (.invokevirtual 66, 3) := by decide +kernel
theorem dX7_allocate_43 : decode cX7_allocate 43 = .ok (.return_, 1) := by decide +kernel
theorem dX7_allocate_44 : decode cX7_allocate 44 = .ok (.lload 4, 2) := by decide +kernel
theorem dX7_allocate_46 : decode cX7_allocate 46 = .ok (.ldc2_w 90, 3) := by decide +kernel
theorem dX7_allocate_49 : decode cX7_allocate 49 = .ok (.ladd, 1) := by decide +kernel
theorem dX7_allocate_50 : decode cX7_allocate 50 = .ok (.lconst 1, 1) := by decide +kernel
theorem dX7_allocate_51 : decode cX7_allocate 51 = .ok (.lsub, 1) := by decide +kernel
theorem dX7_allocate_52 : decode cX7_allocate 52 = .ok (.ldc2_w 90, 3) := by decide +kernel
theorem dX7_allocate_55 : decode cX7_allocate 55 = .ok (.ldiv, 1) := by decide +kernel
theorem dX7_allocate_56 : decode cX7_allocate 56 = .ok (.l2i, 1) := by decide +kernel
theorem dX7_allocate_57 : decode cX7_allocate 57 = .ok (.istore 6, 2) := by decide +kernel
theorem dX7_allocate_59 : decode cX7_allocate 59 = .ok (.aload_n 0, 1) := by decide +kernel
theorem dX7_allocate_60 : decode cX7_allocate 60 = .ok (.iload 6, 2) := by decide +kernel
theorem dX7_allocate_62 : decode cX7_allocate 62 = .ok (.aload_n 3, 1) := by decide +kernel
theorem dX7_allocate_63 : decode cX7_allocate 63 = .ok (.invokevirtual 92, 3) := by decide +kernel
theorem dX7_allocate_66 : decode cX7_allocate 66 = .ok (.ifCond .ne 42, 3) := by decide +kernel
theorem dX7_allocate_69 : decode cX7_allocate 69 = .ok (.aload_n 2, 1) := by decide +kernel
theorem dX7_allocate_70 : decode cX7_allocate 70 = .ok (.getfield 96, 3) := by decide +kernel
theorem dX7_allocate_73 : decode cX7_allocate 73 = .ok (.ifCond .le 35, 3) := by decide +kernel
theorem dX7_allocate_76 : decode cX7_allocate 76 = .ok (.aload_n 2, 1) := by decide +kernel
theorem dX7_allocate_77 : decode cX7_allocate 77 = .ok (.dup, 1) := by decide +kernel
theorem dX7_allocate_78 : decode cX7_allocate 78 = .ok (.getfield 54, 3) := by decide +kernel
theorem dX7_allocate_81 : decode cX7_allocate 81 = .ok (.aload_n 2, 1) := by decide +kernel
theorem dX7_allocate_82 : decode cX7_allocate 82 = .ok (.getfield 99, 3) := by decide +kernel
theorem dX7_allocate_85 : decode cX7_allocate 85 = .ok (.ifCond .ge 7, 3) := by decide +kernel
theorem dX7_allocate_88 : decode cX7_allocate 88 = .ok (.iconst 1, 1) := by decide +kernel
theorem dX7_allocate_89 : decode cX7_allocate 89 = .ok (.goto 4, 3) := by decide +kernel
theorem dX7_allocate_92 : decode cX7_allocate 92 = .ok (.iconst 0, 1) := by decide +kernel
theorem dX7_allocate_93 : decode cX7_allocate 93 = .ok (.ior, 1) := by decide +kernel
theorem dX7_allocate_94 : decode cX7_allocate 94 = .ok (.putfield 54, 3) := by decide +kernel
theorem dX7_allocate_97 : decode cX7_allocate 97 = .ok (.aload_n 1, 1) := by decide +kernel
theorem dX7_allocate_98 : decode cX7_allocate 98 = .ok (.iload 6, 2) := by decide +kernel
theorem dX7_allocate_100 : decode cX7_allocate 100 = .ok (.putfield 102, 3) := by decide +kernel
theorem dX7_allocate_103 : decode cX7_allocate 103 = .ok (.aload_n 1, 1) := by decide +kernel
theorem dX7_allocate_104 : decode cX7_allocate 104 = .ok (.iconst 4, 1) := by decide +kernel
theorem dX7_allocate_105 : decode cX7_allocate 105 = .ok (.putfield 105, 3) := by decide +kernel
theorem dX7_allocate_108 : decode cX7_allocate 108 = .ok (.return_, 1) := by decide +kernel
theorem dX7_release_0 : decode cX7_release 0 = .ok (.aload_n 1, 1) := by decide +kernel
theorem dX7_release_1 : decode cX7_release 1 = .ok (.iconst 2, 1) := by decide +kernel
theorem dX7_release_2 : decode cX7_release 2 = .ok (.invokevirtual 108, 3) := by decide +kernel
theorem dX7_release_5 : decode cX7_release 5 = .ok (.ifCond .eq 21, 3) := by decide +kernel
theorem dX7_release_8 : decode cX7_release 8 = .ok (.aload_n 0, 1) := by decide +kernel
theorem dX7_release_9 : decode cX7_release 9 = .ok (.getfield 50, 3) := by decide +kernel
theorem dX7_release_12 : decode cX7_release 12 = .ok (.aload_n 1, 1) := by decide +kernel
theorem dX7_release_13 : decode cX7_release 13 = .ok (.getfield 112, 3) := by decide +kernel
theorem dX7_release_16 : decode cX7_release 16 = .ok (.aload_n 1, 1) := by decide +kernel
theorem dX7_release_17 : decode cX7_release 17 = .ok (.getfield 115, 3) := by decide +kernel
theorem dX7_release_20 : decode cX7_release 20 = .ok (.invokevirtual 118, 3) := by decide +kernel
theorem dX7_release_23 : decode cX7_release 23 = .ok (.ifCond .ne 5, 3) := by decide +kernel
theorem dX7_release_26 : decode cX7_release 26 = .ok (.iconst (-1), 1) := by decide +kernel
theorem dX7_release_27 : decode cX7_release 27 = .ok (.ireturn, 1) := by decide +kernel
theorem dX7_release_28 : decode cX7_release 28 = .ok (.aload_n 1, 1) := by decide +kernel
theorem dX7_release_29 : decode cX7_release 29 = .ok (.getfield 112, 3) := by decide +kernel
theorem dX7_release_32 : decode cX7_release 32 = .ok (.bipush 16, 2) := by decide +kernel
theorem dX7_release_34 : decode cX7_release 34 = .ok (.idiv, 1) := by decide +kernel
theorem dX7_release_35 : decode cX7_release 35 = .ok (.istore_n 2, 1) := by decide +kernel
theorem dX7_release_36 : decode cX7_release 36 = .ok (.aload_n 0, 1) := by decide +kernel
theorem dX7_release_37 : decode cX7_release 37 = .ok (.getfield 50, 3) := by decide +kernel
theorem dX7_release_40 : decode cX7_release 40 = .ok (.iload_n 2, 1) := by decide +kernel
theorem dX7_release_41 : decode cX7_release 41 = .ok (.invokevirtual 122, 3) := by decide +kernel
theorem dX7_release_44 : decode cX7_release 44 = .ok (.aload_n 0, 1) := by decide +kernel
theorem dX7_release_45 : decode cX7_release 45 = .ok (.getfield 50, 3) := by decide +kernel
theorem dX7_release_48 : decode cX7_release 48 = .ok (.aload_n 0, 1) := by decide +kernel
theorem dX7_release_49 : decode cX7_release 49 = .ok (.getfield 72, 3) := by decide +kernel
theorem dX7_release_52 : decode cX7_release 52 = .ok (.iload_n 2, 1) := by decide +kernel
theorem dX7_release_53 : decode cX7_release 53 = .ok (.aload_n 1, 1) := by decide +kernel
theorem dX7_release_54 : decode cX7_release 54 = .ok (.getfield 115, 3) := by decide +kernel
theorem dX7_release_57 : decode cX7_release 57 = .ok (.aload_n 1, 1) := by decide +kernel
theorem dX7_release_58 : decode cX7_release 58 = .ok (.getfield 112, 3) := by decide +kernel
theorem dX7_release_61 : decode cX7_release 61 = .ok (.isub, 1) := by decide +kernel
theorem dX7_release_62 : decode cX7_release 62 = .ok (.bipush 16, 2) := by decide +kernel
theorem dX7_release_64 : decode cX7_release 64 = .ok (.idiv, 1) := by decide +kernel
theorem dX7_release_65 : decode cX7_release 65 = .ok (.iconst 1, 1) := by decide +kernel
theorem dX7_release_66 : decode cX7_release 66 = .ok (.invokevirtual 125, 3) := by decide +kernel
theorem dX7_release_69 : decode cX7_release 69 = .ok (.iconst 0, 1) := by decide +kernel
theorem dX7_release_70 : decode cX7_release 70 = .ok (.ireturn, 1) := by decide +kernel
theorem dX7_sleep_0 : decode cX7_sleep 0 = .ok (.aload_n 1, 1) := by decide +kernel
theorem dX7_sleep_1 : decode cX7_sleep 1 = .ok (.bipush 10, 2) := by decide +kernel
theorem dX7_sleep_3 : decode cX7_sleep 3 = .ok (.invokevirtual 9, 3) := by decide +kernel
theorem dX7_sleep_6 : decode cX7_sleep 6 = .ok (.getfield 80, 3) := by decide +kernel
theorem dX7_sleep_9 : decode cX7_sleep 9 = .ok (.istore_n 2, 1) := by decide +kernel
theorem dX7_sleep_10 : decode cX7_sleep 10 = .ok (.iload_n 2, 1) := by decide +kernel
theorem dX7_sleep_11 : decode cX7_sleep 11 = .ok (.iconst 1, 1) := by decide +kernel
theorem dX7_sleep_12 : decode cX7_sleep 12 = .ok (.if_icmp .lt 10, 3) := by decide +kernel
theorem dX7_sleep_15 : decode cX7_sleep 15 = .ok (.iload_n 2, 1) := by decide +kernel
theorem dX7_sleep_16 : decode cX7_sleep 16 = .ok (.sipush 10000, 3) := by decide +kernel
theorem dX7_sleep_19 : decode cX7_sleep 19 = .ok (.if_icmp .le 5, 3) := by decide +kernel
theorem dX7_sleep_22 : decode cX7_sleep 22 = .ok (.iconst (-1), 1) := by decide +kernel
theorem dX7_sleep_23 : decode cX7_sleep 23 = .ok (.ireturn, 1) := by decide +kernel
theorem dX7_sleep_24 : decode cX7_sleep 24 = .ok (.aload_n 1, 1) := by decide +kernel
theorem dX7_sleep_25 : decode cX7_sleep 25 = .ok (.aload_n 0, 1) := by decide +kernel
theorem dX7_sleep_26 : decode cX7_sleep 26 = .ok (.getfield 129, 3) := by decide +kernel
theorem dX7_sleep_29 : decode cX7_sleep 29 = .ok (.iload_n 2, 1) := by decide +kernel
theorem dX7_sleep_30 : decode cX7_sleep 30 = .ok (.iadd, 1) := by decide +kernel
theorem dX7_sleep_31 : decode cX7_sleep 31 = .ok (.iconst 1, 1) := by decide +kernel
theorem dX7_sleep_32 : decode cX7_sleep 32 = .ok (.invokevirtual 132, 3) := by decide +kernel
theorem dX7_sleep_35 : decode cX7_sleep 35 = .ok (.iconst 0, 1) := by decide +kernel
theorem dX7_sleep_36 : decode cX7_sleep 36 = .ok (.ireturn, 1) := by decide +kernel
theorem dX7_isWordFor_0 : decode cX7_isWordFor 0 = .ok (.aload_n 1, 1) := by decide +kernel
theorem dX7_isWordFor_1 : decode cX7_isWordFor 1 = .ok (.iload_n 2, 1) := by decide +kernel
theorem dX7_isWordFor_2 : decode cX7_isWordFor 2 = .ok (.aload_n 1, 1) := by decide +kernel
theorem dX7_isWordFor_3 : decode cX7_isWordFor 3 = .ok (.getfield 80, 3) := by decide +kernel
theorem dX7_isWordFor_6 : decode cX7_isWordFor 6 = .ok (.iconst 4, 1) := by decide +kernel
theorem dX7_isWordFor_7 : decode cX7_isWordFor 7 = .ok (.invokevirtual 136, 3) := by decide +kernel
theorem dX7_isWordFor_10 : decode cX7_isWordFor 10 = .ok (.ifCond .ne 22, 3) := by decide +kernel
theorem dX7_isWordFor_13 : decode cX7_isWordFor 13 = .ok (.aload_n 0, 1) := by decide +kernel
theorem dX7_isWordFor_14 : decode cX7_isWordFor 14 = .ok (.getfield 72, 3) := by decide +kernel
theorem dX7_isWordFor_17 : decode cX7_isWordFor 17 = .ok (.aload_n 1, 1) := by decide +kernel
theorem dX7_isWordFor_18 : decode cX7_isWordFor 18 = .ok (.getfield 80, 3) := by decide +kernel
theorem dX7_isWordFor_21 : decode cX7_isWordFor 21 = .ok (.iconst 4, 1) := by decide +kernel
theorem dX7_isWordFor_22 : decode cX7_isWordFor 22 = .ok (.invokevirtual 140, 3) := by decide +kernel
theorem dX7_isWordFor_25 : decode cX7_isWordFor 25 = .ok (.ifCond .eq 7, 3) := by decide +kernel
theorem dX7_isWordFor_28 : decode cX7_isWordFor 28 = .ok (.iconst 1, 1) := by decide +kernel
theorem dX7_isWordFor_29 : decode cX7_isWordFor 29 = .ok (.goto 4, 3) := by decide +kernel
theorem dX7_isWordFor_32 : decode cX7_isWordFor 32 = .ok (.iconst 0, 1) := by decide +kernel
theorem dX7_isWordFor_33 : decode cX7_isWordFor 33 = .ok (.ireturn, 1) := by decide +kernel
theorem dX7_await_0 : decode cX7_await 0 = .ok (.aload_n 1, 1) := by decide +kernel
theorem dX7_await_1 : decode cX7_await 1 = .ok (.bipush 10, 2) := by decide +kernel
theorem dX7_await_3 : decode cX7_await 3 = .ok (.invokevirtual 9, 3) := by decide +kernel
theorem dX7_await_6 : decode cX7_await 6 = .ok (.astore_n 2, 1) := by decide +kernel
theorem dX7_await_7 : decode cX7_await 7 = .ok (.aload_n 1, 1) := by decide +kernel
theorem dX7_await_8 : decode cX7_await 8 = .ok (.bipush 12, 2) := by decide +kernel
theorem dX7_await_10 : decode cX7_await 10 = .ok (.invokevirtual 9, 3) := by decide +kernel
theorem dX7_await_13 : decode cX7_await 13 = .ok (.getfield 80, 3) := by decide +kernel
theorem dX7_await_16 : decode cX7_await 16 = .ok (.istore_n 3, 1) := by decide +kernel
theorem dX7_await_17 : decode cX7_await 17 = .ok (.aload_n 0, 1) := by decide +kernel
theorem dX7_await_18 : decode cX7_await 18 = .ok (.aload_n 2, 1) := by decide +kernel
theorem dX7_await_19 : decode cX7_await 19 = .ok (.iconst 1, 1) := by decide +kernel
theorem dX7_await_20 : decode cX7_await 20 = .ok (.invokestatic 145, 3) := by decide +kernel
theorem dX7_await_23 : decode cX7_await 23 = .ok (.ifCond .eq 14, 3) := by decide +kernel
theorem dX7_await_26 : decode cX7_await 26 = .ok (.iload_n 3, 1) := by decide +kernel
theorem dX7_await_27 : decode cX7_await 27 = .ok (.ifCond .lt 10, 3) := by decide +kernel
theorem dX7_await_30 : decode cX7_await 30 = .ok (.iload_n 3, 1) := by decide +kernel
theorem dX7_await_31 : decode cX7_await 31 = .ok (.sipush 10000, 3) := by decide +kernel
theorem dX7_await_34 : decode cX7_await 34 = .ok (.if_icmp .le 5, 3) := by decide +kernel
theorem dX7_await_37 : decode cX7_await 37 = .ok (.iconst (-1), 1) := by decide +kernel
theorem dX7_await_38 : decode cX7_await 38 = .ok (.ireturn, 1) := by decide +kernel
theorem dX7_await_39 : decode cX7_await 39 = .ok (.aload_n 0, 1) := by decide +kernel
theorem dX7_await_40 : decode cX7_await 40 = .ok (.getfield 72, 3) := by decide +kernel
theorem dX7_await_43 : decode cX7_await 43 = .ok (.aload_n 2, 1) := by decide +kernel
theorem dX7_await_44 : decode cX7_await 44 = .ok (.getfield 80, 3) := by decide +kernel
theorem dX7_await_47 : decode cX7_await 47 = .ok (.iconst 4, 1) := by decide +kernel
theorem dX7_await_48 : decode cX7_await 48 = .ok (.invokevirtual 149, 3) := by decide +kernel
theorem dX7_await_51 : decode cX7_await 51 = .ok (.aload_n 1, 1) := by decide +kernel
theorem dX7_await_52 : decode cX7_await 52 = .ok (.bipush 11, 2) := by decide +kernel
theorem dX7_await_54 : decode cX7_await 54 = .ok (.invokevirtual 9, 3) := by decide +kernel
theorem dX7_await_57 : decode cX7_await 57 = .ok (.getfield 80, 3) := by decide +kernel
theorem dX7_await_60 : decode cX7_await 60 = .ok (.if_icmp .eq 5, 3) := by decide +kernel
theorem dX7_await_63 : decode cX7_await 63 = .ok (.iconst 1, 1) := by decide +kernel
theorem dX7_await_64 : decode cX7_await 64 = .ok (.ireturn, 1) := by decide +kernel
theorem dX7_await_65 : decode cX7_await 65 = .ok (.aload_n 1, 1) := by decide +kernel
theorem dX7_await_66 : decode cX7_await 66 = .ok (.aload_n 2, 1) := by decide +kernel
theorem dX7_await_67 : decode cX7_await 67 = .ok (.getfield 80, 3) := by decide +kernel
theorem dX7_await_70 : decode cX7_await 70 = .ok (.putfield 153, 3) := by decide +kernel
theorem dX7_await_73 : decode cX7_await 73 = .ok (.aload_n 1, 1) := by decide +kernel
theorem dX7_await_74 : decode cX7_await 74 = .ok (.aload_n 0, 1) := by decide +kernel
theorem dX7_await_75 : decode cX7_await 75 = .ok (.getfield 129, 3) := by decide +kernel
theorem dX7_await_78 : decode cX7_await 78 = .ok (.putfield 156, 3) := by decide +kernel
theorem dX7_await_81 : decode cX7_await 81 = .ok (.aload_n 1, 1) := by decide +kernel
theorem dX7_await_82 : decode cX7_await 82 = .ok (.aload_n 0, 1) := by decide +kernel
theorem dX7_await_83 : decode cX7_await 83 = .ok (.getfield 129, 3) := by decide +kernel
theorem dX7_await_86 : decode cX7_await 86 = .ok (.iload_n 3, 1) := by decide +kernel
theorem dX7_await_87 : decode cX7_await 87 = .ok (.iadd, 1) := by decide +kernel
theorem dX7_await_88 : decode cX7_await 88 = .ok (.iconst 2, 1) := by decide +kernel
theorem dX7_await_89 : decode cX7_await 89 = .ok (.invokevirtual 132, 3) := by decide +kernel
theorem dX7_await_92 : decode cX7_await 92 = .ok (.iconst 2, 1) := by decide +kernel
theorem dX7_await_93 : decode cX7_await 93 = .ok (.ireturn, 1) := by decide +kernel
theorem dX7_wake_0 : decode cX7_wake 0 = .ok (.aload_n 1, 1) := by decide +kernel
theorem dX7_wake_1 : decode cX7_wake 1 = .ok (.bipush 10, 2) := by decide +kernel
theorem dX7_wake_3 : decode cX7_wake 3 = .ok (.invokevirtual 9, 3) := by decide +kernel
theorem dX7_wake_6 : decode cX7_wake 6 = .ok (.astore_n 2, 1) := by decide +kernel
theorem dX7_wake_7 : decode cX7_wake 7 = .ok (.aload_n 0, 1) := by decide +kernel
theorem dX7_wake_8 : decode cX7_wake 8 = .ok (.aload_n 2, 1) := by decide +kernel
theorem dX7_wake_9 : decode cX7_wake 9 = .ok (.iconst 2, 1) := by decide +kernel
theorem dX7_wake_10 : decode cX7_wake 10 = .ok (.invokestatic 145, 3) := by decide +kernel
theorem dX7_wake_13 : decode cX7_wake 13 = .ok (.ifCond .ne 5, 3) := by decide +kernel
theorem dX7_wake_16 : decode cX7_wake 16 = .ok (.iconst (-1), 1) := by decide +kernel
theorem dX7_wake_17 : decode cX7_wake 17 = .ok (.ireturn, 1) := by decide +kernel
theorem dX7_wake_18 : decode cX7_wake 18 = .ok (.aload_n 1, 1) := by decide +kernel
theorem dX7_wake_19 : decode cX7_wake 19 = .ok (.bipush 11, 2) := by decide +kernel
theorem dX7_wake_21 : decode cX7_wake 21 = .ok (.invokevirtual 9, 3) := by decide +kernel
theorem dX7_wake_24 : decode cX7_wake 24 = .ok (.getfield 80, 3) := by decide +kernel
theorem dX7_wake_27 : decode cX7_wake 27 = .ok (.invokestatic 83, 3) := by decide +kernel
theorem dX7_wake_30 : decode cX7_wake 30 = .ok (.ldc2_w 159, 3) := by decide +kernel
theorem dX7_wake_33 : decode cX7_wake 33 = .ok (.invokestatic 161, 3) := by decide +kernel
theorem dX7_wake_36 : decode cX7_wake 36 = .ok (.lstore_n 3, 1) := by decide +kernel
theorem dX7_wake_37 : decode cX7_wake 37 = .ok (.iconst 0, 1) := by decide +kernel
theorem dX7_wake_38 : decode cX7_wake 38 = .ok (.istore 5, 2) := by decide +kernel
theorem dX7_wake_40 : decode cX7_wake 40 = .ok (.iconst 0, 1) := by decide +kernel
theorem dX7_wake_41 : decode cX7_wake 41 = .ok (.istore 6, 2) := by decide +kernel
theorem dX7_wake_43 : decode cX7_wake 43 = .ok (.iload 6, 2) := by decide +kernel
theorem dX7_wake_45 : decode cX7_wake 45 = .ok (.i2l, 1) := by decide +kernel
theorem dX7_wake_46 : decode cX7_wake 46 = .ok (.lload_n 3, 1) := by decide +kernel
theorem dX7_wake_47 : decode cX7_wake 47 = .ok (.lcmp, 1) := by decide +kernel
theorem dX7_wake_48 : decode cX7_wake 48 = .ok (.ifCond .ge 43, 3) := by decide +kernel
theorem dX7_wake_51 : decode cX7_wake 51 = .ok (.aload_n 0, 1) := by decide +kernel
theorem dX7_wake_52 : decode cX7_wake 52 = .ok (.aload_n 2, 1) := by decide +kernel
theorem dX7_wake_53 : decode cX7_wake 53 = .ok (.getfield 80, 3) := by decide +kernel
theorem dX7_wake_56 : decode cX7_wake 56 = .ok (.invokestatic 167, 3) := by decide +kernel
theorem dX7_wake_59 : decode cX7_wake 59 = .ok (.astore 7, 2) := by decide +kernel
theorem dX7_wake_61 : decode cX7_wake 61 = .ok (.aload 7, 2) := by decide +kernel
theorem dX7_wake_63 : decode cX7_wake 63 = .ok (.ifnull 22, 3) := by decide +kernel
theorem dX7_wake_66 : decode cX7_wake 66 = .ok (.aload 7, 2) := by decide +kernel
theorem dX7_wake_68 : decode cX7_wake 68 = .ok (.invokevirtual 171, 3) := by decide +kernel
theorem dX7_wake_71 : decode cX7_wake 71 = .ok (.aload 7, 2) := by decide +kernel
theorem dX7_wake_73 : decode cX7_wake 73 = .ok (.bipush 10, 2) := by decide +kernel
theorem dX7_wake_75 : decode cX7_wake 75 = .ok (.invokevirtual 9, 3) := by decide +kernel
theorem dX7_wake_78 : decode cX7_wake 78 = .ok (.iconst 0, 1) := by decide +kernel
theorem dX7_wake_79 : decode cX7_wake 79 = .ok (.invokevirtual 31, 3) := by decide +kernel
theorem dX7_wake_82 : decode cX7_wake 82 = .ok (.iinc 5 1, 3) := by decide +kernel
theorem dX7_wake_85 : decode cX7_wake 85 = .ok (.iinc 6 1, 3) := by decide +kernel
theorem dX7_wake_88 : decode cX7_wake 88 = .ok (.goto (-45), 3) := by decide +kernel
theorem dX7_wake_91 : decode cX7_wake 91 = .ok (.iload 5, 2) := by decide +kernel
theorem dX7_wake_93 : decode cX7_wake 93 = .ok (.ireturn, 1) := by decide +kernel
theorem dX7_nextToWake_0 : decode cX7_nextToWake 0 = .ok (.aconst_null, 1) := by decide +kernel
theorem dX7_nextToWake_1 : decode cX7_nextToWake 1 = .ok (.astore_n 2, 1) := by decide +kernel
theorem dX7_nextToWake_2 : decode cX7_nextToWake 2 = .ok (.iconst 0, 1) := by decide +kernel
theorem dX7_nextToWake_3 : decode cX7_nextToWake 3 = .ok (.istore_n 3, 1) := by decide +kernel
theorem dX7_nextToWake_4 : decode cX7_nextToWake 4 = .ok (.iload_n 3, 1) := by decide +kernel
theorem dX7_nextToWake_5 : decode cX7_nextToWake 5 = .ok (.aload_n 0, 1) := by decide +kernel
theorem dX7_nextToWake_6 : decode cX7_nextToWake 6 = .ok (.getfield 174, 3) := by decide +kernel
theorem dX7_nextToWake_9 : decode cX7_nextToWake 9 = .ok (.if_icmp .ge 51, 3) := by decide +kernel
theorem dX7_nextToWake_12 : decode cX7_nextToWake 12 = .ok (.aload_n 0, 1) := by decide +kernel
theorem dX7_nextToWake_13 : decode cX7_nextToWake 13 = .ok (.getfield 177, 3) := by decide +kernel
theorem dX7_nextToWake_16 : decode cX7_nextToWake 16 = .ok (.iload_n 3, 1) := by decide +kernel
theorem dX7_nextToWake_17 : decode cX7_nextToWake 17 = .ok (.aaload, 1) := by decide +kernel
theorem dX7_nextToWake_18 : decode cX7_nextToWake 18 = .ok (.astore 4, 2) := by decide +kernel
theorem dX7_nextToWake_20 : decode cX7_nextToWake 20 = .ok (.aload 4, 2) := by decide +kernel
theorem dX7_nextToWake_22 : decode cX7_nextToWake 22 = .ok (.getfield 105, 3) := by decide +kernel
theorem dX7_nextToWake_25 : decode cX7_nextToWake 25 = .ok (.iconst 2, 1) := by decide +kernel
theorem dX7_nextToWake_26 : decode cX7_nextToWake 26 = .ok (.if_icmp .ne 28, 3) := by decide +kernel
theorem dX7_nextToWake_29 : decode cX7_nextToWake 29 = .ok (.aload 4, 2) := by decide +kernel
theorem dX7_nextToWake_31 : decode cX7_nextToWake 31 = .ok (.getfield 153, 3) := by decide +kernel
theorem dX7_nextToWake_34 : decode cX7_nextToWake 34 = .ok (.iload_n 1, 1) := by decide +kernel
theorem dX7_nextToWake_35 : decode cX7_nextToWake 35 = .ok (.if_icmp .ne 19, 3) := by decide +kernel
theorem dX7_nextToWake_38 : decode cX7_nextToWake 38 = .ok (.aload_n 2, 1) := by decide +kernel
theorem dX7_nextToWake_39 : decode cX7_nextToWake 39 = .ok (.ifnull 12, 3) := by decide +kernel
theorem dX7_nextToWake_42 : decode cX7_nextToWake 42 = .ok (.aload 4, 2) := by decide +kernel
theorem dX7_nextToWake_44 : decode cX7_nextToWake 44 = .ok (.aload_n 2, 1) := by decide +kernel
theorem dX7_nextToWake_45 : decode cX7_nextToWake 45 = .ok (.invokevirtual 181, 3) := by decide +kernel
theorem dX7_nextToWake_48 : decode cX7_nextToWake 48 = .ok (.ifCond .eq 6, 3) := by decide +kernel
theorem dX7_nextToWake_51 : decode cX7_nextToWake 51 = .ok (.aload 4, 2) := by decide +kernel
theorem dX7_nextToWake_53 : decode cX7_nextToWake 53 = .ok (.astore_n 2, 1) := by decide +kernel
theorem dX7_nextToWake_54 : decode cX7_nextToWake 54 = .ok (.iinc 3 1, 3) := by decide +kernel
theorem dX7_nextToWake_57 : decode cX7_nextToWake 57 = .ok (.goto (-53), 3) := by decide +kernel
theorem dX7_nextToWake_60 : decode cX7_nextToWake 60 = .ok (.aload_n 2, 1) := by decide +kernel
theorem dX7_nextToWake_61 : decode cX7_nextToWake 61 = .ok (.areturn, 1) := by decide +kernel
theorem dX8_init_0 : decode cX8_init 0 = .ok (.aload_n 0, 1) := by decide +kernel
theorem dX8_init_1 : decode cX8_init 1 = .ok (.invokespecial 3, 3) := by decide +kernel
theorem dX8_init_4 : decode cX8_init 4 = .ok (.aload_n 0, 1) := by decide +kernel
theorem dX8_init_5 : decode cX8_init 5 = .ok (.iload_n 1, 1) := by decide +kernel
theorem dX8_init_6 : decode cX8_init 6 = .ok (.bipush 16, 2) := by decide +kernel
theorem dX8_init_8 : decode cX8_init 8 = .ok (.imul, 1) := by decide +kernel
theorem dX8_init_9 : decode cX8_init 9 = .ok (.newarray .byte, 2) := by decide +kernel
theorem dX8_init_11 : decode cX8_init 11 = .ok (.putfield 9, 3) := by decide +kernel
theorem dX8_init_14 : decode cX8_init 14 = .ok (.aload_n 0, 1) := by decide +kernel
theorem dX8_init_15 : decode cX8_init 15 = .ok (.iload_n 1, 1) := by decide +kernel
theorem dX8_init_16 : decode cX8_init 16 = .ok (.newarray .byte, 2) := by decide +kernel
theorem dX8_init_18 : decode cX8_init 18 = .ok (.putfield 15, 3) := by decide +kernel
theorem dX8_init_21 : decode cX8_init 21 = .ok (.return_, 1) := by decide +kernel
theorem dX8_reset_0 : decode cX8_reset 0 = .ok (.aload_n 0, 1) := by decide +kernel
theorem dX8_reset_1 : decode cX8_reset 1 = .ok (.getfield 9, 3) := by decide +kernel
theorem dX8_reset_4 : decode cX8_reset 4 = .ok (.iconst 0, 1) := by decide +kernel
theorem dX8_reset_5 : decode cX8_reset 5 = .ok (.invokestatic 18, 3) := by decide +kernel
theorem dX8_reset_8 : decode cX8_reset 8 = .ok (.aload_n 0, 1) := by decide +kernel
theorem dX8_reset_9 : decode cX8_reset 9 = .ok (.getfield 15, 3) := by decide +kernel
theorem dX8_reset_12 : decode cX8_reset 12 = .ok (.iconst 0, 1) := by decide +kernel
theorem dX8_reset_13 : decode cX8_reset 13 = .ok (.invokestatic 18, 3) := by decide +kernel
theorem dX8_reset_16 : decode cX8_reset 16 = .ok (.return_, 1) := by decide +kernel
theorem dX8_has_0 : decode cX8_has 0 = .ok (.iload_n 1, 1) := by decide +kernel
theorem dX8_has_1 : decode cX8_has 1 = .ok (.ifCond .lt 18, 3) := by decide +kernel
theorem dX8_has_4 : decode cX8_has 4 = .ok (.iload_n 1, 1) := by decide +kernel
theorem dX8_has_5 : decode cX8_has 5 = .ok (.aload_n 0, 1) := by decide +kernel
theorem dX8_has_6 : decode cX8_has 6 = .ok (.getfield 9, 3) := by decide +kernel
theorem dX8_has_9 : decode cX8_has 9 = .ok (.arraylength, 1) := by decide +kernel
theorem dX8_has_10 : decode cX8_has 10 = .ok (.iload_n 2, 1) := by decide +kernel
theorem dX8_has_11 : decode cX8_has 11 = .ok (.isub, 1) := by decide +kernel
theorem dX8_has_12 : decode cX8_has 12 = .ok (.if_icmp .gt 7, 3) := by decide +kernel
theorem dX8_has_15 : decode cX8_has 15 = .ok (.iconst 1, 1) := by decide +kernel
theorem dX8_has_16 : decode cX8_has 16 = .ok (.goto 4, 3) := by decide +kernel
theorem dX8_has_19 : decode cX8_has 19 = .ok (.iconst 0, 1) := by decide +kernel
theorem dX8_has_20 : decode cX8_has 20 = .ok (.ireturn, 1) := by decide +kernel
theorem dX8_load_0 : decode cX8_load 0 = .ok (.iconst 0, 1) := by decide +kernel
theorem dX8_load_1 : decode cX8_load 1 = .ok (.istore_n 3, 1) := by decide +kernel
theorem dX8_load_2 : decode cX8_load 2 = .ok (.aload_n 0, 1) := by decide +kernel
theorem dX8_load_3 : decode cX8_load 3 = .ok (.iload_n 1, 1) := by decide +kernel
theorem dX8_load_4 : decode cX8_load 4 = .ok (.iload_n 2, 1) := by decide +kernel
theorem dX8_load_5 : decode cX8_load 5 = .ok (.invokevirtual 24, 3) := by decide +kernel
theorem dX8_load_8 : decode cX8_load 8 = .ok (.ifCond .eq 38, 3) := by decide +kernel
theorem dX8_load_11 : decode cX8_load 11 = .ok (.iload_n 2, 1) := by decide +kernel
theorem dX8_load_12 : decode cX8_load 12 = .ok (.iconst 1, 1) := by decide +kernel
theorem dX8_load_13 : decode cX8_load 13 = .ok (.isub, 1) := by decide +kernel
theorem dX8_load_14 : decode cX8_load 14 = .ok (.istore 4, 2) := by decide +kernel
theorem dX8_load_16 : decode cX8_load 16 = .ok (.iload 4, 2) := by decide +kernel
theorem dX8_load_18 : decode cX8_load 18 = .ok (.ifCond .lt 28, 3) := by decide +kernel
theorem dX8_load_21 : decode cX8_load 21 = .ok (.iload_n 3, 1) := by decide +kernel
theorem dX8_load_22 : decode cX8_load 22 = .ok (.bipush 8, 2) := by decide +kernel
theorem dX8_load_24 : decode cX8_load 24 = .ok (.ishl, 1) := by decide +kernel
theorem dX8_load_25 : decode cX8_load 25 = .ok (.aload_n 0, 1) := by decide +kernel
theorem dX8_load_26 : decode cX8_load 26 = .ok (.getfield 9, 3) := by decide +kernel
theorem dX8_load_29 : decode cX8_load 29 = .ok (.iload_n 1, 1) := by decide +kernel
theorem dX8_load_30 : decode cX8_load 30 = .ok (.iload 4, 2) := by decide +kernel
theorem dX8_load_32 : decode cX8_load 32 = .ok (.iadd, 1) := by decide +kernel
theorem dX8_load_33 : decode cX8_load 33 = .ok (.baload, 1) := by decide +kernel
theorem dX8_load_34 : decode cX8_load 34 = .ok (.sipush 255, 3) := by decide +kernel
theorem dX8_load_37 : decode cX8_load 37 = .ok (.iand, 1) := by decide +kernel
theorem dX8_load_38 : decode cX8_load 38 = .ok (.ior, 1) := by decide +kernel
theorem dX8_load_39 : decode cX8_load 39 = .ok (.istore_n 3, 1) := by decide +kernel
theorem dX8_load_40 : decode cX8_load 40 = .ok (.iinc 4 (-1), 3) := by decide +kernel
theorem dX8_load_43 : decode cX8_load 43 = .ok (.goto (-27), 3) := by decide +kernel
theorem dX8_load_46 : decode cX8_load 46 = .ok (.iload_n 3, 1) := by decide +kernel
theorem dX8_load_47 : decode cX8_load 47 = .ok (.ireturn, 1) := by decide +kernel
theorem dX8_write_0 : decode cX8_write 0 = .ok (.aload_n 0, 1) := by decide +kernel
theorem dX8_write_1 : decode cX8_write 1 = .ok (.iload_n 1, 1) := by decide +kernel
theorem dX8_write_2 : decode cX8_write 2 = .ok (.iload_n 2, 1) := by decide +kernel
theorem dX8_write_3 : decode cX8_write 3 = .ok (.invokevirtual 24, 3) := by decide +kernel
theorem dX8_write_6 : decode cX8_write 6 = .ok (.ifCond .eq 47, 3) := by decide +kernel
theorem dX8_write_9 : decode cX8_write 9 = .ok (.iload_n 3, 1) := by decide +kernel
theorem dX8_write_10 : decode cX8_write 10 = .ok (.istore 4, 2) := by decide +kernel
theorem dX8_write_12 : decode cX8_write 12 = .ok (.iconst 0, 1) := by decide +kernel
theorem dX8_write_13 : decode cX8_write 13 = .ok (.istore 5, 2) := by decide +kernel
theorem dX8_write_15 : decode cX8_write 15 = .ok (.iload 5, 2) := by decide +kernel
theorem dX8_write_17 : decode cX8_write 17 = .ok (.iload_n 2, 1) := by decide +kernel
theorem dX8_write_18 : decode cX8_write 18 = .ok (.if_icmp .ge 28, 3) := by decide +kernel
theorem dX8_write_21 : decode cX8_write 21 = .ok (.aload_n 0, 1) := by decide +kernel
theorem dX8_write_22 : decode cX8_write 22 = .ok (.getfield 9, 3) := by decide +kernel
theorem dX8_write_25 : decode cX8_write 25 = .ok (.iload_n 1, 1) := by decide +kernel
theorem dX8_write_26 : decode cX8_write 26 = .ok (.iload 5, 2) := by decide +kernel
theorem dX8_write_28 : decode cX8_write 28 = .ok (.iadd, 1) := by decide +kernel
theorem dX8_write_29 : decode cX8_write 29 = .ok (.iload 4, 2) := by decide +kernel
theorem dX8_write_31 : decode cX8_write 31 = .ok (.i2b, 1) := by decide +kernel
theorem dX8_write_32 : decode cX8_write 32 = .ok (.bastore, 1) := by decide +kernel
theorem dX8_write_33 : decode cX8_write 33 = .ok (.iload 4, 2) := by decide +kernel
theorem dX8_write_35 : decode cX8_write 35 = .ok (.bipush 8, 2) := by decide +kernel
theorem dX8_write_37 : decode cX8_write 37 = .ok (.iushr, 1) := by decide +kernel
theorem dX8_write_38 : decode cX8_write 38 = .ok (.istore 4, 2) := by decide +kernel
theorem dX8_write_40 : decode cX8_write 40 = .ok (.iinc 5 1, 3) := by decide +kernel
theorem dX8_write_43 : decode cX8_write 43 = .ok (.goto (-28), 3) := by decide +kernel
theorem dX8_write_46 : decode cX8_write 46 = .ok (.aload_n 0, 1) := by decide +kernel
theorem dX8_write_47 : decode cX8_write 47 = .ok (.iload_n 1, 1) := by decide +kernel
theorem dX8_write_48 : decode cX8_write 48 = .ok (.iconst 1, 1) := by decide +kernel
theorem dX8_write_49 : decode cX8_write 49 = .ok (.iconst 0, 1) := by decide +kernel
theorem dX8_write_50 : decode cX8_write 50 = .ok (.invokevirtual 28, 3) := by decide +kernel
theorem dX8_write_53 : decode cX8_write 53 = .ok (.return_, 1) := by decide +kernel
theorem dX8_loadCap_0 : decode cX8_loadCap 0 = .ok (.aload_n 0, 1) := by decide +kernel
theorem dX8_loadCap_1 : decode cX8_loadCap 1 = .ok (.iload_n 1, 1) := by decide +kernel
theorem dX8_loadCap_2 : decode cX8_loadCap 2 = .ok (.bipush 12, 2) := by decide +kernel
theorem dX8_loadCap_4 : decode cX8_loadCap 4 = .ok (.iadd, 1) := by decide +kernel
theorem dX8_loadCap_5 : decode cX8_loadCap 5 = .ok (.iconst 4, 1) := by decide +kernel
theorem dX8_loadCap_6 : decode cX8_loadCap 6 = .ok (.invokevirtual 32, 3) := by decide +kernel
theorem dX8_loadCap_9 : decode cX8_loadCap 9 = .ok (.istore 4, 2) := by decide +kernel
theorem dX8_loadCap_11 : decode cX8_loadCap 11 = .ok (.aload_n 2, 1) := by decide +kernel
theorem dX8_loadCap_12 : decode cX8_loadCap 12 = .ok (.aload_n 0, 1) := by decide +kernel
theorem dX8_loadCap_13 : decode cX8_loadCap 13 = .ok (.iload_n 1, 1) := by decide +kernel
theorem dX8_loadCap_14 : decode cX8_loadCap 14 = .ok (.iconst 4, 1) := by decide +kernel
theorem dX8_loadCap_15 : decode cX8_loadCap 15 = .ok (.invokevirtual 32, 3) := by decide +kernel
theorem dX8_loadCap_18 : decode cX8_loadCap 18 = .ok (.aload_n 0, 1) := by decide +kernel
theorem dX8_loadCap_19 : decode cX8_loadCap 19 = .ok (.iload_n 1, 1) := by decide +kernel
theorem dX8_loadCap_20 : decode cX8_loadCap 20 = .ok (.iconst 4, 1) := by decide +kernel
theorem dX8_loadCap_21 : decode cX8_loadCap 21 = .ok (.iadd, 1) := by decide +kernel
theorem dX8_loadCap_22 : decode cX8_loadCap 22 = .ok (.iconst 4, 1) := by decide +kernel
theorem dX8_loadCap_23 : decode cX8_loadCap 23 = .ok (.invokevirtual 32, 3) := by decide +kernel
theorem dX8_loadCap_26 : decode cX8_loadCap 26 = .ok (.aload_n 0, 1) := by decide +kernel
theorem dX8_loadCap_27 : decode cX8_loadCap 27 = .ok (.iload_n 1, 1) := by decide +kernel
theorem dX8_loadCap_28 : decode cX8_loadCap 28 = .ok (.bipush 8, 2) := by decide +kernel
theorem dX8_loadCap_30 : decode cX8_loadCap 30 = .ok (.iadd, 1) := by decide +kernel
theorem dX8_loadCap_31 : decode cX8_loadCap 31 = .ok (.iconst 4, 1) := by decide +kernel
theorem dX8_loadCap_32 : decode cX8_loadCap 32 = .ok (.invokevirtual 32, 3) := by decide +kernel
theorem dX8_loadCap_35 : decode cX8_loadCap 35 = .ok (.iload 4, 2) := by decide +kernel
theorem dX8_loadCap_37 : decode cX8_loadCap 37 = .ok (.sipush 255, 3) := by decide +kernel
theorem dX8_loadCap_40 : decode cX8_loadCap 40 = .ok (.iand, 1) := by decide +kernel
theorem dX8_loadCap_41 : decode cX8_loadCap 41 = .ok (.iload 4, 2) := by decide +kernel
theorem dX8_loadCap_43 : decode cX8_loadCap 43 = .ok (.bipush 8, 2) := by decide +kernel
theorem dX8_loadCap_45 : decode cX8_loadCap 45 = .ok (.ishr, 1) := by decide +kernel
theorem dX8_loadCap_46 : decode cX8_loadCap 46 = .ok (.sipush 255, 3) := by decide +kernel
theorem dX8_loadCap_49 : decode cX8_loadCap 49 = .ok (.iand, 1) := by decide +kernel
theorem dX8_loadCap_50 : decode cX8_loadCap 50 = .ok (.iload_n 3, 1) := by decide +kernel
theorem dX8_loadCap_51 : decode cX8_loadCap 51 = .ok (.ifCond .eq 16, 3) := by decide +kernel
theorem dX8_loadCap_54 : decode cX8_loadCap 54 = .ok (.aload_n 0, 1) := by decide +kernel
theorem dX8_loadCap_55 : decode cX8_loadCap 55 = .ok (.iload_n 1, 1) := by decide +kernel
theorem dX8_loadCap_56 : decode cX8_loadCap 56 = .ok (.iconst 1, 1) := by decide +kernel
theorem dX8_loadCap_57 : decode cX8_loadCap 57 = .ok (.invokevirtual 36, 3) := by decide +kernel
theorem dX8_loadCap_60 : decode cX8_loadCap 60 = .ok (.ifCond .eq 7, 3) := by decide +kernel
theorem dX8_loadCap_63 : decode cX8_loadCap 63 = .ok (.iconst 1, 1) := by decide +kernel
theorem dX8_loadCap_64 : decode cX8_loadCap 64 = .ok (.goto 4, 3) := by decide +kernel
theorem dX8_loadCap_67 : decode cX8_loadCap 67 = .ok (.iconst 0, 1) := by decide +kernel
theorem dX8_loadCap_68 : decode cX8_loadCap 68 = .ok (.invokevirtual 39, 3) := by decide +kernel
theorem dX8_loadCap_71 : decode cX8_loadCap 71 = .ok (.aload_n 0, 1) := by decide +kernel
theorem dX8_loadCap_72 : decode cX8_loadCap 72 = .ok (.aload_n 2, 1) := by decide +kernel
theorem dX8_loadCap_73 : decode cX8_loadCap 73 = .ok (.invokevirtual 45, 3) := by decide +kernel
theorem dX8_loadCap_76 : decode cX8_loadCap 76 = .ok (.return_, 1) := by decide +kernel
theorem dX8_writeCap_0 : decode cX8_writeCap 0 = .ok (.aload_n 0, 1) := by decide +kernel
theorem dX8_writeCap_1 : decode cX8_writeCap 1 = .ok (.iload_n 1, 1) := by decide +kernel
theorem dX8_writeCap_2 : decode cX8_writeCap 2 = .ok (.iconst 4, 1) := by decide +kernel
theorem dX8_writeCap_3 : decode cX8_writeCap 3 = .ok (.aload_n 2, 1) := by decide +kernel
theorem dX8_writeCap_4 : decode cX8_writeCap 4 = .ok (.getfield 49, 3) := by decide +kernel
theorem dX8_writeCap_7 : decode cX8_writeCap 7 = .ok (.invokevirtual 53, 3) := by decide +kernel
theorem dX8_writeCap_10 : decode cX8_writeCap 10 = .ok (.aload_n 0, 1) := by decide +kernel
theorem dX8_writeCap_11 : decode cX8_writeCap 11 = .ok (.iload_n 1, 1) := by decide +kernel
theorem dX8_writeCap_12 : decode cX8_writeCap 12 = .ok (.iconst 4, 1) := by decide +kernel
theorem dX8_writeCap_13 : decode cX8_writeCap 13 = .ok (.iadd, 1) := by decide +kernel
theorem dX8_writeCap_14 : decode cX8_writeCap 14 = .ok (.iconst 4, 1) := by decide +kernel
theorem dX8_writeCap_15 : decode cX8_writeCap 15 = .ok (.aload_n 2, 1) := by decide +kernel
theorem dX8_writeCap_16 : decode cX8_writeCap 16 = .ok (.getfield 57, 3) := by decide +kernel
theorem dX8_writeCap_19 : decode cX8_writeCap 19 = .ok (.invokevirtual 53, 3) := by decide +kernel
theorem dX8_writeCap_22 : decode cX8_writeCap 22 = .ok (.aload_n 0, 1) := by decide +kernel
theorem dX8_writeCap_23 : decode cX8_writeCap 23 = .ok (.iload_n 1, 1) := by decide +kernel
theorem dX8_writeCap_24 : decode cX8_writeCap 24 = .ok (.bipush 8, 2) := by decide +kernel
theorem dX8_writeCap_26 : decode cX8_writeCap 26 = .ok (.iadd, 1) := by decide +kernel
theorem dX8_writeCap_27 : decode cX8_writeCap 27 = .ok (.iconst 4, 1) := by decide +kernel
theorem dX8_writeCap_28 : decode cX8_writeCap 28 = .ok (.aload_n 2, 1) := by decide +kernel
theorem dX8_writeCap_29 : decode cX8_writeCap 29 = .ok (.getfield 60, 3) := by decide +kernel
theorem dX8_writeCap_32 : decode cX8_writeCap 32 = .ok (.invokevirtual 53, 3) := by decide +kernel
theorem dX8_writeCap_35 : decode cX8_writeCap 35 = .ok (.aload_n 0, 1) := by decide +kernel
theorem dX8_writeCap_36 : decode cX8_writeCap 36 = .ok (.iload_n 1, 1) := by decide +kernel
theorem dX8_writeCap_37 : decode cX8_writeCap 37 = .ok (.bipush 12, 2) := by decide +kernel
theorem dX8_writeCap_39 : decode cX8_writeCap 39 = .ok (.iadd, 1) := by decide +kernel
theorem dX8_writeCap_40 : decode cX8_writeCap 40 = .ok (.iconst 4, 1) := by decide +kernel
theorem dX8_writeCap_41 : decode cX8_writeCap 41 = .ok (.aload_n 2, 1) := by decide +kernel
theorem dX8_writeCap_42 : decode cX8_writeCap 42 = .ok (.getfield 63, 3) := by decide +kernel
theorem dX8_writeCap_45 : decode cX8_writeCap 45 = .ok (.aload_n 2, 1) := by decide +kernel
theorem dX8_writeCap_46 : decode cX8_writeCap 46 = .ok (.getfield 66, 3) := by decide +kernel
theorem dX8_writeCap_49 : decode cX8_writeCap 49 = .ok (.bipush 8, 2) := by decide +kernel
theorem dX8_writeCap_51 : decode cX8_writeCap 51 = .ok (.ishl, 1) := by decide +kernel
theorem dX8_writeCap_52 : decode cX8_writeCap 52 = .ok (.ior, 1) := by decide +kernel
theorem dX8_writeCap_53 : decode cX8_writeCap 53 = .ok (.invokevirtual 53, 3) := by decide +kernel
theorem dX8_writeCap_56 : decode cX8_writeCap 56 = .ok (.aload_n 0, 1) := by decide +kernel
theorem dX8_writeCap_57 : decode cX8_writeCap 57 = .ok (.iload_n 1, 1) := by decide +kernel
theorem dX8_writeCap_58 : decode cX8_writeCap 58 = .ok (.iconst 1, 1) := by decide +kernel
theorem dX8_writeCap_59 : decode cX8_writeCap 59 = .ok (.iload_n 3, 1) := by decide +kernel
theorem dX8_writeCap_60 : decode cX8_writeCap 60 = .ok (.invokevirtual 28, 3) := by decide +kernel
theorem dX8_writeCap_63 : decode cX8_writeCap 63 = .ok (.return_, 1) := by decide +kernel
theorem dX8_erase_0 : decode cX8_erase 0 = .ok (.iload_n 1, 1) := by decide +kernel
theorem dX8_erase_1 : decode cX8_erase 1 = .ok (.ifCond .lt 77, 3) := by decide +kernel
theorem dX8_erase_4 : decode cX8_erase 4 = .ok (.iload_n 1, 1) := by decide +kernel
theorem dX8_erase_5 : decode cX8_erase 5 = .ok (.iload_n 2, 1) := by decide +kernel
theorem dX8_erase_6 : decode cX8_erase 6 = .ok (.if_icmp .gt 72, 3) := by decide +kernel
theorem dX8_erase_9 : decode cX8_erase 9 = .ok (.iload_n 2, 1) := by decide +kernel
theorem dX8_erase_10 : decode cX8_erase 10 = .ok (.aload_n 0, 1) := by decide +kernel
theorem dX8_erase_11 : decode cX8_erase 11 = .ok (.getfield 9, 3) := by decide +kernel
theorem dX8_erase_14 : decode cX8_erase 14 = .ok (.arraylength, 1) := by decide +kernel
theorem dX8_erase_15 : decode cX8_erase 15 = .ok (.if_icmp .gt 63, 3) := by decide +kernel
theorem dX8_erase_18 : decode cX8_erase 18 = .ok (.iload_n 1, 1) := by decide +kernel
theorem dX8_erase_19 : decode cX8_erase 19 = .ok (.istore_n 3, 1) := by decide +kernel
theorem dX8_erase_20 : decode cX8_erase 20 = .ok (.iload_n 3, 1) := by decide +kernel
theorem dX8_erase_21 : decode cX8_erase 21 = .ok (.iload_n 2, 1) := by decide +kernel
theorem dX8_erase_22 : decode cX8_erase 22 = .ok (.if_icmp .ge 16, 3) := by decide +kernel
theorem dX8_erase_25 : decode cX8_erase 25 = .ok (.aload_n 0, 1) := by decide +kernel
theorem dX8_erase_26 : decode cX8_erase 26 = .ok (.getfield 9, 3) := by decide +kernel
theorem dX8_erase_29 : decode cX8_erase 29 = .ok (.iload_n 3, 1) := by decide +kernel
theorem dX8_erase_30 : decode cX8_erase 30 = .ok (.iconst 0, 1) := by decide +kernel
theorem dX8_erase_31 : decode cX8_erase 31 = .ok (.bastore, 1) := by decide +kernel
theorem dX8_erase_32 : decode cX8_erase 32 = .ok (.iinc 3 1, 3) := by decide +kernel
theorem dX8_erase_35 : decode cX8_erase 35 = .ok (.goto (-15), 3) := by decide +kernel
theorem dX8_erase_38 : decode cX8_erase 38 = .ok (.iload_n 1, 1) := by decide +kernel
theorem dX8_erase_39 : decode cX8_erase 39 = .ok (.bipush 16, 2) := by decide +kernel
theorem dX8_erase_41 : decode cX8_erase 41 = .ok (.idiv, 1) := by decide +kernel
theorem dX8_erase_42 : decode cX8_erase 42 = .ok (.istore_n 3, 1) := by decide +kernel
theorem dX8_erase_43 : decode cX8_erase 43 = .ok (.iload_n 3, 1) := by decide +kernel
theorem dX8_erase_44 : decode cX8_erase 44 = .ok (.iload_n 2, 1) := by decide +kernel
theorem dX8_erase_45 : decode cX8_erase 45 = .ok (.bipush 16, 2) := by decide +kernel
theorem dX8_erase_47 : decode cX8_erase 47 = .ok (.idiv, 1) := by decide +kernel
theorem dX8_erase_48 : decode cX8_erase 48 = .ok (.if_icmp .ge 30, 3) := by decide +kernel
theorem dX8_erase_51 : decode cX8_erase 51 = .ok (.iload_n 3, 1) := by decide +kernel
theorem dX8_erase_52 : decode cX8_erase 52 = .ok (.aload_n 0, 1) := by decide +kernel
theorem dX8_erase_53 : decode cX8_erase 53 = .ok (.getfield 15, 3) := by decide +kernel
theorem dX8_erase_56 : decode cX8_erase 56 = .ok (.arraylength, 1) := by decide +kernel
theorem dX8_erase_57 : decode cX8_erase 57 = .ok (.if_icmp .ge 21, 3) := by decide +kernel
theorem dX8_erase_60 : decode cX8_erase 60 = .ok (.aload_n 0, 1) := by decide +kernel
theorem dX8_erase_61 : decode cX8_erase 61 = .ok (.getfield 15, 3) := by decide +kernel
theorem dX8_erase_64 : decode cX8_erase 64 = .ok (.iload_n 3, 1) := by decide +kernel
theorem dX8_erase_65 : decode cX8_erase 65 = .ok (.dup2, 1) := by decide +kernel
theorem dX8_erase_66 : decode cX8_erase 66 = .ok (.baload, 1) := by decide +kernel
theorem dX8_erase_67 : decode cX8_erase 67 = .ok (.bipush (-2), 2) := by decide +kernel
theorem dX8_erase_69 : decode cX8_erase 69 = .ok (.iand, 1) := by decide +kernel
theorem dX8_erase_70 : decode cX8_erase 70 = .ok (.i2b, 1) := by decide +kernel
theorem dX8_erase_71 : decode cX8_erase 71 = .ok (.bastore, 1) := by decide +kernel
theorem dX8_erase_72 : decode cX8_erase 72 = .ok (.iinc 3 1, 3) := by decide +kernel
theorem dX8_erase_75 : decode cX8_erase 75 = .ok (.goto (-32), 3) := by decide +kernel
theorem dX8_erase_78 : decode cX8_erase 78 = .ok (.return_, 1) := by decide +kernel
theorem dX8_isMarked_0 : decode cX8_isMarked 0 = .ok (.iload_n 1, 1) := by decide +kernel
theorem dX8_isMarked_1 : decode cX8_isMarked 1 = .ok (.bipush 16, 2) := by decide +kernel
theorem dX8_isMarked_3 : decode cX8_isMarked 3 = .ok (.idiv, 1) := by decide +kernel
theorem dX8_isMarked_4 : decode cX8_isMarked 4 = .ok (.istore_n 3, 1) := by decide +kernel
theorem dX8_isMarked_5 : decode cX8_isMarked 5 = .ok (.iload_n 1, 1) := by decide +kernel
theorem dX8_isMarked_6 : decode cX8_isMarked 6 = .ok (.ifCond .lt 27, 3) := by decide +kernel
theorem dX8_isMarked_9 : decode cX8_isMarked 9 = .ok (.iload_n 3, 1) := by decide +kernel
theorem dX8_isMarked_10 : decode cX8_isMarked 10 = .ok (.aload_n 0, 1) := by decide +kernel
theorem dX8_isMarked_11 : decode cX8_isMarked 11 = .ok (.getfield 15, 3) := by decide +kernel
theorem dX8_isMarked_14 : decode cX8_isMarked 14 = .ok (.arraylength, 1) := by decide +kernel
theorem dX8_isMarked_15 : decode cX8_isMarked 15 = .ok (.if_icmp .ge 18, 3) := by decide +kernel
theorem dX8_isMarked_18 : decode cX8_isMarked 18 = .ok (.aload_n 0, 1) := by decide +kernel
theorem dX8_isMarked_19 : decode cX8_isMarked 19 = .ok (.getfield 15, 3) := by decide +kernel
theorem dX8_isMarked_22 : decode cX8_isMarked 22 = .ok (.iload_n 3, 1) := by decide +kernel
theorem dX8_isMarked_23 : decode cX8_isMarked 23 = .ok (.baload, 1) := by decide +kernel
theorem dX8_isMarked_24 : decode cX8_isMarked 24 = .ok (.iload_n 2, 1) := by decide +kernel
theorem dX8_isMarked_25 : decode cX8_isMarked 25 = .ok (.iand, 1) := by decide +kernel
theorem dX8_isMarked_26 : decode cX8_isMarked 26 = .ok (.ifCond .eq 7, 3) := by decide +kernel
theorem dX8_isMarked_29 : decode cX8_isMarked 29 = .ok (.iconst 1, 1) := by decide +kernel
theorem dX8_isMarked_30 : decode cX8_isMarked 30 = .ok (.goto 4, 3) := by decide +kernel
theorem dX8_isMarked_33 : decode cX8_isMarked 33 = .ok (.iconst 0, 1) := by decide +kernel
theorem dX8_isMarked_34 : decode cX8_isMarked 34 = .ok (.ireturn, 1) := by decide +kernel
theorem dX8_mark_0 : decode cX8_mark 0 = .ok (.iload_n 1, 1) := by decide +kernel
theorem dX8_mark_1 : decode cX8_mark 1 = .ok (.bipush 16, 2) := by decide +kernel
theorem dX8_mark_3 : decode cX8_mark 3 = .ok (.idiv, 1) := by decide +kernel
theorem dX8_mark_4 : decode cX8_mark 4 = .ok (.istore 4, 2) := by decide +kernel
theorem dX8_mark_6 : decode cX8_mark 6 = .ok (.iload_n 1, 1) := by decide +kernel
theorem dX8_mark_7 : decode cX8_mark 7 = .ok (.ifCond .lt 47, 3) := by decide +kernel
theorem dX8_mark_10 : decode cX8_mark 10 = .ok (.iload 4, 2) := by decide +kernel
theorem dX8_mark_12 : decode cX8_mark 12 = .ok (.aload_n 0, 1) := by decide +kernel
theorem dX8_mark_13 : decode cX8_mark 13 = .ok (.getfield 15, 3) := by decide +kernel
theorem dX8_mark_16 : decode cX8_mark 16 = .ok (.arraylength, 1) := by decide +kernel
theorem dX8_mark_17 : decode cX8_mark 17 = .ok (.if_icmp .ge 37, 3) := by decide +kernel
theorem dX8_mark_20 : decode cX8_mark 20 = .ok (.aload_n 0, 1) := by decide +kernel
theorem dX8_mark_21 : decode cX8_mark 21 = .ok (.getfield 15, 3) := by decide +kernel
theorem dX8_mark_24 : decode cX8_mark 24 = .ok (.iload 4, 2) := by decide +kernel
theorem dX8_mark_26 : decode cX8_mark 26 = .ok (.baload, 1) := by decide +kernel
theorem dX8_mark_27 : decode cX8_mark 27 = .ok (.iload_n 2, 1) := by decide +kernel
theorem dX8_mark_28 : decode cX8_mark 28 = .ok (.iconst (-1), 1) := by decide +kernel
theorem dX8_mark_29 : decode cX8_mark 29 = .ok (.ixor, 1) := by decide +kernel
theorem dX8_mark_30 : decode cX8_mark 30 = .ok (.iand, 1) := by decide +kernel
theorem dX8_mark_31 : decode cX8_mark 31 = .ok (.istore 5, 2) := by decide +kernel
theorem dX8_mark_33 : decode cX8_mark 33 = .ok (.aload_n 0, 1) := by decide +kernel
theorem dX8_mark_34 : decode cX8_mark 34 = .ok (.getfield 15, 3) := by decide +kernel
theorem dX8_mark_37 : decode cX8_mark 37 = .ok (.iload 4, 2) := by decide +kernel
theorem dX8_mark_39 : decode cX8_mark 39 = .ok (.iload_n 3, 1) := by decide +kernel
theorem dX8_mark_40 : decode cX8_mark 40 = .ok (.ifCond .eq 10, 3) := by decide +kernel
theorem dX8_mark_43 : decode cX8_mark 43 = .ok (.iload 5, 2) := by decide +kernel
theorem dX8_mark_45 : decode cX8_mark 45 = .ok (.iload_n 2, 1) := by decide +kernel
theorem dX8_mark_46 : decode cX8_mark 46 = .ok (.ior, 1) := by decide +kernel
theorem dX8_mark_47 : decode cX8_mark 47 = .ok (.goto 5, 3) := by decide +kernel
theorem dX8_mark_50 : decode cX8_mark 50 = .ok (.iload 5, 2) := by decide +kernel
theorem dX8_mark_52 : decode cX8_mark 52 = .ok (.i2b, 1) := by decide +kernel
theorem dX8_mark_53 : decode cX8_mark 53 = .ok (.bastore, 1) := by decide +kernel
theorem dX8_mark_54 : decode cX8_mark 54 = .ok (.return_, 1) := by decide +kernel
theorem dX8_filter_0 : decode cX8_filter 0 = .ok (.aload_n 1, 1) := by decide +kernel
theorem dX8_filter_1 : decode cX8_filter 1 = .ok (.getfield 69, 3) := by decide +kernel
theorem dX8_filter_4 : decode cX8_filter 4 = .ok (.ifCond .eq 29, 3) := by decide +kernel
theorem dX8_filter_7 : decode cX8_filter 7 = .ok (.aload_n 1, 1) := by decide +kernel
theorem dX8_filter_8 : decode cX8_filter 8 = .ok (.bipush 32, 2) := by decide +kernel
theorem dX8_filter_10 : decode cX8_filter 10 = .ok (.invokevirtual 73, 3) := by decide +kernel
theorem dX8_filter_13 : decode cX8_filter 13 = .ok (.ifCond .ne 20, 3) := by decide +kernel
theorem dX8_filter_16 : decode cX8_filter 16 = .ok (.aload_n 0, 1) := by decide +kernel
theorem dX8_filter_17 : decode cX8_filter 17 = .ok (.aload_n 1, 1) := by decide +kernel
theorem dX8_filter_18 : decode cX8_filter 18 = .ok (.getfield 57, 3) := by decide +kernel
theorem dX8_filter_21 : decode cX8_filter 21 = .ok (.iconst 2, 1) := by decide +kernel
theorem dX8_filter_22 : decode cX8_filter 22 = .ok (.invokevirtual 36, 3) := by decide +kernel
theorem dX8_filter_25 : decode cX8_filter 25 = .ok (.ifCond .eq 8, 3) := by decide +kernel
theorem dX8_filter_28 : decode cX8_filter 28 = .ok (.aload_n 1, 1) := by decide +kernel
theorem dX8_filter_29 : decode cX8_filter 29 = .ok (.iconst 0, 1) := by decide +kernel
theorem dX8_filter_30 : decode cX8_filter 30 = .ok (.putfield 69, 3) := by decide +kernel
theorem dX8_filter_33 : decode cX8_filter 33 = .ok (.return_, 1) := by decide +kernel
theorem dX8_filterGranule_0 : decode cX8_filterGranule 0 = .ok (.iload_n 1, 1) := by decide +kernel
theorem dX8_filterGranule_1 : decode cX8_filterGranule 1 = .ok (.bipush 16, 2) := by decide +kernel
theorem dX8_filterGranule_3 : decode cX8_filterGranule 3 = .ok (.imul, 1) := by decide +kernel
theorem dX8_filterGranule_4 : decode cX8_filterGranule 4 = .ok (.istore_n 2, 1) := by decide +kernel
theorem dX8_filterGranule_5 : decode cX8_filterGranule 5 = .ok (.aload_n 0, 1) := by decide +kernel
theorem dX8_filterGranule_6 : decode cX8_filterGranule 6 = .ok (.iload_n 2, 1) := by decide +kernel
theorem dX8_filterGranule_7 : decode cX8_filterGranule 7 = .ok (.iconst 1, 1) := by decide +kernel
theorem dX8_filterGranule_8 : decode cX8_filterGranule 8 = .ok (.invokevirtual 36, 3) := by decide +kernel
theorem dX8_filterGranule_11 : decode cX8_filterGranule 11 = .ok (.ifCond .eq 41, 3) := by decide +kernel
theorem dX8_filterGranule_14 : decode cX8_filterGranule 14 = .ok (.aload_n 0, 1) := by decide +kernel
theorem dX8_filterGranule_15 : decode cX8_filterGranule 15 = .ok (.iload_n 2, 1) := by decide +kernel
theorem dX8_filterGranule_16 : decode cX8_filterGranule 16 = .ok (.bipush 12, 2) := by decide +kernel
theorem dX8_filterGranule_18 : decode cX8_filterGranule 18 = .ok (.iadd, 1) := by decide +kernel
theorem dX8_filterGranule_19 : decode cX8_filterGranule 19 = .ok (.iconst 1, 1) := by decide +kernel
theorem dX8_filterGranule_20 : decode cX8_filterGranule 20 = .ok (.invokevirtual 32, 3) := by decide +kernel
theorem dX8_filterGranule_23 : decode cX8_filterGranule 23 = .ok (.bipush 32, 2) := by decide +kernel
theorem dX8_filterGranule_25 : decode cX8_filterGranule 25 = .ok (.iand, 1) := by decide +kernel
theorem dX8_filterGranule_26 : decode cX8_filterGranule 26 = .ok (.ifCond .ne 26, 3) := by decide +kernel
theorem dX8_filterGranule_29 : decode cX8_filterGranule 29 = .ok (.aload_n 0, 1) := by decide +kernel
theorem dX8_filterGranule_30 : decode cX8_filterGranule 30 = .ok (.aload_n 0, 1) := by decide +kernel
theorem dX8_filterGranule_31 : decode cX8_filterGranule 31 = .ok (.iload_n 2, 1) := by decide +kernel
theorem dX8_filterGranule_32 : decode cX8_filterGranule 32 = .ok (.iconst 4, 1) := by decide +kernel
theorem dX8_filterGranule_33 : decode cX8_filterGranule 33 = .ok (.iadd, 1) := by decide +kernel
theorem dX8_filterGranule_34 : decode cX8_filterGranule 34 = .ok (.iconst 4, 1) := by decide +kernel
theorem dX8_filterGranule_35 : decode cX8_filterGranule 35 = .ok (.invokevirtual 32, 3) := by decide +kernel
theorem dX8_filterGranule_38 : decode cX8_filterGranule 38 = .ok (.iconst 2, 1) := by decide +kernel
theorem dX8_filterGranule_39 : decode cX8_filterGranule 39 = .ok (.invokevirtual 36, 3) := by decide +kernel
theorem dX8_filterGranule_42 : decode cX8_filterGranule 42 = .ok (.ifCond .eq 10, 3) := by decide +kernel
theorem dX8_filterGranule_45 : decode cX8_filterGranule 45 = .ok (.aload_n 0, 1) := by decide +kernel
theorem dX8_filterGranule_46 : decode cX8_filterGranule 46 = .ok (.iload_n 2, 1) := by decide +kernel
theorem dX8_filterGranule_47 : decode cX8_filterGranule 47 = .ok (.iconst 1, 1) := by decide +kernel
theorem dX8_filterGranule_48 : decode cX8_filterGranule 48 = .ok (.iconst 0, 1) := by decide +kernel
theorem dX8_filterGranule_49 : decode cX8_filterGranule 49 = .ok (.invokevirtual 28, 3) := by decide +kernel
theorem dX8_filterGranule_52 : decode cX8_filterGranule 52 = .ok (.return_, 1) := by decide +kernel
theorem dX9_init_0 : decode cX9_init 0 = .ok (.aload_n 0, 1) := by decide +kernel
theorem dX9_init_1 : decode cX9_init 1 = .ok (.invokespecial 3, 3) := by decide +kernel
theorem dX9_init_4 : decode cX9_init 4 = .ok (.aload_n 0, 1) := by decide +kernel
theorem dX9_init_5 : decode cX9_init 5 = .ok (.bipush 16, 2) := by decide +kernel
theorem dX9_init_7 : decode cX9_init 7 = .ok (.anewarray 11, 3) := by decide +kernel
theorem dX9_init_10 : decode cX9_init 10 = .ok (.putfield 13, 3) := by decide +kernel
theorem dX9_init_13 : decode cX9_init 13 = .ok (.aload_n 0, 1) := by decide +kernel
theorem dX9_init_14 : decode cX9_init 14 = .ok (.new 11, 3) := by decide +kernel
theorem dX9_init_17 : decode cX9_init 17 = .ok (.dup, 1) := by decide +kernel
theorem dX9_init_18 : decode cX9_init 18 = .ok (.invokespecial 17, 3) := by decide +kernel
theorem dX9_init_21 : decode cX9_init 21 = .ok (.putfield 18, 3) := by decide +kernel
theorem dX9_init_24 : decode cX9_init 24 = .ok (.aload_n 0, 1) := by decide +kernel
theorem dX9_init_25 : decode cX9_init 25 = .ok (.bipush 16, 2) := by decide +kernel
theorem dX9_init_27 : decode cX9_init 27 = .ok (.anewarray 22, 3) := by decide +kernel
theorem dX9_init_30 : decode cX9_init 30 = .ok (.putfield 24, 3) := by decide +kernel
theorem dX9_init_33 : decode cX9_init 33 = .ok (.aload_n 0, 1) := by decide +kernel
theorem dX9_init_34 : decode cX9_init 34 = .ok (.iload_n 1, 1) := by decide +kernel
theorem dX9_init_35 : decode cX9_init 35 = .ok (.putfield 28, 3) := by decide +kernel
theorem dX9_init_38 : decode cX9_init 38 = .ok (.iconst 0, 1) := by decide +kernel
theorem dX9_init_39 : decode cX9_init 39 = .ok (.istore_n 2, 1) := by decide +kernel
theorem dX9_init_40 : decode cX9_init 40 = .ok (.iload_n 2, 1) := by decide +kernel
theorem dX9_init_41 : decode cX9_init 41 = .ok (.bipush 16, 2) := by decide +kernel
theorem dX9_init_43 : decode cX9_init 43 = .ok (.if_icmp .ge 22, 3) := by decide +kernel
theorem dX9_init_46 : decode cX9_init 46 = .ok (.aload_n 0, 1) := by decide +kernel
theorem dX9_init_47 : decode cX9_init 47 = .ok (.getfield 13, 3) := by decide +kernel
theorem dX9_init_50 : decode cX9_init 50 = .ok (.iload_n 2, 1) := by decide +kernel
theorem dX9_init_51 : decode cX9_init 51 = .ok (.new 11, 3) := by decide +kernel
theorem dX9_init_54 : decode cX9_init 54 = .ok (.dup, 1) := by decide +kernel
theorem dX9_init_55 : decode cX9_init 55 = .ok (.invokespecial 17, 3) := by decide +kernel
theorem dX9_init_58 : decode cX9_init 58 = .ok (.aastore, 1) := by decide +kernel
theorem dX9_init_59 : decode cX9_init 59 = .ok (.iinc 2 1, 3) := by decide +kernel
theorem dX9_init_62 : decode cX9_init 62 = .ok (.goto (-22), 3) := by decide +kernel
theorem dX9_init_65 : decode cX9_init 65 = .ok (.iconst 0, 1) := by decide +kernel
theorem dX9_init_66 : decode cX9_init 66 = .ok (.istore_n 2, 1) := by decide +kernel
theorem dX9_init_67 : decode cX9_init 67 = .ok (.iload_n 2, 1) := by decide +kernel
theorem dX9_init_68 : decode cX9_init 68 = .ok (.bipush 16, 2) := by decide +kernel
theorem dX9_init_70 : decode cX9_init 70 = .ok (.if_icmp .ge 22, 3) := by decide +kernel
theorem dX9_init_73 : decode cX9_init 73 = .ok (.aload_n 0, 1) := by decide +kernel
theorem dX9_init_74 : decode cX9_init 74 = .ok (.getfield 24, 3) := by decide +kernel
theorem dX9_init_77 : decode cX9_init 77 = .ok (.iload_n 2, 1) := by decide +kernel
theorem dX9_init_78 : decode cX9_init 78 = .ok (.new 22, 3) := by decide +kernel
theorem dX9_init_81 : decode cX9_init 81 = .ok (.dup, 1) := by decide +kernel
theorem dX9_init_82 : decode cX9_init 82 = .ok (.invokespecial 32, 3) := by decide +kernel
theorem dX9_init_85 : decode cX9_init 85 = .ok (.aastore, 1) := by decide +kernel
theorem dX9_init_86 : decode cX9_init 86 = .ok (.iinc 2 1, 3) := by decide +kernel
theorem dX9_init_89 : decode cX9_init 89 = .ok (.goto (-22), 3) := by decide +kernel
theorem dX9_init_92 : decode cX9_init 92 = .ok (.return_, 1) := by decide +kernel
theorem dX9_reg_0 : decode cX9_reg 0 = .ok (.aload_n 0, 1) := by decide +kernel
theorem dX9_reg_1 : decode cX9_reg 1 = .ok (.getfield 13, 3) := by decide +kernel
theorem dX9_reg_4 : decode cX9_reg 4 = .ok (.iload_n 1, 1) := by decide +kernel
theorem dX9_reg_5 : decode cX9_reg 5 = .ok (.bipush 15, 2) := by decide +kernel
theorem dX9_reg_7 : decode cX9_reg 7 = .ok (.iand, 1) := by decide +kernel
theorem dX9_reg_8 : decode cX9_reg 8 = .ok (.aaload, 1) := by decide +kernel
theorem dX9_reg_9 : decode cX9_reg 9 = .ok (.areturn, 1) := by decide +kernel
theorem dX9_begin_0 : decode cX9_begin 0 = .ok (.aload_n 0, 1) := by decide +kernel
theorem dX9_begin_1 : decode cX9_begin 1 = .ok (.iload_n 1, 1) := by decide +kernel
theorem dX9_begin_2 : decode cX9_begin 2 = .ok (.putfield 33, 3) := by decide +kernel
theorem dX9_begin_5 : decode cX9_begin 5 = .ok (.aload_n 0, 1) := by decide +kernel
theorem dX9_begin_6 : decode cX9_begin 6 = .ok (.iload_n 2, 1) := by decide +kernel
theorem dX9_begin_7 : decode cX9_begin 7 = .ok (.bipush 16, 2) := by decide +kernel
theorem dX9_begin_9 : decode cX9_begin 9 = .ok (.invokestatic 36, 3) := by decide +kernel
theorem dX9_begin_12 : decode cX9_begin 12 = .ok (.putfield 42, 3) := by decide +kernel
theorem dX9_begin_15 : decode cX9_begin 15 = .ok (.aload_n 0, 1) := by decide +kernel
theorem dX9_begin_16 : decode cX9_begin 16 = .ok (.invokevirtual 45, 3) := by decide +kernel
theorem dX9_begin_19 : decode cX9_begin 19 = .ok (.aload_n 0, 1) := by decide +kernel
theorem dX9_begin_20 : decode cX9_begin 20 = .ok (.iconst 1, 1) := by decide +kernel
theorem dX9_begin_21 : decode cX9_begin 21 = .ok (.putfield 48, 3) := by decide +kernel
theorem dX9_begin_24 : decode cX9_begin 24 = .ok (.aload_n 0, 1) := by decide +kernel
theorem dX9_begin_25 : decode cX9_begin 25 = .ok (.iconst 0, 1) := by decide +kernel
theorem dX9_begin_26 : decode cX9_begin 26 = .ok (.putfield 52, 3) := by decide +kernel
theorem dX9_begin_29 : decode cX9_begin 29 = .ok (.aload_n 0, 1) := by decide +kernel
theorem dX9_begin_30 : decode cX9_begin 30 = .ok (.iconst (-1), 1) := by decide +kernel
theorem dX9_begin_31 : decode cX9_begin 31 = .ok (.putfield 55, 3) := by decide +kernel
theorem dX9_begin_34 : decode cX9_begin 34 = .ok (.aload_n 0, 1) := by decide +kernel
theorem dX9_begin_35 : decode cX9_begin 35 = .ok (.iconst (-1), 1) := by decide +kernel
theorem dX9_begin_36 : decode cX9_begin 36 = .ok (.putfield 58, 3) := by decide +kernel
theorem dX9_begin_39 : decode cX9_begin 39 = .ok (.aload_n 0, 1) := by decide +kernel
theorem dX9_begin_40 : decode cX9_begin 40 = .ok (.iconst 0, 1) := by decide +kernel
theorem dX9_begin_41 : decode cX9_begin 41 = .ok (.putfield 61, 3) := by decide +kernel
theorem dX9_begin_44 : decode cX9_begin 44 = .ok (.aload_n 0, 1) := by decide +kernel
theorem dX9_begin_45 : decode cX9_begin 45 = .ok (.iconst 0, 1) := by decide +kernel
theorem dX9_begin_46 : decode cX9_begin 46 = .ok (.putfield 64, 3) := by decide +kernel
theorem dX9_begin_49 : decode cX9_begin 49 = .ok (.aload_n 0, 1) := by decide +kernel
theorem dX9_begin_50 : decode cX9_begin 50 = .ok (.iconst 0, 1) := by decide +kernel
theorem dX9_begin_51 : decode cX9_begin 51 = .ok (.putfield 67, 3) := by decide +kernel
theorem dX9_begin_54 : decode cX9_begin 54 = .ok (.aload_n 0, 1) := by decide +kernel
theorem dX9_begin_55 : decode cX9_begin 55 = .ok (.iconst 0, 1) := by decide +kernel
theorem dX9_begin_56 : decode cX9_begin 56 = .ok (.putfield 70, 3) := by decide +kernel
theorem dX9_begin_59 : decode cX9_begin 59 = .ok (.aload_n 0, 1) := by decide +kernel
theorem dX9_begin_60 : decode cX9_begin 60 = .ok (.iconst (-1), 1) := by decide +kernel
theorem dX9_begin_61 : decode cX9_begin 61 = .ok (.putfield 73, 3) := by decide +kernel
theorem dX9_begin_64 : decode cX9_begin 64 = .ok (.return_, 1) := by decide +kernel
theorem dX9_end_0 : decode cX9_end 0 = .ok (.aload_n 0, 1) := by decide +kernel
theorem dX9_end_1 : decode cX9_end 1 = .ok (.invokevirtual 45, 3) := by decide +kernel
theorem dX9_end_4 : decode cX9_end 4 = .ok (.aload_n 0, 1) := by decide +kernel
theorem dX9_end_5 : decode cX9_end 5 = .ok (.iconst 3, 1) := by decide +kernel
theorem dX9_end_6 : decode cX9_end 6 = .ok (.putfield 52, 3) := by decide +kernel
theorem dX9_end_9 : decode cX9_end 9 = .ok (.return_, 1) := by decide +kernel
theorem dX9_forgetAll_0 : decode cX9_forgetAll 0 = .ok (.aload_n 0, 1) := by decide +kernel
theorem dX9_forgetAll_1 : decode cX9_forgetAll 1 = .ok (.getfield 13, 3) := by decide +kernel
theorem dX9_forgetAll_4 : decode cX9_forgetAll 4 = .ok (.astore_n 1, 1) := by decide +kernel
theorem dX9_forgetAll_5 : decode cX9_forgetAll 5 = .ok (.aload_n 1, 1) := by decide +kernel
theorem dX9_forgetAll_6 : decode cX9_forgetAll 6 = .ok (.arraylength, 1) := by decide +kernel
theorem dX9_forgetAll_7 : decode cX9_forgetAll 7 = .ok (.istore_n 2, 1) := by decide +kernel
theorem dX9_forgetAll_8 : decode cX9_forgetAll 8 = .ok (.iconst 0, 1) := by decide +kernel
theorem dX9_forgetAll_9 : decode cX9_forgetAll 9 = .ok (.istore_n 3, 1) := by decide +kernel
theorem dX9_forgetAll_10 : decode cX9_forgetAll 10 = .ok (.iload_n 3, 1) := by decide +kernel
theorem dX9_forgetAll_11 : decode cX9_forgetAll 11 = .ok (.iload_n 2, 1) := by decide +kernel
theorem dX9_forgetAll_12 : decode cX9_forgetAll 12 = .ok (.if_icmp .ge 19, 3) := by decide +kernel
theorem dX9_forgetAll_15 : decode cX9_forgetAll 15 = .ok (.aload_n 1, 1) := by decide +kernel
theorem dX9_forgetAll_16 : decode cX9_forgetAll 16 = .ok (.iload_n 3, 1) := by decide +kernel
theorem dX9_forgetAll_17 : decode cX9_forgetAll 17 = .ok (.aaload, 1) := by decide +kernel
theorem dX9_forgetAll_18 : decode cX9_forgetAll 18 = .ok (.astore 4, 2) := by decide +kernel
theorem dX9_forgetAll_20 : decode cX9_forgetAll 20 = .ok (.aload 4, 2) := by decide +kernel
theorem dX9_forgetAll_22 : decode cX9_forgetAll 22 = .ok (.invokevirtual 76, 3) := by decide +kernel
theorem dX9_forgetAll_25 : decode cX9_forgetAll 25 = .ok (.iinc 3 1, 3) := by decide +kernel
theorem dX9_forgetAll_28 : decode cX9_forgetAll 28 = .ok (.goto (-18), 3) := by decide +kernel
theorem dX9_forgetAll_31 : decode cX9_forgetAll 31 = .ok (.aload_n 0, 1) := by decide +kernel
theorem dX9_forgetAll_32 : decode cX9_forgetAll 32 = .ok (.getfield 18, 3) := by decide +kernel
theorem dX9_forgetAll_35 : decode cX9_forgetAll 35 = .ok (.invokevirtual 76, 3) := by decide +kernel
theorem dX9_forgetAll_38 : decode cX9_forgetAll 38 = .ok (.aload_n 0, 1) := by decide +kernel
theorem dX9_forgetAll_39 : decode cX9_forgetAll 39 = .ok (.iconst 0, 1) := by decide +kernel
theorem dX9_forgetAll_40 : decode cX9_forgetAll 40 = .ok (.putfield 79, 3) := by decide +kernel
theorem dX9_forgetAll_43 : decode cX9_forgetAll 43 = .ok (.return_, 1) := by decide +kernel
theorem dX9_forget_0 : decode cX9_forget 0 = .ok (.iload_n 1, 1) := by decide +kernel
theorem dX9_forget_1 : decode cX9_forget 1 = .ok (.istore_n 3, 1) := by decide +kernel
theorem dX9_forget_2 : decode cX9_forget 2 = .ok (.iload_n 3, 1) := by decide +kernel
theorem dX9_forget_3 : decode cX9_forget 3 = .ok (.iload_n 2, 1) := by decide +kernel
theorem dX9_forget_4 : decode cX9_forget 4 = .ok (.if_icmp .gt 17, 3) := by decide +kernel
theorem dX9_forget_7 : decode cX9_forget 7 = .ok (.aload_n 0, 1) := by decide +kernel
theorem dX9_forget_8 : decode cX9_forget 8 = .ok (.iload_n 3, 1) := by decide +kernel
theorem dX9_forget_9 : decode cX9_forget 9 = .ok (.invokevirtual 82, 3) := by decide +kernel
theorem dX9_forget_12 : decode cX9_forget 12 = .ok (.invokevirtual 76, 3) := by decide +kernel
theorem dX9_forget_15 : decode cX9_forget 15 = .ok (.iinc 3 1, 3) := by decide +kernel
theorem dX9_forget_18 : decode cX9_forget 18 = .ok (.goto (-16), 3) := by decide +kernel
theorem dX9_forget_21 : decode cX9_forget 21 = .ok (.return_, 1) := by decide +kernel
theorem dX9_forgetOthers_0 : decode cX9_forgetOthers 0 = .ok (.aload_n 0, 1) := by decide +kernel
theorem dX9_forgetOthers_1 : decode cX9_forgetOthers 1 = .ok (.iconst 0, 1) := by decide +kernel
theorem dX9_forgetOthers_2 : decode cX9_forgetOthers 2 = .ok (.iconst 1, 1) := by decide +kernel
theorem dX9_forgetOthers_3 : decode cX9_forgetOthers 3 = .ok (.invokevirtual 86, 3) := by decide +kernel
theorem dX9_forgetOthers_6 : decode cX9_forgetOthers 6 = .ok (.aload_n 0, 1) := by decide +kernel
theorem dX9_forgetOthers_7 : decode cX9_forgetOthers 7 = .ok (.iconst 4, 1) := by decide +kernel
theorem dX9_forgetOthers_8 : decode cX9_forgetOthers 8 = .ok (.bipush 7, 2) := by decide +kernel
theorem dX9_forgetOthers_10 : decode cX9_forgetOthers 10 = .ok (.invokevirtual 86, 3) := by decide +kernel
theorem dX9_forgetOthers_13 : decode cX9_forgetOthers 13 = .ok (.aload_n 0, 1) := by decide +kernel
theorem dX9_forgetOthers_14 : decode cX9_forgetOthers 14 = .ok (.bipush 12, 2) := by decide +kernel
theorem dX9_forgetOthers_16 : decode cX9_forgetOthers 16 = .ok (.bipush 15, 2) := by decide +kernel
theorem dX9_forgetOthers_18 : decode cX9_forgetOthers 18 = .ok (.invokevirtual 86, 3) := by decide +kernel
theorem dX9_forgetOthers_21 : decode cX9_forgetOthers 21 = .ok (.return_, 1) := by decide +kernel
theorem dX9_enter_0 : decode cX9_enter 0 = .ok (.aload_n 0, 1) := by decide +kernel
theorem dX9_enter_1 : decode cX9_enter 1 = .ok (.iconst 0, 1) := by decide +kernel
theorem dX9_enter_2 : decode cX9_enter 2 = .ok (.bipush 9, 2) := by decide +kernel
theorem dX9_enter_4 : decode cX9_enter 4 = .ok (.invokevirtual 86, 3) := by decide +kernel
theorem dX9_enter_7 : decode cX9_enter 7 = .ok (.aload_n 0, 1) := by decide +kernel
theorem dX9_enter_8 : decode cX9_enter 8 = .ok (.iload_n 2, 1) := by decide +kernel
theorem dX9_enter_9 : decode cX9_enter 9 = .ok (.putfield 90, 3) := by decide +kernel
theorem dX9_enter_12 : decode cX9_enter 12 = .ok (.aload_n 0, 1) := by decide +kernel
theorem dX9_enter_13 : decode cX9_enter 13 = .ok (.aload_n 1, 1) := by decide +kernel
theorem dX9_enter_14 : decode cX9_enter 14 = .ok (.iload_n 3, 1) := by decide +kernel
theorem dX9_enter_15 : decode cX9_enter 15 = .ok (.aload_n 0, 1) := by decide +kernel
theorem dX9_enter_16 : decode cX9_enter 16 = .ok (.getfield 48, 3) := by decide +kernel
theorem dX9_enter_19 : decode cX9_enter 19 = .ok (.invokevirtual 93, 3) := by decide +kernel
theorem dX9_enter_22 : decode cX9_enter 22 = .ok (.putfield 48, 3) := by decide +kernel
theorem dX9_enter_25 : decode cX9_enter 25 = .ok (.aload_n 1, 1) := by decide +kernel
theorem dX9_enter_26 : decode cX9_enter 26 = .ok (.aload_n 0, 1) := by decide +kernel
theorem dX9_enter_27 : decode cX9_enter 27 = .ok (.getfield 18, 3) := by decide +kernel
theorem dX9_enter_30 : decode cX9_enter 30 = .ok (.iload_n 3, 1) := by decide +kernel
theorem dX9_enter_31 : decode cX9_enter 31 = .ok (.invokevirtual 99, 3) := by decide +kernel
theorem dX9_enter_34 : decode cX9_enter 34 = .ok (.aload_n 0, 1) := by decide +kernel
theorem dX9_enter_35 : decode cX9_enter 35 = .ok (.iconst 1, 1) := by decide +kernel
theorem dX9_enter_36 : decode cX9_enter 36 = .ok (.invokevirtual 82, 3) := by decide +kernel
theorem dX9_enter_39 : decode cX9_enter 39 = .ok (.iconst 0, 1) := by decide +kernel
theorem dX9_enter_40 : decode cX9_enter 40 = .ok (.iconst 0, 1) := by decide +kernel
theorem dX9_enter_41 : decode cX9_enter 41 = .ok (.iconst 0, 1) := by decide +kernel
theorem dX9_enter_42 : decode cX9_enter 42 = .ok (.iconst 0, 1) := by decide +kernel
theorem dX9_enter_43 : decode cX9_enter 43 = .ok (.iconst 5, 1) := by decide +kernel
theorem dX9_enter_44 : decode cX9_enter 44 = .ok (.iconst 1, 1) := by decide +kernel
theorem dX9_enter_45 : decode cX9_enter 45 = .ok (.invokevirtual 103, 3) := by decide +kernel
theorem dX9_enter_48 : decode cX9_enter 48 = .ok (.aload_n 0, 1) := by decide +kernel
theorem dX9_enter_49 : decode cX9_enter 49 = .ok (.iconst 2, 1) := by decide +kernel
theorem dX9_enter_50 : decode cX9_enter 50 = .ok (.invokevirtual 82, 3) := by decide +kernel
theorem dX9_enter_53 : decode cX9_enter 53 = .ok (.iload 4, 2) := by decide +kernel
theorem dX9_enter_55 : decode cX9_enter 55 = .ok (.aload_n 0, 1) := by decide +kernel
theorem dX9_enter_56 : decode cX9_enter 56 = .ok (.getfield 107, 3) := by decide +kernel
theorem dX9_enter_59 : decode cX9_enter 59 = .ok (.iload 4, 2) := by decide +kernel
theorem dX9_enter_61 : decode cX9_enter 61 = .ok (.sipush 155, 3) := by decide +kernel
theorem dX9_enter_64 : decode cX9_enter 64 = .ok (.iconst 0, 1) := by decide +kernel
theorem dX9_enter_65 : decode cX9_enter 65 = .ok (.iconst 1, 1) := by decide +kernel
theorem dX9_enter_66 : decode cX9_enter 66 = .ok (.invokevirtual 103, 3) := by decide +kernel
theorem dX9_enter_69 : decode cX9_enter 69 = .ok (.aload_n 1, 1) := by decide +kernel
theorem dX9_enter_70 : decode cX9_enter 70 = .ok (.aload_n 0, 1) := by decide +kernel
theorem dX9_enter_71 : decode cX9_enter 71 = .ok (.iconst 3, 1) := by decide +kernel
theorem dX9_enter_72 : decode cX9_enter 72 = .ok (.invokevirtual 82, 3) := by decide +kernel
theorem dX9_enter_75 : decode cX9_enter 75 = .ok (.bipush 91, 2) := by decide +kernel
theorem dX9_enter_77 : decode cX9_enter 77 = .ok (.invokevirtual 110, 3) := by decide +kernel
theorem dX9_enter_80 : decode cX9_enter 80 = .ok (.aload_n 0, 1) := by decide +kernel
theorem dX9_enter_81 : decode cX9_enter 81 = .ok (.iload 4, 2) := by decide +kernel
theorem dX9_enter_83 : decode cX9_enter 83 = .ok (.putfield 113, 3) := by decide +kernel
theorem dX9_enter_86 : decode cX9_enter 86 = .ok (.return_, 1) := by decide +kernel
theorem dX9_stackIsAsGiven_0 : decode cX9_stackIsAsGiven 0 = .ok (.aload_n 0, 1) := by decide +kernel
theorem dX9_stackIsAsGiven_1 : decode cX9_stackIsAsGiven 1 = .ok (.iconst 2, 1) := by decide +kernel
theorem dX9_stackIsAsGiven_2 : decode cX9_stackIsAsGiven 2 = .ok (.invokevirtual 82, 3) := by decide +kernel
theorem dX9_stackIsAsGiven_5 : decode cX9_stackIsAsGiven 5 = .ok (.astore_n 1, 1) := by decide +kernel
theorem dX9_stackIsAsGiven_6 : decode cX9_stackIsAsGiven 6 = .ok (.aload_n 1, 1) := by decide +kernel
theorem dX9_stackIsAsGiven_7 : decode cX9_stackIsAsGiven 7 = .ok (.iconst 2, 1) := by decide +kernel
theorem dX9_stackIsAsGiven_8 : decode cX9_stackIsAsGiven 8 = .ok (.invokevirtual 116, 3) := by decide +kernel
theorem dX9_stackIsAsGiven_11 : decode cX9_stackIsAsGiven 11 = .ok (.ifCond .eq 51, 3) := by decide +kernel
theorem dX9_stackIsAsGiven_14 : decode cX9_stackIsAsGiven 14 = .ok (.aload_n 1, 1) := by decide +kernel
theorem dX9_stackIsAsGiven_15 : decode cX9_stackIsAsGiven 15 = .ok (.getfield 120, 3) := by decide +kernel
theorem dX9_stackIsAsGiven_18 : decode cX9_stackIsAsGiven 18 = .ok (.aload_n 0, 1) := by decide +kernel
theorem dX9_stackIsAsGiven_19 : decode cX9_stackIsAsGiven 19 = .ok (.getfield 107, 3) := by decide +kernel
theorem dX9_stackIsAsGiven_22 : decode cX9_stackIsAsGiven 22 = .ok (.if_icmp .ne 40, 3) := by decide +kernel
theorem dX9_stackIsAsGiven_25 : decode cX9_stackIsAsGiven 25 = .ok (.aload_n 1, 1) := by decide +kernel
theorem dX9_stackIsAsGiven_26 : decode cX9_stackIsAsGiven 26 = .ok (.getfield 123, 3) := by decide +kernel
theorem dX9_stackIsAsGiven_29 : decode cX9_stackIsAsGiven 29 = .ok (.aload_n 0, 1) := by decide +kernel
theorem dX9_stackIsAsGiven_30 : decode cX9_stackIsAsGiven 30 = .ok (.getfield 113, 3) := by decide +kernel
theorem dX9_stackIsAsGiven_33 : decode cX9_stackIsAsGiven 33 = .ok (.if_icmp .ne 29, 3) := by decide +kernel
theorem dX9_stackIsAsGiven_36 : decode cX9_stackIsAsGiven 36 = .ok (.aload_n 1, 1) := by decide +kernel
theorem dX9_stackIsAsGiven_37 : decode cX9_stackIsAsGiven 37 = .ok (.aload_n 1, 1) := by decide +kernel
theorem dX9_stackIsAsGiven_38 : decode cX9_stackIsAsGiven 38 = .ok (.getfield 126, 3) := by decide +kernel
theorem dX9_stackIsAsGiven_41 : decode cX9_stackIsAsGiven 41 = .ok (.iconst 0, 1) := by decide +kernel
theorem dX9_stackIsAsGiven_42 : decode cX9_stackIsAsGiven 42 = .ok (.invokevirtual 129, 3) := by decide +kernel
theorem dX9_stackIsAsGiven_45 : decode cX9_stackIsAsGiven 45 = .ok (.ifCond .eq 17, 3) := by decide +kernel
theorem dX9_stackIsAsGiven_48 : decode cX9_stackIsAsGiven 48 = .ok (.aload_n 1, 1) := by decide +kernel
theorem dX9_stackIsAsGiven_49 : decode cX9_stackIsAsGiven 49 = .ok (.getfield 126, 3) := by decide +kernel
theorem dX9_stackIsAsGiven_52 : decode cX9_stackIsAsGiven 52 = .ok (.bipush 16, 2) := by decide +kernel
theorem dX9_stackIsAsGiven_54 : decode cX9_stackIsAsGiven 54 = .ok (.irem, 1) := by decide +kernel
theorem dX9_stackIsAsGiven_55 : decode cX9_stackIsAsGiven 55 = .ok (.ifCond .ne 7, 3) := by decide +kernel
theorem dX9_stackIsAsGiven_58 : decode cX9_stackIsAsGiven 58 = .ok (.iconst 1, 1) := by decide +kernel
theorem dX9_stackIsAsGiven_59 : decode cX9_stackIsAsGiven 59 = .ok (.goto 4, 3) := by decide +kernel
theorem dX9_stackIsAsGiven_62 : decode cX9_stackIsAsGiven 62 = .ok (.iconst 0, 1) := by decide +kernel
theorem dX9_stackIsAsGiven_63 : decode cX9_stackIsAsGiven 63 = .ok (.ireturn, 1) := by decide +kernel
theorem dX9_hasFrameLeft_0 : decode cX9_hasFrameLeft 0 = .ok (.aload_n 0, 1) := by decide +kernel
theorem dX9_hasFrameLeft_1 : decode cX9_hasFrameLeft 1 = .ok (.getfield 79, 3) := by decide +kernel
theorem dX9_hasFrameLeft_4 : decode cX9_hasFrameLeft 4 = .ok (.ifCond .lt 27, 3) := by decide +kernel
theorem dX9_hasFrameLeft_7 : decode cX9_hasFrameLeft 7 = .ok (.aload_n 0, 1) := by decide +kernel
theorem dX9_hasFrameLeft_8 : decode cX9_hasFrameLeft 8 = .ok (.getfield 79, 3) := by decide +kernel
theorem dX9_hasFrameLeft_11 : decode cX9_hasFrameLeft 11 = .ok (.aload_n 0, 1) := by decide +kernel
theorem dX9_hasFrameLeft_12 : decode cX9_hasFrameLeft 12 = .ok (.getfield 42, 3) := by decide +kernel
theorem dX9_hasFrameLeft_15 : decode cX9_hasFrameLeft 15 = .ok (.if_icmp .ge 16, 3) := by decide +kernel
theorem dX9_hasFrameLeft_18 : decode cX9_hasFrameLeft 18 = .ok (.aload_n 0, 1) := by decide +kernel
theorem dX9_hasFrameLeft_19 : decode cX9_hasFrameLeft 19 = .ok (.getfield 79, 3) := by decide +kernel
theorem dX9_hasFrameLeft_22 : decode cX9_hasFrameLeft 22 = .ok (.bipush 16, 2) := by decide +kernel
theorem dX9_hasFrameLeft_24 : decode cX9_hasFrameLeft 24 = .ok (.if_icmp .ge 7, 3) := by decide +kernel
theorem dX9_hasFrameLeft_27 : decode cX9_hasFrameLeft 27 = .ok (.iconst 1, 1) := by decide +kernel
theorem dX9_hasFrameLeft_28 : decode cX9_hasFrameLeft 28 = .ok (.goto 4, 3) := by decide +kernel
theorem dX9_hasFrameLeft_31 : decode cX9_hasFrameLeft 31 = .ok (.iconst 0, 1) := by decide +kernel
theorem dX9_hasFrameLeft_32 : decode cX9_hasFrameLeft 32 = .ok (.ireturn, 1) := by decide +kernel
theorem dX9_keepFrame_0 : decode cX9_keepFrame 0 = .ok (.aload_n 0, 1) := by decide +kernel
theorem dX9_keepFrame_1 : decode cX9_keepFrame 1 = .ok (.invokevirtual 133, 3) := by decide +kernel
theorem dX9_keepFrame_4 : decode cX9_keepFrame 4 = .ok (.ifCond .eq 100, 3) := by decide +kernel
theorem dX9_keepFrame_7 : decode cX9_keepFrame 7 = .ok (.aload_n 0, 1) := by decide +kernel
theorem dX9_keepFrame_8 : decode cX9_keepFrame 8 = .ok (.getfield 24, 3) := by decide +kernel
theorem dX9_keepFrame_11 : decode cX9_keepFrame 11 = .ok (.aload_n 0, 1) := by decide +kernel
theorem dX9_keepFrame_12 : decode cX9_keepFrame 12 = .ok (.getfield 79, 3) := by decide +kernel
theorem dX9_keepFrame_15 : decode cX9_keepFrame 15 = .ok (.aaload, 1) := by decide +kernel
theorem dX9_keepFrame_16 : decode cX9_keepFrame 16 = .ok (.astore_n 1, 1) := by decide +kernel
theorem dX9_keepFrame_17 : decode cX9_keepFrame 17 = .ok (.aload_n 1, 1) := by decide +kernel
theorem dX9_keepFrame_18 : decode cX9_keepFrame 18 = .ok (.getfield 137, 3) := by decide +kernel
theorem dX9_keepFrame_21 : decode cX9_keepFrame 21 = .ok (.aload_n 0, 1) := by decide +kernel
theorem dX9_keepFrame_22 : decode cX9_keepFrame 22 = .ok (.getfield 18, 3) := by decide +kernel
theorem dX9_keepFrame_25 : decode cX9_keepFrame 25 = .ok (.invokevirtual 138, 3) := by decide +kernel
theorem dX9_keepFrame_28 : decode cX9_keepFrame 28 = .ok (.aload_n 1, 1) := by decide +kernel
theorem dX9_keepFrame_29 : decode cX9_keepFrame 29 = .ok (.getfield 142, 3) := by decide +kernel
theorem dX9_keepFrame_32 : decode cX9_keepFrame 32 = .ok (.aload_n 0, 1) := by decide +kernel
theorem dX9_keepFrame_33 : decode cX9_keepFrame 33 = .ok (.iconst 2, 1) := by decide +kernel
theorem dX9_keepFrame_34 : decode cX9_keepFrame 34 = .ok (.invokevirtual 82, 3) := by decide +kernel
theorem dX9_keepFrame_37 : decode cX9_keepFrame 37 = .ok (.invokevirtual 138, 3) := by decide +kernel
theorem dX9_keepFrame_40 : decode cX9_keepFrame 40 = .ok (.aload_n 1, 1) := by decide +kernel
theorem dX9_keepFrame_41 : decode cX9_keepFrame 41 = .ok (.getfield 145, 3) := by decide +kernel
theorem dX9_keepFrame_44 : decode cX9_keepFrame 44 = .ok (.aload_n 0, 1) := by decide +kernel
theorem dX9_keepFrame_45 : decode cX9_keepFrame 45 = .ok (.iconst 3, 1) := by decide +kernel
theorem dX9_keepFrame_46 : decode cX9_keepFrame 46 = .ok (.invokevirtual 82, 3) := by decide +kernel
theorem dX9_keepFrame_49 : decode cX9_keepFrame 49 = .ok (.invokevirtual 138, 3) := by decide +kernel
theorem dX9_keepFrame_52 : decode cX9_keepFrame 52 = .ok (.aload_n 1, 1) := by decide +kernel
theorem dX9_keepFrame_53 : decode cX9_keepFrame 53 = .ok (.getfield 148, 3) := by decide +kernel
theorem dX9_keepFrame_56 : decode cX9_keepFrame 56 = .ok (.aload_n 0, 1) := by decide +kernel
theorem dX9_keepFrame_57 : decode cX9_keepFrame 57 = .ok (.bipush 8, 2) := by decide +kernel
theorem dX9_keepFrame_59 : decode cX9_keepFrame 59 = .ok (.invokevirtual 82, 3) := by decide +kernel
theorem dX9_keepFrame_62 : decode cX9_keepFrame 62 = .ok (.invokevirtual 138, 3) := by decide +kernel
theorem dX9_keepFrame_65 : decode cX9_keepFrame 65 = .ok (.aload_n 1, 1) := by decide +kernel
theorem dX9_keepFrame_66 : decode cX9_keepFrame 66 = .ok (.getfield 151, 3) := by decide +kernel
theorem dX9_keepFrame_69 : decode cX9_keepFrame 69 = .ok (.aload_n 0, 1) := by decide +kernel
theorem dX9_keepFrame_70 : decode cX9_keepFrame 70 = .ok (.bipush 9, 2) := by decide +kernel
theorem dX9_keepFrame_72 : decode cX9_keepFrame 72 = .ok (.invokevirtual 82, 3) := by decide +kernel
theorem dX9_keepFrame_75 : decode cX9_keepFrame 75 = .ok (.invokevirtual 138, 3) := by decide +kernel
theorem dX9_keepFrame_78 : decode cX9_keepFrame 78 = .ok (.aload_n 1, 1) := by decide +kernel
theorem dX9_keepFrame_79 : decode cX9_keepFrame 79 = .ok (.aload_n 0, 1) := by decide +kernel
theorem dX9_keepFrame_80 : decode cX9_keepFrame 80 = .ok (.getfield 48, 3) := by decide +kernel
theorem dX9_keepFrame_83 : decode cX9_keepFrame 83 = .ok (.putfield 154, 3) := by decide +kernel
theorem dX9_keepFrame_86 : decode cX9_keepFrame 86 = .ok (.aload_n 1, 1) := by decide +kernel
theorem dX9_keepFrame_87 : decode cX9_keepFrame 87 = .ok (.aload_n 0, 1) := by decide +kernel
theorem dX9_keepFrame_88 : decode cX9_keepFrame 88 = .ok (.getfield 90, 3) := by decide +kernel
theorem dX9_keepFrame_91 : decode cX9_keepFrame 91 = .ok (.putfield 155, 3) := by decide +kernel
theorem dX9_keepFrame_94 : decode cX9_keepFrame 94 = .ok (.aload_n 0, 1) := by decide +kernel
theorem dX9_keepFrame_95 : decode cX9_keepFrame 95 = .ok (.dup, 1) := by decide +kernel
theorem dX9_keepFrame_96 : decode cX9_keepFrame 96 = .ok (.getfield 79, 3) := by decide +kernel
theorem dX9_keepFrame_99 : decode cX9_keepFrame 99 = .ok (.iconst 1, 1) := by decide +kernel
theorem dX9_keepFrame_100 : decode cX9_keepFrame 100 = .ok (.iadd, 1) := by decide +kernel
theorem dX9_keepFrame_101 : decode cX9_keepFrame 101 = .ok (.putfield 79, 3) := by decide +kernel
theorem dX9_keepFrame_104 : decode cX9_keepFrame 104 = .ok (.return_, 1) := by decide +kernel
theorem dX9_giveBack_0 : decode cX9_giveBack 0 = .ok (.aload_n 0, 1) := by decide +kernel
theorem dX9_giveBack_1 : decode cX9_giveBack 1 = .ok (.getfield 79, 3) := by decide +kernel
theorem dX9_giveBack_4 : decode cX9_giveBack 4 = .ok (.ifCond .le 12, 3) := by decide +kernel
theorem dX9_giveBack_7 : decode cX9_giveBack 7 = .ok (.aload_n 0, 1) := by decide +kernel
theorem dX9_giveBack_8 : decode cX9_giveBack 8 = .ok (.getfield 79, 3) := by decide +kernel
theorem dX9_giveBack_11 : decode cX9_giveBack 11 = .ok (.bipush 16, 2) := by decide +kernel
theorem dX9_giveBack_13 : decode cX9_giveBack 13 = .ok (.if_icmp .le 8, 3) := by decide +kernel
theorem dX9_giveBack_16 : decode cX9_giveBack 16 = .ok (.aload_n 0, 1) := by decide +kernel
theorem dX9_giveBack_17 : decode cX9_giveBack 17 = .ok (.invokevirtual 156, 3) := by decide +kernel
theorem dX9_giveBack_20 : decode cX9_giveBack 20 = .ok (.return_, 1) := by decide +kernel
theorem dX9_giveBack_21 : decode cX9_giveBack 21 = .ok (.aload_n 0, 1) := by decide +kernel
theorem dX9_giveBack_22 : decode cX9_giveBack 22 = .ok (.dup, 1) := by decide +kernel
theorem dX9_giveBack_23 : decode cX9_giveBack 23 = .ok (.getfield 79, 3) := by decide +kernel
theorem dX9_giveBack_26 : decode cX9_giveBack 26 = .ok (.iconst 1, 1) := by decide +kernel
theorem dX9_giveBack_27 : decode cX9_giveBack 27 = .ok (.isub, 1) := by decide +kernel
theorem dX9_giveBack_28 : decode cX9_giveBack 28 = .ok (.putfield 79, 3) := by decide +kernel
theorem dX9_giveBack_31 : decode cX9_giveBack 31 = .ok (.aload_n 0, 1) := by decide +kernel
theorem dX9_giveBack_32 : decode cX9_giveBack 32 = .ok (.getfield 24, 3) := by decide +kernel
theorem dX9_giveBack_35 : decode cX9_giveBack 35 = .ok (.aload_n 0, 1) := by decide +kernel
theorem dX9_giveBack_36 : decode cX9_giveBack 36 = .ok (.getfield 79, 3) := by decide +kernel
theorem dX9_giveBack_39 : decode cX9_giveBack 39 = .ok (.aaload, 1) := by decide +kernel
theorem dX9_giveBack_40 : decode cX9_giveBack 40 = .ok (.astore_n 2, 1) := by decide +kernel
theorem dX9_giveBack_41 : decode cX9_giveBack 41 = .ok (.aload_n 2, 1) := by decide +kernel
theorem dX9_giveBack_42 : decode cX9_giveBack 42 = .ok (.aload_n 1, 1) := by decide +kernel
theorem dX9_giveBack_43 : decode cX9_giveBack 43 = .ok (.invokevirtual 159, 3) := by decide +kernel
theorem dX9_giveBack_46 : decode cX9_giveBack 46 = .ok (.aload_n 0, 1) := by decide +kernel
theorem dX9_giveBack_47 : decode cX9_giveBack 47 = .ok (.getfield 18, 3) := by decide +kernel
theorem dX9_giveBack_50 : decode cX9_giveBack 50 = .ok (.aload_n 2, 1) := by decide +kernel
theorem dX9_giveBack_51 : decode cX9_giveBack 51 = .ok (.getfield 137, 3) := by decide +kernel
theorem dX9_giveBack_54 : decode cX9_giveBack 54 = .ok (.invokevirtual 138, 3) := by decide +kernel
theorem dX9_giveBack_57 : decode cX9_giveBack 57 = .ok (.aload_n 0, 1) := by decide +kernel
theorem dX9_giveBack_58 : decode cX9_giveBack 58 = .ok (.iconst 2, 1) := by decide +kernel
theorem dX9_giveBack_59 : decode cX9_giveBack 59 = .ok (.invokevirtual 82, 3) := by decide +kernel
theorem dX9_giveBack_62 : decode cX9_giveBack 62 = .ok (.aload_n 2, 1) := by decide +kernel
theorem dX9_giveBack_63 : decode cX9_giveBack 63 = .ok (.getfield 142, 3) := by decide +kernel
theorem dX9_giveBack_66 : decode cX9_giveBack 66 = .ok (.invokevirtual 138, 3) := by decide +kernel
theorem dX9_giveBack_69 : decode cX9_giveBack 69 = .ok (.aload_n 0, 1) := by decide +kernel
theorem dX9_giveBack_70 : decode cX9_giveBack 70 = .ok (.iconst 3, 1) := by decide +kernel
theorem dX9_giveBack_71 : decode cX9_giveBack 71 = .ok (.invokevirtual 82, 3) := by decide +kernel
theorem dX9_giveBack_74 : decode cX9_giveBack 74 = .ok (.aload_n 2, 1) := by decide +kernel
theorem dX9_giveBack_75 : decode cX9_giveBack 75 = .ok (.getfield 145, 3) := by decide +kernel
theorem dX9_giveBack_78 : decode cX9_giveBack 78 = .ok (.invokevirtual 138, 3) := by decide +kernel
theorem dX9_giveBack_81 : decode cX9_giveBack 81 = .ok (.aload_n 0, 1) := by decide +kernel
theorem dX9_giveBack_82 : decode cX9_giveBack 82 = .ok (.bipush 8, 2) := by decide +kernel
theorem dX9_giveBack_84 : decode cX9_giveBack 84 = .ok (.invokevirtual 82, 3) := by decide +kernel
theorem dX9_giveBack_87 : decode cX9_giveBack 87 = .ok (.aload_n 2, 1) := by decide +kernel
theorem dX9_giveBack_88 : decode cX9_giveBack 88 = .ok (.getfield 148, 3) := by decide +kernel
theorem dX9_giveBack_91 : decode cX9_giveBack 91 = .ok (.invokevirtual 138, 3) := by decide +kernel
theorem dX9_giveBack_94 : decode cX9_giveBack 94 = .ok (.aload_n 0, 1) := by decide +kernel
theorem dX9_giveBack_95 : decode cX9_giveBack 95 = .ok (.bipush 9, 2) := by decide +kernel
theorem dX9_giveBack_97 : decode cX9_giveBack 97 = .ok (.invokevirtual 82, 3) := by decide +kernel
theorem dX9_giveBack_100 : decode cX9_giveBack 100 = .ok (.aload_n 2, 1) := by decide +kernel
theorem dX9_giveBack_101 : decode cX9_giveBack 101 = .ok (.getfield 151, 3) := by decide +kernel
theorem dX9_giveBack_104 : decode cX9_giveBack 104 = .ok (.invokevirtual 138, 3) := by decide +kernel
theorem dX9_giveBack_107 : decode cX9_giveBack 107 = .ok (.aload_n 0, 1) := by decide +kernel
theorem dX9_giveBack_108 : decode cX9_giveBack 108 = .ok (.aload_n 2, 1) := by decide +kernel
theorem dX9_giveBack_109 : decode cX9_giveBack 109 = .ok (.getfield 154, 3) := by decide +kernel
theorem dX9_giveBack_112 : decode cX9_giveBack 112 = .ok (.putfield 48, 3) := by decide +kernel
theorem dX9_giveBack_115 : decode cX9_giveBack 115 = .ok (.aload_n 0, 1) := by decide +kernel
theorem dX9_giveBack_116 : decode cX9_giveBack 116 = .ok (.aload_n 2, 1) := by decide +kernel
theorem dX9_giveBack_117 : decode cX9_giveBack 117 = .ok (.getfield 155, 3) := by decide +kernel
theorem dX9_giveBack_120 : decode cX9_giveBack 120 = .ok (.putfield 90, 3) := by decide +kernel
theorem dX9_giveBack_123 : decode cX9_giveBack 123 = .ok (.aload_n 0, 1) := by decide +kernel
theorem dX9_giveBack_124 : decode cX9_giveBack 124 = .ok (.aload_n 2, 1) := by decide +kernel
theorem dX9_giveBack_125 : decode cX9_giveBack 125 = .ok (.getfield 142, 3) := by decide +kernel
theorem dX9_giveBack_128 : decode cX9_giveBack 128 = .ok (.getfield 123, 3) := by decide +kernel
theorem dX9_giveBack_131 : decode cX9_giveBack 131 = .ok (.putfield 113, 3) := by decide +kernel
theorem dX9_giveBack_134 : decode cX9_giveBack 134 = .ok (.aload_n 0, 1) := by decide +kernel
theorem dX9_giveBack_135 : decode cX9_giveBack 135 = .ok (.invokevirtual 163, 3) := by decide +kernel
theorem dX9_giveBack_138 : decode cX9_giveBack 138 = .ok (.aload_n 1, 1) := by decide +kernel
theorem dX9_giveBack_139 : decode cX9_giveBack 139 = .ok (.aload_n 0, 1) := by decide +kernel
theorem dX9_giveBack_140 : decode cX9_giveBack 140 = .ok (.getfield 107, 3) := by decide +kernel
theorem dX9_giveBack_143 : decode cX9_giveBack 143 = .ok (.aload_n 2, 1) := by decide +kernel
theorem dX9_giveBack_144 : decode cX9_giveBack 144 = .ok (.getfield 142, 3) := by decide +kernel
theorem dX9_giveBack_147 : decode cX9_giveBack 147 = .ok (.getfield 126, 3) := by decide +kernel
theorem dX9_giveBack_150 : decode cX9_giveBack 150 = .ok (.invokevirtual 166, 3) := by decide +kernel
theorem dX9_giveBack_153 : decode cX9_giveBack 153 = .ok (.return_, 1) := by decide +kernel
theorem dX9_fail_0 : decode cX9_fail 0 = .ok (.aload_n 0, 1) := by decide +kernel
theorem dX9_fail_1 : decode cX9_fail 1 = .ok (.iload_n 2, 1) := by decide +kernel
theorem dX9_fail_2 : decode cX9_fail 2 = .ok (.putfield 67, 3) := by decide +kernel
theorem dX9_fail_5 : decode cX9_fail 5 = .ok (.aload_n 0, 1) := by decide +kernel
theorem dX9_fail_6 : decode cX9_fail 6 = .ok (.aload_n 1, 1) := by decide +kernel
theorem dX9_fail_7 : decode cX9_fail 7 = .ok (.invokevirtual 171, 3) := by decide +kernel
theorem dX9_fail_10 : decode cX9_fail 10 = .ok (.aload_n 0, 1) := by decide +kernel
theorem dX9_fail_11 : decode cX9_fail 11 = .ok (.getfield 52, 3) := by decide +kernel
theorem dX9_fail_14 : decode cX9_fail 14 = .ok (.iconst 3, 1) := by decide +kernel
theorem dX9_fail_15 : decode cX9_fail 15 = .ok (.if_icmp .eq 23, 3) := by decide +kernel
theorem dX9_fail_18 : decode cX9_fail 18 = .ok (.aload_n 0, 1) := by decide +kernel
theorem dX9_fail_19 : decode cX9_fail 19 = .ok (.bipush 10, 2) := by decide +kernel
theorem dX9_fail_21 : decode cX9_fail 21 = .ok (.invokevirtual 82, 3) := by decide +kernel
theorem dX9_fail_24 : decode cX9_fail 24 = .ok (.iconst (-1), 1) := by decide +kernel
theorem dX9_fail_25 : decode cX9_fail 25 = .ok (.invokevirtual 174, 3) := by decide +kernel
theorem dX9_fail_28 : decode cX9_fail 28 = .ok (.aload_n 0, 1) := by decide +kernel
theorem dX9_fail_29 : decode cX9_fail 29 = .ok (.bipush 11, 2) := by decide +kernel
theorem dX9_fail_31 : decode cX9_fail 31 = .ok (.invokevirtual 82, 3) := by decide +kernel
theorem dX9_fail_34 : decode cX9_fail 34 = .ok (.iload_n 2, 1) := by decide +kernel
theorem dX9_fail_35 : decode cX9_fail 35 = .ok (.invokevirtual 174, 3) := by decide +kernel
theorem dX9_fail_38 : decode cX9_fail 38 = .ok (.return_, 1) := by decide +kernel
theorem dX9_filterBy_0 : decode cX9_filterBy 0 = .ok (.aload_n 0, 1) := by decide +kernel
theorem dX9_filterBy_1 : decode cX9_filterBy 1 = .ok (.getfield 13, 3) := by decide +kernel
theorem dX9_filterBy_4 : decode cX9_filterBy 4 = .ok (.astore_n 2, 1) := by decide +kernel
theorem dX9_filterBy_5 : decode cX9_filterBy 5 = .ok (.aload_n 2, 1) := by decide +kernel
theorem dX9_filterBy_6 : decode cX9_filterBy 6 = .ok (.arraylength, 1) := by decide +kernel
theorem dX9_filterBy_7 : decode cX9_filterBy 7 = .ok (.istore_n 3, 1) := by decide +kernel
theorem dX9_filterBy_8 : decode cX9_filterBy 8 = .ok (.iconst 0, 1) := by decide +kernel
theorem dX9_filterBy_9 : decode cX9_filterBy 9 = .ok (.istore 4, 2) := by decide +kernel
theorem dX9_filterBy_11 : decode cX9_filterBy 11 = .ok (.iload 4, 2) := by decide +kernel
theorem dX9_filterBy_13 : decode cX9_filterBy 13 = .ok (.iload_n 3, 1) := by decide +kernel
theorem dX9_filterBy_14 : decode cX9_filterBy 14 = .ok (.if_icmp .ge 21, 3) := by decide +kernel
theorem dX9_filterBy_17 : decode cX9_filterBy 17 = .ok (.aload_n 2, 1) := by decide +kernel
theorem dX9_filterBy_18 : decode cX9_filterBy 18 = .ok (.iload 4, 2) := by decide +kernel
theorem dX9_filterBy_20 : decode cX9_filterBy 20 = .ok (.aaload, 1) := by decide +kernel
theorem dX9_filterBy_21 : decode cX9_filterBy 21 = .ok (.astore 5, 2) := by decide +kernel
theorem dX9_filterBy_23 : decode cX9_filterBy 23 = .ok (.aload_n 1, 1) := by decide +kernel
theorem dX9_filterBy_24 : decode cX9_filterBy 24 = .ok (.aload 5, 2) := by decide +kernel
theorem dX9_filterBy_26 : decode cX9_filterBy 26 = .ok (.invokevirtual 177, 3) := by decide +kernel
theorem dX9_filterBy_29 : decode cX9_filterBy 29 = .ok (.iinc 4 1, 3) := by decide +kernel
theorem dX9_filterBy_32 : decode cX9_filterBy 32 = .ok (.goto (-21), 3) := by decide +kernel
theorem dX9_filterBy_35 : decode cX9_filterBy 35 = .ok (.aload_n 1, 1) := by decide +kernel
theorem dX9_filterBy_36 : decode cX9_filterBy 36 = .ok (.aload_n 0, 1) := by decide +kernel
theorem dX9_filterBy_37 : decode cX9_filterBy 37 = .ok (.getfield 18, 3) := by decide +kernel
theorem dX9_filterBy_40 : decode cX9_filterBy 40 = .ok (.invokevirtual 177, 3) := by decide +kernel
theorem dX9_filterBy_43 : decode cX9_filterBy 43 = .ok (.return_, 1) := by decide +kernel
theorem dX9_filterFramesBy_0 : decode cX9_filterFramesBy 0 = .ok (.iconst 0, 1) := by decide +kernel
theorem dX9_filterFramesBy_1 : decode cX9_filterFramesBy 1 = .ok (.istore_n 2, 1) := by decide +kernel
theorem dX9_filterFramesBy_2 : decode cX9_filterFramesBy 2 = .ok (.iload_n 2, 1) := by decide +kernel
theorem dX9_filterFramesBy_3 : decode cX9_filterFramesBy 3 = .ok (.aload_n 0, 1) := by decide +kernel
theorem dX9_filterFramesBy_4 : decode cX9_filterFramesBy 4 = .ok (.getfield 79, 3) := by decide +kernel
theorem dX9_filterFramesBy_7 : decode cX9_filterFramesBy 7 = .ok (.if_icmp .ge 25, 3) := by decide +kernel
theorem dX9_filterFramesBy_10 : decode cX9_filterFramesBy 10 = .ok (.iload_n 2, 1) := by decide +kernel
theorem dX9_filterFramesBy_11 : decode cX9_filterFramesBy 11 = .ok (.bipush 16, 2) := by decide +kernel
theorem dX9_filterFramesBy_13 : decode cX9_filterFramesBy 13 = .ok (.if_icmp .ge 19, 3) := by decide +kernel
theorem dX9_filterFramesBy_16 : decode cX9_filterFramesBy 16 = .ok (.aload_n 0, 1) := by decide +kernel
theorem dX9_filterFramesBy_17 : decode cX9_filterFramesBy 17 = .ok (.getfield 24, 3) := by decide +kernel
theorem dX9_filterFramesBy_20 : decode cX9_filterFramesBy 20 = .ok (.iload_n 2, 1) := by decide +kernel
theorem dX9_filterFramesBy_21 : decode cX9_filterFramesBy 21 = .ok (.aaload, 1) := by decide +kernel
theorem dX9_filterFramesBy_22 : decode cX9_filterFramesBy 22 = .ok (.aload_n 1, 1) := by decide +kernel
theorem dX9_filterFramesBy_23 : decode cX9_filterFramesBy 23 = .ok (.invokevirtual 159, 3) := by decide +kernel
theorem dX9_filterFramesBy_26 : decode cX9_filterFramesBy 26 = .ok (.iinc 2 1, 3) := by decide +kernel
theorem dX9_filterFramesBy_29 : decode cX9_filterFramesBy 29 = .ok (.goto (-27), 3) := by decide +kernel
theorem dX9_filterFramesBy_32 : decode cX9_filterFramesBy 32 = .ok (.return_, 1) := by decide +kernel
theorem dX9_restUntil_0 : decode cX9_restUntil 0 = .ok (.aload_n 0, 1) := by decide +kernel
theorem dX9_restUntil_1 : decode cX9_restUntil 1 = .ok (.iload_n 2, 1) := by decide +kernel
theorem dX9_restUntil_2 : decode cX9_restUntil 2 = .ok (.putfield 52, 3) := by decide +kernel
theorem dX9_restUntil_5 : decode cX9_restUntil 5 = .ok (.aload_n 0, 1) := by decide +kernel
theorem dX9_restUntil_6 : decode cX9_restUntil 6 = .ok (.iload_n 1, 1) := by decide +kernel
theorem dX9_restUntil_7 : decode cX9_restUntil 7 = .ok (.putfield 55, 3) := by decide +kernel
theorem dX9_restUntil_10 : decode cX9_restUntil 10 = .ok (.return_, 1) := by decide +kernel
theorem dX9_becomeReady_0 : decode cX9_becomeReady 0 = .ok (.aload_n 0, 1) := by decide +kernel
theorem dX9_becomeReady_1 : decode cX9_becomeReady 1 = .ok (.iconst 0, 1) := by decide +kernel
theorem dX9_becomeReady_2 : decode cX9_becomeReady 2 = .ok (.putfield 52, 3) := by decide +kernel
theorem dX9_becomeReady_5 : decode cX9_becomeReady 5 = .ok (.aload_n 0, 1) := by decide +kernel
theorem dX9_becomeReady_6 : decode cX9_becomeReady 6 = .ok (.iconst (-1), 1) := by decide +kernel
theorem dX9_becomeReady_7 : decode cX9_becomeReady 7 = .ok (.putfield 55, 3) := by decide +kernel
theorem dX9_becomeReady_10 : decode cX9_becomeReady 10 = .ok (.return_, 1) := by decide +kernel
theorem dX9_isDue_0 : decode cX9_isDue 0 = .ok (.aload_n 0, 1) := by decide +kernel
theorem dX9_isDue_1 : decode cX9_isDue 1 = .ok (.getfield 52, 3) := by decide +kernel
theorem dX9_isDue_4 : decode cX9_isDue 4 = .ok (.iconst 1, 1) := by decide +kernel
theorem dX9_isDue_5 : decode cX9_isDue 5 = .ok (.if_icmp .eq 11, 3) := by decide +kernel
theorem dX9_isDue_8 : decode cX9_isDue 8 = .ok (.aload_n 0, 1) := by decide +kernel
theorem dX9_isDue_9 : decode cX9_isDue 9 = .ok (.getfield 52, 3) := by decide +kernel
theorem dX9_isDue_12 : decode cX9_isDue 12 = .ok (.iconst 2, 1) := by decide +kernel
theorem dX9_isDue_13 : decode cX9_isDue 13 = .ok (.if_icmp .ne 15, 3) := by decide +kernel
theorem dX9_isDue_16 : decode cX9_isDue 16 = .ok (.aload_n 0, 1) := by decide +kernel
theorem dX9_isDue_17 : decode cX9_isDue 17 = .ok (.getfield 55, 3) := by decide +kernel
theorem dX9_isDue_20 : decode cX9_isDue 20 = .ok (.iload_n 1, 1) := by decide +kernel
theorem dX9_isDue_21 : decode cX9_isDue 21 = .ok (.if_icmp .gt 7, 3) := by decide +kernel
theorem dX9_isDue_24 : decode cX9_isDue 24 = .ok (.iconst 1, 1) := by decide +kernel
theorem dX9_isDue_25 : decode cX9_isDue 25 = .ok (.goto 4, 3) := by decide +kernel
theorem dX9_isDue_28 : decode cX9_isDue 28 = .ok (.iconst 0, 1) := by decide +kernel
theorem dX9_isDue_29 : decode cX9_isDue 29 = .ok (.ireturn, 1) := by decide +kernel
theorem dX9_goesBefore_0 : decode cX9_goesBefore 0 = .ok (.aload_n 0, 1) := by decide +kernel
theorem dX9_goesBefore_1 : decode cX9_goesBefore 1 = .ok (.getfield 33, 3) := by decide +kernel
theorem dX9_goesBefore_4 : decode cX9_goesBefore 4 = .ok (.aload_n 1, 1) := by decide +kernel
theorem dX9_goesBefore_5 : decode cX9_goesBefore 5 = .ok (.getfield 33, 3) := by decide +kernel
theorem dX9_goesBefore_8 : decode cX9_goesBefore 8 = .ok (.if_icmp .gt 25, 3) := by decide +kernel
theorem dX9_goesBefore_11 : decode cX9_goesBefore 11 = .ok (.aload_n 0, 1) := by decide +kernel
theorem dX9_goesBefore_12 : decode cX9_goesBefore 12 = .ok (.getfield 33, 3) := by decide +kernel
theorem dX9_goesBefore_15 : decode cX9_goesBefore 15 = .ok (.aload_n 1, 1) := by decide +kernel
theorem dX9_goesBefore_16 : decode cX9_goesBefore 16 = .ok (.getfield 33, 3) := by decide +kernel
theorem dX9_goesBefore_19 : decode cX9_goesBefore 19 = .ok (.if_icmp .ne 18, 3) := by decide +kernel
theorem dX9_goesBefore_22 : decode cX9_goesBefore 22 = .ok (.aload_n 0, 1) := by decide +kernel
theorem dX9_goesBefore_23 : decode cX9_goesBefore 23 = .ok (.getfield 73, 3) := by decide +kernel
theorem dX9_goesBefore_26 : decode cX9_goesBefore 26 = .ok (.aload_n 1, 1) := by decide +kernel
theorem dX9_goesBefore_27 : decode cX9_goesBefore 27 = .ok (.getfield 73, 3) := by decide +kernel
theorem dX9_goesBefore_30 : decode cX9_goesBefore 30 = .ok (.if_icmp .ge 7, 3) := by decide +kernel
theorem dX9_goesBefore_33 : decode cX9_goesBefore 33 = .ok (.iconst 1, 1) := by decide +kernel
theorem dX9_goesBefore_34 : decode cX9_goesBefore 34 = .ok (.goto 4, 3) := by decide +kernel
theorem dX9_goesBefore_37 : decode cX9_goesBefore 37 = .ok (.iconst 0, 1) := by decide +kernel
theorem dX9_goesBefore_38 : decode cX9_goesBefore 38 = .ok (.ireturn, 1) := by decide +kernel
theorem dX9_isWokenBefore_0 : decode cX9_isWokenBefore 0 = .ok (.aload_n 0, 1) := by decide +kernel
theorem dX9_isWokenBefore_1 : decode cX9_isWokenBefore 1 = .ok (.getfield 33, 3) := by decide +kernel
theorem dX9_isWokenBefore_4 : decode cX9_isWokenBefore 4 = .ok (.aload_n 1, 1) := by decide +kernel
theorem dX9_isWokenBefore_5 : decode cX9_isWokenBefore 5 = .ok (.getfield 33, 3) := by decide +kernel
theorem dX9_isWokenBefore_8 : decode cX9_isWokenBefore 8 = .ok (.if_icmp .gt 25, 3) := by decide +kernel
theorem dX9_isWokenBefore_11 : decode cX9_isWokenBefore 11 = .ok (.aload_n 0, 1) := by decide +kernel
theorem dX9_isWokenBefore_12 : decode cX9_isWokenBefore 12 = .ok (.getfield 33, 3) := by decide +kernel
theorem dX9_isWokenBefore_15 : decode cX9_isWokenBefore 15 = .ok (.aload_n 1, 1) := by decide +kernel
theorem dX9_isWokenBefore_16 : decode cX9_isWokenBefore 16 = .ok (.getfield 33, 3) := by decide +kernel
theorem dX9_isWokenBefore_19 : decode cX9_isWokenBefore 19 = .ok (.if_icmp .ne 18, 3) := by decide +kernel
theorem dX9_isWokenBefore_22 : decode cX9_isWokenBefore 22 = .ok (.aload_n 0, 1) := by decide +kernel
theorem dX9_isWokenBefore_23 : decode cX9_isWokenBefore 23 = .ok (.getfield 61, 3) := by decide +kernel
theorem dX9_isWokenBefore_26 : decode cX9_isWokenBefore 26 = .ok (.aload_n 1, 1) := by decide +kernel
theorem dX9_isWokenBefore_27 : decode cX9_isWokenBefore 27 = .ok (.getfield 61, 3) := by decide +kernel
theorem dX9_isWokenBefore_30 : decode cX9_isWokenBefore 30 = .ok (.if_icmp .ge 7, 3) := by decide +kernel
theorem dX9_isWokenBefore_33 : decode cX9_isWokenBefore 33 = .ok (.iconst 1, 1) := by decide +kernel
theorem dX9_isWokenBefore_34 : decode cX9_isWokenBefore 34 = .ok (.goto 4, 3) := by decide +kernel
theorem dX9_isWokenBefore_37 : decode cX9_isWokenBefore 37 = .ok (.iconst 0, 1) := by decide +kernel
theorem dX9_isWokenBefore_38 : decode cX9_isWokenBefore 38 = .ok (.ireturn, 1) := by decide +kernel
theorem dX9_part_0 : decode cX9_part 0 = .ok (.iload_n 1, 1) := by decide +kernel
theorem dX9_part_1 : decode cX9_part 1 = .ok (.tableswitch 107 0 7 #[47, 64, 69, 74, 87, 92, 97, 102], 47) := by decide +kernel
theorem dX9_part_48 : decode cX9_part 48 = .ok (.aload_n 0, 1) := by decide +kernel
theorem dX9_part_49 : decode cX9_part 49 = .ok (.getfield 52, 3) := by decide +kernel
theorem dX9_part_52 : decode cX9_part 52 = .ok (.iconst 4, 1) := by decide +kernel
theorem dX9_part_53 : decode cX9_part 53 = .ok (.if_icmp .ne 7, 3) := by decide +kernel
theorem dX9_part_56 : decode cX9_part 56 = .ok (.iconst 1, 1) := by decide +kernel
theorem dX9_part_57 : decode cX9_part 57 = .ok (.goto 7, 3) := by decide +kernel
theorem dX9_part_60 : decode cX9_part 60 = .ok (.aload_n 0, 1) := by decide +kernel
theorem dX9_part_61 : decode cX9_part 61 = .ok (.getfield 52, 3) := by decide +kernel
theorem dX9_part_64 : decode cX9_part 64 = .ok (.ireturn, 1) := by decide +kernel
theorem dX9_part_65 : decode cX9_part 65 = .ok (.aload_n 0, 1) := by decide +kernel
theorem dX9_part_66 : decode cX9_part 66 = .ok (.getfield 90, 3) := by decide +kernel
theorem dX9_part_69 : decode cX9_part 69 = .ok (.ireturn, 1) := by decide +kernel
theorem dX9_part_70 : decode cX9_part 70 = .ok (.aload_n 0, 1) := by decide +kernel
theorem dX9_part_71 : decode cX9_part 71 = .ok (.getfield 79, 3) := by decide +kernel
theorem dX9_part_74 : decode cX9_part 74 = .ok (.ireturn, 1) := by decide +kernel
theorem dX9_part_75 : decode cX9_part 75 = .ok (.aload_n 0, 1) := by decide +kernel
theorem dX9_part_76 : decode cX9_part 76 = .ok (.getfield 48, 3) := by decide +kernel
theorem dX9_part_79 : decode cX9_part 79 = .ok (.ifCond .eq 7, 3) := by decide +kernel
theorem dX9_part_82 : decode cX9_part 82 = .ok (.iconst 1, 1) := by decide +kernel
theorem dX9_part_83 : decode cX9_part 83 = .ok (.goto 4, 3) := by decide +kernel
theorem dX9_part_86 : decode cX9_part 86 = .ok (.iconst 0, 1) := by decide +kernel
theorem dX9_part_87 : decode cX9_part 87 = .ok (.ireturn, 1) := by decide +kernel
theorem dX9_part_88 : decode cX9_part 88 = .ok (.aload_n 0, 1) := by decide +kernel
theorem dX9_part_89 : decode cX9_part 89 = .ok (.getfield 67, 3) := by decide +kernel
theorem dX9_part_92 : decode cX9_part 92 = .ok (.ireturn, 1) := by decide +kernel
theorem dX9_part_93 : decode cX9_part 93 = .ok (.aload_n 0, 1) := by decide +kernel
theorem dX9_part_94 : decode cX9_part 94 = .ok (.getfield 70, 3) := by decide +kernel
theorem dX9_part_97 : decode cX9_part 97 = .ok (.ireturn, 1) := by decide +kernel
theorem dX9_part_98 : decode cX9_part 98 = .ok (.aload_n 0, 1) := by decide +kernel
theorem dX9_part_99 : decode cX9_part 99 = .ok (.getfield 55, 3) := by decide +kernel
theorem dX9_part_102 : decode cX9_part 102 = .ok (.ireturn, 1) := by decide +kernel
theorem dX9_part_103 : decode cX9_part 103 = .ok (.aload_n 0, 1) := by decide +kernel
theorem dX9_part_104 : decode cX9_part 104 = .ok (.getfield 107, 3) := by decide +kernel
theorem dX9_part_107 : decode cX9_part 107 = .ok (.ireturn, 1) := by decide +kernel
theorem dX9_part_108 : decode cX9_part 108 = .ok (.iconst (-1), 1) := by decide +kernel
theorem dX9_part_109 : decode cX9_part 109 = .ok (.ireturn, 1) := by decide +kernel
theorem dX10_init_0 : decode cX10_init 0 = .ok (.aload_n 0, 1) := by decide +kernel
theorem dX10_init_1 : decode cX10_init 1 = .ok (.invokespecial 3, 3) := by decide +kernel
theorem dX10_init_4 : decode cX10_init 4 = .ok (.aload_n 0, 1) := by decide +kernel
theorem dX10_init_5 : decode cX10_init 5 = .ok (.new 9, 3) := by decide +kernel
theorem dX10_init_8 : decode cX10_init 8 = .ok (.dup, 1) := by decide +kernel
theorem dX10_init_9 : decode cX10_init 9 = .ok (.bipush 64, 2) := by decide +kernel
theorem dX10_init_11 : decode cX10_init 11 = .ok (.invokespecial 11, 3) := by decide +kernel
theorem dX10_init_14 : decode cX10_init 14 = .ok (.putfield 14, 3) := by decide +kernel
theorem dX10_init_17 : decode cX10_init 17 = .ok (.aload_n 0, 1) := by decide +kernel
theorem dX10_init_18 : decode cX10_init 18 = .ok (.new 9, 3) := by decide +kernel
theorem dX10_init_21 : decode cX10_init 21 = .ok (.dup, 1) := by decide +kernel
theorem dX10_init_22 : decode cX10_init 22 = .ok (.sipush 500, 3) := by decide +kernel
theorem dX10_init_25 : decode cX10_init 25 = .ok (.invokespecial 11, 3) := by decide +kernel
theorem dX10_init_28 : decode cX10_init 28 = .ok (.putfield 20, 3) := by decide +kernel
theorem dX10_init_31 : decode cX10_init 31 = .ok (.aload_n 0, 1) := by decide +kernel
theorem dX10_init_32 : decode cX10_init 32 = .ok (.bipush 8, 2) := by decide +kernel
theorem dX10_init_34 : decode cX10_init 34 = .ok (.anewarray 23, 3) := by decide +kernel
theorem dX10_init_37 : decode cX10_init 37 = .ok (.putfield 25, 3) := by decide +kernel
theorem dX10_init_40 : decode cX10_init 40 = .ok (.aload_n 0, 1) := by decide +kernel
theorem dX10_init_41 : decode cX10_init 41 = .ok (.bipush 6, 2) := by decide +kernel
theorem dX10_init_43 : decode cX10_init 43 = .ok (.anewarray 29, 3) := by decide +kernel
theorem dX10_init_46 : decode cX10_init 46 = .ok (.putfield 31, 3) := by decide +kernel
theorem dX10_init_49 : decode cX10_init 49 = .ok (.aload_n 0, 1) := by decide +kernel
theorem dX10_init_50 : decode cX10_init 50 = .ok (.new 35, 3) := by decide +kernel
theorem dX10_init_53 : decode cX10_init 53 = .ok (.dup, 1) := by decide +kernel
theorem dX10_init_54 : decode cX10_init 54 = .ok (.invokespecial 37, 3) := by decide +kernel
theorem dX10_init_57 : decode cX10_init 57 = .ok (.putfield 38, 3) := by decide +kernel
theorem dX10_init_60 : decode cX10_init 60 = .ok (.aload_n 0, 1) := by decide +kernel
theorem dX10_init_61 : decode cX10_init 61 = .ok (.iconst (-1), 1) := by decide +kernel
theorem dX10_init_62 : decode cX10_init 62 = .ok (.putfield 42, 3) := by decide +kernel
theorem dX10_init_65 : decode cX10_init 65 = .ok (.aload_n 0, 1) := by decide +kernel
theorem dX10_init_66 : decode cX10_init 66 = .ok (.new 46, 3) := by decide +kernel
theorem dX10_init_69 : decode cX10_init 69 = .ok (.dup, 1) := by decide +kernel
theorem dX10_init_70 : decode cX10_init 70 = .ok (.iload_n 1, 1) := by decide +kernel
theorem dX10_init_71 : decode cX10_init 71 = .ok (.invokespecial 48, 3) := by decide +kernel
theorem dX10_init_74 : decode cX10_init 74 = .ok (.putfield 49, 3) := by decide +kernel
theorem dX10_init_77 : decode cX10_init 77 = .ok (.aload_n 0, 1) := by decide +kernel
theorem dX10_init_78 : decode cX10_init 78 = .ok (.new 53, 3) := by decide +kernel
theorem dX10_init_81 : decode cX10_init 81 = .ok (.dup, 1) := by decide +kernel
theorem dX10_init_82 : decode cX10_init 82 = .ok (.iload_n 1, 1) := by decide +kernel
theorem dX10_init_83 : decode cX10_init 83 = .ok (.invokespecial 55, 3) := by decide +kernel
theorem dX10_init_86 : decode cX10_init 86 = .ok (.putfield 56, 3) := by decide +kernel
theorem dX10_init_89 : decode cX10_init 89 = .ok (.iconst 0, 1) := by decide +kernel
theorem dX10_init_90 : decode cX10_init 90 = .ok (.istore_n 2, 1) := by decide +kernel
theorem dX10_init_91 : decode cX10_init 91 = .ok (.iload_n 2, 1) := by decide +kernel
theorem dX10_init_92 : decode cX10_init 92 = .ok (.bipush 8, 2) := by decide +kernel
theorem dX10_init_94 : decode cX10_init 94 = .ok (.if_icmp .ge 22, 3) := by decide +kernel
theorem dX10_init_97 : decode cX10_init 97 = .ok (.aload_n 0, 1) := by decide +kernel
theorem dX10_init_98 : decode cX10_init 98 = .ok (.getfield 25, 3) := by decide +kernel
theorem dX10_init_101 : decode cX10_init 101 = .ok (.iload_n 2, 1) := by decide +kernel
theorem dX10_init_102 : decode cX10_init 102 = .ok (.new 23, 3) := by decide +kernel
theorem dX10_init_105 : decode cX10_init 105 = .ok (.dup, 1) := by decide +kernel
theorem dX10_init_106 : decode cX10_init 106 = .ok (.invokespecial 60, 3) := by decide +kernel
theorem dX10_init_109 : decode cX10_init 109 = .ok (.aastore, 1) := by decide +kernel
theorem dX10_init_110 : decode cX10_init 110 = .ok (.iinc 2 1, 3) := by decide +kernel
theorem dX10_init_113 : decode cX10_init 113 = .ok (.goto (-22), 3) := by decide +kernel
theorem dX10_init_116 : decode cX10_init 116 = .ok (.iconst 0, 1) := by decide +kernel
theorem dX10_init_117 : decode cX10_init 117 = .ok (.istore_n 2, 1) := by decide +kernel
theorem dX10_init_118 : decode cX10_init 118 = .ok (.iload_n 2, 1) := by decide +kernel
theorem dX10_init_119 : decode cX10_init 119 = .ok (.bipush 6, 2) := by decide +kernel
theorem dX10_init_121 : decode cX10_init 121 = .ok (.if_icmp .ge 23, 3) := by decide +kernel
theorem dX10_init_124 : decode cX10_init 124 = .ok (.aload_n 0, 1) := by decide +kernel
theorem dX10_init_125 : decode cX10_init 125 = .ok (.getfield 31, 3) := by decide +kernel
theorem dX10_init_128 : decode cX10_init 128 = .ok (.iload_n 2, 1) := by decide +kernel
theorem dX10_init_129 : decode cX10_init 129 = .ok (.new 29, 3) := by decide +kernel
theorem dX10_init_132 : decode cX10_init 132 = .ok (.dup, 1) := by decide +kernel
theorem dX10_init_133 : decode cX10_init 133 = .ok (.iload_n 2, 1) := by decide +kernel
theorem dX10_init_134 : decode cX10_init 134 = .ok (.invokespecial 61, 3) := by decide +kernel
theorem dX10_init_137 : decode cX10_init 137 = .ok (.aastore, 1) := by decide +kernel
theorem dX10_init_138 : decode cX10_init 138 = .ok (.iinc 2 1, 3) := by decide +kernel
theorem dX10_init_141 : decode cX10_init 141 = .ok (.goto (-23), 3) := by decide +kernel
theorem dX10_init_144 : decode cX10_init 144 = .ok (.return_, 1) := by decide +kernel
theorem dX10_reset_0 : decode cX10_reset 0 = .ok (.aload_n 0, 1) := by decide +kernel
theorem dX10_reset_1 : decode cX10_reset 1 = .ok (.getfield 49, 3) := by decide +kernel
theorem dX10_reset_4 : decode cX10_reset 4 = .ok (.invokevirtual 62, 3) := by decide +kernel
theorem dX10_reset_7 : decode cX10_reset 7 = .ok (.aload_n 0, 1) := by decide +kernel
theorem dX10_reset_8 : decode cX10_reset 8 = .ok (.getfield 56, 3) := by decide +kernel
theorem dX10_reset_11 : decode cX10_reset 11 = .ok (.iconst 0, 1) := by decide +kernel
theorem dX10_reset_12 : decode cX10_reset 12 = .ok (.invokevirtual 65, 3) := by decide +kernel
theorem dX10_reset_15 : decode cX10_reset 15 = .ok (.aload_n 0, 1) := by decide +kernel
theorem dX10_reset_16 : decode cX10_reset 16 = .ok (.getfield 14, 3) := by decide +kernel
theorem dX10_reset_19 : decode cX10_reset 19 = .ok (.invokevirtual 67, 3) := by decide +kernel
theorem dX10_reset_22 : decode cX10_reset 22 = .ok (.aload_n 0, 1) := by decide +kernel
theorem dX10_reset_23 : decode cX10_reset 23 = .ok (.getfield 20, 3) := by decide +kernel
theorem dX10_reset_26 : decode cX10_reset 26 = .ok (.invokevirtual 67, 3) := by decide +kernel
theorem dX10_reset_29 : decode cX10_reset 29 = .ok (.aload_n 0, 1) := by decide +kernel
theorem dX10_reset_30 : decode cX10_reset 30 = .ok (.iconst 0, 1) := by decide +kernel
theorem dX10_reset_31 : decode cX10_reset 31 = .ok (.putfield 68, 3) := by decide +kernel
theorem dX10_reset_34 : decode cX10_reset 34 = .ok (.aload_n 0, 1) := by decide +kernel
theorem dX10_reset_35 : decode cX10_reset 35 = .ok (.iconst 0, 1) := by decide +kernel
theorem dX10_reset_36 : decode cX10_reset 36 = .ok (.putfield 71, 3) := by decide +kernel
theorem dX10_reset_39 : decode cX10_reset 39 = .ok (.aload_n 0, 1) := by decide +kernel
theorem dX10_reset_40 : decode cX10_reset 40 = .ok (.iconst 0, 1) := by decide +kernel
theorem dX10_reset_41 : decode cX10_reset 41 = .ok (.putfield 74, 3) := by decide +kernel
theorem dX10_reset_44 : decode cX10_reset 44 = .ok (.aload_n 0, 1) := by decide +kernel
theorem dX10_reset_45 : decode cX10_reset 45 = .ok (.iconst 0, 1) := by decide +kernel
theorem dX10_reset_46 : decode cX10_reset 46 = .ok (.putfield 78, 3) := by decide +kernel
theorem dX10_reset_49 : decode cX10_reset 49 = .ok (.aload_n 0, 1) := by decide +kernel
theorem dX10_reset_50 : decode cX10_reset 50 = .ok (.iconst (-1), 1) := by decide +kernel
theorem dX10_reset_51 : decode cX10_reset 51 = .ok (.putfield 42, 3) := by decide +kernel
theorem dX10_reset_54 : decode cX10_reset 54 = .ok (.aload_n 0, 1) := by decide +kernel
theorem dX10_reset_55 : decode cX10_reset 55 = .ok (.iconst 0, 1) := by decide +kernel
theorem dX10_reset_56 : decode cX10_reset 56 = .ok (.putfield 81, 3) := by decide +kernel
theorem dX10_reset_59 : decode cX10_reset 59 = .ok (.aload_n 0, 1) := by decide +kernel
theorem dX10_reset_60 : decode cX10_reset 60 = .ok (.iconst 0, 1) := by decide +kernel
theorem dX10_reset_61 : decode cX10_reset 61 = .ok (.putfield 84, 3) := by decide +kernel
theorem dX10_reset_64 : decode cX10_reset 64 = .ok (.aload_n 0, 1) := by decide +kernel
theorem dX10_reset_65 : decode cX10_reset 65 = .ok (.iconst 0, 1) := by decide +kernel
theorem dX10_reset_66 : decode cX10_reset 66 = .ok (.putfield 87, 3) := by decide +kernel
theorem dX10_reset_69 : decode cX10_reset 69 = .ok (.aload_n 0, 1) := by decide +kernel
theorem dX10_reset_70 : decode cX10_reset 70 = .ok (.iconst 0, 1) := by decide +kernel
theorem dX10_reset_71 : decode cX10_reset 71 = .ok (.putfield 90, 3) := by decide +kernel
theorem dX10_reset_74 : decode cX10_reset 74 = .ok (.aload_n 0, 1) := by decide +kernel
theorem dX10_reset_75 : decode cX10_reset 75 = .ok (.iconst 0, 1) := by decide +kernel
theorem dX10_reset_76 : decode cX10_reset 76 = .ok (.putfield 93, 3) := by decide +kernel
theorem dX10_reset_79 : decode cX10_reset 79 = .ok (.return_, 1) := by decide +kernel
theorem dX10_open_0 : decode cX10_open 0 = .ok (.aload_n 0, 1) := by decide +kernel
theorem dX10_open_1 : decode cX10_open 1 = .ok (.iload_n 1, 1) := by decide +kernel
theorem dX10_open_2 : decode cX10_open 2 = .ok (.bipush 8, 2) := by decide +kernel
theorem dX10_open_4 : decode cX10_open 4 = .ok (.invokestatic 96, 3) := by decide +kernel
theorem dX10_open_7 : decode cX10_open 7 = .ok (.putfield 68, 3) := by decide +kernel
theorem dX10_open_10 : decode cX10_open 10 = .ok (.aload_n 0, 1) := by decide +kernel
theorem dX10_open_11 : decode cX10_open 11 = .ok (.iload_n 2, 1) := by decide +kernel
theorem dX10_open_12 : decode cX10_open 12 = .ok (.bipush 6, 2) := by decide +kernel
theorem dX10_open_14 : decode cX10_open 14 = .ok (.invokestatic 96, 3) := by decide +kernel
theorem dX10_open_17 : decode cX10_open 17 = .ok (.putfield 71, 3) := by decide +kernel
theorem dX10_open_20 : decode cX10_open 20 = .ok (.aload_n 0, 1) := by decide +kernel
theorem dX10_open_21 : decode cX10_open 21 = .ok (.iconst 1, 1) := by decide +kernel
theorem dX10_open_22 : decode cX10_open 22 = .ok (.putfield 74, 3) := by decide +kernel
theorem dX10_open_25 : decode cX10_open 25 = .ok (.return_, 1) := by decide +kernel
theorem dX10_taskAt_0 : decode cX10_taskAt 0 = .ok (.iload_n 1, 1) := by decide +kernel
theorem dX10_taskAt_1 : decode cX10_taskAt 1 = .ok (.ifCond .lt 26, 3) := by decide +kernel
theorem dX10_taskAt_4 : decode cX10_taskAt 4 = .ok (.iload_n 1, 1) := by decide +kernel
theorem dX10_taskAt_5 : decode cX10_taskAt 5 = .ok (.aload_n 0, 1) := by decide +kernel
theorem dX10_taskAt_6 : decode cX10_taskAt 6 = .ok (.getfield 71, 3) := by decide +kernel
theorem dX10_taskAt_9 : decode cX10_taskAt 9 = .ok (.if_icmp .ge 18, 3) := by decide +kernel
theorem dX10_taskAt_12 : decode cX10_taskAt 12 = .ok (.iload_n 1, 1) := by decide +kernel
theorem dX10_taskAt_13 : decode cX10_taskAt 13 = .ok (.bipush 6, 2) := by decide +kernel
theorem dX10_taskAt_15 : decode cX10_taskAt 15 = .ok (.if_icmp .ge 12, 3) := by decide +kernel
theorem dX10_taskAt_18 : decode cX10_taskAt 18 = .ok (.aload_n 0, 1) := by decide +kernel
theorem dX10_taskAt_19 : decode cX10_taskAt 19 = .ok (.getfield 31, 3) := by decide +kernel
theorem dX10_taskAt_22 : decode cX10_taskAt 22 = .ok (.iload_n 1, 1) := by decide +kernel
theorem dX10_taskAt_23 : decode cX10_taskAt 23 = .ok (.aaload, 1) := by decide +kernel
theorem dX10_taskAt_24 : decode cX10_taskAt 24 = .ok (.goto 4, 3) := by decide +kernel
theorem dX10_taskAt_27 : decode cX10_taskAt 27 = .ok (.aconst_null, 1) := by decide +kernel
theorem dX10_taskAt_28 : decode cX10_taskAt 28 = .ok (.areturn, 1) := by decide +kernel
theorem dX10_compartmentAt_0 : decode cX10_compartmentAt 0 = .ok (.iload_n 1, 1) := by decide +kernel
theorem dX10_compartmentAt_1 : decode cX10_compartmentAt 1 = .ok (.ifCond .lt 26, 3) := by decide +kernel
theorem dX10_compartmentAt_4 : decode cX10_compartmentAt 4 = .ok (.iload_n 1, 1) := by decide +kernel
theorem dX10_compartmentAt_5 : decode cX10_compartmentAt 5 = .ok (.aload_n 0, 1) := by decide +kernel
theorem dX10_compartmentAt_6 : decode cX10_compartmentAt 6 = .ok (.getfield 68, 3) := by decide +kernel
theorem dX10_compartmentAt_9 : decode cX10_compartmentAt 9 = .ok (.if_icmp .ge 18, 3) := by decide +kernel
theorem dX10_compartmentAt_12 : decode cX10_compartmentAt 12 = .ok (.iload_n 1, 1) := by decide +kernel
theorem dX10_compartmentAt_13 : decode cX10_compartmentAt 13 = .ok (.bipush 8, 2) := by decide +kernel
theorem dX10_compartmentAt_15 : decode cX10_compartmentAt 15 = .ok (.if_icmp .ge 12, 3) := by decide +kernel
theorem dX10_compartmentAt_18 : decode cX10_compartmentAt 18 = .ok (.aload_n 0, 1) := by decide +kernel
theorem dX10_compartmentAt_19 : decode cX10_compartmentAt 19 = .ok (.getfield 25, 3) := by decide +kernel
theorem dX10_compartmentAt_22 : decode cX10_compartmentAt 22 = .ok (.iload_n 1, 1) := by decide +kernel
theorem dX10_compartmentAt_23 : decode cX10_compartmentAt 23 = .ok (.aaload, 1) := by decide +kernel
theorem dX10_compartmentAt_24 : decode cX10_compartmentAt 24 = .ok (.goto 4, 3) := by decide +kernel
theorem dX10_compartmentAt_27 : decode cX10_compartmentAt 27 = .ok (.aconst_null, 1) := by decide +kernel
theorem dX10_compartmentAt_28 : decode cX10_compartmentAt 28 = .ok (.areturn, 1) := by decide +kernel
theorem dX10_stands_0 : decode cX10_stands 0 = .ok (.iconst 0, 1) := by decide +kernel
theorem dX10_stands_1 : decode cX10_stands 1 = .ok (.istore_n 1, 1) := by decide +kernel
theorem dX10_stands_2 : decode cX10_stands 2 = .ok (.iload_n 1, 1) := by decide +kernel
theorem dX10_stands_3 : decode cX10_stands 3 = .ok (.aload_n 0, 1) := by decide +kernel
theorem dX10_stands_4 : decode cX10_stands 4 = .ok (.getfield 71, 3) := by decide +kernel
theorem dX10_stands_7 : decode cX10_stands 7 = .ok (.if_icmp .ge 24, 3) := by decide +kernel
theorem dX10_stands_10 : decode cX10_stands 10 = .ok (.aload_n 0, 1) := by decide +kernel
theorem dX10_stands_11 : decode cX10_stands 11 = .ok (.getfield 31, 3) := by decide +kernel
theorem dX10_stands_14 : decode cX10_stands 14 = .ok (.iload_n 1, 1) := by decide +kernel
theorem dX10_stands_15 : decode cX10_stands 15 = .ok (.aaload, 1) := by decide +kernel
theorem dX10_stands_16 : decode cX10_stands 16 = .ok (.getfield 102, 3) := by decide +kernel
theorem dX10_stands_19 : decode cX10_stands 19 = .ok (.iconst 3, 1) := by decide +kernel
theorem dX10_stands_20 : decode cX10_stands 20 = .ok (.if_icmp .eq 5, 3) := by decide +kernel
theorem dX10_stands_23 : decode cX10_stands 23 = .ok (.iconst 0, 1) := by decide +kernel
theorem dX10_stands_24 : decode cX10_stands 24 = .ok (.ireturn, 1) := by decide +kernel
theorem dX10_stands_25 : decode cX10_stands 25 = .ok (.iinc 1 1, 3) := by decide +kernel
theorem dX10_stands_28 : decode cX10_stands 28 = .ok (.goto (-26), 3) := by decide +kernel
theorem dX10_stands_31 : decode cX10_stands 31 = .ok (.iconst 1, 1) := by decide +kernel
theorem dX10_stands_32 : decode cX10_stands 32 = .ok (.ireturn, 1) := by decide +kernel
theorem dX10_tick_0 : decode cX10_tick 0 = .ok (.aload_n 0, 1) := by decide +kernel
theorem dX10_tick_1 : decode cX10_tick 1 = .ok (.dup, 1) := by decide +kernel
theorem dX10_tick_2 : decode cX10_tick 2 = .ok (.getfield 78, 3) := by decide +kernel
theorem dX10_tick_5 : decode cX10_tick 5 = .ok (.iconst 1, 1) := by decide +kernel
theorem dX10_tick_6 : decode cX10_tick 6 = .ok (.iadd, 1) := by decide +kernel
theorem dX10_tick_7 : decode cX10_tick 7 = .ok (.putfield 78, 3) := by decide +kernel
theorem dX10_tick_10 : decode cX10_tick 10 = .ok (.iconst 0, 1) := by decide +kernel
theorem dX10_tick_11 : decode cX10_tick 11 = .ok (.istore_n 1, 1) := by decide +kernel
theorem dX10_tick_12 : decode cX10_tick 12 = .ok (.iload_n 1, 1) := by decide +kernel
theorem dX10_tick_13 : decode cX10_tick 13 = .ok (.aload_n 0, 1) := by decide +kernel
theorem dX10_tick_14 : decode cX10_tick 14 = .ok (.getfield 71, 3) := by decide +kernel
theorem dX10_tick_17 : decode cX10_tick 17 = .ok (.if_icmp .ge 34, 3) := by decide +kernel
theorem dX10_tick_20 : decode cX10_tick 20 = .ok (.aload_n 0, 1) := by decide +kernel
theorem dX10_tick_21 : decode cX10_tick 21 = .ok (.getfield 31, 3) := by decide +kernel
theorem dX10_tick_24 : decode cX10_tick 24 = .ok (.iload_n 1, 1) := by decide +kernel
theorem dX10_tick_25 : decode cX10_tick 25 = .ok (.aaload, 1) := by decide +kernel
theorem dX10_tick_26 : decode cX10_tick 26 = .ok (.aload_n 0, 1) := by decide +kernel
theorem dX10_tick_27 : decode cX10_tick 27 = .ok (.getfield 78, 3) := by decide +kernel
theorem dX10_tick_30 : decode cX10_tick 30 = .ok (.invokevirtual 105, 3) := by decide +kernel
theorem dX10_tick_33 : decode cX10_tick 33 = .ok (.ifCond .eq 12, 3) := by decide +kernel
theorem dX10_tick_36 : decode cX10_tick 36 = .ok (.aload_n 0, 1) := by decide +kernel
theorem dX10_tick_37 : decode cX10_tick 37 = .ok (.getfield 31, 3) := by decide +kernel
theorem dX10_tick_40 : decode cX10_tick 40 = .ok (.iload_n 1, 1) := by decide +kernel
theorem dX10_tick_41 : decode cX10_tick 41 = .ok (.aaload, 1) := by decide +kernel
theorem dX10_tick_42 : decode cX10_tick 42 = .ok (.invokevirtual 109, 3) := by decide +kernel
theorem dX10_tick_45 : decode cX10_tick 45 = .ok (.iinc 1 1, 3) := by decide +kernel
theorem dX10_tick_48 : decode cX10_tick 48 = .ok (.goto (-36), 3) := by decide +kernel
theorem dX10_tick_51 : decode cX10_tick 51 = .ok (.aload_n 0, 1) := by decide +kernel
theorem dX10_tick_52 : decode cX10_tick 52 = .ok (.aload_n 0, 1) := by decide +kernel
theorem dX10_tick_53 : decode cX10_tick 53 = .ok (.getfield 42, 3) := by decide +kernel
theorem dX10_tick_56 : decode cX10_tick 56 = .ok (.invokevirtual 112, 3) := by decide +kernel
theorem dX10_tick_59 : decode cX10_tick 59 = .ok (.astore_n 1, 1) := by decide +kernel
theorem dX10_tick_60 : decode cX10_tick 60 = .ok (.aload_n 1, 1) := by decide +kernel
theorem dX10_tick_61 : decode cX10_tick 61 = .ok (.ifnull 18, 3) := by decide +kernel
theorem dX10_tick_64 : decode cX10_tick 64 = .ok (.aload_n 1, 1) := by decide +kernel
theorem dX10_tick_65 : decode cX10_tick 65 = .ok (.getfield 102, 3) := by decide +kernel
theorem dX10_tick_68 : decode cX10_tick 68 = .ok (.ifCond .ne 11, 3) := by decide +kernel
theorem dX10_tick_71 : decode cX10_tick 71 = .ok (.aload_n 0, 1) := by decide +kernel
theorem dX10_tick_72 : decode cX10_tick 72 = .ok (.aload_n 1, 1) := by decide +kernel
theorem dX10_tick_73 : decode cX10_tick 73 = .ok (.invokevirtual 116, 3) := by decide +kernel
theorem dX10_tick_76 : decode cX10_tick 76 = .ok (.ifCond .eq 11, 3) := by decide +kernel
theorem dX10_tick_79 : decode cX10_tick 79 = .ok (.aload_n 0, 1) := by decide +kernel
theorem dX10_tick_80 : decode cX10_tick 80 = .ok (.aload_n 0, 1) := by decide +kernel
theorem dX10_tick_81 : decode cX10_tick 81 = .ok (.invokevirtual 120, 3) := by decide +kernel
theorem dX10_tick_84 : decode cX10_tick 84 = .ok (.invokevirtual 124, 3) := by decide +kernel
theorem dX10_tick_87 : decode cX10_tick 87 = .ok (.aload_n 0, 1) := by decide +kernel
theorem dX10_tick_88 : decode cX10_tick 88 = .ok (.aload_n 0, 1) := by decide +kernel
theorem dX10_tick_89 : decode cX10_tick 89 = .ok (.getfield 42, 3) := by decide +kernel
theorem dX10_tick_92 : decode cX10_tick 92 = .ok (.invokevirtual 112, 3) := by decide +kernel
theorem dX10_tick_95 : decode cX10_tick 95 = .ok (.astore_n 2, 1) := by decide +kernel
theorem dX10_tick_96 : decode cX10_tick 96 = .ok (.aload_n 2, 1) := by decide +kernel
theorem dX10_tick_97 : decode cX10_tick 97 = .ok (.ifnull 21, 3) := by decide +kernel
theorem dX10_tick_100 : decode cX10_tick 100 = .ok (.aload_n 2, 1) := by decide +kernel
theorem dX10_tick_101 : decode cX10_tick 101 = .ok (.aload_n 0, 1) := by decide +kernel
theorem dX10_tick_102 : decode cX10_tick 102 = .ok (.getfield 78, 3) := by decide +kernel
theorem dX10_tick_105 : decode cX10_tick 105 = .ok (.putfield 127, 3) := by decide +kernel
theorem dX10_tick_108 : decode cX10_tick 108 = .ok (.aload_n 0, 1) := by decide +kernel
theorem dX10_tick_109 : decode cX10_tick 109 = .ok (.dup, 1) := by decide +kernel
theorem dX10_tick_110 : decode cX10_tick 110 = .ok (.getfield 81, 3) := by decide +kernel
theorem dX10_tick_113 : decode cX10_tick 113 = .ok (.iconst 1, 1) := by decide +kernel
theorem dX10_tick_114 : decode cX10_tick 114 = .ok (.iadd, 1) := by decide +kernel
theorem dX10_tick_115 : decode cX10_tick 115 = .ok (.putfield 81, 3) := by decide +kernel
theorem dX10_tick_118 : decode cX10_tick 118 = .ok (.return_, 1) := by decide +kernel
theorem dX10_mustLeave_0 : decode cX10_mustLeave 0 = .ok (.aload_n 0, 1) := by decide +kernel
theorem dX10_mustLeave_1 : decode cX10_mustLeave 1 = .ok (.getfield 81, 3) := by decide +kernel
theorem dX10_mustLeave_4 : decode cX10_mustLeave 4 = .ok (.bipush 50, 2) := by decide +kernel
theorem dX10_mustLeave_6 : decode cX10_mustLeave 6 = .ok (.if_icmp .lt 10, 3) := by decide +kernel
theorem dX10_mustLeave_9 : decode cX10_mustLeave 9 = .ok (.aload_n 1, 1) := by decide +kernel
theorem dX10_mustLeave_10 : decode cX10_mustLeave 10 = .ok (.getfield 130, 3) := by decide +kernel
theorem dX10_mustLeave_13 : decode cX10_mustLeave 13 = .ok (.goto 9, 3) := by decide +kernel
theorem dX10_mustLeave_16 : decode cX10_mustLeave 16 = .ok (.aload_n 1, 1) := by decide +kernel
theorem dX10_mustLeave_17 : decode cX10_mustLeave 17 = .ok (.getfield 130, 3) := by decide +kernel
theorem dX10_mustLeave_20 : decode cX10_mustLeave 20 = .ok (.iconst 1, 1) := by decide +kernel
theorem dX10_mustLeave_21 : decode cX10_mustLeave 21 = .ok (.iadd, 1) := by decide +kernel
theorem dX10_mustLeave_22 : decode cX10_mustLeave 22 = .ok (.istore_n 2, 1) := by decide +kernel
theorem dX10_mustLeave_23 : decode cX10_mustLeave 23 = .ok (.iconst 0, 1) := by decide +kernel
theorem dX10_mustLeave_24 : decode cX10_mustLeave 24 = .ok (.istore_n 3, 1) := by decide +kernel
theorem dX10_mustLeave_25 : decode cX10_mustLeave 25 = .ok (.iload_n 3, 1) := by decide +kernel
theorem dX10_mustLeave_26 : decode cX10_mustLeave 26 = .ok (.aload_n 0, 1) := by decide +kernel
theorem dX10_mustLeave_27 : decode cX10_mustLeave 27 = .ok (.getfield 71, 3) := by decide +kernel
theorem dX10_mustLeave_30 : decode cX10_mustLeave 30 = .ok (.if_icmp .ge 47, 3) := by decide +kernel
theorem dX10_mustLeave_33 : decode cX10_mustLeave 33 = .ok (.iload_n 3, 1) := by decide +kernel
theorem dX10_mustLeave_34 : decode cX10_mustLeave 34 = .ok (.aload_n 1, 1) := by decide +kernel
theorem dX10_mustLeave_35 : decode cX10_mustLeave 35 = .ok (.getfield 133, 3) := by decide +kernel
theorem dX10_mustLeave_38 : decode cX10_mustLeave 38 = .ok (.if_icmp .eq 33, 3) := by decide +kernel
theorem dX10_mustLeave_41 : decode cX10_mustLeave 41 = .ok (.aload_n 0, 1) := by decide +kernel
theorem dX10_mustLeave_42 : decode cX10_mustLeave 42 = .ok (.getfield 31, 3) := by decide +kernel
theorem dX10_mustLeave_45 : decode cX10_mustLeave 45 = .ok (.iload_n 3, 1) := by decide +kernel
theorem dX10_mustLeave_46 : decode cX10_mustLeave 46 = .ok (.aaload, 1) := by decide +kernel
theorem dX10_mustLeave_47 : decode cX10_mustLeave 47 = .ok (.getfield 102, 3) := by decide +kernel
theorem dX10_mustLeave_50 : decode cX10_mustLeave 50 = .ok (.ifCond .ne 21, 3) := by decide +kernel
theorem dX10_mustLeave_53 : decode cX10_mustLeave 53 = .ok (.aload_n 0, 1) := by decide +kernel
theorem dX10_mustLeave_54 : decode cX10_mustLeave 54 = .ok (.getfield 31, 3) := by decide +kernel
theorem dX10_mustLeave_57 : decode cX10_mustLeave 57 = .ok (.iload_n 3, 1) := by decide +kernel
theorem dX10_mustLeave_58 : decode cX10_mustLeave 58 = .ok (.aaload, 1) := by decide +kernel
theorem dX10_mustLeave_59 : decode cX10_mustLeave 59 = .ok (.getfield 130, 3) := by decide +kernel
theorem dX10_mustLeave_62 : decode cX10_mustLeave 62 = .ok (.iload_n 2, 1) := by decide +kernel
theorem dX10_mustLeave_63 : decode cX10_mustLeave 63 = .ok (.if_icmp .lt 8, 3) := by decide +kernel
theorem dX10_mustLeave_66 : decode cX10_mustLeave 66 = .ok (.aload_n 1, 1) := by decide +kernel
theorem dX10_mustLeave_67 : decode cX10_mustLeave 67 = .ok (.getfield 136, 3) := by decide +kernel
theorem dX10_mustLeave_70 : decode cX10_mustLeave 70 = .ok (.ireturn, 1) := by decide +kernel
theorem dX10_mustLeave_71 : decode cX10_mustLeave 71 = .ok (.iinc 3 1, 3) := by decide +kernel
theorem dX10_mustLeave_74 : decode cX10_mustLeave 74 = .ok (.goto (-49), 3) := by decide +kernel
theorem dX10_mustLeave_77 : decode cX10_mustLeave 77 = .ok (.iconst 0, 1) := by decide +kernel
theorem dX10_mustLeave_78 : decode cX10_mustLeave 78 = .ok (.ireturn, 1) := by decide +kernel
theorem dX10_best_0 : decode cX10_best 0 = .ok (.iconst (-1), 1) := by decide +kernel
theorem dX10_best_1 : decode cX10_best 1 = .ok (.istore_n 1, 1) := by decide +kernel
theorem dX10_best_2 : decode cX10_best 2 = .ok (.iconst 0, 1) := by decide +kernel
theorem dX10_best_3 : decode cX10_best 3 = .ok (.istore_n 2, 1) := by decide +kernel
theorem dX10_best_4 : decode cX10_best 4 = .ok (.iload_n 2, 1) := by decide +kernel
theorem dX10_best_5 : decode cX10_best 5 = .ok (.aload_n 0, 1) := by decide +kernel
theorem dX10_best_6 : decode cX10_best 6 = .ok (.getfield 71, 3) := by decide +kernel
theorem dX10_best_9 : decode cX10_best 9 = .ok (.if_icmp .ge 46, 3) := by decide +kernel
theorem dX10_best_12 : decode cX10_best 12 = .ok (.aload_n 0, 1) := by decide +kernel
theorem dX10_best_13 : decode cX10_best 13 = .ok (.iload_n 1, 1) := by decide +kernel
theorem dX10_best_14 : decode cX10_best 14 = .ok (.invokevirtual 112, 3) := by decide +kernel
theorem dX10_best_17 : decode cX10_best 17 = .ok (.astore_n 3, 1) := by decide +kernel
theorem dX10_best_18 : decode cX10_best 18 = .ok (.aload_n 0, 1) := by decide +kernel
theorem dX10_best_19 : decode cX10_best 19 = .ok (.getfield 31, 3) := by decide +kernel
theorem dX10_best_22 : decode cX10_best 22 = .ok (.iload_n 2, 1) := by decide +kernel
theorem dX10_best_23 : decode cX10_best 23 = .ok (.aaload, 1) := by decide +kernel
theorem dX10_best_24 : decode cX10_best 24 = .ok (.getfield 102, 3) := by decide +kernel
theorem dX10_best_27 : decode cX10_best 27 = .ok (.ifCond .ne 22, 3) := by decide +kernel
theorem dX10_best_30 : decode cX10_best 30 = .ok (.aload_n 3, 1) := by decide +kernel
theorem dX10_best_31 : decode cX10_best 31 = .ok (.ifnull 16, 3) := by decide +kernel
theorem dX10_best_34 : decode cX10_best 34 = .ok (.aload_n 0, 1) := by decide +kernel
theorem dX10_best_35 : decode cX10_best 35 = .ok (.getfield 31, 3) := by decide +kernel
theorem dX10_best_38 : decode cX10_best 38 = .ok (.iload_n 2, 1) := by decide +kernel
theorem dX10_best_39 : decode cX10_best 39 = .ok (.aaload, 1) := by decide +kernel
theorem dX10_best_40 : decode cX10_best 40 = .ok (.aload_n 3, 1) := by decide +kernel
theorem dX10_best_41 : decode cX10_best 41 = .ok (.invokevirtual 139, 3) := by decide +kernel
theorem dX10_best_44 : decode cX10_best 44 = .ok (.ifCond .eq 5, 3) := by decide +kernel
theorem dX10_best_47 : decode cX10_best 47 = .ok (.iload_n 2, 1) := by decide +kernel
theorem dX10_best_48 : decode cX10_best 48 = .ok (.istore_n 1, 1) := by decide +kernel
theorem dX10_best_49 : decode cX10_best 49 = .ok (.iinc 2 1, 3) := by decide +kernel
theorem dX10_best_52 : decode cX10_best 52 = .ok (.goto (-48), 3) := by decide +kernel
theorem dX10_best_55 : decode cX10_best 55 = .ok (.iload_n 1, 1) := by decide +kernel
theorem dX10_best_56 : decode cX10_best 56 = .ok (.ireturn, 1) := by decide +kernel
theorem dX10_makeCurrent_0 : decode cX10_makeCurrent 0 = .ok (.aload_n 0, 1) := by decide +kernel
theorem dX10_makeCurrent_1 : decode cX10_makeCurrent 1 = .ok (.iload_n 1, 1) := by decide +kernel
theorem dX10_makeCurrent_2 : decode cX10_makeCurrent 2 = .ok (.putfield 42, 3) := by decide +kernel
theorem dX10_makeCurrent_5 : decode cX10_makeCurrent 5 = .ok (.aload_n 0, 1) := by decide +kernel
theorem dX10_makeCurrent_6 : decode cX10_makeCurrent 6 = .ok (.iconst 0, 1) := by decide +kernel
theorem dX10_makeCurrent_7 : decode cX10_makeCurrent 7 = .ok (.putfield 81, 3) := by decide +kernel
theorem dX10_makeCurrent_10 : decode cX10_makeCurrent 10 = .ok (.aload_n 0, 1) := by decide +kernel
theorem dX10_makeCurrent_11 : decode cX10_makeCurrent 11 = .ok (.iload_n 1, 1) := by decide +kernel
theorem dX10_makeCurrent_12 : decode cX10_makeCurrent 12 = .ok (.invokevirtual 112, 3) := by decide +kernel
theorem dX10_makeCurrent_15 : decode cX10_makeCurrent 15 = .ok (.astore_n 2, 1) := by decide +kernel
theorem dX10_makeCurrent_16 : decode cX10_makeCurrent 16 = .ok (.aload_n 2, 1) := by decide +kernel
theorem dX10_makeCurrent_17 : decode cX10_makeCurrent 17 = .ok (.ifnull 21, 3) := by decide +kernel
theorem dX10_makeCurrent_20 : decode cX10_makeCurrent 20 = .ok (.aload_n 0, 1) := by decide +kernel
theorem dX10_makeCurrent_21 : decode cX10_makeCurrent 21 = .ok (.dup, 1) := by decide +kernel
theorem dX10_makeCurrent_22 : decode cX10_makeCurrent 22 = .ok (.getfield 93, 3) := by decide +kernel
theorem dX10_makeCurrent_25 : decode cX10_makeCurrent 25 = .ok (.iconst 1, 1) := by decide +kernel
theorem dX10_makeCurrent_26 : decode cX10_makeCurrent 26 = .ok (.iadd, 1) := by decide +kernel
theorem dX10_makeCurrent_27 : decode cX10_makeCurrent 27 = .ok (.putfield 93, 3) := by decide +kernel
theorem dX10_makeCurrent_30 : decode cX10_makeCurrent 30 = .ok (.aload_n 2, 1) := by decide +kernel
theorem dX10_makeCurrent_31 : decode cX10_makeCurrent 31 = .ok (.aload_n 0, 1) := by decide +kernel
theorem dX10_makeCurrent_32 : decode cX10_makeCurrent 32 = .ok (.getfield 49, 3) := by decide +kernel
theorem dX10_makeCurrent_35 : decode cX10_makeCurrent 35 = .ok (.invokevirtual 142, 3) := by decide +kernel
theorem dX10_makeCurrent_38 : decode cX10_makeCurrent 38 = .ok (.return_, 1) := by decide +kernel
theorem dX10_sweep_0 : decode cX10_sweep 0 = .ok (.aload_n 0, 1) := by decide +kernel
theorem dX10_sweep_1 : decode cX10_sweep 1 = .ok (.getfield 56, 3) := by decide +kernel
theorem dX10_sweep_4 : decode cX10_sweep 4 = .ok (.getfield 146, 3) := by decide +kernel
theorem dX10_sweep_7 : decode cX10_sweep 7 = .ok (.ifCond .ge 11, 3) := by decide +kernel
theorem dX10_sweep_10 : decode cX10_sweep 10 = .ok (.aload_n 0, 1) := by decide +kernel
theorem dX10_sweep_11 : decode cX10_sweep 11 = .ok (.getfield 56, 3) := by decide +kernel
theorem dX10_sweep_14 : decode cX10_sweep 14 = .ok (.invokevirtual 149, 3) := by decide +kernel
theorem dX10_sweep_17 : decode cX10_sweep 17 = .ok (.return_, 1) := by decide +kernel
theorem dX10_sweep_18 : decode cX10_sweep 18 = .ok (.iconst 0, 1) := by decide +kernel
theorem dX10_sweep_19 : decode cX10_sweep 19 = .ok (.istore_n 1, 1) := by decide +kernel
theorem dX10_sweep_20 : decode cX10_sweep 20 = .ok (.iload_n 1, 1) := by decide +kernel
theorem dX10_sweep_21 : decode cX10_sweep 21 = .ok (.iconst 4, 1) := by decide +kernel
theorem dX10_sweep_22 : decode cX10_sweep 22 = .ok (.if_icmp .ge 25, 3) := by decide +kernel
theorem dX10_sweep_25 : decode cX10_sweep 25 = .ok (.aload_n 0, 1) := by decide +kernel
theorem dX10_sweep_26 : decode cX10_sweep 26 = .ok (.getfield 49, 3) := by decide +kernel
theorem dX10_sweep_29 : decode cX10_sweep 29 = .ok (.aload_n 0, 1) := by decide +kernel
theorem dX10_sweep_30 : decode cX10_sweep 30 = .ok (.getfield 56, 3) := by decide +kernel
theorem dX10_sweep_33 : decode cX10_sweep 33 = .ok (.getfield 146, 3) := by decide +kernel
theorem dX10_sweep_36 : decode cX10_sweep 36 = .ok (.iload_n 1, 1) := by decide +kernel
theorem dX10_sweep_37 : decode cX10_sweep 37 = .ok (.iadd, 1) := by decide +kernel
theorem dX10_sweep_38 : decode cX10_sweep 38 = .ok (.invokevirtual 152, 3) := by decide +kernel
theorem dX10_sweep_41 : decode cX10_sweep 41 = .ok (.iinc 1 1, 3) := by decide +kernel
theorem dX10_sweep_44 : decode cX10_sweep 44 = .ok (.goto (-24), 3) := by decide +kernel
theorem dX10_sweep_47 : decode cX10_sweep 47 = .ok (.aload_n 0, 1) := by decide +kernel
theorem dX10_sweep_48 : decode cX10_sweep 48 = .ok (.getfield 56, 3) := by decide +kernel
theorem dX10_sweep_51 : decode cX10_sweep 51 = .ok (.dup, 1) := by decide +kernel
theorem dX10_sweep_52 : decode cX10_sweep 52 = .ok (.getfield 146, 3) := by decide +kernel
theorem dX10_sweep_55 : decode cX10_sweep 55 = .ok (.iconst 4, 1) := by decide +kernel
theorem dX10_sweep_56 : decode cX10_sweep 56 = .ok (.iadd, 1) := by decide +kernel
theorem dX10_sweep_57 : decode cX10_sweep 57 = .ok (.putfield 146, 3) := by decide +kernel
theorem dX10_sweep_60 : decode cX10_sweep 60 = .ok (.aload_n 0, 1) := by decide +kernel
theorem dX10_sweep_61 : decode cX10_sweep 61 = .ok (.getfield 56, 3) := by decide +kernel
theorem dX10_sweep_64 : decode cX10_sweep 64 = .ok (.getfield 146, 3) := by decide +kernel
theorem dX10_sweep_67 : decode cX10_sweep 67 = .ok (.aload_n 0, 1) := by decide +kernel
theorem dX10_sweep_68 : decode cX10_sweep 68 = .ok (.getfield 49, 3) := by decide +kernel
theorem dX10_sweep_71 : decode cX10_sweep 71 = .ok (.getfield 155, 3) := by decide +kernel
theorem dX10_sweep_74 : decode cX10_sweep 74 = .ok (.arraylength, 1) := by decide +kernel
theorem dX10_sweep_75 : decode cX10_sweep 75 = .ok (.if_icmp .lt 7, 3) := by decide +kernel
theorem dX10_sweep_78 : decode cX10_sweep 78 = .ok (.aload_n 0, 1) := by decide +kernel
theorem dX10_sweep_79 : decode cX10_sweep 79 = .ok (.invokevirtual 159, 3) := by decide +kernel
theorem dX10_sweep_82 : decode cX10_sweep 82 = .ok (.return_, 1) := by decide +kernel
theorem dX10_endSweep_0 : decode cX10_endSweep 0 = .ok (.iconst 0, 1) := by decide +kernel
theorem dX10_endSweep_1 : decode cX10_endSweep 1 = .ok (.istore_n 1, 1) := by decide +kernel
theorem dX10_endSweep_2 : decode cX10_endSweep 2 = .ok (.iload_n 1, 1) := by decide +kernel
theorem dX10_endSweep_3 : decode cX10_endSweep 3 = .ok (.aload_n 0, 1) := by decide +kernel
theorem dX10_endSweep_4 : decode cX10_endSweep 4 = .ok (.getfield 71, 3) := by decide +kernel
theorem dX10_endSweep_7 : decode cX10_endSweep 7 = .ok (.if_icmp .ge 35, 3) := by decide +kernel
theorem dX10_endSweep_10 : decode cX10_endSweep 10 = .ok (.aload_n 0, 1) := by decide +kernel
theorem dX10_endSweep_11 : decode cX10_endSweep 11 = .ok (.getfield 31, 3) := by decide +kernel
theorem dX10_endSweep_14 : decode cX10_endSweep 14 = .ok (.iload_n 1, 1) := by decide +kernel
theorem dX10_endSweep_15 : decode cX10_endSweep 15 = .ok (.aaload, 1) := by decide +kernel
theorem dX10_endSweep_16 : decode cX10_endSweep 16 = .ok (.aload_n 0, 1) := by decide +kernel
theorem dX10_endSweep_17 : decode cX10_endSweep 17 = .ok (.getfield 49, 3) := by decide +kernel
theorem dX10_endSweep_20 : decode cX10_endSweep 20 = .ok (.invokevirtual 142, 3) := by decide +kernel
theorem dX10_endSweep_23 : decode cX10_endSweep 23 = .ok (.aload_n 0, 1) := by decide +kernel
theorem dX10_endSweep_24 : decode cX10_endSweep 24 = .ok (.getfield 31, 3) := by decide +kernel
theorem dX10_endSweep_27 : decode cX10_endSweep 27 = .ok (.iload_n 1, 1) := by decide +kernel
theorem dX10_endSweep_28 : decode cX10_endSweep 28 = .ok (.aaload, 1) := by decide +kernel
theorem dX10_endSweep_29 : decode cX10_endSweep 29 = .ok (.aload_n 0, 1) := by decide +kernel
theorem dX10_endSweep_30 : decode cX10_endSweep 30 = .ok (.getfield 49, 3) := by decide +kernel
theorem dX10_endSweep_33 : decode cX10_endSweep 33 = .ok (.invokevirtual 162, 3) := by decide +kernel
theorem dX10_endSweep_36 : decode cX10_endSweep 36 = .ok (.iinc 1 1, 3) := by decide +kernel
theorem dX10_endSweep_39 : decode cX10_endSweep 39 = .ok (.goto (-37), 3) := by decide +kernel
theorem dX10_endSweep_42 : decode cX10_endSweep 42 = .ok (.aload_n 0, 1) := by decide +kernel
theorem dX10_endSweep_43 : decode cX10_endSweep 43 = .ok (.getfield 56, 3) := by decide +kernel
theorem dX10_endSweep_46 : decode cX10_endSweep 46 = .ok (.aload_n 0, 1) := by decide +kernel
theorem dX10_endSweep_47 : decode cX10_endSweep 47 = .ok (.getfield 49, 3) := by decide +kernel
theorem dX10_endSweep_50 : decode cX10_endSweep 50 = .ok (.invokevirtual 165, 3) := by decide +kernel
theorem dX10_endSweep_53 : decode cX10_endSweep 53 = .ok (.iconst 0, 1) := by decide +kernel
theorem dX10_endSweep_54 : decode cX10_endSweep 54 = .ok (.istore_n 1, 1) := by decide +kernel
theorem dX10_endSweep_55 : decode cX10_endSweep 55 = .ok (.iload_n 1, 1) := by decide +kernel
theorem dX10_endSweep_56 : decode cX10_endSweep 56 = .ok (.aload_n 0, 1) := by decide +kernel
theorem dX10_endSweep_57 : decode cX10_endSweep 57 = .ok (.getfield 71, 3) := by decide +kernel
theorem dX10_endSweep_60 : decode cX10_endSweep 60 = .ok (.if_icmp .ge 56, 3) := by decide +kernel
theorem dX10_endSweep_63 : decode cX10_endSweep 63 = .ok (.aload_n 0, 1) := by decide +kernel
theorem dX10_endSweep_64 : decode cX10_endSweep 64 = .ok (.getfield 31, 3) := by decide +kernel
theorem dX10_endSweep_67 : decode cX10_endSweep 67 = .ok (.iload_n 1, 1) := by decide +kernel
theorem dX10_endSweep_68 : decode cX10_endSweep 68 = .ok (.aaload, 1) := by decide +kernel
theorem dX10_endSweep_69 : decode cX10_endSweep 69 = .ok (.getfield 102, 3) := by decide +kernel
theorem dX10_endSweep_72 : decode cX10_endSweep 72 = .ok (.iconst 4, 1) := by decide +kernel
theorem dX10_endSweep_73 : decode cX10_endSweep 73 = .ok (.if_icmp .ne 37, 3) := by decide +kernel
theorem dX10_endSweep_76 : decode cX10_endSweep 76 = .ok (.aload_n 0, 1) := by decide +kernel
theorem dX10_endSweep_77 : decode cX10_endSweep 77 = .ok (.aload_n 0, 1) := by decide +kernel
theorem dX10_endSweep_78 : decode cX10_endSweep 78 = .ok (.getfield 31, 3) := by decide +kernel
theorem dX10_endSweep_81 : decode cX10_endSweep 81 = .ok (.iload_n 1, 1) := by decide +kernel
theorem dX10_endSweep_82 : decode cX10_endSweep 82 = .ok (.aaload, 1) := by decide +kernel
theorem dX10_endSweep_83 : decode cX10_endSweep 83 = .ok (.getfield 167, 3) := by decide +kernel
theorem dX10_endSweep_86 : decode cX10_endSweep 86 = .ok (.aload_n 0, 1) := by decide +kernel
theorem dX10_endSweep_87 : decode cX10_endSweep 87 = .ok (.getfield 31, 3) := by decide +kernel
theorem dX10_endSweep_90 : decode cX10_endSweep 90 = .ok (.iload_n 1, 1) := by decide +kernel
theorem dX10_endSweep_91 : decode cX10_endSweep 91 = .ok (.aaload, 1) := by decide +kernel
theorem dX10_endSweep_92 : decode cX10_endSweep 92 = .ok (.bipush 10, 2) := by decide +kernel
theorem dX10_endSweep_94 : decode cX10_endSweep 94 = .ok (.invokevirtual 170, 3) := by decide +kernel
theorem dX10_endSweep_97 : decode cX10_endSweep 97 = .ok (.invokevirtual 174, 3) := by decide +kernel
theorem dX10_endSweep_100 : decode cX10_endSweep 100 = .ok (.pop, 1) := by decide +kernel
theorem dX10_endSweep_101 : decode cX10_endSweep 101 = .ok (.aload_n 0, 1) := by decide +kernel
theorem dX10_endSweep_102 : decode cX10_endSweep 102 = .ok (.getfield 31, 3) := by decide +kernel
theorem dX10_endSweep_105 : decode cX10_endSweep 105 = .ok (.iload_n 1, 1) := by decide +kernel
theorem dX10_endSweep_106 : decode cX10_endSweep 106 = .ok (.aaload, 1) := by decide +kernel
theorem dX10_endSweep_107 : decode cX10_endSweep 107 = .ok (.invokevirtual 109, 3) := by decide +kernel
theorem dX10_endSweep_110 : decode cX10_endSweep 110 = .ok (.iinc 1 1, 3) := by decide +kernel
theorem dX10_endSweep_113 : decode cX10_endSweep 113 = .ok (.goto (-58), 3) := by decide +kernel
theorem dX10_endSweep_116 : decode cX10_endSweep 116 = .ok (.return_, 1) := by decide +kernel
theorem dX10_grant_0 : decode cX10_grant 0 = .ok (.aload_n 0, 1) := by decide +kernel
theorem dX10_grant_1 : decode cX10_grant 1 = .ok (.getfield 56, 3) := by decide +kernel
theorem dX10_grant_4 : decode cX10_grant 4 = .ok (.iload_n 1, 1) := by decide +kernel
theorem dX10_grant_5 : decode cX10_grant 5 = .ok (.invokevirtual 178, 3) := by decide +kernel
theorem dX10_grant_8 : decode cX10_grant 8 = .ok (.bipush 16, 2) := by decide +kernel
theorem dX10_grant_10 : decode cX10_grant 10 = .ok (.imul, 1) := by decide +kernel
theorem dX10_grant_11 : decode cX10_grant 11 = .ok (.istore_n 3, 1) := by decide +kernel
theorem dX10_grant_12 : decode cX10_grant 12 = .ok (.iload_n 3, 1) := by decide +kernel
theorem dX10_grant_13 : decode cX10_grant 13 = .ok (.ifCond .ge 9, 3) := by decide +kernel
theorem dX10_grant_16 : decode cX10_grant 16 = .ok (.aload_n 2, 1) := by decide +kernel
theorem dX10_grant_17 : decode cX10_grant 17 = .ok (.invokevirtual 182, 3) := by decide +kernel
theorem dX10_grant_20 : decode cX10_grant 20 = .ok (.iconst 0, 1) := by decide +kernel
theorem dX10_grant_21 : decode cX10_grant 21 = .ok (.ireturn, 1) := by decide +kernel
theorem dX10_grant_22 : decode cX10_grant 22 = .ok (.iload_n 3, 1) := by decide +kernel
theorem dX10_grant_23 : decode cX10_grant 23 = .ok (.iload_n 1, 1) := by decide +kernel
theorem dX10_grant_24 : decode cX10_grant 24 = .ok (.bipush 16, 2) := by decide +kernel
theorem dX10_grant_26 : decode cX10_grant 26 = .ok (.imul, 1) := by decide +kernel
theorem dX10_grant_27 : decode cX10_grant 27 = .ok (.iadd, 1) := by decide +kernel
theorem dX10_grant_28 : decode cX10_grant 28 = .ok (.istore 4, 2) := by decide +kernel
theorem dX10_grant_30 : decode cX10_grant 30 = .ok (.aload_n 0, 1) := by decide +kernel
theorem dX10_grant_31 : decode cX10_grant 31 = .ok (.getfield 49, 3) := by decide +kernel
theorem dX10_grant_34 : decode cX10_grant 34 = .ok (.iload_n 3, 1) := by decide +kernel
theorem dX10_grant_35 : decode cX10_grant 35 = .ok (.iload 4, 2) := by decide +kernel
theorem dX10_grant_37 : decode cX10_grant 37 = .ok (.invokevirtual 185, 3) := by decide +kernel
theorem dX10_grant_40 : decode cX10_grant 40 = .ok (.aload_n 2, 1) := by decide +kernel
theorem dX10_grant_41 : decode cX10_grant 41 = .ok (.iload_n 3, 1) := by decide +kernel
theorem dX10_grant_42 : decode cX10_grant 42 = .ok (.iload_n 3, 1) := by decide +kernel
theorem dX10_grant_43 : decode cX10_grant 43 = .ok (.iload 4, 2) := by decide +kernel
theorem dX10_grant_45 : decode cX10_grant 45 = .ok (.bipush 91, 2) := by decide +kernel
theorem dX10_grant_47 : decode cX10_grant 47 = .ok (.iconst 0, 1) := by decide +kernel
theorem dX10_grant_48 : decode cX10_grant 48 = .ok (.iconst 1, 1) := by decide +kernel
theorem dX10_grant_49 : decode cX10_grant 49 = .ok (.invokevirtual 189, 3) := by decide +kernel
theorem dX10_grant_52 : decode cX10_grant 52 = .ok (.iconst 1, 1) := by decide +kernel
theorem dX10_grant_53 : decode cX10_grant 53 = .ok (.ireturn, 1) := by decide +kernel
theorem dX10_readDevice_0 : decode cX10_readDevice 0 = .ok (.iload_n 2, 1) := by decide +kernel
theorem dX10_readDevice_1 : decode cX10_readDevice 1 = .ok (.ldc 193, 2) := by decide +kernel
theorem dX10_readDevice_3 : decode cX10_readDevice 3 = .ok (.isub, 1) := by decide +kernel
theorem dX10_readDevice_4 : decode cX10_readDevice 4 = .ok (.lookupswitch 54 #[(0, 36), (4, 44), (8, 49)], 36) := by decide +kernel
theorem dX10_readDevice_40 : decode cX10_readDevice 40 = .ok (.aload_n 0, 1) := by decide +kernel
theorem dX10_readDevice_41 : decode cX10_readDevice 41 = .ok (.getfield 14, 3) := by decide +kernel
theorem dX10_readDevice_44 : decode cX10_readDevice 44 = .ok (.invokevirtual 194, 3) := by decide +kernel
theorem dX10_readDevice_47 : decode cX10_readDevice 47 = .ok (.ireturn, 1) := by decide +kernel
theorem dX10_readDevice_48 : decode cX10_readDevice 48 = .ok (.aload_n 0, 1) := by decide +kernel
theorem dX10_readDevice_49 : decode cX10_readDevice 49 = .ok (.getfield 78, 3) := by decide +kernel
theorem dX10_readDevice_52 : decode cX10_readDevice 52 = .ok (.ireturn, 1) := by decide +kernel
theorem dX10_readDevice_53 : decode cX10_readDevice 53 = .ok (.aload_n 1, 1) := by decide +kernel
theorem dX10_readDevice_54 : decode cX10_readDevice 54 = .ok (.getfield 133, 3) := by decide +kernel
theorem dX10_readDevice_57 : decode cX10_readDevice 57 = .ok (.ireturn, 1) := by decide +kernel
theorem dX10_readDevice_58 : decode cX10_readDevice 58 = .ok (.iconst 0, 1) := by decide +kernel
theorem dX10_readDevice_59 : decode cX10_readDevice 59 = .ok (.ireturn, 1) := by decide +kernel
theorem dX10_writeDevice_0 : decode cX10_writeDevice 0 = .ok (.iload_n 1, 1) := by decide +kernel
theorem dX10_writeDevice_1 : decode cX10_writeDevice 1 = .ok (.ldc 193, 2) := by decide +kernel
theorem dX10_writeDevice_3 : decode cX10_writeDevice 3 = .ok (.if_icmp .ne 11, 3) := by decide +kernel
theorem dX10_writeDevice_6 : decode cX10_writeDevice 6 = .ok (.aload_n 0, 1) := by decide +kernel
theorem dX10_writeDevice_7 : decode cX10_writeDevice 7 = .ok (.getfield 20, 3) := by decide +kernel
theorem dX10_writeDevice_10 : decode cX10_writeDevice 10 = .ok (.iload_n 2, 1) := by decide +kernel
theorem dX10_writeDevice_11 : decode cX10_writeDevice 11 = .ok (.invokevirtual 197, 3) := by decide +kernel
theorem dX10_writeDevice_14 : decode cX10_writeDevice 14 = .ok (.return_, 1) := by decide +kernel
theorem dX10_part_0 : decode cX10_part 0 = .ok (.iload_n 1, 1) := by decide +kernel
theorem dX10_part_1 : decode cX10_part 1 = .ok (.tableswitch 114 0 9 #[55, 60, 65, 70, 75, 80, 114, 85, 93, 101], 55) := by decide +kernel
theorem dX10_part_56 : decode cX10_part 56 = .ok (.aload_n 0, 1) := by decide +kernel
theorem dX10_part_57 : decode cX10_part 57 = .ok (.getfield 78, 3) := by decide +kernel
theorem dX10_part_60 : decode cX10_part 60 = .ok (.ireturn, 1) := by decide +kernel
theorem dX10_part_61 : decode cX10_part 61 = .ok (.aload_n 0, 1) := by decide +kernel
theorem dX10_part_62 : decode cX10_part 62 = .ok (.getfield 42, 3) := by decide +kernel
theorem dX10_part_65 : decode cX10_part 65 = .ok (.ireturn, 1) := by decide +kernel
theorem dX10_part_66 : decode cX10_part 66 = .ok (.aload_n 0, 1) := by decide +kernel
theorem dX10_part_67 : decode cX10_part 67 = .ok (.getfield 84, 3) := by decide +kernel
theorem dX10_part_70 : decode cX10_part 70 = .ok (.ireturn, 1) := by decide +kernel
theorem dX10_part_71 : decode cX10_part 71 = .ok (.aload_n 0, 1) := by decide +kernel
theorem dX10_part_72 : decode cX10_part 72 = .ok (.getfield 87, 3) := by decide +kernel
theorem dX10_part_75 : decode cX10_part 75 = .ok (.ireturn, 1) := by decide +kernel
theorem dX10_part_76 : decode cX10_part 76 = .ok (.aload_n 0, 1) := by decide +kernel
theorem dX10_part_77 : decode cX10_part 77 = .ok (.getfield 90, 3) := by decide +kernel
theorem dX10_part_80 : decode cX10_part 80 = .ok (.ireturn, 1) := by decide +kernel
theorem dX10_part_81 : decode cX10_part 81 = .ok (.aload_n 0, 1) := by decide +kernel
theorem dX10_part_82 : decode cX10_part 82 = .ok (.getfield 93, 3) := by decide +kernel
theorem dX10_part_85 : decode cX10_part 85 = .ok (.ireturn, 1) := by decide +kernel
theorem dX10_part_86 : decode cX10_part 86 = .ok (.aload_n 0, 1) := by decide +kernel
theorem dX10_part_87 : decode cX10_part 87 = .ok (.getfield 20, 3) := by decide +kernel
theorem dX10_part_90 : decode cX10_part 90 = .ok (.getfield 200, 3) := by decide +kernel
theorem dX10_part_93 : decode cX10_part 93 = .ok (.ireturn, 1) := by decide +kernel
theorem dX10_part_94 : decode cX10_part 94 = .ok (.aload_n 0, 1) := by decide +kernel
theorem dX10_part_95 : decode cX10_part 95 = .ok (.getfield 14, 3) := by decide +kernel
theorem dX10_part_98 : decode cX10_part 98 = .ok (.getfield 200, 3) := by decide +kernel
theorem dX10_part_101 : decode cX10_part 101 = .ok (.ireturn, 1) := by decide +kernel
theorem dX10_part_102 : decode cX10_part 102 = .ok (.aload_n 0, 1) := by decide +kernel
theorem dX10_part_103 : decode cX10_part 103 = .ok (.getfield 74, 3) := by decide +kernel
theorem dX10_part_106 : decode cX10_part 106 = .ok (.ifCond .eq 7, 3) := by decide +kernel
theorem dX10_part_109 : decode cX10_part 109 = .ok (.iconst 1, 1) := by decide +kernel
theorem dX10_part_110 : decode cX10_part 110 = .ok (.goto 4, 3) := by decide +kernel
theorem dX10_part_113 : decode cX10_part 113 = .ok (.iconst 0, 1) := by decide +kernel
theorem dX10_part_114 : decode cX10_part 114 = .ok (.ireturn, 1) := by decide +kernel
theorem dX10_part_115 : decode cX10_part 115 = .ok (.iconst (-1), 1) := by decide +kernel
theorem dX10_part_116 : decode cX10_part 116 = .ok (.ireturn, 1) := by decide +kernel
theorem dX11_init_0 : decode cX11_init 0 = .ok (.aload_n 0, 1) := by decide +kernel
theorem dX11_init_1 : decode cX11_init 1 = .ok (.invokespecial 3, 3) := by decide +kernel
theorem dX11_init_4 : decode cX11_init 4 = .ok (.iload_n 1, 1) := by decide +kernel
theorem dX11_init_5 : decode cX11_init 5 = .ok (.iconst 1, 1) := by decide +kernel
theorem dX11_init_6 : decode cX11_init 6 = .ok (.if_icmp .lt 13, 3) := by decide +kernel
theorem dX11_init_9 : decode cX11_init 9 = .ok (.iload_n 1, 1) := by decide +kernel
theorem dX11_init_10 : decode cX11_init 10 = .ok (.bipush 32, 2) := by decide +kernel
theorem dX11_init_12 : decode cX11_init 12 = .ok (.if_icmp .gt 7, 3) := by decide +kernel
theorem dX11_init_15 : decode cX11_init 15 = .ok (.iload_n 1, 1) := by decide +kernel
theorem dX11_init_16 : decode cX11_init 16 = .ok (.goto 5, 3) := by decide +kernel
theorem dX11_init_19 : decode cX11_init 19 = .ok (.bipush 8, 2) := by decide +kernel
theorem dX11_init_21 : decode cX11_init 21 = .ok (.istore_n 2, 1) := by decide +kernel
theorem dX11_init_22 : decode cX11_init 22 = .ok (.aload_n 0, 1) := by decide +kernel
theorem dX11_init_23 : decode cX11_init 23 = .ok (.new 9, 3) := by decide +kernel
theorem dX11_init_26 : decode cX11_init 26 = .ok (.dup, 1) := by decide +kernel
theorem dX11_init_27 : decode cX11_init 27 = .ok (.iload_n 2, 1) := by decide +kernel
theorem dX11_init_28 : decode cX11_init 28 = .ok (.sipush 1024, 3) := by decide +kernel
theorem dX11_init_31 : decode cX11_init 31 = .ok (.imul, 1) := by decide +kernel
theorem dX11_init_32 : decode cX11_init 32 = .ok (.bipush 16, 2) := by decide +kernel
theorem dX11_init_34 : decode cX11_init 34 = .ok (.idiv, 1) := by decide +kernel
theorem dX11_init_35 : decode cX11_init 35 = .ok (.invokespecial 11, 3) := by decide +kernel
theorem dX11_init_38 : decode cX11_init 38 = .ok (.putfield 14, 3) := by decide +kernel
theorem dX11_init_41 : decode cX11_init 41 = .ok (.aload_n 0, 1) := by decide +kernel
theorem dX11_init_42 : decode cX11_init 42 = .ok (.new 18, 3) := by decide +kernel
theorem dX11_init_45 : decode cX11_init 45 = .ok (.dup, 1) := by decide +kernel
theorem dX11_init_46 : decode cX11_init 46 = .ok (.invokespecial 20, 3) := by decide +kernel
theorem dX11_init_49 : decode cX11_init 49 = .ok (.putfield 21, 3) := by decide +kernel
theorem dX11_init_52 : decode cX11_init 52 = .ok (.return_, 1) := by decide +kernel
theorem dX11_feed_0 : decode cX11_feed 0 = .ok (.aload_n 0, 1) := by decide +kernel
theorem dX11_feed_1 : decode cX11_feed 1 = .ok (.getfield 21, 3) := by decide +kernel
theorem dX11_feed_4 : decode cX11_feed 4 = .ok (.bipush 20, 2) := by decide +kernel
theorem dX11_feed_6 : decode cX11_feed 6 = .ok (.invokevirtual 25, 3) := by decide +kernel
theorem dX11_feed_9 : decode cX11_feed 9 = .ok (.ifCond .ne 5, 3) := by decide +kernel
theorem dX11_feed_12 : decode cX11_feed 12 = .ok (.iconst 0, 1) := by decide +kernel
theorem dX11_feed_13 : decode cX11_feed 13 = .ok (.ireturn, 1) := by decide +kernel
theorem dX11_feed_14 : decode cX11_feed 14 = .ok (.aload_n 0, 1) := by decide +kernel
theorem dX11_feed_15 : decode cX11_feed 15 = .ok (.getfield 21, 3) := by decide +kernel
theorem dX11_feed_18 : decode cX11_feed 18 = .ok (.iload_n 1, 1) := by decide +kernel
theorem dX11_feed_19 : decode cX11_feed 19 = .ok (.invokevirtual 29, 3) := by decide +kernel
theorem dX11_feed_22 : decode cX11_feed 22 = .ok (.aload_n 0, 1) := by decide +kernel
theorem dX11_feed_23 : decode cX11_feed 23 = .ok (.getfield 21, 3) := by decide +kernel
theorem dX11_feed_26 : decode cX11_feed 26 = .ok (.iload_n 2, 1) := by decide +kernel
theorem dX11_feed_27 : decode cX11_feed 27 = .ok (.invokevirtual 29, 3) := by decide +kernel
theorem dX11_feed_30 : decode cX11_feed 30 = .ok (.aload_n 0, 1) := by decide +kernel
theorem dX11_feed_31 : decode cX11_feed 31 = .ok (.getfield 21, 3) := by decide +kernel
theorem dX11_feed_34 : decode cX11_feed 34 = .ok (.iload_n 3, 1) := by decide +kernel
theorem dX11_feed_35 : decode cX11_feed 35 = .ok (.invokevirtual 29, 3) := by decide +kernel
theorem dX11_feed_38 : decode cX11_feed 38 = .ok (.aload_n 0, 1) := by decide +kernel
theorem dX11_feed_39 : decode cX11_feed 39 = .ok (.getfield 21, 3) := by decide +kernel
theorem dX11_feed_42 : decode cX11_feed 42 = .ok (.iload 4, 2) := by decide +kernel
theorem dX11_feed_44 : decode cX11_feed 44 = .ok (.invokevirtual 29, 3) := by decide +kernel
theorem dX11_feed_47 : decode cX11_feed 47 = .ok (.aload_n 0, 1) := by decide +kernel
theorem dX11_feed_48 : decode cX11_feed 48 = .ok (.getfield 21, 3) := by decide +kernel
theorem dX11_feed_51 : decode cX11_feed 51 = .ok (.iload 5, 2) := by decide +kernel
theorem dX11_feed_53 : decode cX11_feed 53 = .ok (.invokevirtual 29, 3) := by decide +kernel
theorem dX11_feed_56 : decode cX11_feed 56 = .ok (.iconst 1, 1) := by decide +kernel
theorem dX11_feed_57 : decode cX11_feed 57 = .ok (.ireturn, 1) := by decide +kernel
theorem dX11_boot_0 : decode cX11_boot 0 = .ok (.iload_n 1, 1) := by decide +kernel
theorem dX11_boot_1 : decode cX11_boot 1 = .ok (.ifCond .lt 14, 3) := by decide +kernel
theorem dX11_boot_4 : decode cX11_boot 4 = .ok (.iload_n 1, 1) := by decide +kernel
theorem dX11_boot_5 : decode cX11_boot 5 = .ok (.aload_n 0, 1) := by decide +kernel
theorem dX11_boot_6 : decode cX11_boot 6 = .ok (.getfield 21, 3) := by decide +kernel
theorem dX11_boot_9 : decode cX11_boot 9 = .ok (.getfield 32, 3) := by decide +kernel
theorem dX11_boot_12 : decode cX11_boot 12 = .ok (.if_icmp .le 5, 3) := by decide +kernel
theorem dX11_boot_15 : decode cX11_boot 15 = .ok (.iconst (-1), 1) := by decide +kernel
theorem dX11_boot_16 : decode cX11_boot 16 = .ok (.ireturn, 1) := by decide +kernel
theorem dX11_boot_17 : decode cX11_boot 17 = .ok (.aload_n 0, 1) := by decide +kernel
theorem dX11_boot_18 : decode cX11_boot 18 = .ok (.getfield 21, 3) := by decide +kernel
theorem dX11_boot_21 : decode cX11_boot 21 = .ok (.aload_n 0, 1) := by decide +kernel
theorem dX11_boot_22 : decode cX11_boot 22 = .ok (.getfield 14, 3) := by decide +kernel
theorem dX11_boot_25 : decode cX11_boot 25 = .ok (.iload_n 1, 1) := by decide +kernel
theorem dX11_boot_26 : decode cX11_boot 26 = .ok (.invokevirtual 36, 3) := by decide +kernel
theorem dX11_boot_29 : decode cX11_boot 29 = .ok (.ireturn, 1) := by decide +kernel
theorem dX11_place_0 : decode cX11_place 0 = .ok (.aload_n 0, 1) := by decide +kernel
theorem dX11_place_1 : decode cX11_place 1 = .ok (.getfield 21, 3) := by decide +kernel
theorem dX11_place_4 : decode cX11_place 4 = .ok (.getfield 40, 3) := by decide +kernel
theorem dX11_place_7 : decode cX11_place 7 = .ok (.ireturn, 1) := by decide +kernel
theorem dX11_run_0 : decode cX11_run 0 = .ok (.iload_n 1, 1) := by decide +kernel
theorem dX11_run_1 : decode cX11_run 1 = .ok (.ifCond .lt 10, 3) := by decide +kernel
theorem dX11_run_4 : decode cX11_run 4 = .ok (.iload_n 1, 1) := by decide +kernel
theorem dX11_run_5 : decode cX11_run 5 = .ok (.sipush 5000, 3) := by decide +kernel
theorem dX11_run_8 : decode cX11_run 8 = .ok (.if_icmp .le 5, 3) := by decide +kernel
theorem dX11_run_11 : decode cX11_run 11 = .ok (.iconst (-1), 1) := by decide +kernel
theorem dX11_run_12 : decode cX11_run 12 = .ok (.ireturn, 1) := by decide +kernel
theorem dX11_run_13 : decode cX11_run 13 = .ok (.iconst 0, 1) := by decide +kernel
theorem dX11_run_14 : decode cX11_run 14 = .ok (.istore_n 2, 1) := by decide +kernel
theorem dX11_run_15 : decode cX11_run 15 = .ok (.iload_n 2, 1) := by decide +kernel
theorem dX11_run_16 : decode cX11_run 16 = .ok (.iload_n 1, 1) := by decide +kernel
theorem dX11_run_17 : decode cX11_run 17 = .ok (.if_icmp .ge 40, 3) := by decide +kernel
theorem dX11_run_20 : decode cX11_run 20 = .ok (.aload_n 0, 1) := by decide +kernel
theorem dX11_run_21 : decode cX11_run 21 = .ok (.getfield 14, 3) := by decide +kernel
theorem dX11_run_24 : decode cX11_run 24 = .ok (.invokevirtual 43, 3) := by decide +kernel
theorem dX11_run_27 : decode cX11_run 27 = .ok (.ifCond .ne 30, 3) := by decide +kernel
theorem dX11_run_30 : decode cX11_run 30 = .ok (.aload_n 0, 1) := by decide +kernel
theorem dX11_run_31 : decode cX11_run 31 = .ok (.getfield 14, 3) := by decide +kernel
theorem dX11_run_34 : decode cX11_run 34 = .ok (.invokevirtual 47, 3) := by decide +kernel
theorem dX11_run_37 : decode cX11_run 37 = .ok (.aload_n 0, 1) := by decide +kernel
theorem dX11_run_38 : decode cX11_run 38 = .ok (.getfield 14, 3) := by decide +kernel
theorem dX11_run_41 : decode cX11_run 41 = .ok (.invokestatic 50, 3) := by decide +kernel
theorem dX11_run_44 : decode cX11_run 44 = .ok (.aload_n 0, 1) := by decide +kernel
theorem dX11_run_45 : decode cX11_run 45 = .ok (.getfield 14, 3) := by decide +kernel
theorem dX11_run_48 : decode cX11_run 48 = .ok (.invokevirtual 56, 3) := by decide +kernel
theorem dX11_run_51 : decode cX11_run 51 = .ok (.iinc 2 1, 3) := by decide +kernel
theorem dX11_run_54 : decode cX11_run 54 = .ok (.goto (-39), 3) := by decide +kernel
theorem dX11_run_57 : decode cX11_run 57 = .ok (.iload_n 2, 1) := by decide +kernel
theorem dX11_run_58 : decode cX11_run 58 = .ok (.ireturn, 1) := by decide +kernel
theorem dX11_input_0 : decode cX11_input 0 = .ok (.iload_n 1, 1) := by decide +kernel
theorem dX11_input_1 : decode cX11_input 1 = .ok (.ifCond .lt 35, 3) := by decide +kernel
theorem dX11_input_4 : decode cX11_input 4 = .ok (.iload_n 1, 1) := by decide +kernel
theorem dX11_input_5 : decode cX11_input 5 = .ok (.sipush 255, 3) := by decide +kernel
theorem dX11_input_8 : decode cX11_input 8 = .ok (.if_icmp .gt 28, 3) := by decide +kernel
theorem dX11_input_11 : decode cX11_input 11 = .ok (.aload_n 0, 1) := by decide +kernel
theorem dX11_input_12 : decode cX11_input 12 = .ok (.getfield 14, 3) := by decide +kernel
theorem dX11_input_15 : decode cX11_input 15 = .ok (.getfield 59, 3) := by decide +kernel
theorem dX11_input_18 : decode cX11_input 18 = .ok (.ifCond .eq 18, 3) := by decide +kernel
theorem dX11_input_21 : decode cX11_input 21 = .ok (.aload_n 0, 1) := by decide +kernel
theorem dX11_input_22 : decode cX11_input 22 = .ok (.getfield 14, 3) := by decide +kernel
theorem dX11_input_25 : decode cX11_input 25 = .ok (.getfield 63, 3) := by decide +kernel
theorem dX11_input_28 : decode cX11_input 28 = .ok (.getfield 67, 3) := by decide +kernel
theorem dX11_input_31 : decode cX11_input 31 = .ok (.bipush 64, 2) := by decide +kernel
theorem dX11_input_33 : decode cX11_input 33 = .ok (.if_icmp .lt 5, 3) := by decide +kernel
theorem dX11_input_36 : decode cX11_input 36 = .ok (.iconst 0, 1) := by decide +kernel
theorem dX11_input_37 : decode cX11_input 37 = .ok (.ireturn, 1) := by decide +kernel
theorem dX11_input_38 : decode cX11_input 38 = .ok (.aload_n 0, 1) := by decide +kernel
theorem dX11_input_39 : decode cX11_input 39 = .ok (.getfield 14, 3) := by decide +kernel
theorem dX11_input_42 : decode cX11_input 42 = .ok (.getfield 63, 3) := by decide +kernel
theorem dX11_input_45 : decode cX11_input 45 = .ok (.iload_n 1, 1) := by decide +kernel
theorem dX11_input_46 : decode cX11_input 46 = .ok (.invokevirtual 70, 3) := by decide +kernel
theorem dX11_input_49 : decode cX11_input 49 = .ok (.iconst 1, 1) := by decide +kernel
theorem dX11_input_50 : decode cX11_input 50 = .ok (.ireturn, 1) := by decide +kernel
theorem dX11_fetch_0 : decode cX11_fetch 0 = .ok (.bipush 7, 2) := by decide +kernel
theorem dX11_fetch_2 : decode cX11_fetch 2 = .ok (.aload_n 0, 1) := by decide +kernel
theorem dX11_fetch_3 : decode cX11_fetch 3 = .ok (.getfield 14, 3) := by decide +kernel
theorem dX11_fetch_6 : decode cX11_fetch 6 = .ok (.getfield 73, 3) := by decide +kernel
theorem dX11_fetch_9 : decode cX11_fetch 9 = .ok (.getfield 67, 3) := by decide +kernel
theorem dX11_fetch_12 : decode cX11_fetch 12 = .ok (.invokestatic 76, 3) := by decide +kernel
theorem dX11_fetch_15 : decode cX11_fetch 15 = .ok (.istore_n 1, 1) := by decide +kernel
theorem dX11_fetch_16 : decode cX11_fetch 16 = .ok (.iload_n 1, 1) := by decide +kernel
theorem dX11_fetch_17 : decode cX11_fetch 17 = .ok (.i2l, 1) := by decide +kernel
theorem dX11_fetch_18 : decode cX11_fetch 18 = .ok (.bipush 56, 2) := by decide +kernel
theorem dX11_fetch_20 : decode cX11_fetch 20 = .ok (.lshl, 1) := by decide +kernel
theorem dX11_fetch_21 : decode cX11_fetch 21 = .ok (.lstore_n 2, 1) := by decide +kernel
theorem dX11_fetch_22 : decode cX11_fetch 22 = .ok (.iconst 0, 1) := by decide +kernel
theorem dX11_fetch_23 : decode cX11_fetch 23 = .ok (.istore 4, 2) := by decide +kernel
theorem dX11_fetch_25 : decode cX11_fetch 25 = .ok (.iload 4, 2) := by decide +kernel
theorem dX11_fetch_27 : decode cX11_fetch 27 = .ok (.iload_n 1, 1) := by decide +kernel
theorem dX11_fetch_28 : decode cX11_fetch 28 = .ok (.if_icmp .ge 32, 3) := by decide +kernel
theorem dX11_fetch_31 : decode cX11_fetch 31 = .ok (.lload_n 2, 1) := by decide +kernel
theorem dX11_fetch_32 : decode cX11_fetch 32 = .ok (.aload_n 0, 1) := by decide +kernel
theorem dX11_fetch_33 : decode cX11_fetch 33 = .ok (.getfield 14, 3) := by decide +kernel
theorem dX11_fetch_36 : decode cX11_fetch 36 = .ok (.getfield 73, 3) := by decide +kernel
theorem dX11_fetch_39 : decode cX11_fetch 39 = .ok (.invokevirtual 82, 3) := by decide +kernel
theorem dX11_fetch_42 : decode cX11_fetch 42 = .ok (.i2l, 1) := by decide +kernel
theorem dX11_fetch_43 : decode cX11_fetch 43 = .ok (.bipush 48, 2) := by decide +kernel
theorem dX11_fetch_45 : decode cX11_fetch 45 = .ok (.bipush 8, 2) := by decide +kernel
theorem dX11_fetch_47 : decode cX11_fetch 47 = .ok (.iload 4, 2) := by decide +kernel
theorem dX11_fetch_49 : decode cX11_fetch 49 = .ok (.imul, 1) := by decide +kernel
theorem dX11_fetch_50 : decode cX11_fetch 50 = .ok (.isub, 1) := by decide +kernel
theorem dX11_fetch_51 : decode cX11_fetch 51 = .ok (.lshl, 1) := by decide +kernel
theorem dX11_fetch_52 : decode cX11_fetch 52 = .ok (.lor, 1) := by decide +kernel
theorem dX11_fetch_53 : decode cX11_fetch 53 = .ok (.lstore_n 2, 1) := by decide +kernel
theorem dX11_fetch_54 : decode cX11_fetch 54 = .ok (.iinc 4 1, 3) := by decide +kernel
theorem dX11_fetch_57 : decode cX11_fetch 57 = .ok (.goto (-32), 3) := by decide +kernel
theorem dX11_fetch_60 : decode cX11_fetch 60 = .ok (.lload_n 2, 1) := by decide +kernel
theorem dX11_fetch_61 : decode cX11_fetch 61 = .ok (.lreturn, 1) := by decide +kernel
theorem dX11_register_0 : decode cX11_register 0 = .ok (.aload_n 0, 1) := by decide +kernel
theorem dX11_register_1 : decode cX11_register 1 = .ok (.getfield 14, 3) := by decide +kernel
theorem dX11_register_4 : decode cX11_register 4 = .ok (.iload_n 1, 1) := by decide +kernel
theorem dX11_register_5 : decode cX11_register 5 = .ok (.invokevirtual 86, 3) := by decide +kernel
theorem dX11_register_8 : decode cX11_register 8 = .ok (.astore 4, 2) := by decide +kernel
theorem dX11_register_10 : decode cX11_register 10 = .ok (.aload 4, 2) := by decide +kernel
theorem dX11_register_12 : decode cX11_register 12 = .ok (.ifnull 13, 3) := by decide +kernel
theorem dX11_register_15 : decode cX11_register 15 = .ok (.iload_n 2, 1) := by decide +kernel
theorem dX11_register_16 : decode cX11_register 16 = .ok (.ifCond .lt 9, 3) := by decide +kernel
theorem dX11_register_19 : decode cX11_register 19 = .ok (.iload_n 2, 1) := by decide +kernel
theorem dX11_register_20 : decode cX11_register 20 = .ok (.bipush 16, 2) := by decide +kernel
theorem dX11_register_22 : decode cX11_register 22 = .ok (.if_icmp .le 7, 3) := by decide +kernel
theorem dX11_register_25 : decode cX11_register 25 = .ok (.ldc2_w 90, 3) := by decide +kernel
theorem dX11_register_28 : decode cX11_register 28 = .ok (.lreturn, 1) := by decide +kernel
theorem dX11_register_29 : decode cX11_register 29 = .ok (.iload_n 2, 1) := by decide +kernel
theorem dX11_register_30 : decode cX11_register 30 = .ok (.bipush 16, 2) := by decide +kernel
theorem dX11_register_32 : decode cX11_register 32 = .ok (.if_icmp .ne 11, 3) := by decide +kernel
theorem dX11_register_35 : decode cX11_register 35 = .ok (.aload 4, 2) := by decide +kernel
theorem dX11_register_37 : decode cX11_register 37 = .ok (.getfield 92, 3) := by decide +kernel
theorem dX11_register_40 : decode cX11_register 40 = .ok (.goto 9, 3) := by decide +kernel
theorem dX11_register_43 : decode cX11_register 43 = .ok (.aload 4, 2) := by decide +kernel
theorem dX11_register_45 : decode cX11_register 45 = .ok (.iload_n 2, 1) := by decide +kernel
theorem dX11_register_46 : decode cX11_register 46 = .ok (.invokevirtual 98, 3) := by decide +kernel
theorem dX11_register_49 : decode cX11_register 49 = .ok (.iload_n 3, 1) := by decide +kernel
theorem dX11_register_50 : decode cX11_register 50 = .ok (.invokevirtual 102, 3) := by decide +kernel
theorem dX11_register_53 : decode cX11_register 53 = .ok (.lreturn, 1) := by decide +kernel
theorem dX11_memory_0 : decode cX11_memory 0 = .ok (.iload_n 2, 1) := by decide +kernel
theorem dX11_memory_1 : decode cX11_memory 1 = .ok (.iconst 1, 1) := by decide +kernel
theorem dX11_memory_2 : decode cX11_memory 2 = .ok (.if_icmp .eq 13, 3) := by decide +kernel
theorem dX11_memory_5 : decode cX11_memory 5 = .ok (.iload_n 2, 1) := by decide +kernel
theorem dX11_memory_6 : decode cX11_memory 6 = .ok (.iconst 2, 1) := by decide +kernel
theorem dX11_memory_7 : decode cX11_memory 7 = .ok (.if_icmp .eq 8, 3) := by decide +kernel
theorem dX11_memory_10 : decode cX11_memory 10 = .ok (.iload_n 2, 1) := by decide +kernel
theorem dX11_memory_11 : decode cX11_memory 11 = .ok (.iconst 4, 1) := by decide +kernel
theorem dX11_memory_12 : decode cX11_memory 12 = .ok (.if_icmp .ne 28, 3) := by decide +kernel
theorem dX11_memory_15 : decode cX11_memory 15 = .ok (.aload_n 0, 1) := by decide +kernel
theorem dX11_memory_16 : decode cX11_memory 16 = .ok (.getfield 14, 3) := by decide +kernel
theorem dX11_memory_19 : decode cX11_memory 19 = .ok (.getfield 59, 3) := by decide +kernel
theorem dX11_memory_22 : decode cX11_memory 22 = .ok (.ifCond .eq 18, 3) := by decide +kernel
theorem dX11_memory_25 : decode cX11_memory 25 = .ok (.aload_n 0, 1) := by decide +kernel
theorem dX11_memory_26 : decode cX11_memory 26 = .ok (.getfield 14, 3) := by decide +kernel
theorem dX11_memory_29 : decode cX11_memory 29 = .ok (.getfield 108, 3) := by decide +kernel
theorem dX11_memory_32 : decode cX11_memory 32 = .ok (.iload_n 1, 1) := by decide +kernel
theorem dX11_memory_33 : decode cX11_memory 33 = .ok (.iload_n 2, 1) := by decide +kernel
theorem dX11_memory_34 : decode cX11_memory 34 = .ok (.invokevirtual 112, 3) := by decide +kernel
theorem dX11_memory_37 : decode cX11_memory 37 = .ok (.ifCond .ne 7, 3) := by decide +kernel
theorem dX11_memory_40 : decode cX11_memory 40 = .ok (.ldc2_w 90, 3) := by decide +kernel
theorem dX11_memory_43 : decode cX11_memory 43 = .ok (.lreturn, 1) := by decide +kernel
theorem dX11_memory_44 : decode cX11_memory 44 = .ok (.aload_n 0, 1) := by decide +kernel
theorem dX11_memory_45 : decode cX11_memory 45 = .ok (.getfield 14, 3) := by decide +kernel
theorem dX11_memory_48 : decode cX11_memory 48 = .ok (.getfield 108, 3) := by decide +kernel
theorem dX11_memory_51 : decode cX11_memory 51 = .ok (.iload_n 1, 1) := by decide +kernel
theorem dX11_memory_52 : decode cX11_memory 52 = .ok (.iload_n 2, 1) := by decide +kernel
theorem dX11_memory_53 : decode cX11_memory 53 = .ok (.invokevirtual 118, 3) := by decide +kernel
theorem dX11_memory_56 : decode cX11_memory 56 = .ok (.invokestatic 120, 3) := by decide +kernel
theorem dX11_memory_59 : decode cX11_memory 59 = .ok (.lreturn, 1) := by decide +kernel
theorem dX11_tag_0 : decode cX11_tag 0 = .ok (.aload_n 0, 1) := by decide +kernel
theorem dX11_tag_1 : decode cX11_tag 1 = .ok (.getfield 14, 3) := by decide +kernel
theorem dX11_tag_4 : decode cX11_tag 4 = .ok (.getfield 59, 3) := by decide +kernel
theorem dX11_tag_7 : decode cX11_tag 7 = .ok (.ifCond .eq 22, 3) := by decide +kernel
theorem dX11_tag_10 : decode cX11_tag 10 = .ok (.iload_n 1, 1) := by decide +kernel
theorem dX11_tag_11 : decode cX11_tag 11 = .ok (.ifCond .lt 18, 3) := by decide +kernel
theorem dX11_tag_14 : decode cX11_tag 14 = .ok (.iload_n 1, 1) := by decide +kernel
theorem dX11_tag_15 : decode cX11_tag 15 = .ok (.aload_n 0, 1) := by decide +kernel
theorem dX11_tag_16 : decode cX11_tag 16 = .ok (.getfield 14, 3) := by decide +kernel
theorem dX11_tag_19 : decode cX11_tag 19 = .ok (.getfield 108, 3) := by decide +kernel
theorem dX11_tag_22 : decode cX11_tag 22 = .ok (.getfield 123, 3) := by decide +kernel
theorem dX11_tag_25 : decode cX11_tag 25 = .ok (.arraylength, 1) := by decide +kernel
theorem dX11_tag_26 : decode cX11_tag 26 = .ok (.if_icmp .lt 5, 3) := by decide +kernel
theorem dX11_tag_29 : decode cX11_tag 29 = .ok (.iconst (-1), 1) := by decide +kernel
theorem dX11_tag_30 : decode cX11_tag 30 = .ok (.ireturn, 1) := by decide +kernel
theorem dX11_tag_31 : decode cX11_tag 31 = .ok (.aload_n 0, 1) := by decide +kernel
theorem dX11_tag_32 : decode cX11_tag 32 = .ok (.getfield 14, 3) := by decide +kernel
theorem dX11_tag_35 : decode cX11_tag 35 = .ok (.getfield 108, 3) := by decide +kernel
theorem dX11_tag_38 : decode cX11_tag 38 = .ok (.getfield 123, 3) := by decide +kernel
theorem dX11_tag_41 : decode cX11_tag 41 = .ok (.iload_n 1, 1) := by decide +kernel
theorem dX11_tag_42 : decode cX11_tag 42 = .ok (.baload, 1) := by decide +kernel
theorem dX11_tag_43 : decode cX11_tag 43 = .ok (.ireturn, 1) := by decide +kernel
theorem dX11_thread_0 : decode cX11_thread 0 = .ok (.aload_n 0, 1) := by decide +kernel
theorem dX11_thread_1 : decode cX11_thread 1 = .ok (.getfield 14, 3) := by decide +kernel
theorem dX11_thread_4 : decode cX11_thread 4 = .ok (.iload_n 1, 1) := by decide +kernel
theorem dX11_thread_5 : decode cX11_thread 5 = .ok (.invokevirtual 86, 3) := by decide +kernel
theorem dX11_thread_8 : decode cX11_thread 8 = .ok (.astore_n 3, 1) := by decide +kernel
theorem dX11_thread_9 : decode cX11_thread 9 = .ok (.aload_n 3, 1) := by decide +kernel
theorem dX11_thread_10 : decode cX11_thread 10 = .ok (.ifnonnull 7, 3) := by decide +kernel
theorem dX11_thread_13 : decode cX11_thread 13 = .ok (.iconst (-1), 1) := by decide +kernel
theorem dX11_thread_14 : decode cX11_thread 14 = .ok (.goto 8, 3) := by decide +kernel
theorem dX11_thread_17 : decode cX11_thread 17 = .ok (.aload_n 3, 1) := by decide +kernel
theorem dX11_thread_18 : decode cX11_thread 18 = .ok (.iload_n 2, 1) := by decide +kernel
theorem dX11_thread_19 : decode cX11_thread 19 = .ok (.invokevirtual 127, 3) := by decide +kernel
theorem dX11_thread_22 : decode cX11_thread 22 = .ok (.ireturn, 1) := by decide +kernel
theorem dX11_compartment_0 : decode cX11_compartment 0 = .ok (.aload_n 0, 1) := by decide +kernel
theorem dX11_compartment_1 : decode cX11_compartment 1 = .ok (.getfield 14, 3) := by decide +kernel
theorem dX11_compartment_4 : decode cX11_compartment 4 = .ok (.iload_n 1, 1) := by decide +kernel
theorem dX11_compartment_5 : decode cX11_compartment 5 = .ok (.invokevirtual 130, 3) := by decide +kernel
theorem dX11_compartment_8 : decode cX11_compartment 8 = .ok (.astore_n 3, 1) := by decide +kernel
theorem dX11_compartment_9 : decode cX11_compartment 9 = .ok (.aload_n 3, 1) := by decide +kernel
theorem dX11_compartment_10 : decode cX11_compartment 10 = .ok (.ifnonnull 7, 3) := by decide +kernel
theorem dX11_compartment_13 : decode cX11_compartment 13 = .ok (.iconst (-1), 1) := by decide +kernel
theorem dX11_compartment_14 : decode cX11_compartment 14 = .ok (.goto 8, 3) := by decide +kernel
theorem dX11_compartment_17 : decode cX11_compartment 17 = .ok (.aload_n 3, 1) := by decide +kernel
theorem dX11_compartment_18 : decode cX11_compartment 18 = .ok (.iload_n 2, 1) := by decide +kernel
theorem dX11_compartment_19 : decode cX11_compartment 19 = .ok (.invokevirtual 134, 3) := by decide +kernel
theorem dX11_compartment_22 : decode cX11_compartment 22 = .ok (.ireturn, 1) := by decide +kernel
theorem dX11_heap_0 : decode cX11_heap 0 = .ok (.aload_n 0, 1) := by decide +kernel
theorem dX11_heap_1 : decode cX11_heap 1 = .ok (.getfield 14, 3) := by decide +kernel
theorem dX11_heap_4 : decode cX11_heap 4 = .ok (.getfield 59, 3) := by decide +kernel
theorem dX11_heap_7 : decode cX11_heap 7 = .ok (.ifCond .eq 17, 3) := by decide +kernel
theorem dX11_heap_10 : decode cX11_heap 10 = .ok (.aload_n 0, 1) := by decide +kernel
theorem dX11_heap_11 : decode cX11_heap 11 = .ok (.getfield 14, 3) := by decide +kernel
theorem dX11_heap_14 : decode cX11_heap 14 = .ok (.getfield 137, 3) := by decide +kernel
theorem dX11_heap_17 : decode cX11_heap 17 = .ok (.iload_n 1, 1) := by decide +kernel
theorem dX11_heap_18 : decode cX11_heap 18 = .ok (.invokevirtual 141, 3) := by decide +kernel
theorem dX11_heap_21 : decode cX11_heap 21 = .ok (.goto 4, 3) := by decide +kernel
theorem dX11_heap_24 : decode cX11_heap 24 = .ok (.iconst (-1), 1) := by decide +kernel
theorem dX11_heap_25 : decode cX11_heap 25 = .ok (.ireturn, 1) := by decide +kernel
theorem dX11_count_0 : decode cX11_count 0 = .ok (.iload_n 1, 1) := by decide +kernel
theorem dX11_count_1 : decode cX11_count 1 = .ok (.bipush 6, 2) := by decide +kernel
theorem dX11_count_3 : decode cX11_count 3 = .ok (.if_icmp .ne 13, 3) := by decide +kernel
theorem dX11_count_6 : decode cX11_count 6 = .ok (.aload_n 0, 1) := by decide +kernel
theorem dX11_count_7 : decode cX11_count 7 = .ok (.getfield 21, 3) := by decide +kernel
theorem dX11_count_10 : decode cX11_count 10 = .ok (.getfield 32, 3) := by decide +kernel
theorem dX11_count_13 : decode cX11_count 13 = .ok (.goto 11, 3) := by decide +kernel
theorem dX11_count_16 : decode cX11_count 16 = .ok (.aload_n 0, 1) := by decide +kernel
theorem dX11_count_17 : decode cX11_count 17 = .ok (.getfield 14, 3) := by decide +kernel
theorem dX11_count_20 : decode cX11_count 20 = .ok (.iload_n 1, 1) := by decide +kernel
theorem dX11_count_21 : decode cX11_count 21 = .ok (.invokevirtual 144, 3) := by decide +kernel
theorem dX11_count_24 : decode cX11_count 24 = .ok (.ireturn, 1) := by decide +kernel
theorem dX11_broken_0 : decode cX11_broken 0 = .ok (.iconst 0, 1) := by decide +kernel
theorem dX11_broken_1 : decode cX11_broken 1 = .ok (.ireturn, 1) := by decide +kernel
theorem dX11_unsigned_0 : decode cX11_unsigned 0 = .ok (.iload_n 0, 1) := by decide +kernel
theorem dX11_unsigned_1 : decode cX11_unsigned 1 = .ok (.i2l, 1) := by decide +kernel
theorem dX11_unsigned_2 : decode cX11_unsigned 2 = .ok (.ldc2_w 145, 3) := by decide +kernel
theorem dX11_unsigned_5 : decode cX11_unsigned 5 = .ok (.land, 1) := by decide +kernel
theorem dX11_unsigned_6 : decode cX11_unsigned 6 = .ok (.lreturn, 1) := by decide +kernel
theorem dX12_init_0 : decode cX12_init 0 = .ok (.aload_n 0, 1) := by decide +kernel
theorem dX12_init_1 : decode cX12_init 1 = .ok (.invokespecial 1, 3) := by decide +kernel
theorem dX12_init_4 : decode cX12_init 4 = .ok (.aload_n 0, 1) := by decide +kernel
theorem dX12_init_5 : decode cX12_init 5 = .ok (.sipush 600, 3) := by decide +kernel
theorem dX12_init_8 : decode cX12_init 8 = .ok (.newarray .int, 2) := by decide +kernel
theorem dX12_init_10 : decode cX12_init 10 = .ok (.putfield 7, 3) := by decide +kernel
theorem dX12_init_13 : decode cX12_init 13 = .ok (.aload_n 0, 1) := by decide +kernel
theorem dX12_init_14 : decode cX12_init 14 = .ok (.sipush 600, 3) := by decide +kernel
theorem dX12_init_17 : decode cX12_init 17 = .ok (.newarray .int, 2) := by decide +kernel
theorem dX12_init_19 : decode cX12_init 19 = .ok (.putfield 13, 3) := by decide +kernel
theorem dX12_init_22 : decode cX12_init 22 = .ok (.aload_n 0, 1) := by decide +kernel
theorem dX12_init_23 : decode cX12_init 23 = .ok (.sipush 600, 3) := by decide +kernel
theorem dX12_init_26 : decode cX12_init 26 = .ok (.newarray .int, 2) := by decide +kernel
theorem dX12_init_28 : decode cX12_init 28 = .ok (.putfield 16, 3) := by decide +kernel
theorem dX12_init_31 : decode cX12_init 31 = .ok (.aload_n 0, 1) := by decide +kernel
theorem dX12_init_32 : decode cX12_init 32 = .ok (.sipush 600, 3) := by decide +kernel
theorem dX12_init_35 : decode cX12_init 35 = .ok (.newarray .int, 2) := by decide +kernel
theorem dX12_init_37 : decode cX12_init 37 = .ok (.putfield 19, 3) := by decide +kernel
theorem dX12_init_40 : decode cX12_init 40 = .ok (.aload_n 0, 1) := by decide +kernel
theorem dX12_init_41 : decode cX12_init 41 = .ok (.sipush 600, 3) := by decide +kernel
theorem dX12_init_44 : decode cX12_init 44 = .ok (.newarray .int, 2) := by decide +kernel
theorem dX12_init_46 : decode cX12_init 46 = .ok (.putfield 22, 3) := by decide +kernel
theorem dX12_init_49 : decode cX12_init 49 = .ok (.aload_n 0, 1) := by decide +kernel
theorem dX12_init_50 : decode cX12_init 50 = .ok (.sipush 600, 3) := by decide +kernel
theorem dX12_init_53 : decode cX12_init 53 = .ok (.newarray .boolean, 2) := by decide +kernel
theorem dX12_init_55 : decode cX12_init 55 = .ok (.putfield 25, 3) := by decide +kernel
theorem dX12_init_58 : decode cX12_init 58 = .ok (.aload_n 0, 1) := by decide +kernel
theorem dX12_init_59 : decode cX12_init 59 = .ok (.sipush 5000, 3) := by decide +kernel
theorem dX12_init_62 : decode cX12_init 62 = .ok (.newarray .byte, 2) := by decide +kernel
theorem dX12_init_64 : decode cX12_init 64 = .ok (.putfield 29, 3) := by decide +kernel
theorem dX12_init_67 : decode cX12_init 67 = .ok (.aload_n 0, 1) := by decide +kernel
theorem dX12_init_68 : decode cX12_init 68 = .ok (.sipush 5000, 3) := by decide +kernel
theorem dX12_init_71 : decode cX12_init 71 = .ok (.newarray .byte, 2) := by decide +kernel
theorem dX12_init_73 : decode cX12_init 73 = .ok (.putfield 33, 3) := by decide +kernel
theorem dX12_init_76 : decode cX12_init 76 = .ok (.aload_n 0, 1) := by decide +kernel
theorem dX12_init_77 : decode cX12_init 77 = .ok (.iconst (-1), 1) := by decide +kernel
theorem dX12_init_78 : decode cX12_init 78 = .ok (.putfield 36, 3) := by decide +kernel
theorem dX12_init_81 : decode cX12_init 81 = .ok (.aload_n 0, 1) := by decide +kernel
theorem dX12_init_82 : decode cX12_init 82 = .ok (.bipush 8, 2) := by decide +kernel
theorem dX12_init_84 : decode cX12_init 84 = .ok (.newarray .int, 2) := by decide +kernel
theorem dX12_init_86 : decode cX12_init 86 = .ok (.putfield 40, 3) := by decide +kernel
theorem dX12_init_89 : decode cX12_init 89 = .ok (.aload_n 0, 1) := by decide +kernel
theorem dX12_init_90 : decode cX12_init 90 = .ok (.bipush 8, 2) := by decide +kernel
theorem dX12_init_92 : decode cX12_init 92 = .ok (.newarray .int, 2) := by decide +kernel
theorem dX12_init_94 : decode cX12_init 94 = .ok (.putfield 43, 3) := by decide +kernel
theorem dX12_init_97 : decode cX12_init 97 = .ok (.aload_n 0, 1) := by decide +kernel
theorem dX12_init_98 : decode cX12_init 98 = .ok (.bipush 8, 2) := by decide +kernel
theorem dX12_init_100 : decode cX12_init 100 = .ok (.newarray .int, 2) := by decide +kernel
theorem dX12_init_102 : decode cX12_init 102 = .ok (.putfield 46, 3) := by decide +kernel
theorem dX12_init_105 : decode cX12_init 105 = .ok (.aload_n 0, 1) := by decide +kernel
theorem dX12_init_106 : decode cX12_init 106 = .ok (.bipush 8, 2) := by decide +kernel
theorem dX12_init_108 : decode cX12_init 108 = .ok (.newarray .int, 2) := by decide +kernel
theorem dX12_init_110 : decode cX12_init 110 = .ok (.putfield 49, 3) := by decide +kernel
theorem dX12_init_113 : decode cX12_init 113 = .ok (.aload_n 0, 1) := by decide +kernel
theorem dX12_init_114 : decode cX12_init 114 = .ok (.bipush 8, 2) := by decide +kernel
theorem dX12_init_116 : decode cX12_init 116 = .ok (.newarray .int, 2) := by decide +kernel
theorem dX12_init_118 : decode cX12_init 118 = .ok (.putfield 52, 3) := by decide +kernel
theorem dX12_init_121 : decode cX12_init 121 = .ok (.aload_n 0, 1) := by decide +kernel
theorem dX12_init_122 : decode cX12_init 122 = .ok (.bipush 64, 2) := by decide +kernel
theorem dX12_init_124 : decode cX12_init 124 = .ok (.newarray .int, 2) := by decide +kernel
theorem dX12_init_126 : decode cX12_init 126 = .ok (.putfield 55, 3) := by decide +kernel
theorem dX12_init_129 : decode cX12_init 129 = .ok (.aload_n 0, 1) := by decide +kernel
theorem dX12_init_130 : decode cX12_init 130 = .ok (.bipush 64, 2) := by decide +kernel
theorem dX12_init_132 : decode cX12_init 132 = .ok (.newarray .int, 2) := by decide +kernel
theorem dX12_init_134 : decode cX12_init 134 = .ok (.putfield 58, 3) := by decide +kernel
theorem dX12_init_137 : decode cX12_init 137 = .ok (.aload_n 0, 1) := by decide +kernel
theorem dX12_init_138 : decode cX12_init 138 = .ok (.bipush 6, 2) := by decide +kernel
theorem dX12_init_140 : decode cX12_init 140 = .ok (.newarray .int, 2) := by decide +kernel
theorem dX12_init_142 : decode cX12_init 142 = .ok (.putfield 61, 3) := by decide +kernel
theorem dX12_init_145 : decode cX12_init 145 = .ok (.aload_n 0, 1) := by decide +kernel
theorem dX12_init_146 : decode cX12_init 146 = .ok (.bipush 6, 2) := by decide +kernel
theorem dX12_init_148 : decode cX12_init 148 = .ok (.newarray .int, 2) := by decide +kernel
theorem dX12_init_150 : decode cX12_init 150 = .ok (.putfield 64, 3) := by decide +kernel
theorem dX12_init_153 : decode cX12_init 153 = .ok (.aload_n 0, 1) := by decide +kernel
theorem dX12_init_154 : decode cX12_init 154 = .ok (.bipush 6, 2) := by decide +kernel
theorem dX12_init_156 : decode cX12_init 156 = .ok (.newarray .int, 2) := by decide +kernel
theorem dX12_init_158 : decode cX12_init 158 = .ok (.putfield 67, 3) := by decide +kernel
theorem dX12_init_161 : decode cX12_init 161 = .ok (.aload_n 0, 1) := by decide +kernel
theorem dX12_init_162 : decode cX12_init 162 = .ok (.bipush 6, 2) := by decide +kernel
theorem dX12_init_164 : decode cX12_init 164 = .ok (.newarray .int, 2) := by decide +kernel
theorem dX12_init_166 : decode cX12_init 166 = .ok (.putfield 70, 3) := by decide +kernel
theorem dX12_init_169 : decode cX12_init 169 = .ok (.aload_n 0, 1) := by decide +kernel
theorem dX12_init_170 : decode cX12_init 170 = .ok (.bipush 6, 2) := by decide +kernel
theorem dX12_init_172 : decode cX12_init 172 = .ok (.newarray .int, 2) := by decide +kernel
theorem dX12_init_174 : decode cX12_init 174 = .ok (.putfield 73, 3) := by decide +kernel
theorem dX12_init_177 : decode cX12_init 177 = .ok (.aload_n 0, 1) := by decide +kernel
theorem dX12_init_178 : decode cX12_init 178 = .ok (.bipush 6, 2) := by decide +kernel
theorem dX12_init_180 : decode cX12_init 180 = .ok (.newarray .boolean, 2) := by decide +kernel
theorem dX12_init_182 : decode cX12_init 182 = .ok (.putfield 76, 3) := by decide +kernel
theorem dX12_init_185 : decode cX12_init 185 = .ok (.aload_n 0, 1) := by decide +kernel
theorem dX12_init_186 : decode cX12_init 186 = .ok (.bipush 6, 2) := by decide +kernel
theorem dX12_init_188 : decode cX12_init 188 = .ok (.newarray .int, 2) := by decide +kernel
theorem dX12_init_190 : decode cX12_init 190 = .ok (.putfield 79, 3) := by decide +kernel
theorem dX12_init_193 : decode cX12_init 193 = .ok (.aload_n 0, 1) := by decide +kernel
theorem dX12_init_194 : decode cX12_init 194 = .ok (.bipush 6, 2) := by decide +kernel
theorem dX12_init_196 : decode cX12_init 196 = .ok (.newarray .int, 2) := by decide +kernel
theorem dX12_init_198 : decode cX12_init 198 = .ok (.putfield 82, 3) := by decide +kernel
theorem dX12_init_201 : decode cX12_init 201 = .ok (.aload_n 0, 1) := by decide +kernel
theorem dX12_init_202 : decode cX12_init 202 = .ok (.bipush 6, 2) := by decide +kernel
theorem dX12_init_204 : decode cX12_init 204 = .ok (.newarray .int, 2) := by decide +kernel
theorem dX12_init_206 : decode cX12_init 206 = .ok (.putfield 85, 3) := by decide +kernel
theorem dX12_init_209 : decode cX12_init 209 = .ok (.aload_n 0, 1) := by decide +kernel
theorem dX12_init_210 : decode cX12_init 210 = .ok (.bipush 6, 2) := by decide +kernel
theorem dX12_init_212 : decode cX12_init 212 = .ok (.newarray .int, 2) := by decide +kernel
theorem dX12_init_214 : decode cX12_init 214 = .ok (.putfield 88, 3) := by decide +kernel
theorem dX12_init_217 : decode cX12_init 217 = .ok (.aload_n 0, 1) := by decide +kernel
theorem dX12_init_218 : decode cX12_init 218 = .ok (.bipush 6, 2) := by decide +kernel
theorem dX12_init_220 : decode cX12_init 220 = .ok (.newarray .int, 2) := by decide +kernel
theorem dX12_init_222 : decode cX12_init 222 = .ok (.putfield 91, 3) := by decide +kernel
theorem dX12_init_225 : decode cX12_init 225 = .ok (.aload_n 0, 1) := by decide +kernel
theorem dX12_init_226 : decode cX12_init 226 = .ok (.bipush 6, 2) := by decide +kernel
theorem dX12_init_228 : decode cX12_init 228 = .ok (.newarray .int, 2) := by decide +kernel
theorem dX12_init_230 : decode cX12_init 230 = .ok (.putfield 94, 3) := by decide +kernel
theorem dX12_init_233 : decode cX12_init 233 = .ok (.aload_n 0, 1) := by decide +kernel
theorem dX12_init_234 : decode cX12_init 234 = .ok (.bipush 6, 2) := by decide +kernel
theorem dX12_init_236 : decode cX12_init 236 = .ok (.newarray .int, 2) := by decide +kernel
theorem dX12_init_238 : decode cX12_init 238 = .ok (.putfield 97, 3) := by decide +kernel
theorem dX12_init_241 : decode cX12_init 241 = .ok (.aload_n 0, 1) := by decide +kernel
theorem dX12_init_242 : decode cX12_init 242 = .ok (.bipush 6, 2) := by decide +kernel
theorem dX12_init_244 : decode cX12_init 244 = .ok (.newarray .int, 2) := by decide +kernel
theorem dX12_init_246 : decode cX12_init 246 = .ok (.putfield 100, 3) := by decide +kernel
theorem dX12_init_249 : decode cX12_init 249 = .ok (.aload_n 0, 1) := by decide +kernel
theorem dX12_init_250 : decode cX12_init 250 = .ok (.bipush 6, 2) := by decide +kernel
theorem dX12_init_252 : decode cX12_init 252 = .ok (.newarray .int, 2) := by decide +kernel
theorem dX12_init_254 : decode cX12_init 254 = .ok (.putfield 103, 3) := by decide +kernel
theorem dX12_init_257 : decode cX12_init 257 = .ok (.aload_n 0, 1) := by decide +kernel
theorem dX12_init_258 : decode cX12_init 258 = .ok (.bipush 6, 2) := by decide +kernel
theorem dX12_init_260 : decode cX12_init 260 = .ok (.newarray .int, 2) := by decide +kernel
theorem dX12_init_262 : decode cX12_init 262 = .ok (.putfield 106, 3) := by decide +kernel
theorem dX12_init_265 : decode cX12_init 265 = .ok (.aload_n 0, 1) := by decide +kernel
theorem dX12_init_266 : decode cX12_init 266 = .ok (.bipush 6, 2) := by decide +kernel
theorem dX12_init_268 : decode cX12_init 268 = .ok (.newarray .int, 2) := by decide +kernel
theorem dX12_init_270 : decode cX12_init 270 = .ok (.putfield 109, 3) := by decide +kernel
theorem dX12_init_273 : decode cX12_init 273 = .ok (.aload_n 0, 1) := by decide +kernel
theorem dX12_init_274 : decode cX12_init 274 = .ok (.bipush 96, 2) := by decide +kernel
theorem dX12_init_276 : decode cX12_init 276 = .ok (.newarray .int, 2) := by decide +kernel
theorem dX12_init_278 : decode cX12_init 278 = .ok (.putfield 112, 3) := by decide +kernel
theorem dX12_init_281 : decode cX12_init 281 = .ok (.aload_n 0, 1) := by decide +kernel
theorem dX12_init_282 : decode cX12_init 282 = .ok (.bipush 96, 2) := by decide +kernel
theorem dX12_init_284 : decode cX12_init 284 = .ok (.newarray .boolean, 2) := by decide +kernel
theorem dX12_init_286 : decode cX12_init 286 = .ok (.putfield 115, 3) := by decide +kernel
theorem dX12_init_289 : decode cX12_init 289 = .ok (.aload_n 0, 1) := by decide +kernel
theorem dX12_init_290 : decode cX12_init 290 = .ok (.bipush 96, 2) := by decide +kernel
theorem dX12_init_292 : decode cX12_init 292 = .ok (.newarray .int, 2) := by decide +kernel
theorem dX12_init_294 : decode cX12_init 294 = .ok (.putfield 118, 3) := by decide +kernel
theorem dX12_init_297 : decode cX12_init 297 = .ok (.aload_n 0, 1) := by decide +kernel
theorem dX12_init_298 : decode cX12_init 298 = .ok (.sipush 2049, 3) := by decide +kernel
theorem dX12_init_301 : decode cX12_init 301 = .ok (.newarray .int, 2) := by decide +kernel
theorem dX12_init_303 : decode cX12_init 303 = .ok (.putfield 121, 3) := by decide +kernel
theorem dX12_init_306 : decode cX12_init 306 = .ok (.aload_n 0, 1) := by decide +kernel
theorem dX12_init_307 : decode cX12_init 307 = .ok (.sipush 2049, 3) := by decide +kernel
theorem dX12_init_310 : decode cX12_init 310 = .ok (.newarray .int, 2) := by decide +kernel
theorem dX12_init_312 : decode cX12_init 312 = .ok (.putfield 124, 3) := by decide +kernel
theorem dX12_init_315 : decode cX12_init 315 = .ok (.aload_n 0, 1) := by decide +kernel
theorem dX12_init_316 : decode cX12_init 316 = .ok (.sipush 2049, 3) := by decide +kernel
theorem dX12_init_319 : decode cX12_init 319 = .ok (.newarray .boolean, 2) := by decide +kernel
theorem dX12_init_321 : decode cX12_init 321 = .ok (.putfield 127, 3) := by decide +kernel
theorem dX12_init_324 : decode cX12_init 324 = .ok (.aload_n 0, 1) := by decide +kernel
theorem dX12_init_325 : decode cX12_init 325 = .ok (.sipush 2049, 3) := by decide +kernel
theorem dX12_init_328 : decode cX12_init 328 = .ok (.newarray .boolean, 2) := by decide +kernel
theorem dX12_init_330 : decode cX12_init 330 = .ok (.putfield 130, 3) := by decide +kernel
theorem dX12_init_333 : decode cX12_init 333 = .ok (.aload_n 0, 1) := by decide +kernel
theorem dX12_init_334 : decode cX12_init 334 = .ok (.bipush 64, 2) := by decide +kernel
theorem dX12_init_336 : decode cX12_init 336 = .ok (.newarray .int, 2) := by decide +kernel
theorem dX12_init_338 : decode cX12_init 338 = .ok (.putfield 133, 3) := by decide +kernel
theorem dX12_init_341 : decode cX12_init 341 = .ok (.aload_n 0, 1) := by decide +kernel
theorem dX12_init_342 : decode cX12_init 342 = .ok (.sipush 500, 3) := by decide +kernel
theorem dX12_init_345 : decode cX12_init 345 = .ok (.newarray .int, 2) := by decide +kernel
theorem dX12_init_347 : decode cX12_init 347 = .ok (.putfield 136, 3) := by decide +kernel
theorem dX12_init_350 : decode cX12_init 350 = .ok (.aload_n 0, 1) := by decide +kernel
theorem dX12_init_351 : decode cX12_init 351 = .ok (.bipush 8, 2) := by decide +kernel
theorem dX12_init_353 : decode cX12_init 353 = .ok (.newarray .int, 2) := by decide +kernel
theorem dX12_init_355 : decode cX12_init 355 = .ok (.putfield 139, 3) := by decide +kernel
theorem dX12_init_358 : decode cX12_init 358 = .ok (.aload_n 0, 1) := by decide +kernel
theorem dX12_init_359 : decode cX12_init 359 = .ok (.bipush 8, 2) := by decide +kernel
theorem dX12_init_361 : decode cX12_init 361 = .ok (.newarray .int, 2) := by decide +kernel
theorem dX12_init_363 : decode cX12_init 363 = .ok (.putfield 142, 3) := by decide +kernel
theorem dX12_init_366 : decode cX12_init 366 = .ok (.aload_n 0, 1) := by decide +kernel
theorem dX12_init_367 : decode cX12_init 367 = .ok (.bipush 8, 2) := by decide +kernel
theorem dX12_init_369 : decode cX12_init 369 = .ok (.newarray .int, 2) := by decide +kernel
theorem dX12_init_371 : decode cX12_init 371 = .ok (.putfield 145, 3) := by decide +kernel
theorem dX12_init_374 : decode cX12_init 374 = .ok (.aload_n 0, 1) := by decide +kernel
theorem dX12_init_375 : decode cX12_init 375 = .ok (.sipush 128, 3) := by decide +kernel
theorem dX12_init_378 : decode cX12_init 378 = .ok (.newarray .int, 2) := by decide +kernel
theorem dX12_init_380 : decode cX12_init 380 = .ok (.putfield 148, 3) := by decide +kernel
theorem dX12_init_383 : decode cX12_init 383 = .ok (.aload_n 0, 1) := by decide +kernel
theorem dX12_init_384 : decode cX12_init 384 = .ok (.sipush 128, 3) := by decide +kernel
theorem dX12_init_387 : decode cX12_init 387 = .ok (.newarray .int, 2) := by decide +kernel
theorem dX12_init_389 : decode cX12_init 389 = .ok (.putfield 151, 3) := by decide +kernel
theorem dX12_init_392 : decode cX12_init 392 = .ok (.aload_n 0, 1) := by decide +kernel
theorem dX12_init_393 : decode cX12_init 393 = .ok (.sipush 128, 3) := by decide +kernel
theorem dX12_init_396 : decode cX12_init 396 = .ok (.newarray .int, 2) := by decide +kernel
theorem dX12_init_398 : decode cX12_init 398 = .ok (.putfield 154, 3) := by decide +kernel
theorem dX12_init_401 : decode cX12_init 401 = .ok (.aload_n 0, 1) := by decide +kernel
theorem dX12_init_402 : decode cX12_init 402 = .ok (.sipush 128, 3) := by decide +kernel
theorem dX12_init_405 : decode cX12_init 405 = .ok (.newarray .int, 2) := by decide +kernel
theorem dX12_init_407 : decode cX12_init 407 = .ok (.putfield 157, 3) := by decide +kernel
theorem dX12_init_410 : decode cX12_init 410 = .ok (.aload_n 0, 1) := by decide +kernel
theorem dX12_init_411 : decode cX12_init 411 = .ok (.bipush 8, 2) := by decide +kernel
theorem dX12_init_413 : decode cX12_init 413 = .ok (.newarray .int, 2) := by decide +kernel
theorem dX12_init_415 : decode cX12_init 415 = .ok (.putfield 160, 3) := by decide +kernel
theorem dX12_init_418 : decode cX12_init 418 = .ok (.aload_n 0, 1) := by decide +kernel
theorem dX12_init_419 : decode cX12_init 419 = .ok (.bipush 6, 2) := by decide +kernel
theorem dX12_init_421 : decode cX12_init 421 = .ok (.newarray .int, 2) := by decide +kernel
theorem dX12_init_423 : decode cX12_init 423 = .ok (.putfield 163, 3) := by decide +kernel
theorem dX12_init_426 : decode cX12_init 426 = .ok (.aload_n 0, 1) := by decide +kernel
theorem dX12_init_427 : decode cX12_init 427 = .ok (.bipush 6, 2) := by decide +kernel
theorem dX12_init_429 : decode cX12_init 429 = .ok (.newarray .int, 2) := by decide +kernel
theorem dX12_init_431 : decode cX12_init 431 = .ok (.putfield 166, 3) := by decide +kernel
theorem dX12_init_434 : decode cX12_init 434 = .ok (.aload_n 0, 1) := by decide +kernel
theorem dX12_init_435 : decode cX12_init 435 = .ok (.bipush 6, 2) := by decide +kernel
theorem dX12_init_437 : decode cX12_init 437 = .ok (.newarray .int, 2) := by decide +kernel
theorem dX12_init_439 : decode cX12_init 439 = .ok (.putfield 169, 3) := by decide +kernel
theorem dX12_init_442 : decode cX12_init 442 = .ok (.aload_n 0, 1) := by decide +kernel
theorem dX12_init_443 : decode cX12_init 443 = .ok (.bipush 6, 2) := by decide +kernel
theorem dX12_init_445 : decode cX12_init 445 = .ok (.newarray .int, 2) := by decide +kernel
theorem dX12_init_447 : decode cX12_init 447 = .ok (.putfield 172, 3) := by decide +kernel
theorem dX12_init_450 : decode cX12_init 450 = .ok (.aload_n 0, 1) := by decide +kernel
theorem dX12_init_451 : decode cX12_init 451 = .ok (.sipush 1024, 3) := by decide +kernel
theorem dX12_init_454 : decode cX12_init 454 = .ok (.iload_n 1, 1) := by decide +kernel
theorem dX12_init_455 : decode cX12_init 455 = .ok (.iconst 1, 1) := by decide +kernel
theorem dX12_init_456 : decode cX12_init 456 = .ok (.if_icmp .lt 13, 3) := by decide +kernel
theorem dX12_init_459 : decode cX12_init 459 = .ok (.iload_n 1, 1) := by decide +kernel
theorem dX12_init_460 : decode cX12_init 460 = .ok (.bipush 32, 2) := by decide +kernel
theorem dX12_init_462 : decode cX12_init 462 = .ok (.if_icmp .gt 7, 3) := by decide +kernel
theorem dX12_init_465 : decode cX12_init 465 = .ok (.iload_n 1, 1) := by decide +kernel
theorem dX12_init_466 : decode cX12_init 466 = .ok (.goto 5, 3) := by decide +kernel
theorem dX12_init_469 : decode cX12_init 469 = .ok (.bipush 8, 2) := by decide +kernel
theorem dX12_init_471 : decode cX12_init 471 = .ok (.imul, 1) := by decide +kernel
theorem dX12_init_472 : decode cX12_init 472 = .ok (.putfield 175, 3) := by decide +kernel
theorem dX12_init_475 : decode cX12_init 475 = .ok (.aload_n 0, 1) := by decide +kernel
theorem dX12_init_476 : decode cX12_init 476 = .ok (.ldc 178, 2) := by decide +kernel
theorem dX12_init_478 : decode cX12_init 478 = .ok (.newarray .byte, 2) := by decide +kernel
theorem dX12_init_480 : decode cX12_init 480 = .ok (.putfield 179, 3) := by decide +kernel
theorem dX12_init_483 : decode cX12_init 483 = .ok (.aload_n 0, 1) := by decide +kernel
theorem dX12_init_484 : decode cX12_init 484 = .ok (.sipush 2048, 3) := by decide +kernel
theorem dX12_init_487 : decode cX12_init 487 = .ok (.newarray .boolean, 2) := by decide +kernel
theorem dX12_init_489 : decode cX12_init 489 = .ok (.putfield 182, 3) := by decide +kernel
theorem dX12_init_492 : decode cX12_init 492 = .ok (.aload_n 0, 1) := by decide +kernel
theorem dX12_init_493 : decode cX12_init 493 = .ok (.sipush 2048, 3) := by decide +kernel
theorem dX12_init_496 : decode cX12_init 496 = .ok (.newarray .boolean, 2) := by decide +kernel
theorem dX12_init_498 : decode cX12_init 498 = .ok (.putfield 185, 3) := by decide +kernel
theorem dX12_init_501 : decode cX12_init 501 = .ok (.aload_n 0, 1) := by decide +kernel
theorem dX12_init_502 : decode cX12_init 502 = .ok (.invokevirtual 188, 3) := by decide +kernel
theorem dX12_init_505 : decode cX12_init 505 = .ok (.return_, 1) := by decide +kernel
theorem dX12_begins_0 : decode cX12_begins 0 = .ok (.aload_n 0, 1) := by decide +kernel
theorem dX12_begins_1 : decode cX12_begins 1 = .ok (.iconst 0, 1) := by decide +kernel
theorem dX12_begins_2 : decode cX12_begins 2 = .ok (.putfield 191, 3) := by decide +kernel
theorem dX12_begins_5 : decode cX12_begins 5 = .ok (.aload_n 0, 1) := by decide +kernel
theorem dX12_begins_6 : decode cX12_begins 6 = .ok (.iconst 0, 1) := by decide +kernel
theorem dX12_begins_7 : decode cX12_begins 7 = .ok (.putfield 195, 3) := by decide +kernel
theorem dX12_begins_10 : decode cX12_begins 10 = .ok (.aload_n 0, 1) := by decide +kernel
theorem dX12_begins_11 : decode cX12_begins 11 = .ok (.iconst 0, 1) := by decide +kernel
theorem dX12_begins_12 : decode cX12_begins 12 = .ok (.putfield 198, 3) := by decide +kernel
theorem dX12_begins_15 : decode cX12_begins 15 = .ok (.aload_n 0, 1) := by decide +kernel
theorem dX12_begins_16 : decode cX12_begins 16 = .ok (.iconst 0, 1) := by decide +kernel
theorem dX12_begins_17 : decode cX12_begins 17 = .ok (.putfield 201, 3) := by decide +kernel
theorem dX12_begins_20 : decode cX12_begins 20 = .ok (.aload_n 0, 1) := by decide +kernel
theorem dX12_begins_21 : decode cX12_begins 21 = .ok (.iconst (-1), 1) := by decide +kernel
theorem dX12_begins_22 : decode cX12_begins 22 = .ok (.putfield 204, 3) := by decide +kernel
theorem dX12_begins_25 : decode cX12_begins 25 = .ok (.aload_n 0, 1) := by decide +kernel
theorem dX12_begins_26 : decode cX12_begins 26 = .ok (.iconst 0, 1) := by decide +kernel
theorem dX12_begins_27 : decode cX12_begins 27 = .ok (.putfield 207, 3) := by decide +kernel
theorem dX12_begins_30 : decode cX12_begins 30 = .ok (.aload_n 0, 1) := by decide +kernel
theorem dX12_begins_31 : decode cX12_begins 31 = .ok (.iconst 0, 1) := by decide +kernel
theorem dX12_begins_32 : decode cX12_begins 32 = .ok (.putfield 210, 3) := by decide +kernel
theorem dX12_begins_35 : decode cX12_begins 35 = .ok (.aload_n 0, 1) := by decide +kernel
theorem dX12_begins_36 : decode cX12_begins 36 = .ok (.iconst 0, 1) := by decide +kernel
theorem dX12_begins_37 : decode cX12_begins 37 = .ok (.putfield 213, 3) := by decide +kernel
theorem dX12_begins_40 : decode cX12_begins 40 = .ok (.aload_n 0, 1) := by decide +kernel
theorem dX12_begins_41 : decode cX12_begins 41 = .ok (.iconst 0, 1) := by decide +kernel
theorem dX12_begins_42 : decode cX12_begins 42 = .ok (.putfield 216, 3) := by decide +kernel
theorem dX12_begins_45 : decode cX12_begins 45 = .ok (.aload_n 0, 1) := by decide +kernel
theorem dX12_begins_46 : decode cX12_begins 46 = .ok (.iconst 0, 1) := by decide +kernel
theorem dX12_begins_47 : decode cX12_begins 47 = .ok (.putfield 219, 3) := by decide +kernel
theorem dX12_begins_50 : decode cX12_begins 50 = .ok (.aload_n 0, 1) := by decide +kernel
theorem dX12_begins_51 : decode cX12_begins 51 = .ok (.iconst 0, 1) := by decide +kernel
theorem dX12_begins_52 : decode cX12_begins 52 = .ok (.putfield 222, 3) := by decide +kernel
theorem dX12_begins_55 : decode cX12_begins 55 = .ok (.aload_n 0, 1) := by decide +kernel
theorem dX12_begins_56 : decode cX12_begins 56 = .ok (.iconst 0, 1) := by decide +kernel
theorem dX12_begins_57 : decode cX12_begins 57 = .ok (.putfield 225, 3) := by decide +kernel
theorem dX12_begins_60 : decode cX12_begins 60 = .ok (.aload_n 0, 1) := by decide +kernel
theorem dX12_begins_61 : decode cX12_begins 61 = .ok (.iconst 0, 1) := by decide +kernel
theorem dX12_begins_62 : decode cX12_begins 62 = .ok (.putfield 228, 3) := by decide +kernel
theorem dX12_begins_65 : decode cX12_begins 65 = .ok (.aload_n 0, 1) := by decide +kernel
theorem dX12_begins_66 : decode cX12_begins 66 = .ok (.iconst (-1), 1) := by decide +kernel
theorem dX12_begins_67 : decode cX12_begins 67 = .ok (.putfield 231, 3) := by decide +kernel
theorem dX12_begins_70 : decode cX12_begins 70 = .ok (.aload_n 0, 1) := by decide +kernel
theorem dX12_begins_71 : decode cX12_begins 71 = .ok (.iconst 0, 1) := by decide +kernel
theorem dX12_begins_72 : decode cX12_begins 72 = .ok (.putfield 234, 3) := by decide +kernel
theorem dX12_begins_75 : decode cX12_begins 75 = .ok (.aload_n 0, 1) := by decide +kernel
theorem dX12_begins_76 : decode cX12_begins 76 = .ok (.iconst 0, 1) := by decide +kernel
theorem dX12_begins_77 : decode cX12_begins 77 = .ok (.putfield 237, 3) := by decide +kernel
theorem dX12_begins_80 : decode cX12_begins 80 = .ok (.aload_n 0, 1) := by decide +kernel
theorem dX12_begins_81 : decode cX12_begins 81 = .ok (.iconst 0, 1) := by decide +kernel
theorem dX12_begins_82 : decode cX12_begins 82 = .ok (.putfield 240, 3) := by decide +kernel
theorem dX12_begins_85 : decode cX12_begins 85 = .ok (.aload_n 0, 1) := by decide +kernel
theorem dX12_begins_86 : decode cX12_begins 86 = .ok (.iconst 0, 1) := by decide +kernel
theorem dX12_begins_87 : decode cX12_begins 87 = .ok (.putfield 243, 3) := by decide +kernel
theorem dX12_begins_90 : decode cX12_begins 90 = .ok (.iconst 0, 1) := by decide +kernel
theorem dX12_begins_91 : decode cX12_begins 91 = .ok (.istore_n 1, 1) := by decide +kernel
theorem dX12_begins_92 : decode cX12_begins 92 = .ok (.iload_n 1, 1) := by decide +kernel
theorem dX12_begins_93 : decode cX12_begins 93 = .ok (.ldc 178, 2) := by decide +kernel
theorem dX12_begins_95 : decode cX12_begins 95 = .ok (.if_icmp .ge 16, 3) := by decide +kernel
theorem dX12_begins_98 : decode cX12_begins 98 = .ok (.aload_n 0, 1) := by decide +kernel
theorem dX12_begins_99 : decode cX12_begins 99 = .ok (.getfield 179, 3) := by decide +kernel
theorem dX12_begins_102 : decode cX12_begins 102 = .ok (.iload_n 1, 1) := by decide +kernel
theorem dX12_begins_103 : decode cX12_begins 103 = .ok (.iconst 0, 1) := by decide +kernel
theorem dX12_begins_104 : decode cX12_begins 104 = .ok (.bastore, 1) := by decide +kernel
theorem dX12_begins_105 : decode cX12_begins 105 = .ok (.iinc 1 1, 3) := by decide +kernel
theorem dX12_begins_108 : decode cX12_begins 108 = .ok (.goto (-16), 3) := by decide +kernel
theorem dX12_begins_111 : decode cX12_begins 111 = .ok (.iconst 0, 1) := by decide +kernel
theorem dX12_begins_112 : decode cX12_begins 112 = .ok (.istore_n 1, 1) := by decide +kernel
theorem dX12_begins_113 : decode cX12_begins 113 = .ok (.iload_n 1, 1) := by decide +kernel
theorem dX12_begins_114 : decode cX12_begins 114 = .ok (.sipush 2048, 3) := by decide +kernel
theorem dX12_begins_117 : decode cX12_begins 117 = .ok (.if_icmp .ge 23, 3) := by decide +kernel
theorem dX12_begins_120 : decode cX12_begins 120 = .ok (.aload_n 0, 1) := by decide +kernel
theorem dX12_begins_121 : decode cX12_begins 121 = .ok (.getfield 182, 3) := by decide +kernel
theorem dX12_begins_124 : decode cX12_begins 124 = .ok (.iload_n 1, 1) := by decide +kernel
theorem dX12_begins_125 : decode cX12_begins 125 = .ok (.iconst 0, 1) := by decide +kernel
theorem dX12_begins_126 : decode cX12_begins 126 = .ok (.bastore, 1) := by decide +kernel
theorem dX12_begins_127 : decode cX12_begins 127 = .ok (.aload_n 0, 1) := by decide +kernel
theorem dX12_begins_128 : decode cX12_begins 128 = .ok (.getfield 185, 3) := by decide +kernel
theorem dX12_begins_131 : decode cX12_begins 131 = .ok (.iload_n 1, 1) := by decide +kernel
theorem dX12_begins_132 : decode cX12_begins 132 = .ok (.iconst 0, 1) := by decide +kernel
theorem dX12_begins_133 : decode cX12_begins 133 = .ok (.bastore, 1) := by decide +kernel
theorem dX12_begins_134 : decode cX12_begins 134 = .ok (.iinc 1 1, 3) := by decide +kernel
theorem dX12_begins_137 : decode cX12_begins 137 = .ok (.goto (-24), 3) := by decide +kernel
theorem dX12_begins_140 : decode cX12_begins 140 = .ok (.iconst 0, 1) := by decide +kernel
theorem dX12_begins_141 : decode cX12_begins 141 = .ok (.istore_n 1, 1) := by decide +kernel
theorem dX12_begins_142 : decode cX12_begins 142 = .ok (.iload_n 1, 1) := by decide +kernel
theorem dX12_begins_143 : decode cX12_begins 143 = .ok (.sipush 600, 3) := by decide +kernel
theorem dX12_begins_146 : decode cX12_begins 146 = .ok (.if_icmp .ge 14, 3) := by decide +kernel
theorem dX12_begins_149 : decode cX12_begins 149 = .ok (.aload_n 0, 1) := by decide +kernel
theorem dX12_begins_150 : decode cX12_begins 150 = .ok (.iload_n 1, 1) := by decide +kernel
theorem dX12_begins_151 : decode cX12_begins 151 = .ok (.invokevirtual 246, 3) := by decide +kernel
theorem dX12_begins_154 : decode cX12_begins 154 = .ok (.iinc 1 1, 3) := by decide +kernel
theorem dX12_begins_157 : decode cX12_begins 157 = .ok (.goto (-15), 3) := by decide +kernel
theorem dX12_begins_160 : decode cX12_begins 160 = .ok (.return_, 1) := by decide +kernel
theorem dX12_nothing_0 : decode cX12_nothing 0 = .ok (.aload_n 0, 1) := by decide +kernel
theorem dX12_nothing_1 : decode cX12_nothing 1 = .ok (.iload_n 1, 1) := by decide +kernel
theorem dX12_nothing_2 : decode cX12_nothing 2 = .ok (.iconst 0, 1) := by decide +kernel
theorem dX12_nothing_3 : decode cX12_nothing 3 = .ok (.iconst 0, 1) := by decide +kernel
theorem dX12_nothing_4 : decode cX12_nothing 4 = .ok (.iconst 0, 1) := by decide +kernel
theorem dX12_nothing_5 : decode cX12_nothing 5 = .ok (.iconst 0, 1) := by decide +kernel
theorem dX12_nothing_6 : decode cX12_nothing 6 = .ok (.iconst 0, 1) := by decide +kernel
theorem dX12_nothing_7 : decode cX12_nothing 7 = .ok (.iconst 0, 1) := by decide +kernel
theorem dX12_nothing_8 : decode cX12_nothing 8 = .ok (.invokevirtual 250, 3) := by decide +kernel
theorem dX12_nothing_11 : decode cX12_nothing 11 = .ok (.return_, 1) := by decide +kernel
theorem dX12_number_0 : decode cX12_number 0 = .ok (.aload_n 0, 1) := by decide +kernel
theorem dX12_number_1 : decode cX12_number 1 = .ok (.iload_n 1, 1) := by decide +kernel
theorem dX12_number_2 : decode cX12_number 2 = .ok (.iload_n 2, 1) := by decide +kernel
theorem dX12_number_3 : decode cX12_number 3 = .ok (.iconst 0, 1) := by decide +kernel
theorem dX12_number_4 : decode cX12_number 4 = .ok (.iconst 0, 1) := by decide +kernel
theorem dX12_number_5 : decode cX12_number 5 = .ok (.iconst 0, 1) := by decide +kernel
theorem dX12_number_6 : decode cX12_number 6 = .ok (.iconst 0, 1) := by decide +kernel
theorem dX12_number_7 : decode cX12_number 7 = .ok (.iconst 0, 1) := by decide +kernel
theorem dX12_number_8 : decode cX12_number 8 = .ok (.invokevirtual 250, 3) := by decide +kernel
theorem dX12_number_11 : decode cX12_number 11 = .ok (.return_, 1) := by decide +kernel
theorem dX12_make_0 : decode cX12_make 0 = .ok (.aload_n 0, 1) := by decide +kernel
theorem dX12_make_1 : decode cX12_make 1 = .ok (.getfield 7, 3) := by decide +kernel
theorem dX12_make_4 : decode cX12_make 4 = .ok (.iload_n 1, 1) := by decide +kernel
theorem dX12_make_5 : decode cX12_make 5 = .ok (.iload_n 2, 1) := by decide +kernel
theorem dX12_make_6 : decode cX12_make 6 = .ok (.iastore, 1) := by decide +kernel
theorem dX12_make_7 : decode cX12_make 7 = .ok (.aload_n 0, 1) := by decide +kernel
theorem dX12_make_8 : decode cX12_make 8 = .ok (.getfield 13, 3) := by decide +kernel
theorem dX12_make_11 : decode cX12_make 11 = .ok (.iload_n 1, 1) := by decide +kernel
theorem dX12_make_12 : decode cX12_make 12 = .ok (.iload_n 3, 1) := by decide +kernel
theorem dX12_make_13 : decode cX12_make 13 = .ok (.iastore, 1) := by decide +kernel
theorem dX12_make_14 : decode cX12_make 14 = .ok (.aload_n 0, 1) := by decide +kernel
theorem dX12_make_15 : decode cX12_make 15 = .ok (.getfield 16, 3) := by decide +kernel
theorem dX12_make_18 : decode cX12_make 18 = .ok (.iload_n 1, 1) := by decide +kernel
theorem dX12_make_19 : decode cX12_make 19 = .ok (.iload 4, 2) := by decide +kernel
theorem dX12_make_21 : decode cX12_make 21 = .ok (.iastore, 1) := by decide +kernel
theorem dX12_make_22 : decode cX12_make 22 = .ok (.aload_n 0, 1) := by decide +kernel
theorem dX12_make_23 : decode cX12_make 23 = .ok (.getfield 19, 3) := by decide +kernel
theorem dX12_make_26 : decode cX12_make 26 = .ok (.iload_n 1, 1) := by decide +kernel
theorem dX12_make_27 : decode cX12_make 27 = .ok (.iload 5, 2) := by decide +kernel
theorem dX12_make_29 : decode cX12_make 29 = .ok (.iastore, 1) := by decide +kernel
theorem dX12_make_30 : decode cX12_make 30 = .ok (.aload_n 0, 1) := by decide +kernel
theorem dX12_make_31 : decode cX12_make 31 = .ok (.getfield 22, 3) := by decide +kernel
theorem dX12_make_34 : decode cX12_make 34 = .ok (.iload_n 1, 1) := by decide +kernel
theorem dX12_make_35 : decode cX12_make 35 = .ok (.iload 6, 2) := by decide +kernel
theorem dX12_make_37 : decode cX12_make 37 = .ok (.iastore, 1) := by decide +kernel
theorem dX12_make_38 : decode cX12_make 38 = .ok (.aload_n 0, 1) := by decide +kernel
theorem dX12_make_39 : decode cX12_make 39 = .ok (.getfield 25, 3) := by decide +kernel
theorem dX12_make_42 : decode cX12_make 42 = .ok (.iload_n 1, 1) := by decide +kernel
theorem dX12_make_43 : decode cX12_make 43 = .ok (.iload 7, 2) := by decide +kernel
theorem dX12_make_45 : decode cX12_make 45 = .ok (.bastore, 1) := by decide +kernel
theorem dX12_make_46 : decode cX12_make 46 = .ok (.return_, 1) := by decide +kernel
theorem dX12_copy_0 : decode cX12_copy 0 = .ok (.aload_n 0, 1) := by decide +kernel
theorem dX12_copy_1 : decode cX12_copy 1 = .ok (.iload_n 2, 1) := by decide +kernel
theorem dX12_copy_2 : decode cX12_copy 2 = .ok (.aload_n 0, 1) := by decide +kernel
theorem dX12_copy_3 : decode cX12_copy 3 = .ok (.getfield 7, 3) := by decide +kernel
theorem dX12_copy_6 : decode cX12_copy 6 = .ok (.iload_n 1, 1) := by decide +kernel
theorem dX12_copy_7 : decode cX12_copy 7 = .ok (.iaload, 1) := by decide +kernel
theorem dX12_copy_8 : decode cX12_copy 8 = .ok (.aload_n 0, 1) := by decide +kernel
theorem dX12_copy_9 : decode cX12_copy 9 = .ok (.getfield 13, 3) := by decide +kernel
theorem dX12_copy_12 : decode cX12_copy 12 = .ok (.iload_n 1, 1) := by decide +kernel
theorem dX12_copy_13 : decode cX12_copy 13 = .ok (.iaload, 1) := by decide +kernel
theorem dX12_copy_14 : decode cX12_copy 14 = .ok (.aload_n 0, 1) := by decide +kernel
theorem dX12_copy_15 : decode cX12_copy 15 = .ok (.getfield 16, 3) := by decide +kernel
theorem dX12_copy_18 : decode cX12_copy 18 = .ok (.iload_n 1, 1) := by decide +kernel
theorem dX12_copy_19 : decode cX12_copy 19 = .ok (.iaload, 1) := by decide +kernel
theorem dX12_copy_20 : decode cX12_copy 20 = .ok (.aload_n 0, 1) := by decide +kernel
theorem dX12_copy_21 : decode cX12_copy 21 = .ok (.getfield 19, 3) := by decide +kernel
theorem dX12_copy_24 : decode cX12_copy 24 = .ok (.iload_n 1, 1) := by decide +kernel
theorem dX12_copy_25 : decode cX12_copy 25 = .ok (.iaload, 1) := by decide +kernel
theorem dX12_copy_26 : decode cX12_copy 26 = .ok (.aload_n 0, 1) := by decide +kernel
theorem dX12_copy_27 : decode cX12_copy 27 = .ok (.getfield 22, 3) := by decide +kernel
theorem dX12_copy_30 : decode cX12_copy 30 = .ok (.iload_n 1, 1) := by decide +kernel
theorem dX12_copy_31 : decode cX12_copy 31 = .ok (.iaload, 1) := by decide +kernel
theorem dX12_copy_32 : decode cX12_copy 32 = .ok (.aload_n 0, 1) := by decide +kernel
theorem dX12_copy_33 : decode cX12_copy 33 = .ok (.getfield 25, 3) := by decide +kernel
theorem dX12_copy_36 : decode cX12_copy 36 = .ok (.iload_n 1, 1) := by decide +kernel
theorem dX12_copy_37 : decode cX12_copy 37 = .ok (.baload, 1) := by decide +kernel
theorem dX12_copy_38 : decode cX12_copy 38 = .ok (.invokevirtual 250, 3) := by decide +kernel
theorem dX12_copy_41 : decode cX12_copy 41 = .ok (.return_, 1) := by decide +kernel
theorem dX12_plain_0 : decode cX12_plain 0 = .ok (.iload_n 0, 1) := by decide +kernel
theorem dX12_plain_1 : decode cX12_plain 1 = .ok (.i2l, 1) := by decide +kernel
theorem dX12_plain_2 : decode cX12_plain 2 = .ok (.ldc2_w 254, 3) := by decide +kernel
theorem dX12_plain_5 : decode cX12_plain 5 = .ok (.land, 1) := by decide +kernel
theorem dX12_plain_6 : decode cX12_plain 6 = .ok (.lreturn, 1) := by decide +kernel
theorem dX12_isGone_0 : decode cX12_isGone 0 = .ok (.aload_n 0, 1) := by decide +kernel
theorem dX12_isGone_1 : decode cX12_isGone 1 = .ok (.getfield 19, 3) := by decide +kernel
theorem dX12_isGone_4 : decode cX12_isGone 4 = .ok (.iload_n 1, 1) := by decide +kernel
theorem dX12_isGone_5 : decode cX12_isGone 5 = .ok (.iaload, 1) := by decide +kernel
theorem dX12_isGone_6 : decode cX12_isGone 6 = .ok (.bipush 32, 2) := by decide +kernel
theorem dX12_isGone_8 : decode cX12_isGone 8 = .ok (.iand, 1) := by decide +kernel
theorem dX12_isGone_9 : decode cX12_isGone 9 = .ok (.ifCond .ne 46, 3) := by decide +kernel
theorem dX12_isGone_12 : decode cX12_isGone 12 = .ok (.aload_n 0, 1) := by decide +kernel
theorem dX12_isGone_13 : decode cX12_isGone 13 = .ok (.getfield 13, 3) := by decide +kernel
theorem dX12_isGone_16 : decode cX12_isGone 16 = .ok (.iload_n 1, 1) := by decide +kernel
theorem dX12_isGone_17 : decode cX12_isGone 17 = .ok (.iaload, 1) := by decide +kernel
theorem dX12_isGone_18 : decode cX12_isGone 18 = .ok (.ifCond .lt 37, 3) := by decide +kernel
theorem dX12_isGone_21 : decode cX12_isGone 21 = .ok (.aload_n 0, 1) := by decide +kernel
theorem dX12_isGone_22 : decode cX12_isGone 22 = .ok (.getfield 13, 3) := by decide +kernel
theorem dX12_isGone_25 : decode cX12_isGone 25 = .ok (.iload_n 1, 1) := by decide +kernel
theorem dX12_isGone_26 : decode cX12_isGone 26 = .ok (.iaload, 1) := by decide +kernel
theorem dX12_isGone_27 : decode cX12_isGone 27 = .ok (.aload_n 0, 1) := by decide +kernel
theorem dX12_isGone_28 : decode cX12_isGone 28 = .ok (.getfield 175, 3) := by decide +kernel
theorem dX12_isGone_31 : decode cX12_isGone 31 = .ok (.if_icmp .ge 24, 3) := by decide +kernel
theorem dX12_isGone_34 : decode cX12_isGone 34 = .ok (.aload_n 0, 1) := by decide +kernel
theorem dX12_isGone_35 : decode cX12_isGone 35 = .ok (.getfield 185, 3) := by decide +kernel
theorem dX12_isGone_38 : decode cX12_isGone 38 = .ok (.aload_n 0, 1) := by decide +kernel
theorem dX12_isGone_39 : decode cX12_isGone 39 = .ok (.getfield 13, 3) := by decide +kernel
theorem dX12_isGone_42 : decode cX12_isGone 42 = .ok (.iload_n 1, 1) := by decide +kernel
theorem dX12_isGone_43 : decode cX12_isGone 43 = .ok (.iaload, 1) := by decide +kernel
theorem dX12_isGone_44 : decode cX12_isGone 44 = .ok (.bipush 16, 2) := by decide +kernel
theorem dX12_isGone_46 : decode cX12_isGone 46 = .ok (.idiv, 1) := by decide +kernel
theorem dX12_isGone_47 : decode cX12_isGone 47 = .ok (.baload, 1) := by decide +kernel
theorem dX12_isGone_48 : decode cX12_isGone 48 = .ok (.ifCond .eq 7, 3) := by decide +kernel
theorem dX12_isGone_51 : decode cX12_isGone 51 = .ok (.iconst 1, 1) := by decide +kernel
theorem dX12_isGone_52 : decode cX12_isGone 52 = .ok (.goto 4, 3) := by decide +kernel
theorem dX12_isGone_55 : decode cX12_isGone 55 = .ok (.iconst 0, 1) := by decide +kernel
theorem dX12_isGone_56 : decode cX12_isGone 56 = .ok (.ireturn, 1) := by decide +kernel
theorem dX12_filter_0 : decode cX12_filter 0 = .ok (.aload_n 0, 1) := by decide +kernel
theorem dX12_filter_1 : decode cX12_filter 1 = .ok (.getfield 25, 3) := by decide +kernel
theorem dX12_filter_4 : decode cX12_filter 4 = .ok (.iload_n 1, 1) := by decide +kernel
theorem dX12_filter_5 : decode cX12_filter 5 = .ok (.aload_n 0, 1) := by decide +kernel
theorem dX12_filter_6 : decode cX12_filter 6 = .ok (.getfield 25, 3) := by decide +kernel
theorem dX12_filter_9 : decode cX12_filter 9 = .ok (.iload_n 1, 1) := by decide +kernel
theorem dX12_filter_10 : decode cX12_filter 10 = .ok (.baload, 1) := by decide +kernel
theorem dX12_filter_11 : decode cX12_filter 11 = .ok (.ifCond .eq 15, 3) := by decide +kernel
theorem dX12_filter_14 : decode cX12_filter 14 = .ok (.aload_n 0, 1) := by decide +kernel
theorem dX12_filter_15 : decode cX12_filter 15 = .ok (.iload_n 1, 1) := by decide +kernel
theorem dX12_filter_16 : decode cX12_filter 16 = .ok (.invokevirtual 256, 3) := by decide +kernel
theorem dX12_filter_19 : decode cX12_filter 19 = .ok (.ifCond .ne 7, 3) := by decide +kernel
theorem dX12_filter_22 : decode cX12_filter 22 = .ok (.iconst 1, 1) := by decide +kernel
theorem dX12_filter_23 : decode cX12_filter 23 = .ok (.goto 4, 3) := by decide +kernel
theorem dX12_filter_26 : decode cX12_filter 26 = .ok (.iconst 0, 1) := by decide +kernel
theorem dX12_filter_27 : decode cX12_filter 27 = .ok (.bastore, 1) := by decide +kernel
theorem dX12_filter_28 : decode cX12_filter 28 = .ok (.return_, 1) := by decide +kernel
theorem dX12_reg_0 : decode cX12_reg 0 = .ok (.bipush 17, 2) := by decide +kernel
theorem dX12_reg_2 : decode cX12_reg 2 = .ok (.iload_n 0, 1) := by decide +kernel
theorem dX12_reg_3 : decode cX12_reg 3 = .ok (.imul, 1) := by decide +kernel
theorem dX12_reg_4 : decode cX12_reg 4 = .ok (.iload_n 1, 1) := by decide +kernel
theorem dX12_reg_5 : decode cX12_reg 5 = .ok (.iadd, 1) := by decide +kernel
theorem dX12_reg_6 : decode cX12_reg 6 = .ok (.ireturn, 1) := by decide +kernel
theorem dX12_frame_0 : decode cX12_frame 0 = .ok (.bipush 102, 2) := by decide +kernel
theorem dX12_frame_2 : decode cX12_frame 2 = .ok (.bipush 80, 2) := by decide +kernel
theorem dX12_frame_4 : decode cX12_frame 4 = .ok (.iload_n 0, 1) := by decide +kernel
theorem dX12_frame_5 : decode cX12_frame 5 = .ok (.imul, 1) := by decide +kernel
theorem dX12_frame_6 : decode cX12_frame 6 = .ok (.iadd, 1) := by decide +kernel
theorem dX12_frame_7 : decode cX12_frame 7 = .ok (.iconst 5, 1) := by decide +kernel
theorem dX12_frame_8 : decode cX12_frame 8 = .ok (.iload_n 1, 1) := by decide +kernel
theorem dX12_frame_9 : decode cX12_frame 9 = .ok (.imul, 1) := by decide +kernel
theorem dX12_frame_10 : decode cX12_frame 10 = .ok (.iadd, 1) := by decide +kernel
theorem dX12_frame_11 : decode cX12_frame 11 = .ok (.iload_n 2, 1) := by decide +kernel
theorem dX12_frame_12 : decode cX12_frame 12 = .ok (.iadd, 1) := by decide +kernel
theorem dX12_frame_13 : decode cX12_frame 13 = .ok (.ireturn, 1) := by decide +kernel
theorem dX12_refuses_0 : decode cX12_refuses 0 = .ok (.aload_n 0, 1) := by decide +kernel
theorem dX12_refuses_1 : decode cX12_refuses 1 = .ok (.getfield 25, 3) := by decide +kernel
theorem dX12_refuses_4 : decode cX12_refuses 4 = .ok (.iload_n 1, 1) := by decide +kernel
theorem dX12_refuses_5 : decode cX12_refuses 5 = .ok (.baload, 1) := by decide +kernel
theorem dX12_refuses_6 : decode cX12_refuses 6 = .ok (.ifCond .ne 5, 3) := by decide +kernel
theorem dX12_refuses_9 : decode cX12_refuses 9 = .ok (.iconst 1, 1) := by decide +kernel
theorem dX12_refuses_10 : decode cX12_refuses 10 = .ok (.ireturn, 1) := by decide +kernel
theorem dX12_refuses_11 : decode cX12_refuses 11 = .ok (.aload_n 0, 1) := by decide +kernel
theorem dX12_refuses_12 : decode cX12_refuses 12 = .ok (.getfield 22, 3) := by decide +kernel
theorem dX12_refuses_15 : decode cX12_refuses 15 = .ok (.iload_n 1, 1) := by decide +kernel
theorem dX12_refuses_16 : decode cX12_refuses 16 = .ok (.iaload, 1) := by decide +kernel
theorem dX12_refuses_17 : decode cX12_refuses 17 = .ok (.ifCond .eq 5, 3) := by decide +kernel
theorem dX12_refuses_20 : decode cX12_refuses 20 = .ok (.iconst 2, 1) := by decide +kernel
theorem dX12_refuses_21 : decode cX12_refuses 21 = .ok (.ireturn, 1) := by decide +kernel
theorem dX12_refuses_22 : decode cX12_refuses 22 = .ok (.aload_n 0, 1) := by decide +kernel
theorem dX12_refuses_23 : decode cX12_refuses 23 = .ok (.getfield 19, 3) := by decide +kernel
theorem dX12_refuses_26 : decode cX12_refuses 26 = .ok (.iload_n 1, 1) := by decide +kernel
theorem dX12_refuses_27 : decode cX12_refuses 27 = .ok (.iaload, 1) := by decide +kernel
theorem dX12_refuses_28 : decode cX12_refuses 28 = .ok (.iload_n 2, 1) := by decide +kernel
theorem dX12_refuses_29 : decode cX12_refuses 29 = .ok (.iand, 1) := by decide +kernel
theorem dX12_refuses_30 : decode cX12_refuses 30 = .ok (.iload_n 2, 1) := by decide +kernel
theorem dX12_refuses_31 : decode cX12_refuses 31 = .ok (.if_icmp .eq 5, 3) := by decide +kernel
theorem dX12_refuses_34 : decode cX12_refuses 34 = .ok (.iconst 3, 1) := by decide +kernel
theorem dX12_refuses_35 : decode cX12_refuses 35 = .ok (.ireturn, 1) := by decide +kernel
theorem dX12_refuses_36 : decode cX12_refuses 36 = .ok (.iload_n 3, 1) := by decide +kernel
theorem dX12_refuses_37 : decode cX12_refuses 37 = .ok (.invokestatic 260, 3) := by decide +kernel
theorem dX12_refuses_40 : decode cX12_refuses 40 = .ok (.aload_n 0, 1) := by decide +kernel
theorem dX12_refuses_41 : decode cX12_refuses 41 = .ok (.getfield 13, 3) := by decide +kernel
theorem dX12_refuses_44 : decode cX12_refuses 44 = .ok (.iload_n 1, 1) := by decide +kernel
theorem dX12_refuses_45 : decode cX12_refuses 45 = .ok (.iaload, 1) := by decide +kernel
theorem dX12_refuses_46 : decode cX12_refuses 46 = .ok (.invokestatic 260, 3) := by decide +kernel
theorem dX12_refuses_49 : decode cX12_refuses 49 = .ok (.lcmp, 1) := by decide +kernel
theorem dX12_refuses_50 : decode cX12_refuses 50 = .ok (.ifCond .lt 24, 3) := by decide +kernel
theorem dX12_refuses_53 : decode cX12_refuses 53 = .ok (.iload_n 3, 1) := by decide +kernel
theorem dX12_refuses_54 : decode cX12_refuses 54 = .ok (.invokestatic 260, 3) := by decide +kernel
theorem dX12_refuses_57 : decode cX12_refuses 57 = .ok (.iload 4, 2) := by decide +kernel
theorem dX12_refuses_59 : decode cX12_refuses 59 = .ok (.i2l, 1) := by decide +kernel
theorem dX12_refuses_60 : decode cX12_refuses 60 = .ok (.ladd, 1) := by decide +kernel
theorem dX12_refuses_61 : decode cX12_refuses 61 = .ok (.aload_n 0, 1) := by decide +kernel
theorem dX12_refuses_62 : decode cX12_refuses 62 = .ok (.getfield 16, 3) := by decide +kernel
theorem dX12_refuses_65 : decode cX12_refuses 65 = .ok (.iload_n 1, 1) := by decide +kernel
theorem dX12_refuses_66 : decode cX12_refuses 66 = .ok (.iaload, 1) := by decide +kernel
theorem dX12_refuses_67 : decode cX12_refuses 67 = .ok (.invokestatic 260, 3) := by decide +kernel
theorem dX12_refuses_70 : decode cX12_refuses 70 = .ok (.lcmp, 1) := by decide +kernel
theorem dX12_refuses_71 : decode cX12_refuses 71 = .ok (.ifCond .le 5, 3) := by decide +kernel
theorem dX12_refuses_74 : decode cX12_refuses 74 = .ok (.iconst 4, 1) := by decide +kernel
theorem dX12_refuses_75 : decode cX12_refuses 75 = .ok (.ireturn, 1) := by decide +kernel
theorem dX12_refuses_76 : decode cX12_refuses 76 = .ok (.iload_n 3, 1) := by decide +kernel
theorem dX12_refuses_77 : decode cX12_refuses 77 = .ok (.iload 4, 2) := by decide +kernel
theorem dX12_refuses_79 : decode cX12_refuses 79 = .ok (.irem, 1) := by decide +kernel
theorem dX12_refuses_80 : decode cX12_refuses 80 = .ok (.ifCond .eq 7, 3) := by decide +kernel
theorem dX12_refuses_83 : decode cX12_refuses 83 = .ok (.iconst 5, 1) := by decide +kernel
theorem dX12_refuses_84 : decode cX12_refuses 84 = .ok (.goto 4, 3) := by decide +kernel
theorem dX12_refuses_87 : decode cX12_refuses 87 = .ok (.iconst 0, 1) := by decide +kernel
theorem dX12_refuses_88 : decode cX12_refuses 88 = .ok (.ireturn, 1) := by decide +kernel
theorem dX12_get_0 : decode cX12_get 0 = .ok (.iconst 0, 1) := by decide +kernel
theorem dX12_get_1 : decode cX12_get 1 = .ok (.istore_n 3, 1) := by decide +kernel
theorem dX12_get_2 : decode cX12_get 2 = .ok (.iload_n 2, 1) := by decide +kernel
theorem dX12_get_3 : decode cX12_get 3 = .ok (.iconst 1, 1) := by decide +kernel
theorem dX12_get_4 : decode cX12_get 4 = .ok (.isub, 1) := by decide +kernel
theorem dX12_get_5 : decode cX12_get 5 = .ok (.istore 4, 2) := by decide +kernel
theorem dX12_get_7 : decode cX12_get 7 = .ok (.iload 4, 2) := by decide +kernel
theorem dX12_get_9 : decode cX12_get 9 = .ok (.ifCond .lt 28, 3) := by decide +kernel
theorem dX12_get_12 : decode cX12_get 12 = .ok (.iload_n 3, 1) := by decide +kernel
theorem dX12_get_13 : decode cX12_get 13 = .ok (.bipush 8, 2) := by decide +kernel
theorem dX12_get_15 : decode cX12_get 15 = .ok (.ishl, 1) := by decide +kernel
theorem dX12_get_16 : decode cX12_get 16 = .ok (.aload_n 0, 1) := by decide +kernel
theorem dX12_get_17 : decode cX12_get 17 = .ok (.getfield 179, 3) := by decide +kernel
theorem dX12_get_20 : decode cX12_get 20 = .ok (.iload_n 1, 1) := by decide +kernel
theorem dX12_get_21 : decode cX12_get 21 = .ok (.iload 4, 2) := by decide +kernel
theorem dX12_get_23 : decode cX12_get 23 = .ok (.iadd, 1) := by decide +kernel
theorem dX12_get_24 : decode cX12_get 24 = .ok (.baload, 1) := by decide +kernel
theorem dX12_get_25 : decode cX12_get 25 = .ok (.sipush 255, 3) := by decide +kernel
theorem dX12_get_28 : decode cX12_get 28 = .ok (.iand, 1) := by decide +kernel
theorem dX12_get_29 : decode cX12_get 29 = .ok (.ior, 1) := by decide +kernel
theorem dX12_get_30 : decode cX12_get 30 = .ok (.istore_n 3, 1) := by decide +kernel
theorem dX12_get_31 : decode cX12_get 31 = .ok (.iinc 4 (-1), 3) := by decide +kernel
theorem dX12_get_34 : decode cX12_get 34 = .ok (.goto (-27), 3) := by decide +kernel
theorem dX12_get_37 : decode cX12_get 37 = .ok (.iload_n 3, 1) := by decide +kernel
theorem dX12_get_38 : decode cX12_get 38 = .ok (.ireturn, 1) := by decide +kernel
theorem dX12_put_0 : decode cX12_put 0 = .ok (.iconst 0, 1) := by decide +kernel
theorem dX12_put_1 : decode cX12_put 1 = .ok (.istore 4, 2) := by decide +kernel
theorem dX12_put_3 : decode cX12_put 3 = .ok (.iload 4, 2) := by decide +kernel
theorem dX12_put_5 : decode cX12_put 5 = .ok (.iload_n 2, 1) := by decide +kernel
theorem dX12_put_6 : decode cX12_put 6 = .ok (.if_icmp .ge 26, 3) := by decide +kernel
theorem dX12_put_9 : decode cX12_put 9 = .ok (.aload_n 0, 1) := by decide +kernel
theorem dX12_put_10 : decode cX12_put 10 = .ok (.getfield 179, 3) := by decide +kernel
theorem dX12_put_13 : decode cX12_put 13 = .ok (.iload_n 1, 1) := by decide +kernel
theorem dX12_put_14 : decode cX12_put 14 = .ok (.iload 4, 2) := by decide +kernel
theorem dX12_put_16 : decode cX12_put 16 = .ok (.iadd, 1) := by decide +kernel
theorem dX12_put_17 : decode cX12_put 17 = .ok (.iload_n 3, 1) := by decide +kernel
theorem dX12_put_18 : decode cX12_put 18 = .ok (.bipush 8, 2) := by decide +kernel
theorem dX12_put_20 : decode cX12_put 20 = .ok (.iload 4, 2) := by decide +kernel
theorem dX12_put_22 : decode cX12_put 22 = .ok (.imul, 1) := by decide +kernel
theorem dX12_put_23 : decode cX12_put 23 = .ok (.ishr, 1) := by decide +kernel
theorem dX12_put_24 : decode cX12_put 24 = .ok (.i2b, 1) := by decide +kernel
theorem dX12_put_25 : decode cX12_put 25 = .ok (.bastore, 1) := by decide +kernel
theorem dX12_put_26 : decode cX12_put 26 = .ok (.iinc 4 1, 3) := by decide +kernel
theorem dX12_put_29 : decode cX12_put 29 = .ok (.goto (-26), 3) := by decide +kernel
theorem dX12_put_32 : decode cX12_put 32 = .ok (.return_, 1) := by decide +kernel
theorem dX12_getCapability_0 : decode cX12_getCapability 0 = .ok (.aload_n 0, 1) := by decide +kernel
theorem dX12_getCapability_1 : decode cX12_getCapability 1 = .ok (.iload_n 1, 1) := by decide +kernel
theorem dX12_getCapability_2 : decode cX12_getCapability 2 = .ok (.bipush 12, 2) := by decide +kernel
theorem dX12_getCapability_4 : decode cX12_getCapability 4 = .ok (.iadd, 1) := by decide +kernel
theorem dX12_getCapability_5 : decode cX12_getCapability 5 = .ok (.iconst 4, 1) := by decide +kernel
theorem dX12_getCapability_6 : decode cX12_getCapability 6 = .ok (.invokevirtual 264, 3) := by decide +kernel
theorem dX12_getCapability_9 : decode cX12_getCapability 9 = .ok (.istore_n 3, 1) := by decide +kernel
theorem dX12_getCapability_10 : decode cX12_getCapability 10 = .ok (.aload_n 0, 1) := by decide +kernel
theorem dX12_getCapability_11 : decode cX12_getCapability 11 = .ok (.iload_n 2, 1) := by decide +kernel
theorem dX12_getCapability_12 : decode cX12_getCapability 12 = .ok (.aload_n 0, 1) := by decide +kernel
theorem dX12_getCapability_13 : decode cX12_getCapability 13 = .ok (.iload_n 1, 1) := by decide +kernel
theorem dX12_getCapability_14 : decode cX12_getCapability 14 = .ok (.iconst 4, 1) := by decide +kernel
theorem dX12_getCapability_15 : decode cX12_getCapability 15 = .ok (.invokevirtual 264, 3) := by decide +kernel
theorem dX12_getCapability_18 : decode cX12_getCapability 18 = .ok (.aload_n 0, 1) := by decide +kernel
theorem dX12_getCapability_19 : decode cX12_getCapability 19 = .ok (.iload_n 1, 1) := by decide +kernel
theorem dX12_getCapability_20 : decode cX12_getCapability 20 = .ok (.iconst 4, 1) := by decide +kernel
theorem dX12_getCapability_21 : decode cX12_getCapability 21 = .ok (.iadd, 1) := by decide +kernel
theorem dX12_getCapability_22 : decode cX12_getCapability 22 = .ok (.iconst 4, 1) := by decide +kernel
theorem dX12_getCapability_23 : decode cX12_getCapability 23 = .ok (.invokevirtual 264, 3) := by decide +kernel
theorem dX12_getCapability_26 : decode cX12_getCapability 26 = .ok (.aload_n 0, 1) := by decide +kernel
theorem dX12_getCapability_27 : decode cX12_getCapability 27 = .ok (.iload_n 1, 1) := by decide +kernel
theorem dX12_getCapability_28 : decode cX12_getCapability 28 = .ok (.bipush 8, 2) := by decide +kernel
theorem dX12_getCapability_30 : decode cX12_getCapability 30 = .ok (.iadd, 1) := by decide +kernel
theorem dX12_getCapability_31 : decode cX12_getCapability 31 = .ok (.iconst 4, 1) := by decide +kernel
theorem dX12_getCapability_32 : decode cX12_getCapability 32 = .ok (.invokevirtual 264, 3) := by decide +kernel
theorem dX12_getCapability_35 : decode cX12_getCapability 35 = .ok (.iload_n 3, 1) := by decide +kernel
theorem dX12_getCapability_36 : decode cX12_getCapability 36 = .ok (.sipush 255, 3) := by decide +kernel
theorem dX12_getCapability_39 : decode cX12_getCapability 39 = .ok (.iand, 1) := by decide +kernel
theorem dX12_getCapability_40 : decode cX12_getCapability 40 = .ok (.iload_n 3, 1) := by decide +kernel
theorem dX12_getCapability_41 : decode cX12_getCapability 41 = .ok (.bipush 8, 2) := by decide +kernel
theorem dX12_getCapability_43 : decode cX12_getCapability 43 = .ok (.ishr, 1) := by decide +kernel
theorem dX12_getCapability_44 : decode cX12_getCapability 44 = .ok (.sipush 255, 3) := by decide +kernel
theorem dX12_getCapability_47 : decode cX12_getCapability 47 = .ok (.iand, 1) := by decide +kernel
theorem dX12_getCapability_48 : decode cX12_getCapability 48 = .ok (.aload_n 0, 1) := by decide +kernel
theorem dX12_getCapability_49 : decode cX12_getCapability 49 = .ok (.getfield 182, 3) := by decide +kernel
theorem dX12_getCapability_52 : decode cX12_getCapability 52 = .ok (.iload_n 1, 1) := by decide +kernel
theorem dX12_getCapability_53 : decode cX12_getCapability 53 = .ok (.bipush 16, 2) := by decide +kernel
theorem dX12_getCapability_55 : decode cX12_getCapability 55 = .ok (.idiv, 1) := by decide +kernel
theorem dX12_getCapability_56 : decode cX12_getCapability 56 = .ok (.baload, 1) := by decide +kernel
theorem dX12_getCapability_57 : decode cX12_getCapability 57 = .ok (.invokevirtual 250, 3) := by decide +kernel
theorem dX12_getCapability_60 : decode cX12_getCapability 60 = .ok (.return_, 1) := by decide +kernel
theorem dX12_putCapability_0 : decode cX12_putCapability 0 = .ok (.aload_n 0, 1) := by decide +kernel
theorem dX12_putCapability_1 : decode cX12_putCapability 1 = .ok (.iload_n 1, 1) := by decide +kernel
theorem dX12_putCapability_2 : decode cX12_putCapability 2 = .ok (.iconst 4, 1) := by decide +kernel
theorem dX12_putCapability_3 : decode cX12_putCapability 3 = .ok (.aload_n 0, 1) := by decide +kernel
theorem dX12_putCapability_4 : decode cX12_putCapability 4 = .ok (.getfield 7, 3) := by decide +kernel
theorem dX12_putCapability_7 : decode cX12_putCapability 7 = .ok (.iload_n 2, 1) := by decide +kernel
theorem dX12_putCapability_8 : decode cX12_putCapability 8 = .ok (.iaload, 1) := by decide +kernel
theorem dX12_putCapability_9 : decode cX12_putCapability 9 = .ok (.invokevirtual 268, 3) := by decide +kernel
theorem dX12_putCapability_12 : decode cX12_putCapability 12 = .ok (.aload_n 0, 1) := by decide +kernel
theorem dX12_putCapability_13 : decode cX12_putCapability 13 = .ok (.iload_n 1, 1) := by decide +kernel
theorem dX12_putCapability_14 : decode cX12_putCapability 14 = .ok (.iconst 4, 1) := by decide +kernel
theorem dX12_putCapability_15 : decode cX12_putCapability 15 = .ok (.iadd, 1) := by decide +kernel
theorem dX12_putCapability_16 : decode cX12_putCapability 16 = .ok (.iconst 4, 1) := by decide +kernel
theorem dX12_putCapability_17 : decode cX12_putCapability 17 = .ok (.aload_n 0, 1) := by decide +kernel
theorem dX12_putCapability_18 : decode cX12_putCapability 18 = .ok (.getfield 13, 3) := by decide +kernel
theorem dX12_putCapability_21 : decode cX12_putCapability 21 = .ok (.iload_n 2, 1) := by decide +kernel
theorem dX12_putCapability_22 : decode cX12_putCapability 22 = .ok (.iaload, 1) := by decide +kernel
theorem dX12_putCapability_23 : decode cX12_putCapability 23 = .ok (.invokevirtual 268, 3) := by decide +kernel
theorem dX12_putCapability_26 : decode cX12_putCapability 26 = .ok (.aload_n 0, 1) := by decide +kernel
theorem dX12_putCapability_27 : decode cX12_putCapability 27 = .ok (.iload_n 1, 1) := by decide +kernel
theorem dX12_putCapability_28 : decode cX12_putCapability 28 = .ok (.bipush 8, 2) := by decide +kernel
theorem dX12_putCapability_30 : decode cX12_putCapability 30 = .ok (.iadd, 1) := by decide +kernel
theorem dX12_putCapability_31 : decode cX12_putCapability 31 = .ok (.iconst 4, 1) := by decide +kernel
theorem dX12_putCapability_32 : decode cX12_putCapability 32 = .ok (.aload_n 0, 1) := by decide +kernel
theorem dX12_putCapability_33 : decode cX12_putCapability 33 = .ok (.getfield 16, 3) := by decide +kernel
theorem dX12_putCapability_36 : decode cX12_putCapability 36 = .ok (.iload_n 2, 1) := by decide +kernel
theorem dX12_putCapability_37 : decode cX12_putCapability 37 = .ok (.iaload, 1) := by decide +kernel
theorem dX12_putCapability_38 : decode cX12_putCapability 38 = .ok (.invokevirtual 268, 3) := by decide +kernel
theorem dX12_putCapability_41 : decode cX12_putCapability 41 = .ok (.aload_n 0, 1) := by decide +kernel
theorem dX12_putCapability_42 : decode cX12_putCapability 42 = .ok (.iload_n 1, 1) := by decide +kernel
theorem dX12_putCapability_43 : decode cX12_putCapability 43 = .ok (.bipush 12, 2) := by decide +kernel
theorem dX12_putCapability_45 : decode cX12_putCapability 45 = .ok (.iadd, 1) := by decide +kernel
theorem dX12_putCapability_46 : decode cX12_putCapability 46 = .ok (.iconst 4, 1) := by decide +kernel
theorem dX12_putCapability_47 : decode cX12_putCapability 47 = .ok (.aload_n 0, 1) := by decide +kernel
theorem dX12_putCapability_48 : decode cX12_putCapability 48 = .ok (.getfield 19, 3) := by decide +kernel
theorem dX12_putCapability_51 : decode cX12_putCapability 51 = .ok (.iload_n 2, 1) := by decide +kernel
theorem dX12_putCapability_52 : decode cX12_putCapability 52 = .ok (.iaload, 1) := by decide +kernel
theorem dX12_putCapability_53 : decode cX12_putCapability 53 = .ok (.aload_n 0, 1) := by decide +kernel
theorem dX12_putCapability_54 : decode cX12_putCapability 54 = .ok (.getfield 22, 3) := by decide +kernel
theorem dX12_putCapability_57 : decode cX12_putCapability 57 = .ok (.iload_n 2, 1) := by decide +kernel
theorem dX12_putCapability_58 : decode cX12_putCapability 58 = .ok (.iaload, 1) := by decide +kernel
theorem dX12_putCapability_59 : decode cX12_putCapability 59 = .ok (.bipush 8, 2) := by decide +kernel
theorem dX12_putCapability_61 : decode cX12_putCapability 61 = .ok (.ishl, 1) := by decide +kernel
theorem dX12_putCapability_62 : decode cX12_putCapability 62 = .ok (.ior, 1) := by decide +kernel
theorem dX12_putCapability_63 : decode cX12_putCapability 63 = .ok (.invokevirtual 268, 3) := by decide +kernel
theorem dX12_putCapability_66 : decode cX12_putCapability 66 = .ok (.aload_n 0, 1) := by decide +kernel
theorem dX12_putCapability_67 : decode cX12_putCapability 67 = .ok (.getfield 182, 3) := by decide +kernel
theorem dX12_putCapability_70 : decode cX12_putCapability 70 = .ok (.iload_n 1, 1) := by decide +kernel
theorem dX12_putCapability_71 : decode cX12_putCapability 71 = .ok (.bipush 16, 2) := by decide +kernel
theorem dX12_putCapability_73 : decode cX12_putCapability 73 = .ok (.idiv, 1) := by decide +kernel
theorem dX12_putCapability_74 : decode cX12_putCapability 74 = .ok (.iload_n 3, 1) := by decide +kernel
theorem dX12_putCapability_75 : decode cX12_putCapability 75 = .ok (.bastore, 1) := by decide +kernel
theorem dX12_putCapability_76 : decode cX12_putCapability 76 = .ok (.return_, 1) := by decide +kernel
theorem dX12_wipe_0 : decode cX12_wipe 0 = .ok (.iload_n 1, 1) := by decide +kernel
theorem dX12_wipe_1 : decode cX12_wipe 1 = .ok (.istore_n 3, 1) := by decide +kernel
theorem dX12_wipe_2 : decode cX12_wipe 2 = .ok (.iload_n 3, 1) := by decide +kernel
theorem dX12_wipe_3 : decode cX12_wipe 3 = .ok (.iload_n 2, 1) := by decide +kernel
theorem dX12_wipe_4 : decode cX12_wipe 4 = .ok (.if_icmp .ge 26, 3) := by decide +kernel
theorem dX12_wipe_7 : decode cX12_wipe 7 = .ok (.aload_n 0, 1) := by decide +kernel
theorem dX12_wipe_8 : decode cX12_wipe 8 = .ok (.getfield 179, 3) := by decide +kernel
theorem dX12_wipe_11 : decode cX12_wipe 11 = .ok (.iload_n 3, 1) := by decide +kernel
theorem dX12_wipe_12 : decode cX12_wipe 12 = .ok (.iconst 0, 1) := by decide +kernel
theorem dX12_wipe_13 : decode cX12_wipe 13 = .ok (.bastore, 1) := by decide +kernel
theorem dX12_wipe_14 : decode cX12_wipe 14 = .ok (.aload_n 0, 1) := by decide +kernel
theorem dX12_wipe_15 : decode cX12_wipe 15 = .ok (.getfield 182, 3) := by decide +kernel
theorem dX12_wipe_18 : decode cX12_wipe 18 = .ok (.iload_n 3, 1) := by decide +kernel
theorem dX12_wipe_19 : decode cX12_wipe 19 = .ok (.bipush 16, 2) := by decide +kernel
theorem dX12_wipe_21 : decode cX12_wipe 21 = .ok (.idiv, 1) := by decide +kernel
theorem dX12_wipe_22 : decode cX12_wipe 22 = .ok (.iconst 0, 1) := by decide +kernel
theorem dX12_wipe_23 : decode cX12_wipe 23 = .ok (.bastore, 1) := by decide +kernel
theorem dX12_wipe_24 : decode cX12_wipe 24 = .ok (.iinc 3 1, 3) := by decide +kernel
theorem dX12_wipe_27 : decode cX12_wipe 27 = .ok (.goto (-25), 3) := by decide +kernel
theorem dX12_wipe_30 : decode cX12_wipe 30 = .ok (.return_, 1) := by decide +kernel
theorem dX12_code_0 : decode cX12_code 0 = .ok (.aload_n 0, 1) := by decide +kernel
theorem dX12_code_1 : decode cX12_code 1 = .ok (.iload_n 3, 1) := by decide +kernel
theorem dX12_code_2 : decode cX12_code 2 = .ok (.aload_n 0, 1) := by decide +kernel
theorem dX12_code_3 : decode cX12_code 3 = .ok (.getfield 40, 3) := by decide +kernel
theorem dX12_code_6 : decode cX12_code 6 = .ok (.iload_n 1, 1) := by decide +kernel
theorem dX12_code_7 : decode cX12_code 7 = .ok (.iaload, 1) := by decide +kernel
theorem dX12_code_8 : decode cX12_code 8 = .ok (.iconst 4, 1) := by decide +kernel
theorem dX12_code_9 : decode cX12_code 9 = .ok (.iload_n 2, 1) := by decide +kernel
theorem dX12_code_10 : decode cX12_code 10 = .ok (.imul, 1) := by decide +kernel
theorem dX12_code_11 : decode cX12_code 11 = .ok (.iadd, 1) := by decide +kernel
theorem dX12_code_12 : decode cX12_code 12 = .ok (.aload_n 0, 1) := by decide +kernel
theorem dX12_code_13 : decode cX12_code 13 = .ok (.getfield 40, 3) := by decide +kernel
theorem dX12_code_16 : decode cX12_code 16 = .ok (.iload_n 1, 1) := by decide +kernel
theorem dX12_code_17 : decode cX12_code 17 = .ok (.iaload, 1) := by decide +kernel
theorem dX12_code_18 : decode cX12_code 18 = .ok (.aload_n 0, 1) := by decide +kernel
theorem dX12_code_19 : decode cX12_code 19 = .ok (.getfield 46, 3) := by decide +kernel
theorem dX12_code_22 : decode cX12_code 22 = .ok (.iload_n 1, 1) := by decide +kernel
theorem dX12_code_23 : decode cX12_code 23 = .ok (.iaload, 1) := by decide +kernel
theorem dX12_code_24 : decode cX12_code 24 = .ok (.bipush 77, 2) := by decide +kernel
theorem dX12_code_26 : decode cX12_code 26 = .ok (.iconst 0, 1) := by decide +kernel
theorem dX12_code_27 : decode cX12_code 27 = .ok (.iconst 1, 1) := by decide +kernel
theorem dX12_code_28 : decode cX12_code 28 = .ok (.invokevirtual 250, 3) := by decide +kernel
theorem dX12_code_31 : decode cX12_code 31 = .ok (.return_, 1) := by decide +kernel
theorem dX12_globals_0 : decode cX12_globals 0 = .ok (.aload_n 0, 1) := by decide +kernel
theorem dX12_globals_1 : decode cX12_globals 1 = .ok (.iload_n 2, 1) := by decide +kernel
theorem dX12_globals_2 : decode cX12_globals 2 = .ok (.aload_n 0, 1) := by decide +kernel
theorem dX12_globals_3 : decode cX12_globals 3 = .ok (.getfield 46, 3) := by decide +kernel
theorem dX12_globals_6 : decode cX12_globals 6 = .ok (.iload_n 1, 1) := by decide +kernel
theorem dX12_globals_7 : decode cX12_globals 7 = .ok (.iaload, 1) := by decide +kernel
theorem dX12_globals_8 : decode cX12_globals 8 = .ok (.aload_n 0, 1) := by decide +kernel
theorem dX12_globals_9 : decode cX12_globals 9 = .ok (.getfield 46, 3) := by decide +kernel
theorem dX12_globals_12 : decode cX12_globals 12 = .ok (.iload_n 1, 1) := by decide +kernel
theorem dX12_globals_13 : decode cX12_globals 13 = .ok (.iaload, 1) := by decide +kernel
theorem dX12_globals_14 : decode cX12_globals 14 = .ok (.aload_n 0, 1) := by decide +kernel
theorem dX12_globals_15 : decode cX12_globals 15 = .ok (.getfield 49, 3) := by decide +kernel
theorem dX12_globals_18 : decode cX12_globals 18 = .ok (.iload_n 1, 1) := by decide +kernel
theorem dX12_globals_19 : decode cX12_globals 19 = .ok (.iaload, 1) := by decide +kernel
theorem dX12_globals_20 : decode cX12_globals 20 = .ok (.bipush 91, 2) := by decide +kernel
theorem dX12_globals_22 : decode cX12_globals 22 = .ok (.iconst 0, 1) := by decide +kernel
theorem dX12_globals_23 : decode cX12_globals 23 = .ok (.iconst 1, 1) := by decide +kernel
theorem dX12_globals_24 : decode cX12_globals 24 = .ok (.invokevirtual 250, 3) := by decide +kernel
theorem dX12_globals_27 : decode cX12_globals 27 = .ok (.return_, 1) := by decide +kernel
theorem dX12_stack_0 : decode cX12_stack 0 = .ok (.aload_n 0, 1) := by decide +kernel
theorem dX12_stack_1 : decode cX12_stack 1 = .ok (.iload_n 3, 1) := by decide +kernel
theorem dX12_stack_2 : decode cX12_stack 2 = .ok (.iload_n 2, 1) := by decide +kernel
theorem dX12_stack_3 : decode cX12_stack 3 = .ok (.aload_n 0, 1) := by decide +kernel
theorem dX12_stack_4 : decode cX12_stack 4 = .ok (.getfield 88, 3) := by decide +kernel
theorem dX12_stack_7 : decode cX12_stack 7 = .ok (.iload_n 1, 1) := by decide +kernel
theorem dX12_stack_8 : decode cX12_stack 8 = .ok (.iaload, 1) := by decide +kernel
theorem dX12_stack_9 : decode cX12_stack 9 = .ok (.iload_n 2, 1) := by decide +kernel
theorem dX12_stack_10 : decode cX12_stack 10 = .ok (.sipush 155, 3) := by decide +kernel
theorem dX12_stack_13 : decode cX12_stack 13 = .ok (.iconst 0, 1) := by decide +kernel
theorem dX12_stack_14 : decode cX12_stack 14 = .ok (.iconst 1, 1) := by decide +kernel
theorem dX12_stack_15 : decode cX12_stack 15 = .ok (.invokevirtual 250, 3) := by decide +kernel
theorem dX12_stack_18 : decode cX12_stack 18 = .ok (.return_, 1) := by decide +kernel
theorem dX12_feed_0 : decode cX12_feed 0 = .ok (.aload_n 0, 1) := by decide +kernel
theorem dX12_feed_1 : decode cX12_feed 1 = .ok (.getfield 272, 3) := by decide +kernel
theorem dX12_feed_4 : decode cX12_feed 4 = .ok (.bipush 20, 2) := by decide +kernel
theorem dX12_feed_6 : decode cX12_feed 6 = .ok (.iadd, 1) := by decide +kernel
theorem dX12_feed_7 : decode cX12_feed 7 = .ok (.sipush 5000, 3) := by decide +kernel
theorem dX12_feed_10 : decode cX12_feed 10 = .ok (.if_icmp .le 5, 3) := by decide +kernel
theorem dX12_feed_13 : decode cX12_feed 13 = .ok (.iconst 0, 1) := by decide +kernel
theorem dX12_feed_14 : decode cX12_feed 14 = .ok (.ireturn, 1) := by decide +kernel
theorem dX12_feed_15 : decode cX12_feed 15 = .ok (.aload_n 0, 1) := by decide +kernel
theorem dX12_feed_16 : decode cX12_feed 16 = .ok (.iload_n 1, 1) := by decide +kernel
theorem dX12_feed_17 : decode cX12_feed 17 = .ok (.invokevirtual 275, 3) := by decide +kernel
theorem dX12_feed_20 : decode cX12_feed 20 = .ok (.aload_n 0, 1) := by decide +kernel
theorem dX12_feed_21 : decode cX12_feed 21 = .ok (.iload_n 2, 1) := by decide +kernel
theorem dX12_feed_22 : decode cX12_feed 22 = .ok (.invokevirtual 275, 3) := by decide +kernel
theorem dX12_feed_25 : decode cX12_feed 25 = .ok (.aload_n 0, 1) := by decide +kernel
theorem dX12_feed_26 : decode cX12_feed 26 = .ok (.iload_n 3, 1) := by decide +kernel
theorem dX12_feed_27 : decode cX12_feed 27 = .ok (.invokevirtual 275, 3) := by decide +kernel
theorem dX12_feed_30 : decode cX12_feed 30 = .ok (.aload_n 0, 1) := by decide +kernel
theorem dX12_feed_31 : decode cX12_feed 31 = .ok (.iload 4, 2) := by decide +kernel
theorem dX12_feed_33 : decode cX12_feed 33 = .ok (.invokevirtual 275, 3) := by decide +kernel
theorem dX12_feed_36 : decode cX12_feed 36 = .ok (.aload_n 0, 1) := by decide +kernel
theorem dX12_feed_37 : decode cX12_feed 37 = .ok (.iload 5, 2) := by decide +kernel
theorem dX12_feed_39 : decode cX12_feed 39 = .ok (.invokevirtual 275, 3) := by decide +kernel
theorem dX12_feed_42 : decode cX12_feed 42 = .ok (.iconst 1, 1) := by decide +kernel
theorem dX12_feed_43 : decode cX12_feed 43 = .ok (.ireturn, 1) := by decide +kernel
theorem dX12_word_0 : decode cX12_word 0 = .ok (.bipush 24, 2) := by decide +kernel
theorem dX12_word_2 : decode cX12_word 2 = .ok (.istore_n 2, 1) := by decide +kernel
theorem dX12_word_3 : decode cX12_word 3 = .ok (.iload_n 2, 1) := by decide +kernel
theorem dX12_word_4 : decode cX12_word 4 = .ok (.ifCond .lt 32, 3) := by decide +kernel
theorem dX12_word_7 : decode cX12_word 7 = .ok (.aload_n 0, 1) := by decide +kernel
theorem dX12_word_8 : decode cX12_word 8 = .ok (.getfield 29, 3) := by decide +kernel
theorem dX12_word_11 : decode cX12_word 11 = .ok (.aload_n 0, 1) := by decide +kernel
theorem dX12_word_12 : decode cX12_word 12 = .ok (.getfield 272, 3) := by decide +kernel
theorem dX12_word_15 : decode cX12_word 15 = .ok (.iload_n 1, 1) := by decide +kernel
theorem dX12_word_16 : decode cX12_word 16 = .ok (.iload_n 2, 1) := by decide +kernel
theorem dX12_word_17 : decode cX12_word 17 = .ok (.ishr, 1) := by decide +kernel
theorem dX12_word_18 : decode cX12_word 18 = .ok (.i2b, 1) := by decide +kernel
theorem dX12_word_19 : decode cX12_word 19 = .ok (.bastore, 1) := by decide +kernel
theorem dX12_word_20 : decode cX12_word 20 = .ok (.aload_n 0, 1) := by decide +kernel
theorem dX12_word_21 : decode cX12_word 21 = .ok (.dup, 1) := by decide +kernel
theorem dX12_word_22 : decode cX12_word 22 = .ok (.getfield 272, 3) := by decide +kernel
theorem dX12_word_25 : decode cX12_word 25 = .ok (.iconst 1, 1) := by decide +kernel
theorem dX12_word_26 : decode cX12_word 26 = .ok (.iadd, 1) := by decide +kernel
theorem dX12_word_27 : decode cX12_word 27 = .ok (.putfield 272, 3) := by decide +kernel
theorem dX12_word_30 : decode cX12_word 30 = .ok (.iinc 2 (-8), 3) := by decide +kernel
theorem dX12_word_33 : decode cX12_word 33 = .ok (.goto (-30), 3) := by decide +kernel
theorem dX12_word_36 : decode cX12_word 36 = .ok (.return_, 1) := by decide +kernel
theorem dX12_fails_0 : decode cX12_fails 0 = .ok (.aload_n 0, 1) := by decide +kernel
theorem dX12_fails_1 : decode cX12_fails 1 = .ok (.getfield 278, 3) := by decide +kernel
theorem dX12_fails_4 : decode cX12_fails 4 = .ok (.ifCond .eq 4, 3) := by decide +kernel
theorem dX12_fails_7 : decode cX12_fails 7 = .ok (.return_, 1) := by decide +kernel
theorem dX12_fails_8 : decode cX12_fails 8 = .ok (.aload_n 0, 1) := by decide +kernel
theorem dX12_fails_9 : decode cX12_fails 9 = .ok (.iload_n 1, 1) := by decide +kernel
theorem dX12_fails_10 : decode cX12_fails 10 = .ok (.putfield 278, 3) := by decide +kernel
theorem dX12_fails_13 : decode cX12_fails 13 = .ok (.aload_n 0, 1) := by decide +kernel
theorem dX12_fails_14 : decode cX12_fails 14 = .ok (.iload_n 2, 1) := by decide +kernel
theorem dX12_fails_15 : decode cX12_fails 15 = .ok (.putfield 36, 3) := by decide +kernel
theorem dX12_fails_18 : decode cX12_fails 18 = .ok (.return_, 1) := by decide +kernel
theorem dX12_next_0 : decode cX12_next 0 = .ok (.aload_n 0, 1) := by decide +kernel
theorem dX12_next_1 : decode cX12_next 1 = .ok (.getfield 278, 3) := by decide +kernel
theorem dX12_next_4 : decode cX12_next 4 = .ok (.ifCond .eq 5, 3) := by decide +kernel
theorem dX12_next_7 : decode cX12_next 7 = .ok (.iload_n 2, 1) := by decide +kernel
theorem dX12_next_8 : decode cX12_next 8 = .ok (.ireturn, 1) := by decide +kernel
theorem dX12_next_9 : decode cX12_next 9 = .ok (.aload_n 0, 1) := by decide +kernel
theorem dX12_next_10 : decode cX12_next 10 = .ok (.getfield 281, 3) := by decide +kernel
theorem dX12_next_13 : decode cX12_next 13 = .ok (.istore 4, 2) := by decide +kernel
theorem dX12_next_15 : decode cX12_next 15 = .ok (.aload_n 0, 1) := by decide +kernel
theorem dX12_next_16 : decode cX12_next 16 = .ok (.getfield 281, 3) := by decide +kernel
theorem dX12_next_19 : decode cX12_next 19 = .ok (.iload_n 1, 1) := by decide +kernel
theorem dX12_next_20 : decode cX12_next 20 = .ok (.iadd, 1) := by decide +kernel
theorem dX12_next_21 : decode cX12_next 21 = .ok (.aload_n 0, 1) := by decide +kernel
theorem dX12_next_22 : decode cX12_next 22 = .ok (.getfield 284, 3) := by decide +kernel
theorem dX12_next_25 : decode cX12_next 25 = .ok (.if_icmp .le 14, 3) := by decide +kernel
theorem dX12_next_28 : decode cX12_next 28 = .ok (.aload_n 0, 1) := by decide +kernel
theorem dX12_next_29 : decode cX12_next 29 = .ok (.iconst 1, 1) := by decide +kernel
theorem dX12_next_30 : decode cX12_next 30 = .ok (.aload_n 0, 1) := by decide +kernel
theorem dX12_next_31 : decode cX12_next 31 = .ok (.getfield 284, 3) := by decide +kernel
theorem dX12_next_34 : decode cX12_next 34 = .ok (.invokevirtual 287, 3) := by decide +kernel
theorem dX12_next_37 : decode cX12_next 37 = .ok (.iload_n 2, 1) := by decide +kernel
theorem dX12_next_38 : decode cX12_next 38 = .ok (.ireturn, 1) := by decide +kernel
theorem dX12_next_39 : decode cX12_next 39 = .ok (.aload_n 0, 1) := by decide +kernel
theorem dX12_next_40 : decode cX12_next 40 = .ok (.getfield 33, 3) := by decide +kernel
theorem dX12_next_43 : decode cX12_next 43 = .ok (.aload_n 0, 1) := by decide +kernel
theorem dX12_next_44 : decode cX12_next 44 = .ok (.getfield 281, 3) := by decide +kernel
theorem dX12_next_47 : decode cX12_next 47 = .ok (.baload, 1) := by decide +kernel
theorem dX12_next_48 : decode cX12_next 48 = .ok (.sipush 255, 3) := by decide +kernel
theorem dX12_next_51 : decode cX12_next 51 = .ok (.iand, 1) := by decide +kernel
theorem dX12_next_52 : decode cX12_next 52 = .ok (.istore 5, 2) := by decide +kernel
theorem dX12_next_54 : decode cX12_next 54 = .ok (.iload_n 1, 1) := by decide +kernel
theorem dX12_next_55 : decode cX12_next 55 = .ok (.iconst 2, 1) := by decide +kernel
theorem dX12_next_56 : decode cX12_next 56 = .ok (.if_icmp .ne 26, 3) := by decide +kernel
theorem dX12_next_59 : decode cX12_next 59 = .ok (.iload 5, 2) := by decide +kernel
theorem dX12_next_61 : decode cX12_next 61 = .ok (.aload_n 0, 1) := by decide +kernel
theorem dX12_next_62 : decode cX12_next 62 = .ok (.getfield 33, 3) := by decide +kernel
theorem dX12_next_65 : decode cX12_next 65 = .ok (.aload_n 0, 1) := by decide +kernel
theorem dX12_next_66 : decode cX12_next 66 = .ok (.getfield 281, 3) := by decide +kernel
theorem dX12_next_69 : decode cX12_next 69 = .ok (.iconst 1, 1) := by decide +kernel
theorem dX12_next_70 : decode cX12_next 70 = .ok (.iadd, 1) := by decide +kernel
theorem dX12_next_71 : decode cX12_next 71 = .ok (.baload, 1) := by decide +kernel
theorem dX12_next_72 : decode cX12_next 72 = .ok (.sipush 255, 3) := by decide +kernel
theorem dX12_next_75 : decode cX12_next 75 = .ok (.iand, 1) := by decide +kernel
theorem dX12_next_76 : decode cX12_next 76 = .ok (.bipush 8, 2) := by decide +kernel
theorem dX12_next_78 : decode cX12_next 78 = .ok (.ishl, 1) := by decide +kernel
theorem dX12_next_79 : decode cX12_next 79 = .ok (.ior, 1) := by decide +kernel
theorem dX12_next_80 : decode cX12_next 80 = .ok (.istore 5, 2) := by decide +kernel
theorem dX12_next_82 : decode cX12_next 82 = .ok (.aload_n 0, 1) := by decide +kernel
theorem dX12_next_83 : decode cX12_next 83 = .ok (.dup, 1) := by decide +kernel
theorem dX12_next_84 : decode cX12_next 84 = .ok (.getfield 281, 3) := by decide +kernel
theorem dX12_next_87 : decode cX12_next 87 = .ok (.iload_n 1, 1) := by decide +kernel
theorem dX12_next_88 : decode cX12_next 88 = .ok (.iadd, 1) := by decide +kernel
theorem dX12_next_89 : decode cX12_next 89 = .ok (.putfield 281, 3) := by decide +kernel
theorem dX12_next_92 : decode cX12_next 92 = .ok (.iload 5, 2) := by decide +kernel
theorem dX12_next_94 : decode cX12_next 94 = .ok (.iload_n 2, 1) := by decide +kernel
theorem dX12_next_95 : decode cX12_next 95 = .ok (.if_icmp .lt 9, 3) := by decide +kernel
theorem dX12_next_98 : decode cX12_next 98 = .ok (.iload 5, 2) := by decide +kernel
